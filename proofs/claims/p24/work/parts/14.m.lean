section
theorem dX8_opens_0 : decode cX8_opens 0 = .ok (.aload_n 0, 1) := by decide +kernel
theorem dX8_opens_1 : decode cX8_opens 1 = .ok (.getfield 81, 3) := by decide +kernel
theorem dX8_opens_4 : decode cX8_opens 4 = .ok (.iload_n 1, 1) := by decide +kernel
theorem dX8_opens_5 : decode cX8_opens 5 = .ok (.iconst 0, 1) := by decide +kernel
theorem dX8_opens_6 : decode cX8_opens 6 = .ok (.iastore, 1) := by decide +kernel
theorem dX8_opens_7 : decode cX8_opens 7 = .ok (.aload_n 0, 1) := by decide +kernel
theorem dX8_opens_8 : decode cX8_opens 8 = .ok (.getfield 87, 3) := by decide +kernel
theorem dX8_opens_11 : decode cX8_opens 11 = .ok (.iload_n 1, 1) := by decide +kernel
theorem dX8_opens_12 : decode cX8_opens 12 = .ok (.iconst 0, 1) := by decide +kernel
theorem dX8_opens_13 : decode cX8_opens 13 = .ok (.iastore, 1) := by decide +kernel
theorem dX8_opens_14 : decode cX8_opens 14 = .ok (.aload_n 0, 1) := by decide +kernel
theorem dX8_opens_15 : decode cX8_opens 15 = .ok (.getfield 90, 3) := by decide +kernel
theorem dX8_opens_18 : decode cX8_opens 18 = .ok (.iload_n 1, 1) := by decide +kernel
theorem dX8_opens_19 : decode cX8_opens 19 = .ok (.iconst 0, 1) := by decide +kernel
theorem dX8_opens_20 : decode cX8_opens 20 = .ok (.iastore, 1) := by decide +kernel
theorem dX8_opens_21 : decode cX8_opens 21 = .ok (.aload_n 0, 1) := by decide +kernel
theorem dX8_opens_22 : decode cX8_opens 22 = .ok (.getfield 93, 3) := by decide +kernel
theorem dX8_opens_25 : decode cX8_opens 25 = .ok (.iload_n 1, 1) := by decide +kernel
theorem dX8_opens_26 : decode cX8_opens 26 = .ok (.bipush 20, 2) := by decide +kernel
theorem dX8_opens_28 : decode cX8_opens 28 = .ok (.iastore, 1) := by decide +kernel
theorem dX8_opens_29 : decode cX8_opens 29 = .ok (.aload_n 0, 1) := by decide +kernel
theorem dX8_opens_30 : decode cX8_opens 30 = .ok (.getfield 99, 3) := by decide +kernel
theorem dX8_opens_33 : decode cX8_opens 33 = .ok (.iload_n 1, 1) := by decide +kernel
theorem dX8_opens_34 : decode cX8_opens 34 = .ok (.iconst 0, 1) := by decide +kernel
theorem dX8_opens_35 : decode cX8_opens 35 = .ok (.iastore, 1) := by decide +kernel
theorem dX8_opens_36 : decode cX8_opens 36 = .ok (.return_, 1) := by decide +kernel
theorem dX8_sums_0 : decode cX8_sums 0 = .ok (.aload_n 0, 1) := by decide +kernel
theorem dX8_sums_1 : decode cX8_sums 1 = .ok (.getfield 90, 3) := by decide +kernel
theorem dX8_sums_4 : decode cX8_sums 4 = .ok (.iload_n 1, 1) := by decide +kernel
theorem dX8_sums_5 : decode cX8_sums 5 = .ok (.aload_n 0, 1) := by decide +kernel
theorem dX8_sums_6 : decode cX8_sums 6 = .ok (.getfield 93, 3) := by decide +kernel
theorem dX8_sums_9 : decode cX8_sums 9 = .ok (.iload_n 1, 1) := by decide +kernel
theorem dX8_sums_10 : decode cX8_sums 10 = .ok (.iaload, 1) := by decide +kernel
theorem dX8_sums_11 : decode cX8_sums 11 = .ok (.bipush 21, 2) := by decide +kernel
theorem dX8_sums_13 : decode cX8_sums 13 = .ok (.if_icmp .ne 19, 3) := by decide +kernel
theorem dX8_sums_32 : decode cX8_sums 32 = .ok (.aload_n 0, 1) := by decide +kernel
theorem dX8_sums_33 : decode cX8_sums 33 = .ok (.getfield 90, 3) := by decide +kernel
theorem dX8_sums_36 : decode cX8_sums 36 = .ok (.iload_n 1, 1) := by decide +kernel
theorem dX8_sums_37 : decode cX8_sums 37 = .ok (.iaload, 1) := by decide +kernel
theorem dX8_sums_38 : decode cX8_sums 38 = .ok (.aload_n 0, 1) := by decide +kernel
theorem dX8_sums_39 : decode cX8_sums 39 = .ok (.getfield 96, 3) := by decide +kernel
theorem dX8_sums_42 : decode cX8_sums 42 = .ok (.iload_n 1, 1) := by decide +kernel
theorem dX8_sums_43 : decode cX8_sums 43 = .ok (.iaload, 1) := by decide +kernel
theorem dX8_sums_44 : decode cX8_sums 44 = .ok (.iadd, 1) := by decide +kernel
theorem dX8_sums_45 : decode cX8_sums 45 = .ok (.iastore, 1) := by decide +kernel
theorem dX8_sums_46 : decode cX8_sums 46 = .ok (.aload_n 0, 1) := by decide +kernel
theorem dX8_sums_47 : decode cX8_sums 47 = .ok (.getfield 99, 3) := by decide +kernel
theorem dX8_sums_50 : decode cX8_sums 50 = .ok (.iload_n 1, 1) := by decide +kernel
theorem dX8_sums_51 : decode cX8_sums 51 = .ok (.iconst 0, 1) := by decide +kernel
theorem dX8_sums_52 : decode cX8_sums 52 = .ok (.iastore, 1) := by decide +kernel
theorem dX8_sums_16 : decode cX8_sums 16 = .ok (.aload_n 0, 1) := by decide +kernel
theorem dX8_sums_17 : decode cX8_sums 17 = .ok (.getfield 90, 3) := by decide +kernel
theorem dX8_sums_20 : decode cX8_sums 20 = .ok (.iload_n 1, 1) := by decide +kernel
theorem dX8_sums_21 : decode cX8_sums 21 = .ok (.iaload, 1) := by decide +kernel
theorem dX8_sums_22 : decode cX8_sums 22 = .ok (.aload_n 0, 1) := by decide +kernel
theorem dX8_sums_23 : decode cX8_sums 23 = .ok (.getfield 96, 3) := by decide +kernel
theorem dX8_sums_26 : decode cX8_sums 26 = .ok (.iload_n 1, 1) := by decide +kernel
theorem dX8_sums_27 : decode cX8_sums 27 = .ok (.iaload, 1) := by decide +kernel
theorem dX8_sums_28 : decode cX8_sums 28 = .ok (.isub, 1) := by decide +kernel
theorem dX8_sums_29 : decode cX8_sums 29 = .ok (.goto 16, 3) := by decide +kernel
theorem dX8_sums_53 : decode cX8_sums 53 = .ok (.return_, 1) := by decide +kernel
theorem dX8_tests_136 : decode cX8_tests 136 = .ok (.aload_n 0, 1) := by decide +kernel
theorem dX8_tests_137 : decode cX8_tests 137 = .ok (.getfield 78, 3) := by decide +kernel
theorem dX8_tests_140 : decode cX8_tests 140 = .ok (.iload_n 1, 1) := by decide +kernel
theorem dX8_tests_141 : decode cX8_tests 141 = .ok (.iload_n 2, 1) := by decide +kernel
theorem dX8_tests_142 : decode cX8_tests 142 = .ok (.iastore, 1) := by decide +kernel
theorem dX8_tests_143 : decode cX8_tests 143 = .ok (.aload_n 0, 1) := by decide +kernel
theorem dX8_tests_144 : decode cX8_tests 144 = .ok (.getfield 87, 3) := by decide +kernel
theorem dX8_tests_147 : decode cX8_tests 147 = .ok (.iload_n 1, 1) := by decide +kernel
theorem dX8_tests_148 : decode cX8_tests 148 = .ok (.iconst 0, 1) := by decide +kernel
theorem dX8_tests_149 : decode cX8_tests 149 = .ok (.iastore, 1) := by decide +kernel
theorem dX8_tests_150 : decode cX8_tests 150 = .ok (.aload_n 0, 1) := by decide +kernel
theorem dX8_tests_151 : decode cX8_tests 151 = .ok (.getfield 90, 3) := by decide +kernel
theorem dX8_tests_154 : decode cX8_tests 154 = .ok (.iload_n 1, 1) := by decide +kernel
theorem dX8_tests_155 : decode cX8_tests 155 = .ok (.iconst 0, 1) := by decide +kernel
theorem dX8_tests_156 : decode cX8_tests 156 = .ok (.iastore, 1) := by decide +kernel
theorem dX8_tests_157 : decode cX8_tests 157 = .ok (.aload_n 0, 1) := by decide +kernel
theorem dX8_tests_158 : decode cX8_tests 158 = .ok (.getfield 93, 3) := by decide +kernel
theorem dX8_tests_161 : decode cX8_tests 161 = .ok (.iload_n 1, 1) := by decide +kernel
theorem dX8_tests_162 : decode cX8_tests 162 = .ok (.bipush 20, 2) := by decide +kernel
theorem dX8_tests_164 : decode cX8_tests 164 = .ok (.iastore, 1) := by decide +kernel
theorem dX8_tests_106 : decode cX8_tests 106 = .ok (.aload_n 0, 1) := by decide +kernel
theorem dX8_tests_107 : decode cX8_tests 107 = .ok (.getfield 81, 3) := by decide +kernel
theorem dX8_tests_110 : decode cX8_tests 110 = .ok (.iload_n 1, 1) := by decide +kernel
theorem dX8_tests_111 : decode cX8_tests 111 = .ok (.iaload, 1) := by decide +kernel
theorem dX8_tests_112 : decode cX8_tests 112 = .ok (.bipush 27, 2) := by decide +kernel
theorem dX8_tests_114 : decode cX8_tests 114 = .ok (.if_icmp .ne 22, 3) := by decide +kernel
theorem dX8_tests_117 : decode cX8_tests 117 = .ok (.aload_n 0, 1) := by decide +kernel
theorem dX8_tests_118 : decode cX8_tests 118 = .ok (.getfield 78, 3) := by decide +kernel
theorem dX8_tests_121 : decode cX8_tests 121 = .ok (.iload_n 1, 1) := by decide +kernel
theorem dX8_tests_122 : decode cX8_tests 122 = .ok (.iaload, 1) := by decide +kernel
theorem dX8_tests_123 : decode cX8_tests 123 = .ok (.ifCond .ne 7, 3) := by decide +kernel
theorem dX8_tests_130 : decode cX8_tests 130 = .ok (.iconst 1, 1) := by decide +kernel
theorem dX8_tests_131 : decode cX8_tests 131 = .ok (.goto 4, 3) := by decide +kernel
theorem dX8_tests_135 : decode cX8_tests 135 = .ok (.istore_n 2, 1) := by decide +kernel
theorem dX8_tests_126 : decode cX8_tests 126 = .ok (.iload_n 2, 1) := by decide +kernel
theorem dX8_tests_127 : decode cX8_tests 127 = .ok (.ifCond .eq 7, 3) := by decide +kernel
theorem dX8_tests_134 : decode cX8_tests 134 = .ok (.iconst 0, 1) := by decide +kernel
theorem dX8_tests_76 : decode cX8_tests 76 = .ok (.aload_n 0, 1) := by decide +kernel
theorem dX8_tests_77 : decode cX8_tests 77 = .ok (.getfield 81, 3) := by decide +kernel
theorem dX8_tests_80 : decode cX8_tests 80 = .ok (.iload_n 1, 1) := by decide +kernel
theorem dX8_tests_81 : decode cX8_tests 81 = .ok (.iaload, 1) := by decide +kernel
theorem dX8_tests_82 : decode cX8_tests 82 = .ok (.bipush 26, 2) := by decide +kernel
theorem dX8_tests_84 : decode cX8_tests 84 = .ok (.if_icmp .ne 22, 3) := by decide +kernel
theorem dX8_tests_87 : decode cX8_tests 87 = .ok (.aload_n 0, 1) := by decide +kernel
theorem dX8_tests_88 : decode cX8_tests 88 = .ok (.getfield 78, 3) := by decide +kernel
theorem dX8_tests_91 : decode cX8_tests 91 = .ok (.iload_n 1, 1) := by decide +kernel
theorem dX8_tests_92 : decode cX8_tests 92 = .ok (.iaload, 1) := by decide +kernel
theorem dX8_tests_93 : decode cX8_tests 93 = .ok (.ifCond .eq 11, 3) := by decide +kernel
theorem dX8_tests_104 : decode cX8_tests 104 = .ok (.iconst 0, 1) := by decide +kernel
theorem dX8_tests_105 : decode cX8_tests 105 = .ok (.istore_n 2, 1) := by decide +kernel
theorem dX8_tests_96 : decode cX8_tests 96 = .ok (.iload_n 2, 1) := by decide +kernel
theorem dX8_tests_97 : decode cX8_tests 97 = .ok (.ifCond .eq 7, 3) := by decide +kernel
theorem dX8_tests_100 : decode cX8_tests 100 = .ok (.iconst 1, 1) := by decide +kernel
theorem dX8_tests_101 : decode cX8_tests 101 = .ok (.goto 4, 3) := by decide +kernel
theorem dX8_tests_44 : decode cX8_tests 44 = .ok (.aload_n 0, 1) := by decide +kernel
theorem dX8_tests_45 : decode cX8_tests 45 = .ok (.getfield 87, 3) := by decide +kernel
theorem dX8_tests_48 : decode cX8_tests 48 = .ok (.iload_n 1, 1) := by decide +kernel
theorem dX8_tests_49 : decode cX8_tests 49 = .ok (.iaload, 1) := by decide +kernel
theorem dX8_tests_50 : decode cX8_tests 50 = .ok (.bipush 25, 2) := by decide +kernel
theorem dX8_tests_52 : decode cX8_tests 52 = .ok (.if_icmp .ne 24, 3) := by decide +kernel
theorem dX8_tests_55 : decode cX8_tests 55 = .ok (.aload_n 0, 1) := by decide +kernel
theorem dX8_tests_56 : decode cX8_tests 56 = .ok (.getfield 84, 3) := by decide +kernel
theorem dX8_tests_59 : decode cX8_tests 59 = .ok (.iload_n 1, 1) := by decide +kernel
theorem dX8_tests_60 : decode cX8_tests 60 = .ok (.iaload, 1) := by decide +kernel
theorem dX8_tests_61 : decode cX8_tests 61 = .ok (.aload_n 0, 1) := by decide +kernel
theorem dX8_tests_62 : decode cX8_tests 62 = .ok (.getfield 90, 3) := by decide +kernel
theorem dX8_tests_65 : decode cX8_tests 65 = .ok (.iload_n 1, 1) := by decide +kernel
theorem dX8_tests_66 : decode cX8_tests 66 = .ok (.iaload, 1) := by decide +kernel
theorem dX8_tests_67 : decode cX8_tests 67 = .ok (.if_icmp .ne 7, 3) := by decide +kernel
theorem dX8_tests_74 : decode cX8_tests 74 = .ok (.iconst 0, 1) := by decide +kernel
theorem dX8_tests_75 : decode cX8_tests 75 = .ok (.istore_n 2, 1) := by decide +kernel
theorem dX8_tests_70 : decode cX8_tests 70 = .ok (.iconst 1, 1) := by decide +kernel
theorem dX8_tests_71 : decode cX8_tests 71 = .ok (.goto 4, 3) := by decide +kernel
theorem dX8_tests_0 : decode cX8_tests 0 = .ok (.aload_n 0, 1) := by decide +kernel
theorem dX8_tests_1 : decode cX8_tests 1 = .ok (.iload_n 1, 1) := by decide +kernel
set_option maxRecDepth 20000 in
theorem ggX8_tests_X8_sums : GoodIn wsX8_tests wsX8_sums := gup gc_X8_sums
set_option maxRecDepth 20000 in
theorem gX8_tests_X8_sums : GoodIn wsX8_tests (wsV RX8 259 RX8 yX8_sums wsX8_sums) := gup (glV hw_79 hw_80 hw_81 hw_15 gc_X8_sums)
theorem dX8_tests_2 : decode cX8_tests 2 = .ok (.invokevirtual 259, 3) := by decide +kernel
theorem dX8_tests_5 : decode cX8_tests 5 = .ok (.aload_n 0, 1) := by decide +kernel
theorem dX8_tests_6 : decode cX8_tests 6 = .ok (.getfield 90, 3) := by decide +kernel
theorem dX8_tests_9 : decode cX8_tests 9 = .ok (.iload_n 1, 1) := by decide +kernel
theorem dX8_tests_10 : decode cX8_tests 10 = .ok (.iaload, 1) := by decide +kernel
theorem dX8_tests_11 : decode cX8_tests 11 = .ok (.istore_n 2, 1) := by decide +kernel
theorem dX8_tests_12 : decode cX8_tests 12 = .ok (.aload_n 0, 1) := by decide +kernel
theorem dX8_tests_13 : decode cX8_tests 13 = .ok (.getfield 87, 3) := by decide +kernel
theorem dX8_tests_16 : decode cX8_tests 16 = .ok (.iload_n 1, 1) := by decide +kernel
theorem dX8_tests_17 : decode cX8_tests 17 = .ok (.iaload, 1) := by decide +kernel
theorem dX8_tests_18 : decode cX8_tests 18 = .ok (.bipush 24, 2) := by decide +kernel
theorem dX8_tests_20 : decode cX8_tests 20 = .ok (.if_icmp .ne 24, 3) := by decide +kernel
theorem dX8_tests_23 : decode cX8_tests 23 = .ok (.aload_n 0, 1) := by decide +kernel
theorem dX8_tests_24 : decode cX8_tests 24 = .ok (.getfield 84, 3) := by decide +kernel
theorem dX8_tests_27 : decode cX8_tests 27 = .ok (.iload_n 1, 1) := by decide +kernel
theorem dX8_tests_28 : decode cX8_tests 28 = .ok (.iaload, 1) := by decide +kernel
theorem dX8_tests_29 : decode cX8_tests 29 = .ok (.aload_n 0, 1) := by decide +kernel
theorem dX8_tests_30 : decode cX8_tests 30 = .ok (.getfield 90, 3) := by decide +kernel
theorem dX8_tests_33 : decode cX8_tests 33 = .ok (.iload_n 1, 1) := by decide +kernel
theorem dX8_tests_34 : decode cX8_tests 34 = .ok (.iaload, 1) := by decide +kernel
theorem dX8_tests_35 : decode cX8_tests 35 = .ok (.if_icmp .ge 7, 3) := by decide +kernel
theorem dX8_tests_42 : decode cX8_tests 42 = .ok (.iconst 0, 1) := by decide +kernel
theorem dX8_tests_43 : decode cX8_tests 43 = .ok (.istore_n 2, 1) := by decide +kernel
theorem dX8_tests_38 : decode cX8_tests 38 = .ok (.iconst 1, 1) := by decide +kernel
theorem dX8_tests_39 : decode cX8_tests 39 = .ok (.goto 4, 3) := by decide +kernel
theorem dX8_tests_165 : decode cX8_tests 165 = .ok (.return_, 1) := by decide +kernel
theorem dX8_lineOf_0 : decode cX8_lineOf 0 = .ok (.aload_n 0, 1) := by decide +kernel
theorem dX8_lineOf_1 : decode cX8_lineOf 1 = .ok (.getfield 22, 3) := by decide +kernel
theorem dX8_lineOf_4 : decode cX8_lineOf 4 = .ok (.aload_n 0, 1) := by decide +kernel
theorem dX8_lineOf_5 : decode cX8_lineOf 5 = .ok (.getfield 352, 3) := by decide +kernel
theorem dX8_lineOf_8 : decode cX8_lineOf 8 = .ok (.iaload, 1) := by decide +kernel
theorem dX8_lineOf_9 : decode cX8_lineOf 9 = .ok (.istore_n 2, 1) := by decide +kernel
theorem dX8_lineOf_10 : decode cX8_lineOf 10 = .ok (.iload_n 1, 1) := by decide +kernel
theorem dX8_lineOf_11 : decode cX8_lineOf 11 = .ok (.iload_n 2, 1) := by decide +kernel
theorem dX8_lineOf_12 : decode cX8_lineOf 12 = .ok (.irem, 1) := by decide +kernel
theorem dX8_lineOf_13 : decode cX8_lineOf 13 = .ok (.istore_n 3, 1) := by decide +kernel
theorem dX8_lineOf_14 : decode cX8_lineOf 14 = .ok (.iload_n 3, 1) := by decide +kernel
theorem dX8_lineOf_15 : decode cX8_lineOf 15 = .ok (.ifCond .ge 9, 3) := by decide +kernel
theorem dX8_lineOf_24 : decode cX8_lineOf 24 = .ok (.iload_n 3, 1) := by decide +kernel
theorem dX8_lineOf_18 : decode cX8_lineOf 18 = .ok (.iload_n 3, 1) := by decide +kernel
theorem dX8_lineOf_19 : decode cX8_lineOf 19 = .ok (.iload_n 2, 1) := by decide +kernel
theorem dX8_lineOf_20 : decode cX8_lineOf 20 = .ok (.iadd, 1) := by decide +kernel
theorem dX8_lineOf_21 : decode cX8_lineOf 21 = .ok (.goto 4, 3) := by decide +kernel
theorem dX8_lineOf_25 : decode cX8_lineOf 25 = .ok (.ireturn, 1) := by decide +kernel
theorem dX8_wornness_0 : decode cX8_wornness 0 = .ok (.aload_n 0, 1) := by decide +kernel
theorem dX8_wornness_1 : decode cX8_wornness 1 = .ok (.getfield 355, 3) := by decide +kernel
theorem dX8_wornness_4 : decode cX8_wornness 4 = .ok (.iconst 2, 1) := by decide +kernel
theorem dX8_wornness_5 : decode cX8_wornness 5 = .ok (.if_icmp .ne 7, 3) := by decide +kernel
theorem dX8_wornness_12 : decode cX8_wornness 12 = .ok (.aload_n 0, 1) := by decide +kernel
theorem dX8_wornness_13 : decode cX8_wornness 13 = .ok (.getfield 111, 3) := by decide +kernel
theorem dX8_wornness_16 : decode cX8_wornness 16 = .ok (.aload_n 0, 1) := by decide +kernel
theorem dX8_wornness_17 : decode cX8_wornness 17 = .ok (.iload_n 1, 1) := by decide +kernel
set_option maxRecDepth 20000 in
theorem ggX8_wornness_X8_lineOf : GoodIn wsX8_wornness wsX8_lineOf := gup gc_X8_lineOf
set_option maxRecDepth 20000 in
theorem gX8_wornness_X8_lineOf : GoodIn wsX8_wornness (wsV RX8 358 RX8 yX8_lineOf wsX8_lineOf) := gup (glV hw_82 hw_83 hw_84 hw_15 gc_X8_lineOf)
theorem dX8_wornness_18 : decode cX8_wornness 18 = .ok (.invokevirtual 358, 3) := by decide +kernel
theorem dX8_wornness_21 : decode cX8_wornness 21 = .ok (.iaload, 1) := by decide +kernel
theorem dX8_wornness_8 : decode cX8_wornness 8 = .ok (.iconst 0, 1) := by decide +kernel
theorem dX8_wornness_9 : decode cX8_wornness 9 = .ok (.goto 13, 3) := by decide +kernel
theorem dX8_wornness_22 : decode cX8_wornness 22 = .ok (.ireturn, 1) := by decide +kernel
def wW_X8_opens (ak : Nat → ClassId) (ad : Nat → Nat) (h : Nat) (am : Nat → Nat) (Fthrown : Int32) (Ftaped : Int32) (Fsize : Int32) (Fplace : Int32) (Fbegin : Int32) (Ftoken : Int32) (Fword : Int64) (Ftold : Int32) (Fwrong : Int32) (Fcode : Int32) (Fat : Int32) (Fway : Int32) (Fnext : Int32) (FisEnd : Int32) (FisFallen : Int32) (Fwritten : Int32) (Fmade : Int32) (Fstate : Int32) (FhandNext : Int32) (FhandSteps : Int32) (FhandWritten : Int32) (FmarkAt : Int32) (AkeptBy : Nat → Int32) (Aagainst : Nat → Int32) (Asum : Nat → Int32) (AsumBy : Nat → Int32) (AtermBy : Nat → Int32) : va_W := [(h, .inr (7, mob am (Fthrown) (Ftaped) (Fsize) (Fplace) (Fbegin) (Ftoken) (Fword) (Ftold) (Fwrong) (Fcode) (Fat) (Fway) (Fnext) (FisEnd) (FisFallen) (Fwritten) (Fmade) (Fstate) (FhandNext) (FhandSteps) (FhandWritten) (FmarkAt))), ((am 23), .inl (ak 0, 7, .inl (AkeptBy))), ((am 25), .inl (ak 0, 7, .inl (Aagainst))), ((am 26), .inl (ak 0, 7, .inl (Asum))), ((am 27), .inl (ak 0, 7, .inl (AsumBy))), ((am 29), .inl (ak 0, 7, .inl (AtermBy)))]
def wp_X8_opens (x0 : Int32) (AkeptBy : Nat → Int32) (Aagainst : Nat → Int32) (Asum : Nat → Int32) (AsumBy : Nat → Int32) (AtermBy : Nat → Int32) (Φ : (Nat → Int32) → (Nat → Int32) → (Nat → Int32) → (Nat → Int32) → (Nat → Int32) → Prop) : Prop := vp_in x0 7 ∧ vp_in x0 7 ∧ vp_in x0 7 ∧ vp_in x0 7 ∧ vp_in x0 7 ∧ Φ (upd AkeptBy (x0).toNatClampNeg 0) (upd Aagainst (x0).toNatClampNeg 0) (upd Asum (x0).toNatClampNeg 0) (upd AsumBy (x0).toNatClampNeg 20) (upd AtermBy (x0).toNatClampNeg 0)
set_option maxHeartbeats 4000000 in
set_option maxRecDepth 100000 in
theorem kj_X8_opens_e {p : Program} {l : Launch} {e : Env} {R : Room} {s : State} {m : MethodId} {args : Array Value} {below : List Frame} {meth : Method} {c : Code} {cells slots : Nat} {Q : State → Prop} {A : Nat → Prop} {D : va_G} {ak : Nat → ClassId} {ad : Nat → Nat} (hx : p.tables.exec = Jvm.exec) (hb : c.code = cX8_opens) (hown : s.vm.findClass RX8 = some m.cls) (hts : ∀ w ∈ wsX8_opens, w.before args s = true) (hml : c.maxLocals = 2) (hE : EV D ak s) (hT : ST D ak ad A s s.heap) (hA : ∀ q, s.heap.size ≤ q → A q) (h : Nat) (am : Nat → Nat) (Fthrown : Int32) (Ftaped : Int32) (Fsize : Int32) (Fplace : Int32) (Fbegin : Int32) (Ftoken : Int32) (Fword : Int64) (Ftold : Int32) (Fwrong : Int32) (Fcode : Int32) (Fat : Int32) (Fway : Int32) (Fnext : Int32) (FisEnd : Int32) (FisFallen : Int32) (Fwritten : Int32) (Fmade : Int32) (Fstate : Int32) (FhandNext : Int32) (FhandSteps : Int32) (FhandWritten : Int32) (FmarkAt : Int32) (x0 : Int32)  (Φ : (Nat → Int32) → (Nat → Int32) → (Nat → Int32) → (Nat → Int32) → (Nat → Int32) → Prop)
    (kR36 : ∀ (AkeptBy : Nat → Int32) (Aagainst : Nat → Int32) (Asum : Nat → Int32) (AsumBy : Nat → Int32) (AtermBy : Nat → Int32) (H : Heap) (locs : List Loc) (ls : Array Slot), Φ AkeptBy Aagainst Asum AsumBy AtermBy → va_P D vwCl (wW_X8_opens ak ad h am Fthrown Ftaped Fsize Fplace Fbegin Ftoken Fword Ftold Fwrong Fcode Fat Fway Fnext FisEnd FisFallen Fwritten Fmade Fstate FhandNext FhandSteps FhandWritten FmarkAt AkeptBy Aagainst Asum AsumBy AtermBy) H → va_D A (wW_X8_opens ak ad h am Fthrown Ftaped Fsize Fplace Fbegin Ftoken Fword Ftold Fwrong Fcode Fat Fway Fnext FisEnd FisFallen Fwritten Fmade Fstate FhandNext FhandSteps FhandWritten FmarkAt AkeptBy Aagainst Asum AsumBy AtermBy) → va_S A s.heap H locs → W p l e R s m args below meth c H locs cells slots Q (F0 m 36 ls []))
    : ∀ (AkeptBy : Nat → Int32) (Aagainst : Nat → Int32) (Asum : Nat → Int32) (AsumBy : Nat → Int32) (AtermBy : Nat → Int32) (H : Heap) (locs : List Loc) (ls : Array Slot), wp_X8_opens x0 AkeptBy Aagainst Asum AsumBy AtermBy Φ → va_P D vwCl (wW_X8_opens ak ad h am Fthrown Ftaped Fsize Fplace Fbegin Ftoken Fword Ftold Fwrong Fcode Fat Fway Fnext FisEnd FisFallen Fwritten Fmade Fstate FhandNext FhandSteps FhandWritten FmarkAt AkeptBy Aagainst Asum AsumBy AtermBy) H → va_D A (wW_X8_opens ak ad h am Fthrown Ftaped Fsize Fplace Fbegin Ftoken Fword Ftold Fwrong Fcode Fat Fway Fnext FisEnd FisFallen Fwritten Fmade Fstate FhandNext FhandSteps FhandWritten FmarkAt AkeptBy Aagainst Asum AsumBy AtermBy) → va_S A s.heap H locs → lv_has ls 2 [(0, .ref h), (1, .int (x0))] → W p l e R s m args below meth c H locs cells slots Q (F0 m 0 ls ([])) := by
  intro AkeptBy Aagainst Asum AsumBy AtermBy H locs ls hw hP hD hS hl
  delta wp_X8_opens at hw
  refine lv_aload_n hx hb dX8_opens_0 rfl (lv_at hl 0 rfl) ?_
  refine vt_get (D := D) (ci := 7) (v := .ref (am 23)) (C := RX8) (T := TX8) (N := 69) hx hb hts (fun w h => wm_c (wc_X8 w h)) hown hE.1 hP 0 rfl rfl 33 (by decide) tX8_33 (hts (.fieldLink RX8 81 "WornLinesModel" "keptBy" "[I") (wm_c hw_67)) (fun _ h9 => h9) rfl dX8_opens_1 ?_
  refine lv_iload_n hx hb dX8_opens_4 rfl (lv_at hl 1 rfl) ?_
  refine lv_iconst (v := 0) hx hb dX8_opens_5 (by decide) ?_
  obtain ⟨h_1, hw⟩ := hw
  refine va_iast hx hb hE.1 hP hD hS 1 0 rfl rfl (h_1) dX8_opens_6 (fun H locs hP hD hS => ?_)
  have hP : va_P D vwCl (wW_X8_opens ak ad h am Fthrown Ftaped Fsize Fplace Fbegin Ftoken Fword Ftold Fwrong Fcode Fat Fway Fnext FisEnd FisFallen Fwritten Fmade Fstate FhandNext FhandSteps FhandWritten FmarkAt (upd AkeptBy (x0).toNatClampNeg 0) Aagainst Asum AsumBy AtermBy) H := hP
  have hD : va_D A (wW_X8_opens ak ad h am Fthrown Ftaped Fsize Fplace Fbegin Ftoken Fword Ftold Fwrong Fcode Fat Fway Fnext FisEnd FisFallen Fwritten Fmade Fstate FhandNext FhandSteps FhandWritten FmarkAt (upd AkeptBy (x0).toNatClampNeg 0) Aagainst Asum AsumBy AtermBy) := hD
  refine lv_aload_n hx hb dX8_opens_7 rfl (lv_at hl 0 rfl) ?_
  refine vt_get (D := D) (ci := 7) (v := .ref (am 25)) (C := RX8) (T := TX8) (N := 69) hx hb hts (fun w h => wm_c (wc_X8 w h)) hown hE.1 hP 0 rfl rfl 35 (by decide) tX8_35 (hts (.fieldLink RX8 87 "WornLinesModel" "against" "[I") (wm_c hw_68)) (fun _ h9 => h9) rfl dX8_opens_8 ?_
  refine lv_iload_n hx hb dX8_opens_11 rfl (lv_at hl 1 rfl) ?_
  refine lv_iconst (v := 0) hx hb dX8_opens_12 (by decide) ?_
  obtain ⟨h_2, hw⟩ := hw
  refine va_iast hx hb hE.1 hP hD hS 2 0 rfl rfl (h_2) dX8_opens_13 (fun H locs hP hD hS => ?_)
  have hP : va_P D vwCl (wW_X8_opens ak ad h am Fthrown Ftaped Fsize Fplace Fbegin Ftoken Fword Ftold Fwrong Fcode Fat Fway Fnext FisEnd FisFallen Fwritten Fmade Fstate FhandNext FhandSteps FhandWritten FmarkAt (upd AkeptBy (x0).toNatClampNeg 0) (upd Aagainst (x0).toNatClampNeg 0) Asum AsumBy AtermBy) H := hP
  have hD : va_D A (wW_X8_opens ak ad h am Fthrown Ftaped Fsize Fplace Fbegin Ftoken Fword Ftold Fwrong Fcode Fat Fway Fnext FisEnd FisFallen Fwritten Fmade Fstate FhandNext FhandSteps FhandWritten FmarkAt (upd AkeptBy (x0).toNatClampNeg 0) (upd Aagainst (x0).toNatClampNeg 0) Asum AsumBy AtermBy) := hD
  refine lv_aload_n hx hb dX8_opens_14 rfl (lv_at hl 0 rfl) ?_
  refine vt_get (D := D) (ci := 7) (v := .ref (am 26)) (C := RX8) (T := TX8) (N := 69) hx hb hts (fun w h => wm_c (wc_X8 w h)) hown hE.1 hP 0 rfl rfl 36 (by decide) tX8_36 (hts (.fieldLink RX8 90 "WornLinesModel" "sum" "[I") (wm_c hw_69)) (fun _ h9 => h9) rfl dX8_opens_15 ?_
  refine lv_iload_n hx hb dX8_opens_18 rfl (lv_at hl 1 rfl) ?_
  refine lv_iconst (v := 0) hx hb dX8_opens_19 (by decide) ?_
  obtain ⟨h_3, hw⟩ := hw
  refine va_iast hx hb hE.1 hP hD hS 3 0 rfl rfl (h_3) dX8_opens_20 (fun H locs hP hD hS => ?_)
  have hP : va_P D vwCl (wW_X8_opens ak ad h am Fthrown Ftaped Fsize Fplace Fbegin Ftoken Fword Ftold Fwrong Fcode Fat Fway Fnext FisEnd FisFallen Fwritten Fmade Fstate FhandNext FhandSteps FhandWritten FmarkAt (upd AkeptBy (x0).toNatClampNeg 0) (upd Aagainst (x0).toNatClampNeg 0) (upd Asum (x0).toNatClampNeg 0) AsumBy AtermBy) H := hP
  have hD : va_D A (wW_X8_opens ak ad h am Fthrown Ftaped Fsize Fplace Fbegin Ftoken Fword Ftold Fwrong Fcode Fat Fway Fnext FisEnd FisFallen Fwritten Fmade Fstate FhandNext FhandSteps FhandWritten FmarkAt (upd AkeptBy (x0).toNatClampNeg 0) (upd Aagainst (x0).toNatClampNeg 0) (upd Asum (x0).toNatClampNeg 0) AsumBy AtermBy) := hD
  refine lv_aload_n hx hb dX8_opens_21 rfl (lv_at hl 0 rfl) ?_
  refine vt_get (D := D) (ci := 7) (v := .ref (am 27)) (C := RX8) (T := TX8) (N := 69) hx hb hts (fun w h => wm_c (wc_X8 w h)) hown hE.1 hP 0 rfl rfl 37 (by decide) tX8_37 (hts (.fieldLink RX8 93 "WornLinesModel" "sumBy" "[I") (wm_c hw_70)) (fun _ h9 => h9) rfl dX8_opens_22 ?_
  refine lv_iload_n hx hb dX8_opens_25 rfl (lv_at hl 1 rfl) ?_
  refine lv_bipush (v := 20) hx hb dX8_opens_26 (by decide) ?_
  obtain ⟨h_4, hw⟩ := hw
  refine va_iast hx hb hE.1 hP hD hS 4 0 rfl rfl (h_4) dX8_opens_28 (fun H locs hP hD hS => ?_)
  have hP : va_P D vwCl (wW_X8_opens ak ad h am Fthrown Ftaped Fsize Fplace Fbegin Ftoken Fword Ftold Fwrong Fcode Fat Fway Fnext FisEnd FisFallen Fwritten Fmade Fstate FhandNext FhandSteps FhandWritten FmarkAt (upd AkeptBy (x0).toNatClampNeg 0) (upd Aagainst (x0).toNatClampNeg 0) (upd Asum (x0).toNatClampNeg 0) (upd AsumBy (x0).toNatClampNeg 20) AtermBy) H := hP
  have hD : va_D A (wW_X8_opens ak ad h am Fthrown Ftaped Fsize Fplace Fbegin Ftoken Fword Ftold Fwrong Fcode Fat Fway Fnext FisEnd FisFallen Fwritten Fmade Fstate FhandNext FhandSteps FhandWritten FmarkAt (upd AkeptBy (x0).toNatClampNeg 0) (upd Aagainst (x0).toNatClampNeg 0) (upd Asum (x0).toNatClampNeg 0) (upd AsumBy (x0).toNatClampNeg 20) AtermBy) := hD
  refine lv_aload_n hx hb dX8_opens_29 rfl (lv_at hl 0 rfl) ?_
  refine vt_get (D := D) (ci := 7) (v := .ref (am 29)) (C := RX8) (T := TX8) (N := 69) hx hb hts (fun w h => wm_c (wc_X8 w h)) hown hE.1 hP 0 rfl rfl 39 (by decide) tX8_39 (hts (.fieldLink RX8 99 "WornLinesModel" "termBy" "[I") (wm_c hw_71)) (fun _ h9 => h9) rfl dX8_opens_30 ?_
  refine lv_iload_n hx hb dX8_opens_33 rfl (lv_at hl 1 rfl) ?_
  refine lv_iconst (v := 0) hx hb dX8_opens_34 (by decide) ?_
  obtain ⟨h_5, hw⟩ := hw
  refine va_iast hx hb hE.1 hP hD hS 5 0 rfl rfl (h_5) dX8_opens_35 (fun H locs hP hD hS => ?_)
  have hP : va_P D vwCl (wW_X8_opens ak ad h am Fthrown Ftaped Fsize Fplace Fbegin Ftoken Fword Ftold Fwrong Fcode Fat Fway Fnext FisEnd FisFallen Fwritten Fmade Fstate FhandNext FhandSteps FhandWritten FmarkAt (upd AkeptBy (x0).toNatClampNeg 0) (upd Aagainst (x0).toNatClampNeg 0) (upd Asum (x0).toNatClampNeg 0) (upd AsumBy (x0).toNatClampNeg 20) (upd AtermBy (x0).toNatClampNeg 0)) H := hP
  have hD : va_D A (wW_X8_opens ak ad h am Fthrown Ftaped Fsize Fplace Fbegin Ftoken Fword Ftold Fwrong Fcode Fat Fway Fnext FisEnd FisFallen Fwritten Fmade Fstate FhandNext FhandSteps FhandWritten FmarkAt (upd AkeptBy (x0).toNatClampNeg 0) (upd Aagainst (x0).toNatClampNeg 0) (upd Asum (x0).toNatClampNeg 0) (upd AsumBy (x0).toNatClampNeg 20) (upd AtermBy (x0).toNatClampNeg 0)) := hD
  exact kR36 (upd AkeptBy (x0).toNatClampNeg 0) (upd Aagainst (x0).toNatClampNeg 0) (upd Asum (x0).toNatClampNeg 0) (upd AsumBy (x0).toNatClampNeg 20) (upd AtermBy (x0).toNatClampNeg 0) _ _ _ hw hP hD hS
set_option maxHeartbeats 4000000 in
set_option maxRecDepth 100000 in
theorem c_X8_opens (l : Launch) (D : va_G) (ak : Nat → ClassId) (ad : Nat → Nat) (sz : Nat) (h : Nat) (am : Nat → Nat) (Fthrown : Int32) (Ftaped : Int32) (Fsize : Int32) (Fplace : Int32) (Fbegin : Int32) (Ftoken : Int32) (Fword : Int64) (Ftold : Int32) (Fwrong : Int32) (Fcode : Int32) (Fat : Int32) (Fway : Int32) (Fnext : Int32) (FisEnd : Int32) (FisFallen : Int32) (Fwritten : Int32) (Fmade : Int32) (Fstate : Int32) (FhandNext : Int32) (FhandSteps : Int32) (FhandWritten : Int32) (FmarkAt : Int32) (AkeptBy : Nat → Int32) (Aagainst : Nat → Int32) (Asum : Nat → Int32) (AsumBy : Nat → Int32) (AtermBy : Nat → Int32) (x0 : Int32) (Φ : (Nat → Int32) → (Nat → Int32) → (Nat → Int32) → (Nat → Int32) → (Nat → Int32) → Prop) (hf : wp_X8_opens x0 AkeptBy Aagainst Asum AsumBy AtermBy Φ) : Met l yX8_opens wsX8_opens ({ frames := 0, cells := 0, slots := 0, locals := 0 }) (cPre D ak ad [.ref h, .int (x0)] ((wW_X8_opens ak ad h am Fthrown Ftaped Fsize Fplace Fbegin Ftoken Fword Ftold Fwrong Fcode Fat Fway Fnext FisEnd FisFallen Fwritten Fmade Fstate FhandNext FhandSteps FhandWritten FmarkAt AkeptBy Aagainst Asum AsumBy AtermBy)) sz) (cV D (S := (Nat → Int32) × (Nat → Int32) × (Nat → Int32) × (Nat → Int32) × (Nat → Int32)) (fun (u : (Nat → Int32) × (Nat → Int32) × (Nat → Int32) × (Nat → Int32) × (Nat → Int32)) => Φ u.1 u.2.1 u.2.2.1 u.2.2.2.1 u.2.2.2.2) (fun u => (wW_X8_opens ak ad h am Fthrown Ftaped Fsize Fplace Fbegin Ftoken Fword Ftold Fwrong Fcode Fat Fway Fnext FisEnd FisFallen Fwritten Fmade Fstate FhandNext FhandSteps FhandWritten FmarkAt u.1 u.2.1 u.2.2.1 u.2.2.2.1 u.2.2.2.2)) ((wW_X8_opens ak ad h am Fthrown Ftaped Fsize Fplace Fbegin Ftoken Fword Ftold Fwrong Fcode Fat Fway Fnext FisEnd FisFallen Fwritten Fmade Fstate FhandNext FhandSteps FhandWritten FmarkAt AkeptBy Aagainst Asum AsumBy AtermBy)) sz) 0 0 (va_A ((wW_X8_opens ak ad h am Fthrown Ftaped Fsize Fplace Fbegin Ftoken Fword Ftold Fwrong Fcode Fat Fway Fnext FisEnd FisFallen Fwritten Fmade Fstate FhandNext FhandSteps FhandWritten FmarkAt AkeptBy Aagainst Asum AsumBy AtermBy)) sz) := by
  refine Met.ofW (cc := cX8_opens) (maxL := 2) (ret := none) (by decide) rfl ?_
  intro p e s m args below meth c s₁ B hml hv
  obtain ⟨rfl, hsz, hP, hE, hD0, hT⟩ := hv
  have hx := B.exec
  have hb := B.bytes
  have hr := B.returns
  have hts := atoms_spec (ws := wsX8_opens) B.pre
  have hown : s.vm.findClass RX8 = some m.cls := findClass_of_methodNamed B.named
  have hlocks := B.notSynchronized
  subst hsz
  have hD := hD0.self (sz := s.heap.size)
  generalize hAe : va_A ((wW_X8_opens ak ad h am Fthrown Ftaped Fsize Fplace Fbegin Ftoken Fword Ftold Fwrong Fcode Fat Fway Fnext FisEnd FisFallen Fwritten Fmade Fstate FhandNext FhandSteps FhandWritten FmarkAt AkeptBy Aagainst Asum AsumBy AtermBy)) s.heap.size = A at hD hT ⊢
  have hA : ∀ q : Nat, s.heap.size ≤ q → A q := fun q h => by rw [← hAe]; exact Or.inr h
  have hS : va_S A s.heap s.heap [] := va_S.rf
  have hl := lv_entry ([.ref h, .int (x0)]) (n := 2) (Nat.le_of_ble_eq_true rfl)
  rw [lg_entry_eq]
  generalize (lg_sl ([.ref h, .int (x0)]) ++ List.replicate (2 - (lg_sl ([.ref h, .int (x0)])).length) Slot.unset).toArray = ls at hl ⊢
  have hl : lv_has ls 2 [(0, .ref h), (1, .int (x0))] := hl
  exact kj_X8_opens_e hx hb hown hts hml hE hT hA h am Fthrown Ftaped Fsize Fplace Fbegin Ftoken Fword Ftold Fwrong Fcode Fat Fway Fnext FisEnd FisFallen Fwritten Fmade Fstate FhandNext FhandSteps FhandWritten FmarkAt x0 Φ (fun AkeptBy Aagainst Asum AsumBy AtermBy H locs ls hw hP hD hS => W.vret hx hb hr (fun t ht hW => ⟨⟨(AkeptBy, Aagainst, Asum, AsumBy, AtermBy), rfl, hw, by rw [ht]; exact hP, by rw [hAe]; exact hD⟩, by rw [hAe]; exact hS.F ht⟩) hS.2.2 dX8_opens_36) AkeptBy Aagainst Asum AsumBy AtermBy _ _ _ hf hP hD hS hl

def wW_X8_sums (ak : Nat → ClassId) (ad : Nat → Nat) (h : Nat) (am : Nat → Nat) (Fthrown : Int32) (Ftaped : Int32) (Fsize : Int32) (Fplace : Int32) (Fbegin : Int32) (Ftoken : Int32) (Fword : Int64) (Ftold : Int32) (Fwrong : Int32) (Fcode : Int32) (Fat : Int32) (Fway : Int32) (Fnext : Int32) (FisEnd : Int32) (FisFallen : Int32) (Fwritten : Int32) (Fmade : Int32) (Fstate : Int32) (FhandNext : Int32) (FhandSteps : Int32) (FhandWritten : Int32) (FmarkAt : Int32) (Asum : Nat → Int32) (AsumBy : Nat → Int32) (Aterm : Nat → Int32) (AtermBy : Nat → Int32) : va_W := [(h, .inr (7, mob am (Fthrown) (Ftaped) (Fsize) (Fplace) (Fbegin) (Ftoken) (Fword) (Ftold) (Fwrong) (Fcode) (Fat) (Fway) (Fnext) (FisEnd) (FisFallen) (Fwritten) (Fmade) (Fstate) (FhandNext) (FhandSteps) (FhandWritten) (FmarkAt))), ((am 26), .inl (ak 0, 7, .inl (Asum))), ((am 27), .inl (ak 0, 7, .inl (AsumBy))), ((am 28), .inl (ak 0, 7, .inl (Aterm))), ((am 29), .inl (ak 0, 7, .inl (AtermBy)))]
def wp_X8_sums (AsumBy : Nat → Int32) (Aterm : Nat → Int32) (x0 : Int32) (Asum : Nat → Int32) (AtermBy : Nat → Int32) (Φ : (Nat → Int32) → (Nat → Int32) → Prop) : Prop := vp_in x0 7 ∧ (¬ (AsumBy (x0).toNatClampNeg) = 21 → vp_in x0 7 ∧ vp_in x0 7 ∧ vp_in x0 7 ∧ vp_in x0 7 ∧ Φ (upd Asum (x0).toNatClampNeg (((Asum (x0).toNatClampNeg) + (Aterm (x0).toNatClampNeg)))) (upd AtermBy (x0).toNatClampNeg 0)) ∧ ((AsumBy (x0).toNatClampNeg) = 21 → vp_in x0 7 ∧ vp_in x0 7 ∧ vp_in x0 7 ∧ vp_in x0 7 ∧ Φ (upd Asum (x0).toNatClampNeg (((Asum (x0).toNatClampNeg) - (Aterm (x0).toNatClampNeg)))) (upd AtermBy (x0).toNatClampNeg 0))
set_option maxHeartbeats 4000000 in
set_option maxRecDepth 100000 in
theorem kj_X8_sums_e {p : Program} {l : Launch} {e : Env} {R : Room} {s : State} {m : MethodId} {args : Array Value} {below : List Frame} {meth : Method} {c : Code} {cells slots : Nat} {Q : State → Prop} {A : Nat → Prop} {D : va_G} {ak : Nat → ClassId} {ad : Nat → Nat} (hx : p.tables.exec = Jvm.exec) (hb : c.code = cX8_sums) (hown : s.vm.findClass RX8 = some m.cls) (hts : ∀ w ∈ wsX8_sums, w.before args s = true) (hml : c.maxLocals = 2) (hE : EV D ak s) (hT : ST D ak ad A s s.heap) (hA : ∀ q, s.heap.size ≤ q → A q) (h : Nat) (am : Nat → Nat) (Fthrown : Int32) (Ftaped : Int32) (Fsize : Int32) (Fplace : Int32) (Fbegin : Int32) (Ftoken : Int32) (Fword : Int64) (Ftold : Int32) (Fwrong : Int32) (Fcode : Int32) (Fat : Int32) (Fway : Int32) (Fnext : Int32) (FisEnd : Int32) (FisFallen : Int32) (Fwritten : Int32) (Fmade : Int32) (Fstate : Int32) (FhandNext : Int32) (FhandSteps : Int32) (FhandWritten : Int32) (FmarkAt : Int32) (AsumBy : Nat → Int32) (Aterm : Nat → Int32) (x0 : Int32)  (Φ : (Nat → Int32) → (Nat → Int32) → Prop)
    (kR53 : ∀ (Asum : Nat → Int32) (AtermBy : Nat → Int32) (H : Heap) (locs : List Loc) (ls : Array Slot), Φ Asum AtermBy → va_P D vwCl (wW_X8_sums ak ad h am Fthrown Ftaped Fsize Fplace Fbegin Ftoken Fword Ftold Fwrong Fcode Fat Fway Fnext FisEnd FisFallen Fwritten Fmade Fstate FhandNext FhandSteps FhandWritten FmarkAt Asum AsumBy Aterm AtermBy) H → va_D A (wW_X8_sums ak ad h am Fthrown Ftaped Fsize Fplace Fbegin Ftoken Fword Ftold Fwrong Fcode Fat Fway Fnext FisEnd FisFallen Fwritten Fmade Fstate FhandNext FhandSteps FhandWritten FmarkAt Asum AsumBy Aterm AtermBy) → va_S A s.heap H locs → W p l e R s m args below meth c H locs cells slots Q (F0 m 53 ls []))
    : ∀ (Asum : Nat → Int32) (AtermBy : Nat → Int32) (H : Heap) (locs : List Loc) (ls : Array Slot), wp_X8_sums AsumBy Aterm x0 Asum AtermBy Φ → va_P D vwCl (wW_X8_sums ak ad h am Fthrown Ftaped Fsize Fplace Fbegin Ftoken Fword Ftold Fwrong Fcode Fat Fway Fnext FisEnd FisFallen Fwritten Fmade Fstate FhandNext FhandSteps FhandWritten FmarkAt Asum AsumBy Aterm AtermBy) H → va_D A (wW_X8_sums ak ad h am Fthrown Ftaped Fsize Fplace Fbegin Ftoken Fword Ftold Fwrong Fcode Fat Fway Fnext FisEnd FisFallen Fwritten Fmade Fstate FhandNext FhandSteps FhandWritten FmarkAt Asum AsumBy Aterm AtermBy) → va_S A s.heap H locs → lv_has ls 2 [(0, .ref h), (1, .int (x0))] → W p l e R s m args below meth c H locs cells slots Q (F0 m 0 ls ([])) := by
  intro Asum AtermBy H locs ls hw hP hD hS hl
  delta wp_X8_sums at hw
  refine lv_aload_n hx hb dX8_sums_0 rfl (lv_at hl 0 rfl) ?_
  refine vt_get (D := D) (ci := 7) (v := .ref (am 26)) (C := RX8) (T := TX8) (N := 69) hx hb hts (fun w h => wm_c (wc_X8 w h)) hown hE.1 hP 0 rfl rfl 36 (by decide) tX8_36 (hts (.fieldLink RX8 90 "WornLinesModel" "sum" "[I") (wm_c hw_69)) (fun _ h9 => h9) rfl dX8_sums_1 ?_
  refine lv_iload_n hx hb dX8_sums_4 rfl (lv_at hl 1 rfl) ?_
  refine lv_aload_n hx hb dX8_sums_5 rfl (lv_at hl 0 rfl) ?_
  refine vt_get (D := D) (ci := 7) (v := .ref (am 27)) (C := RX8) (T := TX8) (N := 69) hx hb hts (fun w h => wm_c (wc_X8 w h)) hown hE.1 hP 0 rfl rfl 37 (by decide) tX8_37 (hts (.fieldLink RX8 93 "WornLinesModel" "sumBy" "[I") (wm_c hw_70)) (fun _ h9 => h9) rfl dX8_sums_6 ?_
  refine lv_iload_n hx hb dX8_sums_9 rfl (lv_at hl 1 rfl) ?_
  obtain ⟨h_1, hw⟩ := hw
  refine va_iald hx hb hE.1 hP 2 0 rfl rfl (h_1) dX8_sums_10 ?_
  refine lv_bipush (v := 21) hx hb dX8_sums_11 (by decide) ?_
  refine lv_icmp_ne (tgt := 32) hx hb dX8_sums_13 (by decide) (fun c_2 => ?_) (fun c_2 => ?_)
  · replace hw := hw.1 c_2
    refine lv_aload_n hx hb dX8_sums_32 rfl (lv_at hl 0 rfl) ?_
    refine vt_get (D := D) (ci := 7) (v := .ref (am 26)) (C := RX8) (T := TX8) (N := 69) hx hb hts (fun w h => wm_c (wc_X8 w h)) hown hE.1 hP 0 rfl rfl 36 (by decide) tX8_36 (hts (.fieldLink RX8 90 "WornLinesModel" "sum" "[I") (wm_c hw_69)) (fun _ h9 => h9) rfl dX8_sums_33 ?_
    refine lv_iload_n hx hb dX8_sums_36 rfl (lv_at hl 1 rfl) ?_
    obtain ⟨h_3, hw⟩ := hw
    refine va_iald hx hb hE.1 hP 1 0 rfl rfl (h_3) dX8_sums_37 ?_
    refine lv_aload_n hx hb dX8_sums_38 rfl (lv_at hl 0 rfl) ?_
    refine vt_get (D := D) (ci := 7) (v := .ref (am 28)) (C := RX8) (T := TX8) (N := 69) hx hb hts (fun w h => wm_c (wc_X8 w h)) hown hE.1 hP 0 rfl rfl 38 (by decide) tX8_38 (hts (.fieldLink RX8 96 "WornLinesModel" "term" "[I") (wm_c hw_72)) (fun _ h9 => h9) rfl dX8_sums_39 ?_
    refine lv_iload_n hx hb dX8_sums_42 rfl (lv_at hl 1 rfl) ?_
    obtain ⟨h_4, hw⟩ := hw
    refine va_iald hx hb hE.1 hP 3 0 rfl rfl (h_4) dX8_sums_43 ?_
    refine lv_iadd hx hb dX8_sums_44 ?_
    obtain ⟨h_5, hw⟩ := hw
    refine va_iast hx hb hE.1 hP hD hS 1 0 rfl rfl (h_5) dX8_sums_45 (fun H locs hP hD hS => ?_)
    have hP : va_P D vwCl (wW_X8_sums ak ad h am Fthrown Ftaped Fsize Fplace Fbegin Ftoken Fword Ftold Fwrong Fcode Fat Fway Fnext FisEnd FisFallen Fwritten Fmade Fstate FhandNext FhandSteps FhandWritten FmarkAt (upd Asum (x0).toNatClampNeg (((Asum (x0).toNatClampNeg) + (Aterm (x0).toNatClampNeg)))) AsumBy Aterm AtermBy) H := hP
    have hD : va_D A (wW_X8_sums ak ad h am Fthrown Ftaped Fsize Fplace Fbegin Ftoken Fword Ftold Fwrong Fcode Fat Fway Fnext FisEnd FisFallen Fwritten Fmade Fstate FhandNext FhandSteps FhandWritten FmarkAt (upd Asum (x0).toNatClampNeg (((Asum (x0).toNatClampNeg) + (Aterm (x0).toNatClampNeg)))) AsumBy Aterm AtermBy) := hD
    refine lv_aload_n hx hb dX8_sums_46 rfl (lv_at hl 0 rfl) ?_
    refine vt_get (D := D) (ci := 7) (v := .ref (am 29)) (C := RX8) (T := TX8) (N := 69) hx hb hts (fun w h => wm_c (wc_X8 w h)) hown hE.1 hP 0 rfl rfl 39 (by decide) tX8_39 (hts (.fieldLink RX8 99 "WornLinesModel" "termBy" "[I") (wm_c hw_71)) (fun _ h9 => h9) rfl dX8_sums_47 ?_
    refine lv_iload_n hx hb dX8_sums_50 rfl (lv_at hl 1 rfl) ?_
    refine lv_iconst (v := 0) hx hb dX8_sums_51 (by decide) ?_
    obtain ⟨h_6, hw⟩ := hw
    refine va_iast hx hb hE.1 hP hD hS 4 0 rfl rfl (h_6) dX8_sums_52 (fun H locs hP hD hS => ?_)
    have hP : va_P D vwCl (wW_X8_sums ak ad h am Fthrown Ftaped Fsize Fplace Fbegin Ftoken Fword Ftold Fwrong Fcode Fat Fway Fnext FisEnd FisFallen Fwritten Fmade Fstate FhandNext FhandSteps FhandWritten FmarkAt (upd Asum (x0).toNatClampNeg (((Asum (x0).toNatClampNeg) + (Aterm (x0).toNatClampNeg)))) AsumBy Aterm (upd AtermBy (x0).toNatClampNeg 0)) H := hP
    have hD : va_D A (wW_X8_sums ak ad h am Fthrown Ftaped Fsize Fplace Fbegin Ftoken Fword Ftold Fwrong Fcode Fat Fway Fnext FisEnd FisFallen Fwritten Fmade Fstate FhandNext FhandSteps FhandWritten FmarkAt (upd Asum (x0).toNatClampNeg (((Asum (x0).toNatClampNeg) + (Aterm (x0).toNatClampNeg)))) AsumBy Aterm (upd AtermBy (x0).toNatClampNeg 0)) := hD
    exact kR53 (upd Asum (x0).toNatClampNeg (((Asum (x0).toNatClampNeg) + (Aterm (x0).toNatClampNeg)))) (upd AtermBy (x0).toNatClampNeg 0) _ _ _ hw hP hD hS
  · replace hw := hw.2 c_2
    refine lv_aload_n hx hb dX8_sums_16 rfl (lv_at hl 0 rfl) ?_
    refine vt_get (D := D) (ci := 7) (v := .ref (am 26)) (C := RX8) (T := TX8) (N := 69) hx hb hts (fun w h => wm_c (wc_X8 w h)) hown hE.1 hP 0 rfl rfl 36 (by decide) tX8_36 (hts (.fieldLink RX8 90 "WornLinesModel" "sum" "[I") (wm_c hw_69)) (fun _ h9 => h9) rfl dX8_sums_17 ?_
    refine lv_iload_n hx hb dX8_sums_20 rfl (lv_at hl 1 rfl) ?_
    obtain ⟨h_7, hw⟩ := hw
    refine va_iald hx hb hE.1 hP 1 0 rfl rfl (h_7) dX8_sums_21 ?_
    refine lv_aload_n hx hb dX8_sums_22 rfl (lv_at hl 0 rfl) ?_
    refine vt_get (D := D) (ci := 7) (v := .ref (am 28)) (C := RX8) (T := TX8) (N := 69) hx hb hts (fun w h => wm_c (wc_X8 w h)) hown hE.1 hP 0 rfl rfl 38 (by decide) tX8_38 (hts (.fieldLink RX8 96 "WornLinesModel" "term" "[I") (wm_c hw_72)) (fun _ h9 => h9) rfl dX8_sums_23 ?_
    refine lv_iload_n hx hb dX8_sums_26 rfl (lv_at hl 1 rfl) ?_
    obtain ⟨h_8, hw⟩ := hw
    refine va_iald hx hb hE.1 hP 3 0 rfl rfl (h_8) dX8_sums_27 ?_
    refine lv_isub hx hb dX8_sums_28 ?_
    refine lv_goto (tgt := 45) hx hb dX8_sums_29 (by decide) ?_
    obtain ⟨h_9, hw⟩ := hw
    refine va_iast hx hb hE.1 hP hD hS 1 0 rfl rfl (h_9) dX8_sums_45 (fun H locs hP hD hS => ?_)
    have hP : va_P D vwCl (wW_X8_sums ak ad h am Fthrown Ftaped Fsize Fplace Fbegin Ftoken Fword Ftold Fwrong Fcode Fat Fway Fnext FisEnd FisFallen Fwritten Fmade Fstate FhandNext FhandSteps FhandWritten FmarkAt (upd Asum (x0).toNatClampNeg (((Asum (x0).toNatClampNeg) - (Aterm (x0).toNatClampNeg)))) AsumBy Aterm AtermBy) H := hP
    have hD : va_D A (wW_X8_sums ak ad h am Fthrown Ftaped Fsize Fplace Fbegin Ftoken Fword Ftold Fwrong Fcode Fat Fway Fnext FisEnd FisFallen Fwritten Fmade Fstate FhandNext FhandSteps FhandWritten FmarkAt (upd Asum (x0).toNatClampNeg (((Asum (x0).toNatClampNeg) - (Aterm (x0).toNatClampNeg)))) AsumBy Aterm AtermBy) := hD
    refine lv_aload_n hx hb dX8_sums_46 rfl (lv_at hl 0 rfl) ?_
    refine vt_get (D := D) (ci := 7) (v := .ref (am 29)) (C := RX8) (T := TX8) (N := 69) hx hb hts (fun w h => wm_c (wc_X8 w h)) hown hE.1 hP 0 rfl rfl 39 (by decide) tX8_39 (hts (.fieldLink RX8 99 "WornLinesModel" "termBy" "[I") (wm_c hw_71)) (fun _ h9 => h9) rfl dX8_sums_47 ?_
    refine lv_iload_n hx hb dX8_sums_50 rfl (lv_at hl 1 rfl) ?_
    refine lv_iconst (v := 0) hx hb dX8_sums_51 (by decide) ?_
    obtain ⟨h_10, hw⟩ := hw
    refine va_iast hx hb hE.1 hP hD hS 4 0 rfl rfl (h_10) dX8_sums_52 (fun H locs hP hD hS => ?_)
    have hP : va_P D vwCl (wW_X8_sums ak ad h am Fthrown Ftaped Fsize Fplace Fbegin Ftoken Fword Ftold Fwrong Fcode Fat Fway Fnext FisEnd FisFallen Fwritten Fmade Fstate FhandNext FhandSteps FhandWritten FmarkAt (upd Asum (x0).toNatClampNeg (((Asum (x0).toNatClampNeg) - (Aterm (x0).toNatClampNeg)))) AsumBy Aterm (upd AtermBy (x0).toNatClampNeg 0)) H := hP
    have hD : va_D A (wW_X8_sums ak ad h am Fthrown Ftaped Fsize Fplace Fbegin Ftoken Fword Ftold Fwrong Fcode Fat Fway Fnext FisEnd FisFallen Fwritten Fmade Fstate FhandNext FhandSteps FhandWritten FmarkAt (upd Asum (x0).toNatClampNeg (((Asum (x0).toNatClampNeg) - (Aterm (x0).toNatClampNeg)))) AsumBy Aterm (upd AtermBy (x0).toNatClampNeg 0)) := hD
    exact kR53 (upd Asum (x0).toNatClampNeg (((Asum (x0).toNatClampNeg) - (Aterm (x0).toNatClampNeg)))) (upd AtermBy (x0).toNatClampNeg 0) _ _ _ hw hP hD hS
set_option maxHeartbeats 4000000 in
set_option maxRecDepth 100000 in
theorem c_X8_sums (l : Launch) (D : va_G) (ak : Nat → ClassId) (ad : Nat → Nat) (sz : Nat) (h : Nat) (am : Nat → Nat) (Fthrown : Int32) (Ftaped : Int32) (Fsize : Int32) (Fplace : Int32) (Fbegin : Int32) (Ftoken : Int32) (Fword : Int64) (Ftold : Int32) (Fwrong : Int32) (Fcode : Int32) (Fat : Int32) (Fway : Int32) (Fnext : Int32) (FisEnd : Int32) (FisFallen : Int32) (Fwritten : Int32) (Fmade : Int32) (Fstate : Int32) (FhandNext : Int32) (FhandSteps : Int32) (FhandWritten : Int32) (FmarkAt : Int32) (Asum : Nat → Int32) (AsumBy : Nat → Int32) (Aterm : Nat → Int32) (AtermBy : Nat → Int32) (x0 : Int32) (Φ : (Nat → Int32) → (Nat → Int32) → Prop) (hf : wp_X8_sums AsumBy Aterm x0 Asum AtermBy Φ) : Met l yX8_sums wsX8_sums ({ frames := 0, cells := 0, slots := 0, locals := 0 }) (cPre D ak ad [.ref h, .int (x0)] ((wW_X8_sums ak ad h am Fthrown Ftaped Fsize Fplace Fbegin Ftoken Fword Ftold Fwrong Fcode Fat Fway Fnext FisEnd FisFallen Fwritten Fmade Fstate FhandNext FhandSteps FhandWritten FmarkAt Asum AsumBy Aterm AtermBy)) sz) (cV D (S := (Nat → Int32) × (Nat → Int32)) (fun (u : (Nat → Int32) × (Nat → Int32)) => Φ u.1 u.2) (fun u => (wW_X8_sums ak ad h am Fthrown Ftaped Fsize Fplace Fbegin Ftoken Fword Ftold Fwrong Fcode Fat Fway Fnext FisEnd FisFallen Fwritten Fmade Fstate FhandNext FhandSteps FhandWritten FmarkAt u.1 AsumBy Aterm u.2)) ((wW_X8_sums ak ad h am Fthrown Ftaped Fsize Fplace Fbegin Ftoken Fword Ftold Fwrong Fcode Fat Fway Fnext FisEnd FisFallen Fwritten Fmade Fstate FhandNext FhandSteps FhandWritten FmarkAt Asum AsumBy Aterm AtermBy)) sz) 0 0 (va_A ((wW_X8_sums ak ad h am Fthrown Ftaped Fsize Fplace Fbegin Ftoken Fword Ftold Fwrong Fcode Fat Fway Fnext FisEnd FisFallen Fwritten Fmade Fstate FhandNext FhandSteps FhandWritten FmarkAt Asum AsumBy Aterm AtermBy)) sz) := by
  refine Met.ofW (cc := cX8_sums) (maxL := 2) (ret := none) (by decide) rfl ?_
  intro p e s m args below meth c s₁ B hml hv
  obtain ⟨rfl, hsz, hP, hE, hD0, hT⟩ := hv
  have hx := B.exec
  have hb := B.bytes
  have hr := B.returns
  have hts := atoms_spec (ws := wsX8_sums) B.pre
  have hown : s.vm.findClass RX8 = some m.cls := findClass_of_methodNamed B.named
  have hlocks := B.notSynchronized
  subst hsz
  have hD := hD0.self (sz := s.heap.size)
  generalize hAe : va_A ((wW_X8_sums ak ad h am Fthrown Ftaped Fsize Fplace Fbegin Ftoken Fword Ftold Fwrong Fcode Fat Fway Fnext FisEnd FisFallen Fwritten Fmade Fstate FhandNext FhandSteps FhandWritten FmarkAt Asum AsumBy Aterm AtermBy)) s.heap.size = A at hD hT ⊢
  have hA : ∀ q : Nat, s.heap.size ≤ q → A q := fun q h => by rw [← hAe]; exact Or.inr h
  have hS : va_S A s.heap s.heap [] := va_S.rf
  have hl := lv_entry ([.ref h, .int (x0)]) (n := 2) (Nat.le_of_ble_eq_true rfl)
  rw [lg_entry_eq]
  generalize (lg_sl ([.ref h, .int (x0)]) ++ List.replicate (2 - (lg_sl ([.ref h, .int (x0)])).length) Slot.unset).toArray = ls at hl ⊢
  have hl : lv_has ls 2 [(0, .ref h), (1, .int (x0))] := hl
  exact kj_X8_sums_e hx hb hown hts hml hE hT hA h am Fthrown Ftaped Fsize Fplace Fbegin Ftoken Fword Ftold Fwrong Fcode Fat Fway Fnext FisEnd FisFallen Fwritten Fmade Fstate FhandNext FhandSteps FhandWritten FmarkAt AsumBy Aterm x0 Φ (fun Asum AtermBy H locs ls hw hP hD hS => W.vret hx hb hr (fun t ht hW => ⟨⟨(Asum, AtermBy), rfl, hw, by rw [ht]; exact hP, by rw [hAe]; exact hD⟩, by rw [hAe]; exact hS.F ht⟩) hS.2.2 dX8_sums_53) Asum AtermBy _ _ _ hf hP hD hS hl

def wW_X8_tests (ak : Nat → ClassId) (ad : Nat → Nat) (h : Nat) (am : Nat → Nat) (Fthrown : Int32) (Ftaped : Int32) (Fsize : Int32) (Fplace : Int32) (Fbegin : Int32) (Ftoken : Int32) (Fword : Int64) (Ftold : Int32) (Fwrong : Int32) (Fcode : Int32) (Fat : Int32) (Fway : Int32) (Fnext : Int32) (FisEnd : Int32) (FisFallen : Int32) (Fwritten : Int32) (Fmade : Int32) (Fstate : Int32) (FhandNext : Int32) (FhandSteps : Int32) (FhandWritten : Int32) (FmarkAt : Int32) (Akept : Nat → Int32) (AkeptBy : Nat → Int32) (Aahead : Nat → Int32) (Aagainst : Nat → Int32) (Asum : Nat → Int32) (AsumBy : Nat → Int32) (Aterm : Nat → Int32) (AtermBy : Nat → Int32) : va_W := [(h, .inr (7, mob am (Fthrown) (Ftaped) (Fsize) (Fplace) (Fbegin) (Ftoken) (Fword) (Ftold) (Fwrong) (Fcode) (Fat) (Fway) (Fnext) (FisEnd) (FisFallen) (Fwritten) (Fmade) (Fstate) (FhandNext) (FhandSteps) (FhandWritten) (FmarkAt))), ((am 22), .inl (ak 0, 7, .inl (Akept))), ((am 23), .inl (ak 0, 7, .inl (AkeptBy))), ((am 24), .inl (ak 0, 7, .inl (Aahead))), ((am 25), .inl (ak 0, 7, .inl (Aagainst))), ((am 26), .inl (ak 0, 7, .inl (Asum))), ((am 27), .inl (ak 0, 7, .inl (AsumBy))), ((am 28), .inl (ak 0, 7, .inl (Aterm))), ((am 29), .inl (ak 0, 7, .inl (AtermBy)))]
def kf_X8_tests_136 (AkeptBy : Nat → Int32) (Aahead : Nat → Int32) (Aterm : Nat → Int32) (x0 : Int32)  (Φ : (Nat → Int32) → (Nat → Int32) → (Nat → Int32) → (Nat → Int32) → (Nat → Int32) → Prop) (Akept : Nat → Int32) (Aagainst : Nat → Int32) (Asum : Nat → Int32) (AsumBy : Nat → Int32) (AtermBy : Nat → Int32) (l2 : Int32) : Prop := vp_in x0 7 ∧ vp_in x0 7 ∧ vp_in x0 7 ∧ vp_in x0 7 ∧ Φ (upd Akept (x0).toNatClampNeg l2) (upd Aagainst (x0).toNatClampNeg 0) (upd Asum (x0).toNatClampNeg 0) (upd AsumBy (x0).toNatClampNeg 20) AtermBy
set_option maxHeartbeats 4000000 in
set_option maxRecDepth 100000 in
theorem kj_X8_tests_136 {p : Program} {l : Launch} {e : Env} {R : Room} {s : State} {m : MethodId} {args : Array Value} {below : List Frame} {meth : Method} {c : Code} {cells slots : Nat} {Q : State → Prop} {A : Nat → Prop} {D : va_G} {ak : Nat → ClassId} {ad : Nat → Nat} (hx : p.tables.exec = Jvm.exec) (hb : c.code = cX8_tests) (hown : s.vm.findClass RX8 = some m.cls) (hts : ∀ w ∈ wsX8_tests, w.before args s = true) (hml : c.maxLocals = 3) (hE : EV D ak s) (hT : ST D ak ad A s s.heap) (hA : ∀ q, s.heap.size ≤ q → A q) (hRf : 1 ≤ R.frames) (hRl : 21 ≤ R.locals) (hRc : cells ≤ R.cells ∧ slots ≤ R.slots) (h : Nat) (am : Nat → Nat) (Fthrown : Int32) (Ftaped : Int32) (Fsize : Int32) (Fplace : Int32) (Fbegin : Int32) (Ftoken : Int32) (Fword : Int64) (Ftold : Int32) (Fwrong : Int32) (Fcode : Int32) (Fat : Int32) (Fway : Int32) (Fnext : Int32) (FisEnd : Int32) (FisFallen : Int32) (Fwritten : Int32) (Fmade : Int32) (Fstate : Int32) (FhandNext : Int32) (FhandSteps : Int32) (FhandWritten : Int32) (FmarkAt : Int32) (AkeptBy : Nat → Int32) (Aahead : Nat → Int32) (Aterm : Nat → Int32) (x0 : Int32)  (Φ : (Nat → Int32) → (Nat → Int32) → (Nat → Int32) → (Nat → Int32) → (Nat → Int32) → Prop)
    (kR165 : ∀ (Akept : Nat → Int32) (Aagainst : Nat → Int32) (Asum : Nat → Int32) (AsumBy : Nat → Int32) (AtermBy : Nat → Int32) (H : Heap) (locs : List Loc) (ls : Array Slot), Φ Akept Aagainst Asum AsumBy AtermBy → va_P D vwCl (wW_X8_tests ak ad h am Fthrown Ftaped Fsize Fplace Fbegin Ftoken Fword Ftold Fwrong Fcode Fat Fway Fnext FisEnd FisFallen Fwritten Fmade Fstate FhandNext FhandSteps FhandWritten FmarkAt Akept AkeptBy Aahead Aagainst Asum AsumBy Aterm AtermBy) H → va_D A (wW_X8_tests ak ad h am Fthrown Ftaped Fsize Fplace Fbegin Ftoken Fword Ftold Fwrong Fcode Fat Fway Fnext FisEnd FisFallen Fwritten Fmade Fstate FhandNext FhandSteps FhandWritten FmarkAt Akept AkeptBy Aahead Aagainst Asum AsumBy Aterm AtermBy) → va_S A s.heap H locs → W p l e R s m args below meth c H locs cells slots Q (F0 m 165 ls []))
    : ∀ (Akept : Nat → Int32) (Aagainst : Nat → Int32) (Asum : Nat → Int32) (AsumBy : Nat → Int32) (AtermBy : Nat → Int32) (l2 : Int32) (H : Heap) (locs : List Loc) (ls : Array Slot), kf_X8_tests_136 AkeptBy Aahead Aterm x0  Φ Akept Aagainst Asum AsumBy AtermBy l2 → va_P D vwCl (wW_X8_tests ak ad h am Fthrown Ftaped Fsize Fplace Fbegin Ftoken Fword Ftold Fwrong Fcode Fat Fway Fnext FisEnd FisFallen Fwritten Fmade Fstate FhandNext FhandSteps FhandWritten FmarkAt Akept AkeptBy Aahead Aagainst Asum AsumBy Aterm AtermBy) H → va_D A (wW_X8_tests ak ad h am Fthrown Ftaped Fsize Fplace Fbegin Ftoken Fword Ftold Fwrong Fcode Fat Fway Fnext FisEnd FisFallen Fwritten Fmade Fstate FhandNext FhandSteps FhandWritten FmarkAt Akept AkeptBy Aahead Aagainst Asum AsumBy Aterm AtermBy) → va_S A s.heap H locs → lv_has ls 3 [(0, .ref h), (1, .int (x0)), (2, .int (l2))] → W p l e R s m args below meth c H locs cells slots Q (F0 m 136 ls ([])) := by
  intro Akept Aagainst Asum AsumBy AtermBy l2 H locs ls hw hP hD hS hl
  delta kf_X8_tests_136 at hw
  refine lv_aload_n hx hb dX8_tests_136 rfl (lv_at hl 0 rfl) ?_
  refine vt_get (D := D) (ci := 7) (v := .ref (am 22)) (C := RX8) (T := TX8) (N := 69) hx hb hts (fun w h => wm_c (wc_X8 w h)) hown hE.1 hP 0 rfl rfl 32 (by decide) tX8_32 (hts (.fieldLink RX8 78 "WornLinesModel" "kept" "[I") (wm_c hw_73)) (fun _ h9 => h9) rfl dX8_tests_137 ?_
  refine lv_iload_n hx hb dX8_tests_140 rfl (lv_at hl 1 rfl) ?_
  refine lv_iload_n hx hb dX8_tests_141 rfl (lv_at hl 2 rfl) ?_
  obtain ⟨h_14, hw⟩ := hw
  refine va_iast hx hb hE.1 hP hD hS 1 0 rfl rfl (h_14) dX8_tests_142 (fun H locs hP hD hS => ?_)
  have hP : va_P D vwCl (wW_X8_tests ak ad h am Fthrown Ftaped Fsize Fplace Fbegin Ftoken Fword Ftold Fwrong Fcode Fat Fway Fnext FisEnd FisFallen Fwritten Fmade Fstate FhandNext FhandSteps FhandWritten FmarkAt (upd Akept (x0).toNatClampNeg l2) AkeptBy Aahead Aagainst Asum AsumBy Aterm AtermBy) H := hP
  have hD : va_D A (wW_X8_tests ak ad h am Fthrown Ftaped Fsize Fplace Fbegin Ftoken Fword Ftold Fwrong Fcode Fat Fway Fnext FisEnd FisFallen Fwritten Fmade Fstate FhandNext FhandSteps FhandWritten FmarkAt (upd Akept (x0).toNatClampNeg l2) AkeptBy Aahead Aagainst Asum AsumBy Aterm AtermBy) := hD
  refine lv_aload_n hx hb dX8_tests_143 rfl (lv_at hl 0 rfl) ?_
  refine vt_get (D := D) (ci := 7) (v := .ref (am 25)) (C := RX8) (T := TX8) (N := 69) hx hb hts (fun w h => wm_c (wc_X8 w h)) hown hE.1 hP 0 rfl rfl 35 (by decide) tX8_35 (hts (.fieldLink RX8 87 "WornLinesModel" "against" "[I") (wm_c hw_68)) (fun _ h9 => h9) rfl dX8_tests_144 ?_
  refine lv_iload_n hx hb dX8_tests_147 rfl (lv_at hl 1 rfl) ?_
  refine lv_iconst (v := 0) hx hb dX8_tests_148 (by decide) ?_
  obtain ⟨h_15, hw⟩ := hw
  refine va_iast hx hb hE.1 hP hD hS 4 0 rfl rfl (h_15) dX8_tests_149 (fun H locs hP hD hS => ?_)
  have hP : va_P D vwCl (wW_X8_tests ak ad h am Fthrown Ftaped Fsize Fplace Fbegin Ftoken Fword Ftold Fwrong Fcode Fat Fway Fnext FisEnd FisFallen Fwritten Fmade Fstate FhandNext FhandSteps FhandWritten FmarkAt (upd Akept (x0).toNatClampNeg l2) AkeptBy Aahead (upd Aagainst (x0).toNatClampNeg 0) Asum AsumBy Aterm AtermBy) H := hP
  have hD : va_D A (wW_X8_tests ak ad h am Fthrown Ftaped Fsize Fplace Fbegin Ftoken Fword Ftold Fwrong Fcode Fat Fway Fnext FisEnd FisFallen Fwritten Fmade Fstate FhandNext FhandSteps FhandWritten FmarkAt (upd Akept (x0).toNatClampNeg l2) AkeptBy Aahead (upd Aagainst (x0).toNatClampNeg 0) Asum AsumBy Aterm AtermBy) := hD
  refine lv_aload_n hx hb dX8_tests_150 rfl (lv_at hl 0 rfl) ?_
  refine vt_get (D := D) (ci := 7) (v := .ref (am 26)) (C := RX8) (T := TX8) (N := 69) hx hb hts (fun w h => wm_c (wc_X8 w h)) hown hE.1 hP 0 rfl rfl 36 (by decide) tX8_36 (hts (.fieldLink RX8 90 "WornLinesModel" "sum" "[I") (wm_c hw_69)) (fun _ h9 => h9) rfl dX8_tests_151 ?_
  refine lv_iload_n hx hb dX8_tests_154 rfl (lv_at hl 1 rfl) ?_
  refine lv_iconst (v := 0) hx hb dX8_tests_155 (by decide) ?_
  obtain ⟨h_16, hw⟩ := hw
  refine va_iast hx hb hE.1 hP hD hS 5 0 rfl rfl (h_16) dX8_tests_156 (fun H locs hP hD hS => ?_)
  have hP : va_P D vwCl (wW_X8_tests ak ad h am Fthrown Ftaped Fsize Fplace Fbegin Ftoken Fword Ftold Fwrong Fcode Fat Fway Fnext FisEnd FisFallen Fwritten Fmade Fstate FhandNext FhandSteps FhandWritten FmarkAt (upd Akept (x0).toNatClampNeg l2) AkeptBy Aahead (upd Aagainst (x0).toNatClampNeg 0) (upd Asum (x0).toNatClampNeg 0) AsumBy Aterm AtermBy) H := hP
  have hD : va_D A (wW_X8_tests ak ad h am Fthrown Ftaped Fsize Fplace Fbegin Ftoken Fword Ftold Fwrong Fcode Fat Fway Fnext FisEnd FisFallen Fwritten Fmade Fstate FhandNext FhandSteps FhandWritten FmarkAt (upd Akept (x0).toNatClampNeg l2) AkeptBy Aahead (upd Aagainst (x0).toNatClampNeg 0) (upd Asum (x0).toNatClampNeg 0) AsumBy Aterm AtermBy) := hD
  refine lv_aload_n hx hb dX8_tests_157 rfl (lv_at hl 0 rfl) ?_
  refine vt_get (D := D) (ci := 7) (v := .ref (am 27)) (C := RX8) (T := TX8) (N := 69) hx hb hts (fun w h => wm_c (wc_X8 w h)) hown hE.1 hP 0 rfl rfl 37 (by decide) tX8_37 (hts (.fieldLink RX8 93 "WornLinesModel" "sumBy" "[I") (wm_c hw_70)) (fun _ h9 => h9) rfl dX8_tests_158 ?_
  refine lv_iload_n hx hb dX8_tests_161 rfl (lv_at hl 1 rfl) ?_
  refine lv_bipush (v := 20) hx hb dX8_tests_162 (by decide) ?_
  obtain ⟨h_17, hw⟩ := hw
  refine va_iast hx hb hE.1 hP hD hS 6 0 rfl rfl (h_17) dX8_tests_164 (fun H locs hP hD hS => ?_)
  have hP : va_P D vwCl (wW_X8_tests ak ad h am Fthrown Ftaped Fsize Fplace Fbegin Ftoken Fword Ftold Fwrong Fcode Fat Fway Fnext FisEnd FisFallen Fwritten Fmade Fstate FhandNext FhandSteps FhandWritten FmarkAt (upd Akept (x0).toNatClampNeg l2) AkeptBy Aahead (upd Aagainst (x0).toNatClampNeg 0) (upd Asum (x0).toNatClampNeg 0) (upd AsumBy (x0).toNatClampNeg 20) Aterm AtermBy) H := hP
  have hD : va_D A (wW_X8_tests ak ad h am Fthrown Ftaped Fsize Fplace Fbegin Ftoken Fword Ftold Fwrong Fcode Fat Fway Fnext FisEnd FisFallen Fwritten Fmade Fstate FhandNext FhandSteps FhandWritten FmarkAt (upd Akept (x0).toNatClampNeg l2) AkeptBy Aahead (upd Aagainst (x0).toNatClampNeg 0) (upd Asum (x0).toNatClampNeg 0) (upd AsumBy (x0).toNatClampNeg 20) Aterm AtermBy) := hD
  exact kR165 (upd Akept (x0).toNatClampNeg l2) (upd Aagainst (x0).toNatClampNeg 0) (upd Asum (x0).toNatClampNeg 0) (upd AsumBy (x0).toNatClampNeg 20) AtermBy _ _ _ hw hP hD hS

def kf_X8_tests_106 (AkeptBy : Nat → Int32) (Aahead : Nat → Int32) (Aterm : Nat → Int32) (x0 : Int32)  (Φ : (Nat → Int32) → (Nat → Int32) → (Nat → Int32) → (Nat → Int32) → (Nat → Int32) → Prop) (Akept : Nat → Int32) (Aagainst : Nat → Int32) (Asum : Nat → Int32) (AsumBy : Nat → Int32) (AtermBy : Nat → Int32) (l2 : Int32) : Prop := vp_in x0 7 ∧ (¬ (AkeptBy (x0).toNatClampNeg) = 27 → kf_X8_tests_136 AkeptBy Aahead Aterm x0  Φ Akept Aagainst Asum AsumBy AtermBy l2) ∧ ((AkeptBy (x0).toNatClampNeg) = 27 → vp_in x0 7 ∧ (¬ (Akept (x0).toNatClampNeg) = 0 → kf_X8_tests_136 AkeptBy Aahead Aterm x0  Φ Akept Aagainst Asum AsumBy AtermBy 1) ∧ ((Akept (x0).toNatClampNeg) = 0 → (l2 = 0 → kf_X8_tests_136 AkeptBy Aahead Aterm x0  Φ Akept Aagainst Asum AsumBy AtermBy 0) ∧ (¬ l2 = 0 → kf_X8_tests_136 AkeptBy Aahead Aterm x0  Φ Akept Aagainst Asum AsumBy AtermBy 1)))
set_option maxHeartbeats 4000000 in
set_option maxRecDepth 100000 in
theorem kj_X8_tests_106 {p : Program} {l : Launch} {e : Env} {R : Room} {s : State} {m : MethodId} {args : Array Value} {below : List Frame} {meth : Method} {c : Code} {cells slots : Nat} {Q : State → Prop} {A : Nat → Prop} {D : va_G} {ak : Nat → ClassId} {ad : Nat → Nat} (hx : p.tables.exec = Jvm.exec) (hb : c.code = cX8_tests) (hown : s.vm.findClass RX8 = some m.cls) (hts : ∀ w ∈ wsX8_tests, w.before args s = true) (hml : c.maxLocals = 3) (hE : EV D ak s) (hT : ST D ak ad A s s.heap) (hA : ∀ q, s.heap.size ≤ q → A q) (hRf : 1 ≤ R.frames) (hRl : 21 ≤ R.locals) (hRc : cells ≤ R.cells ∧ slots ≤ R.slots) (h : Nat) (am : Nat → Nat) (Fthrown : Int32) (Ftaped : Int32) (Fsize : Int32) (Fplace : Int32) (Fbegin : Int32) (Ftoken : Int32) (Fword : Int64) (Ftold : Int32) (Fwrong : Int32) (Fcode : Int32) (Fat : Int32) (Fway : Int32) (Fnext : Int32) (FisEnd : Int32) (FisFallen : Int32) (Fwritten : Int32) (Fmade : Int32) (Fstate : Int32) (FhandNext : Int32) (FhandSteps : Int32) (FhandWritten : Int32) (FmarkAt : Int32) (AkeptBy : Nat → Int32) (Aahead : Nat → Int32) (Aterm : Nat → Int32) (x0 : Int32)  (Φ : (Nat → Int32) → (Nat → Int32) → (Nat → Int32) → (Nat → Int32) → (Nat → Int32) → Prop)
    (kR165 : ∀ (Akept : Nat → Int32) (Aagainst : Nat → Int32) (Asum : Nat → Int32) (AsumBy : Nat → Int32) (AtermBy : Nat → Int32) (H : Heap) (locs : List Loc) (ls : Array Slot), Φ Akept Aagainst Asum AsumBy AtermBy → va_P D vwCl (wW_X8_tests ak ad h am Fthrown Ftaped Fsize Fplace Fbegin Ftoken Fword Ftold Fwrong Fcode Fat Fway Fnext FisEnd FisFallen Fwritten Fmade Fstate FhandNext FhandSteps FhandWritten FmarkAt Akept AkeptBy Aahead Aagainst Asum AsumBy Aterm AtermBy) H → va_D A (wW_X8_tests ak ad h am Fthrown Ftaped Fsize Fplace Fbegin Ftoken Fword Ftold Fwrong Fcode Fat Fway Fnext FisEnd FisFallen Fwritten Fmade Fstate FhandNext FhandSteps FhandWritten FmarkAt Akept AkeptBy Aahead Aagainst Asum AsumBy Aterm AtermBy) → va_S A s.heap H locs → W p l e R s m args below meth c H locs cells slots Q (F0 m 165 ls []))
    : ∀ (Akept : Nat → Int32) (Aagainst : Nat → Int32) (Asum : Nat → Int32) (AsumBy : Nat → Int32) (AtermBy : Nat → Int32) (l2 : Int32) (H : Heap) (locs : List Loc) (ls : Array Slot), kf_X8_tests_106 AkeptBy Aahead Aterm x0  Φ Akept Aagainst Asum AsumBy AtermBy l2 → va_P D vwCl (wW_X8_tests ak ad h am Fthrown Ftaped Fsize Fplace Fbegin Ftoken Fword Ftold Fwrong Fcode Fat Fway Fnext FisEnd FisFallen Fwritten Fmade Fstate FhandNext FhandSteps FhandWritten FmarkAt Akept AkeptBy Aahead Aagainst Asum AsumBy Aterm AtermBy) H → va_D A (wW_X8_tests ak ad h am Fthrown Ftaped Fsize Fplace Fbegin Ftoken Fword Ftold Fwrong Fcode Fat Fway Fnext FisEnd FisFallen Fwritten Fmade Fstate FhandNext FhandSteps FhandWritten FmarkAt Akept AkeptBy Aahead Aagainst Asum AsumBy Aterm AtermBy) → va_S A s.heap H locs → lv_has ls 3 [(0, .ref h), (1, .int (x0)), (2, .int (l2))] → W p l e R s m args below meth c H locs cells slots Q (F0 m 106 ls ([])) := by
  intro Akept Aagainst Asum AsumBy AtermBy l2 H locs ls hw hP hD hS hl
  delta kf_X8_tests_106 at hw
  refine lv_aload_n hx hb dX8_tests_106 rfl (lv_at hl 0 rfl) ?_
  refine vt_get (D := D) (ci := 7) (v := .ref (am 23)) (C := RX8) (T := TX8) (N := 69) hx hb hts (fun w h => wm_c (wc_X8 w h)) hown hE.1 hP 0 rfl rfl 33 (by decide) tX8_33 (hts (.fieldLink RX8 81 "WornLinesModel" "keptBy" "[I") (wm_c hw_67)) (fun _ h9 => h9) rfl dX8_tests_107 ?_
  refine lv_iload_n hx hb dX8_tests_110 rfl (lv_at hl 1 rfl) ?_
  obtain ⟨h_12, hw⟩ := hw
  refine va_iald hx hb hE.1 hP 2 0 rfl rfl (h_12) dX8_tests_111 ?_
  refine lv_bipush (v := 27) hx hb dX8_tests_112 (by decide) ?_
  refine lv_icmp_ne (tgt := 136) hx hb dX8_tests_114 (by decide) (fun c_13 => ?_) (fun c_13 => ?_)
  · replace hw := hw.1 c_13
    exact kj_X8_tests_136 hx hb hown hts hml hE hT hA hRf hRl hRc h am Fthrown Ftaped Fsize Fplace Fbegin Ftoken Fword Ftold Fwrong Fcode Fat Fway Fnext FisEnd FisFallen Fwritten Fmade Fstate FhandNext FhandSteps FhandWritten FmarkAt AkeptBy Aahead Aterm x0  Φ  kR165 Akept Aagainst Asum AsumBy AtermBy l2 _ _ _ hw hP hD hS (lv_sub hl [0, 1, 2] rfl)
  · replace hw := hw.2 c_13
    refine lv_aload_n hx hb dX8_tests_117 rfl (lv_at hl 0 rfl) ?_
    refine vt_get (D := D) (ci := 7) (v := .ref (am 22)) (C := RX8) (T := TX8) (N := 69) hx hb hts (fun w h => wm_c (wc_X8 w h)) hown hE.1 hP 0 rfl rfl 32 (by decide) tX8_32 (hts (.fieldLink RX8 78 "WornLinesModel" "kept" "[I") (wm_c hw_73)) (fun _ h9 => h9) rfl dX8_tests_118 ?_
    refine lv_iload_n hx hb dX8_tests_121 rfl (lv_at hl 1 rfl) ?_
    obtain ⟨h_18, hw⟩ := hw
    refine va_iald hx hb hE.1 hP 1 0 rfl rfl (h_18) dX8_tests_122 ?_
    refine lv_if_ne (tgt := 130) hx hb dX8_tests_123 (by decide) (fun c_19 => ?_) (fun c_19 => ?_)
    · replace hw := hw.1 c_19
      refine lv_iconst (v := 1) hx hb dX8_tests_130 (by decide) ?_
      refine lv_goto (tgt := 135) hx hb dX8_tests_131 (by decide) ?_
      refine lv_istore_n (lv' := [(2, .int (1)), (0, .ref h), (1, .int (x0))]) hx hb dX8_tests_135 rfl hl (by decide) rfl (fun ls hl => ?_)
      exact kj_X8_tests_136 hx hb hown hts hml hE hT hA hRf hRl hRc h am Fthrown Ftaped Fsize Fplace Fbegin Ftoken Fword Ftold Fwrong Fcode Fat Fway Fnext FisEnd FisFallen Fwritten Fmade Fstate FhandNext FhandSteps FhandWritten FmarkAt AkeptBy Aahead Aterm x0  Φ  kR165 Akept Aagainst Asum AsumBy AtermBy 1 _ _ _ hw hP hD hS (lv_sub hl [1, 2, 0] rfl)
    · replace hw := hw.2 c_19
      refine lv_iload_n hx hb dX8_tests_126 rfl (lv_at hl 2 rfl) ?_
      refine lv_if_eq (tgt := 134) hx hb dX8_tests_127 (by decide) (fun c_20 => ?_) (fun c_20 => ?_)
      · replace hw := hw.1 c_20
        refine lv_iconst (v := 0) hx hb dX8_tests_134 (by decide) ?_
        refine lv_istore_n (lv' := [(2, .int (0)), (0, .ref h), (1, .int (x0))]) hx hb dX8_tests_135 rfl hl (by decide) rfl (fun ls hl => ?_)
        exact kj_X8_tests_136 hx hb hown hts hml hE hT hA hRf hRl hRc h am Fthrown Ftaped Fsize Fplace Fbegin Ftoken Fword Ftold Fwrong Fcode Fat Fway Fnext FisEnd FisFallen Fwritten Fmade Fstate FhandNext FhandSteps FhandWritten FmarkAt AkeptBy Aahead Aterm x0  Φ  kR165 Akept Aagainst Asum AsumBy AtermBy 0 _ _ _ hw hP hD hS (lv_sub hl [1, 2, 0] rfl)
      · replace hw := hw.2 c_20
        refine lv_iconst (v := 1) hx hb dX8_tests_130 (by decide) ?_
        refine lv_goto (tgt := 135) hx hb dX8_tests_131 (by decide) ?_
        refine lv_istore_n (lv' := [(2, .int (1)), (0, .ref h), (1, .int (x0))]) hx hb dX8_tests_135 rfl hl (by decide) rfl (fun ls hl => ?_)
        exact kj_X8_tests_136 hx hb hown hts hml hE hT hA hRf hRl hRc h am Fthrown Ftaped Fsize Fplace Fbegin Ftoken Fword Ftold Fwrong Fcode Fat Fway Fnext FisEnd FisFallen Fwritten Fmade Fstate FhandNext FhandSteps FhandWritten FmarkAt AkeptBy Aahead Aterm x0  Φ  kR165 Akept Aagainst Asum AsumBy AtermBy 1 _ _ _ hw hP hD hS (lv_sub hl [1, 2, 0] rfl)

def kf_X8_tests_76 (AkeptBy : Nat → Int32) (Aahead : Nat → Int32) (Aterm : Nat → Int32) (x0 : Int32)  (Φ : (Nat → Int32) → (Nat → Int32) → (Nat → Int32) → (Nat → Int32) → (Nat → Int32) → Prop) (Akept : Nat → Int32) (Aagainst : Nat → Int32) (Asum : Nat → Int32) (AsumBy : Nat → Int32) (AtermBy : Nat → Int32) (l2 : Int32) : Prop := vp_in x0 7 ∧ (¬ (AkeptBy (x0).toNatClampNeg) = 26 → kf_X8_tests_106 AkeptBy Aahead Aterm x0  Φ Akept Aagainst Asum AsumBy AtermBy l2) ∧ ((AkeptBy (x0).toNatClampNeg) = 26 → vp_in x0 7 ∧ ((Akept (x0).toNatClampNeg) = 0 → kf_X8_tests_106 AkeptBy Aahead Aterm x0  Φ Akept Aagainst Asum AsumBy AtermBy 0) ∧ (¬ (Akept (x0).toNatClampNeg) = 0 → (l2 = 0 → kf_X8_tests_106 AkeptBy Aahead Aterm x0  Φ Akept Aagainst Asum AsumBy AtermBy 0) ∧ (¬ l2 = 0 → kf_X8_tests_106 AkeptBy Aahead Aterm x0  Φ Akept Aagainst Asum AsumBy AtermBy 1)))
set_option maxHeartbeats 4000000 in
set_option maxRecDepth 100000 in
theorem kj_X8_tests_76 {p : Program} {l : Launch} {e : Env} {R : Room} {s : State} {m : MethodId} {args : Array Value} {below : List Frame} {meth : Method} {c : Code} {cells slots : Nat} {Q : State → Prop} {A : Nat → Prop} {D : va_G} {ak : Nat → ClassId} {ad : Nat → Nat} (hx : p.tables.exec = Jvm.exec) (hb : c.code = cX8_tests) (hown : s.vm.findClass RX8 = some m.cls) (hts : ∀ w ∈ wsX8_tests, w.before args s = true) (hml : c.maxLocals = 3) (hE : EV D ak s) (hT : ST D ak ad A s s.heap) (hA : ∀ q, s.heap.size ≤ q → A q) (hRf : 1 ≤ R.frames) (hRl : 21 ≤ R.locals) (hRc : cells ≤ R.cells ∧ slots ≤ R.slots) (h : Nat) (am : Nat → Nat) (Fthrown : Int32) (Ftaped : Int32) (Fsize : Int32) (Fplace : Int32) (Fbegin : Int32) (Ftoken : Int32) (Fword : Int64) (Ftold : Int32) (Fwrong : Int32) (Fcode : Int32) (Fat : Int32) (Fway : Int32) (Fnext : Int32) (FisEnd : Int32) (FisFallen : Int32) (Fwritten : Int32) (Fmade : Int32) (Fstate : Int32) (FhandNext : Int32) (FhandSteps : Int32) (FhandWritten : Int32) (FmarkAt : Int32) (AkeptBy : Nat → Int32) (Aahead : Nat → Int32) (Aterm : Nat → Int32) (x0 : Int32)  (Φ : (Nat → Int32) → (Nat → Int32) → (Nat → Int32) → (Nat → Int32) → (Nat → Int32) → Prop)
    (kR165 : ∀ (Akept : Nat → Int32) (Aagainst : Nat → Int32) (Asum : Nat → Int32) (AsumBy : Nat → Int32) (AtermBy : Nat → Int32) (H : Heap) (locs : List Loc) (ls : Array Slot), Φ Akept Aagainst Asum AsumBy AtermBy → va_P D vwCl (wW_X8_tests ak ad h am Fthrown Ftaped Fsize Fplace Fbegin Ftoken Fword Ftold Fwrong Fcode Fat Fway Fnext FisEnd FisFallen Fwritten Fmade Fstate FhandNext FhandSteps FhandWritten FmarkAt Akept AkeptBy Aahead Aagainst Asum AsumBy Aterm AtermBy) H → va_D A (wW_X8_tests ak ad h am Fthrown Ftaped Fsize Fplace Fbegin Ftoken Fword Ftold Fwrong Fcode Fat Fway Fnext FisEnd FisFallen Fwritten Fmade Fstate FhandNext FhandSteps FhandWritten FmarkAt Akept AkeptBy Aahead Aagainst Asum AsumBy Aterm AtermBy) → va_S A s.heap H locs → W p l e R s m args below meth c H locs cells slots Q (F0 m 165 ls []))
    : ∀ (Akept : Nat → Int32) (Aagainst : Nat → Int32) (Asum : Nat → Int32) (AsumBy : Nat → Int32) (AtermBy : Nat → Int32) (l2 : Int32) (H : Heap) (locs : List Loc) (ls : Array Slot), kf_X8_tests_76 AkeptBy Aahead Aterm x0  Φ Akept Aagainst Asum AsumBy AtermBy l2 → va_P D vwCl (wW_X8_tests ak ad h am Fthrown Ftaped Fsize Fplace Fbegin Ftoken Fword Ftold Fwrong Fcode Fat Fway Fnext FisEnd FisFallen Fwritten Fmade Fstate FhandNext FhandSteps FhandWritten FmarkAt Akept AkeptBy Aahead Aagainst Asum AsumBy Aterm AtermBy) H → va_D A (wW_X8_tests ak ad h am Fthrown Ftaped Fsize Fplace Fbegin Ftoken Fword Ftold Fwrong Fcode Fat Fway Fnext FisEnd FisFallen Fwritten Fmade Fstate FhandNext FhandSteps FhandWritten FmarkAt Akept AkeptBy Aahead Aagainst Asum AsumBy Aterm AtermBy) → va_S A s.heap H locs → lv_has ls 3 [(0, .ref h), (1, .int (x0)), (2, .int (l2))] → W p l e R s m args below meth c H locs cells slots Q (F0 m 76 ls ([])) := by
  intro Akept Aagainst Asum AsumBy AtermBy l2 H locs ls hw hP hD hS hl
  delta kf_X8_tests_76 at hw
  refine lv_aload_n hx hb dX8_tests_76 rfl (lv_at hl 0 rfl) ?_
  refine vt_get (D := D) (ci := 7) (v := .ref (am 23)) (C := RX8) (T := TX8) (N := 69) hx hb hts (fun w h => wm_c (wc_X8 w h)) hown hE.1 hP 0 rfl rfl 33 (by decide) tX8_33 (hts (.fieldLink RX8 81 "WornLinesModel" "keptBy" "[I") (wm_c hw_67)) (fun _ h9 => h9) rfl dX8_tests_77 ?_
  refine lv_iload_n hx hb dX8_tests_80 rfl (lv_at hl 1 rfl) ?_
  obtain ⟨h_10, hw⟩ := hw
  refine va_iald hx hb hE.1 hP 2 0 rfl rfl (h_10) dX8_tests_81 ?_
  refine lv_bipush (v := 26) hx hb dX8_tests_82 (by decide) ?_
  refine lv_icmp_ne (tgt := 106) hx hb dX8_tests_84 (by decide) (fun c_11 => ?_) (fun c_11 => ?_)
  · replace hw := hw.1 c_11
    exact kj_X8_tests_106 hx hb hown hts hml hE hT hA hRf hRl hRc h am Fthrown Ftaped Fsize Fplace Fbegin Ftoken Fword Ftold Fwrong Fcode Fat Fway Fnext FisEnd FisFallen Fwritten Fmade Fstate FhandNext FhandSteps FhandWritten FmarkAt AkeptBy Aahead Aterm x0  Φ  kR165 Akept Aagainst Asum AsumBy AtermBy l2 _ _ _ hw hP hD hS (lv_sub hl [0, 1, 2] rfl)
  · replace hw := hw.2 c_11
    refine lv_aload_n hx hb dX8_tests_87 rfl (lv_at hl 0 rfl) ?_
    refine vt_get (D := D) (ci := 7) (v := .ref (am 22)) (C := RX8) (T := TX8) (N := 69) hx hb hts (fun w h => wm_c (wc_X8 w h)) hown hE.1 hP 0 rfl rfl 32 (by decide) tX8_32 (hts (.fieldLink RX8 78 "WornLinesModel" "kept" "[I") (wm_c hw_73)) (fun _ h9 => h9) rfl dX8_tests_88 ?_
    refine lv_iload_n hx hb dX8_tests_91 rfl (lv_at hl 1 rfl) ?_
    obtain ⟨h_21, hw⟩ := hw
    refine va_iald hx hb hE.1 hP 1 0 rfl rfl (h_21) dX8_tests_92 ?_
    refine lv_if_eq (tgt := 104) hx hb dX8_tests_93 (by decide) (fun c_22 => ?_) (fun c_22 => ?_)
    · replace hw := hw.1 c_22
      refine lv_iconst (v := 0) hx hb dX8_tests_104 (by decide) ?_
      refine lv_istore_n (lv' := [(2, .int (0)), (0, .ref h), (1, .int (x0))]) hx hb dX8_tests_105 rfl hl (by decide) rfl (fun ls hl => ?_)
      exact kj_X8_tests_106 hx hb hown hts hml hE hT hA hRf hRl hRc h am Fthrown Ftaped Fsize Fplace Fbegin Ftoken Fword Ftold Fwrong Fcode Fat Fway Fnext FisEnd FisFallen Fwritten Fmade Fstate FhandNext FhandSteps FhandWritten FmarkAt AkeptBy Aahead Aterm x0  Φ  kR165 Akept Aagainst Asum AsumBy AtermBy 0 _ _ _ hw hP hD hS (lv_sub hl [1, 2, 0] rfl)
    · replace hw := hw.2 c_22
      refine lv_iload_n hx hb dX8_tests_96 rfl (lv_at hl 2 rfl) ?_
      refine lv_if_eq (tgt := 104) hx hb dX8_tests_97 (by decide) (fun c_23 => ?_) (fun c_23 => ?_)
      · replace hw := hw.1 c_23
        refine lv_iconst (v := 0) hx hb dX8_tests_104 (by decide) ?_
        refine lv_istore_n (lv' := [(2, .int (0)), (0, .ref h), (1, .int (x0))]) hx hb dX8_tests_105 rfl hl (by decide) rfl (fun ls hl => ?_)
        exact kj_X8_tests_106 hx hb hown hts hml hE hT hA hRf hRl hRc h am Fthrown Ftaped Fsize Fplace Fbegin Ftoken Fword Ftold Fwrong Fcode Fat Fway Fnext FisEnd FisFallen Fwritten Fmade Fstate FhandNext FhandSteps FhandWritten FmarkAt AkeptBy Aahead Aterm x0  Φ  kR165 Akept Aagainst Asum AsumBy AtermBy 0 _ _ _ hw hP hD hS (lv_sub hl [1, 2, 0] rfl)
      · replace hw := hw.2 c_23
        refine lv_iconst (v := 1) hx hb dX8_tests_100 (by decide) ?_
        refine lv_goto (tgt := 105) hx hb dX8_tests_101 (by decide) ?_
        refine lv_istore_n (lv' := [(2, .int (1)), (0, .ref h), (1, .int (x0))]) hx hb dX8_tests_105 rfl hl (by decide) rfl (fun ls hl => ?_)
        exact kj_X8_tests_106 hx hb hown hts hml hE hT hA hRf hRl hRc h am Fthrown Ftaped Fsize Fplace Fbegin Ftoken Fword Ftold Fwrong Fcode Fat Fway Fnext FisEnd FisFallen Fwritten Fmade Fstate FhandNext FhandSteps FhandWritten FmarkAt AkeptBy Aahead Aterm x0  Φ  kR165 Akept Aagainst Asum AsumBy AtermBy 1 _ _ _ hw hP hD hS (lv_sub hl [1, 2, 0] rfl)

def kf_X8_tests_44 (AkeptBy : Nat → Int32) (Aahead : Nat → Int32) (Aterm : Nat → Int32) (x0 : Int32)  (Φ : (Nat → Int32) → (Nat → Int32) → (Nat → Int32) → (Nat → Int32) → (Nat → Int32) → Prop) (Akept : Nat → Int32) (Aagainst : Nat → Int32) (Asum : Nat → Int32) (AsumBy : Nat → Int32) (AtermBy : Nat → Int32) (l2 : Int32) : Prop := vp_in x0 7 ∧ (¬ (Aagainst (x0).toNatClampNeg) = 25 → kf_X8_tests_76 AkeptBy Aahead Aterm x0  Φ Akept Aagainst Asum AsumBy AtermBy l2) ∧ ((Aagainst (x0).toNatClampNeg) = 25 → vp_in x0 7 ∧ vp_in x0 7 ∧ (¬ (Aahead (x0).toNatClampNeg) = (Asum (x0).toNatClampNeg) → kf_X8_tests_76 AkeptBy Aahead Aterm x0  Φ Akept Aagainst Asum AsumBy AtermBy 0) ∧ ((Aahead (x0).toNatClampNeg) = (Asum (x0).toNatClampNeg) → kf_X8_tests_76 AkeptBy Aahead Aterm x0  Φ Akept Aagainst Asum AsumBy AtermBy 1))
set_option maxHeartbeats 4000000 in
set_option maxRecDepth 100000 in
theorem kj_X8_tests_44 {p : Program} {l : Launch} {e : Env} {R : Room} {s : State} {m : MethodId} {args : Array Value} {below : List Frame} {meth : Method} {c : Code} {cells slots : Nat} {Q : State → Prop} {A : Nat → Prop} {D : va_G} {ak : Nat → ClassId} {ad : Nat → Nat} (hx : p.tables.exec = Jvm.exec) (hb : c.code = cX8_tests) (hown : s.vm.findClass RX8 = some m.cls) (hts : ∀ w ∈ wsX8_tests, w.before args s = true) (hml : c.maxLocals = 3) (hE : EV D ak s) (hT : ST D ak ad A s s.heap) (hA : ∀ q, s.heap.size ≤ q → A q) (hRf : 1 ≤ R.frames) (hRl : 21 ≤ R.locals) (hRc : cells ≤ R.cells ∧ slots ≤ R.slots) (h : Nat) (am : Nat → Nat) (Fthrown : Int32) (Ftaped : Int32) (Fsize : Int32) (Fplace : Int32) (Fbegin : Int32) (Ftoken : Int32) (Fword : Int64) (Ftold : Int32) (Fwrong : Int32) (Fcode : Int32) (Fat : Int32) (Fway : Int32) (Fnext : Int32) (FisEnd : Int32) (FisFallen : Int32) (Fwritten : Int32) (Fmade : Int32) (Fstate : Int32) (FhandNext : Int32) (FhandSteps : Int32) (FhandWritten : Int32) (FmarkAt : Int32) (AkeptBy : Nat → Int32) (Aahead : Nat → Int32) (Aterm : Nat → Int32) (x0 : Int32)  (Φ : (Nat → Int32) → (Nat → Int32) → (Nat → Int32) → (Nat → Int32) → (Nat → Int32) → Prop)
    (kR165 : ∀ (Akept : Nat → Int32) (Aagainst : Nat → Int32) (Asum : Nat → Int32) (AsumBy : Nat → Int32) (AtermBy : Nat → Int32) (H : Heap) (locs : List Loc) (ls : Array Slot), Φ Akept Aagainst Asum AsumBy AtermBy → va_P D vwCl (wW_X8_tests ak ad h am Fthrown Ftaped Fsize Fplace Fbegin Ftoken Fword Ftold Fwrong Fcode Fat Fway Fnext FisEnd FisFallen Fwritten Fmade Fstate FhandNext FhandSteps FhandWritten FmarkAt Akept AkeptBy Aahead Aagainst Asum AsumBy Aterm AtermBy) H → va_D A (wW_X8_tests ak ad h am Fthrown Ftaped Fsize Fplace Fbegin Ftoken Fword Ftold Fwrong Fcode Fat Fway Fnext FisEnd FisFallen Fwritten Fmade Fstate FhandNext FhandSteps FhandWritten FmarkAt Akept AkeptBy Aahead Aagainst Asum AsumBy Aterm AtermBy) → va_S A s.heap H locs → W p l e R s m args below meth c H locs cells slots Q (F0 m 165 ls []))
    : ∀ (Akept : Nat → Int32) (Aagainst : Nat → Int32) (Asum : Nat → Int32) (AsumBy : Nat → Int32) (AtermBy : Nat → Int32) (l2 : Int32) (H : Heap) (locs : List Loc) (ls : Array Slot), kf_X8_tests_44 AkeptBy Aahead Aterm x0  Φ Akept Aagainst Asum AsumBy AtermBy l2 → va_P D vwCl (wW_X8_tests ak ad h am Fthrown Ftaped Fsize Fplace Fbegin Ftoken Fword Ftold Fwrong Fcode Fat Fway Fnext FisEnd FisFallen Fwritten Fmade Fstate FhandNext FhandSteps FhandWritten FmarkAt Akept AkeptBy Aahead Aagainst Asum AsumBy Aterm AtermBy) H → va_D A (wW_X8_tests ak ad h am Fthrown Ftaped Fsize Fplace Fbegin Ftoken Fword Ftold Fwrong Fcode Fat Fway Fnext FisEnd FisFallen Fwritten Fmade Fstate FhandNext FhandSteps FhandWritten FmarkAt Akept AkeptBy Aahead Aagainst Asum AsumBy Aterm AtermBy) → va_S A s.heap H locs → lv_has ls 3 [(0, .ref h), (1, .int (x0)), (2, .int (l2))] → W p l e R s m args below meth c H locs cells slots Q (F0 m 44 ls ([])) := by
  intro Akept Aagainst Asum AsumBy AtermBy l2 H locs ls hw hP hD hS hl
  delta kf_X8_tests_44 at hw
  refine lv_aload_n hx hb dX8_tests_44 rfl (lv_at hl 0 rfl) ?_
  refine vt_get (D := D) (ci := 7) (v := .ref (am 25)) (C := RX8) (T := TX8) (N := 69) hx hb hts (fun w h => wm_c (wc_X8 w h)) hown hE.1 hP 0 rfl rfl 35 (by decide) tX8_35 (hts (.fieldLink RX8 87 "WornLinesModel" "against" "[I") (wm_c hw_68)) (fun _ h9 => h9) rfl dX8_tests_45 ?_
  refine lv_iload_n hx hb dX8_tests_48 rfl (lv_at hl 1 rfl) ?_
  obtain ⟨h_8, hw⟩ := hw
  refine va_iald hx hb hE.1 hP 4 0 rfl rfl (h_8) dX8_tests_49 ?_
  refine lv_bipush (v := 25) hx hb dX8_tests_50 (by decide) ?_
  refine lv_icmp_ne (tgt := 76) hx hb dX8_tests_52 (by decide) (fun c_9 => ?_) (fun c_9 => ?_)
  · replace hw := hw.1 c_9
    exact kj_X8_tests_76 hx hb hown hts hml hE hT hA hRf hRl hRc h am Fthrown Ftaped Fsize Fplace Fbegin Ftoken Fword Ftold Fwrong Fcode Fat Fway Fnext FisEnd FisFallen Fwritten Fmade Fstate FhandNext FhandSteps FhandWritten FmarkAt AkeptBy Aahead Aterm x0  Φ  kR165 Akept Aagainst Asum AsumBy AtermBy l2 _ _ _ hw hP hD hS (lv_sub hl [0, 1, 2] rfl)
  · replace hw := hw.2 c_9
    refine lv_aload_n hx hb dX8_tests_55 rfl (lv_at hl 0 rfl) ?_
    refine vt_get (D := D) (ci := 7) (v := .ref (am 24)) (C := RX8) (T := TX8) (N := 69) hx hb hts (fun w h => wm_c (wc_X8 w h)) hown hE.1 hP 0 rfl rfl 34 (by decide) tX8_34 (hts (.fieldLink RX8 84 "WornLinesModel" "ahead" "[I") (wm_c hw_74)) (fun _ h9 => h9) rfl dX8_tests_56 ?_
    refine lv_iload_n hx hb dX8_tests_59 rfl (lv_at hl 1 rfl) ?_
    obtain ⟨h_24, hw⟩ := hw
    refine va_iald hx hb hE.1 hP 3 0 rfl rfl (h_24) dX8_tests_60 ?_
    refine lv_aload_n hx hb dX8_tests_61 rfl (lv_at hl 0 rfl) ?_
    refine vt_get (D := D) (ci := 7) (v := .ref (am 26)) (C := RX8) (T := TX8) (N := 69) hx hb hts (fun w h => wm_c (wc_X8 w h)) hown hE.1 hP 0 rfl rfl 36 (by decide) tX8_36 (hts (.fieldLink RX8 90 "WornLinesModel" "sum" "[I") (wm_c hw_69)) (fun _ h9 => h9) rfl dX8_tests_62 ?_
    refine lv_iload_n hx hb dX8_tests_65 rfl (lv_at hl 1 rfl) ?_
    obtain ⟨h_25, hw⟩ := hw
    refine va_iald hx hb hE.1 hP 5 0 rfl rfl (h_25) dX8_tests_66 ?_
    refine lv_icmp_ne (tgt := 74) hx hb dX8_tests_67 (by decide) (fun c_26 => ?_) (fun c_26 => ?_)
    · replace hw := hw.1 c_26
      refine lv_iconst (v := 0) hx hb dX8_tests_74 (by decide) ?_
      refine lv_istore_n (lv' := [(2, .int (0)), (0, .ref h), (1, .int (x0))]) hx hb dX8_tests_75 rfl hl (by decide) rfl (fun ls hl => ?_)
      exact kj_X8_tests_76 hx hb hown hts hml hE hT hA hRf hRl hRc h am Fthrown Ftaped Fsize Fplace Fbegin Ftoken Fword Ftold Fwrong Fcode Fat Fway Fnext FisEnd FisFallen Fwritten Fmade Fstate FhandNext FhandSteps FhandWritten FmarkAt AkeptBy Aahead Aterm x0  Φ  kR165 Akept Aagainst Asum AsumBy AtermBy 0 _ _ _ hw hP hD hS (lv_sub hl [1, 2, 0] rfl)
    · replace hw := hw.2 c_26
      refine lv_iconst (v := 1) hx hb dX8_tests_70 (by decide) ?_
      refine lv_goto (tgt := 75) hx hb dX8_tests_71 (by decide) ?_
      refine lv_istore_n (lv' := [(2, .int (1)), (0, .ref h), (1, .int (x0))]) hx hb dX8_tests_75 rfl hl (by decide) rfl (fun ls hl => ?_)
      exact kj_X8_tests_76 hx hb hown hts hml hE hT hA hRf hRl hRc h am Fthrown Ftaped Fsize Fplace Fbegin Ftoken Fword Ftold Fwrong Fcode Fat Fway Fnext FisEnd FisFallen Fwritten Fmade Fstate FhandNext FhandSteps FhandWritten FmarkAt AkeptBy Aahead Aterm x0  Φ  kR165 Akept Aagainst Asum AsumBy AtermBy 1 _ _ _ hw hP hD hS (lv_sub hl [1, 2, 0] rfl)

def wp_X8_tests (AkeptBy : Nat → Int32) (Aahead : Nat → Int32) (Aterm : Nat → Int32) (x0 : Int32) (Akept : Nat → Int32) (Aagainst : Nat → Int32) (Asum : Nat → Int32) (AsumBy : Nat → Int32) (AtermBy : Nat → Int32) (Φ : (Nat → Int32) → (Nat → Int32) → (Nat → Int32) → (Nat → Int32) → (Nat → Int32) → Prop) : Prop := wp_X8_sums AsumBy Aterm x0 Asum AtermBy (fun Asum_2 AtermBy_3 => vp_in x0 7 ∧ vp_in x0 7 ∧ (¬ (Aagainst (x0).toNatClampNeg) = 24 → kf_X8_tests_44 AkeptBy Aahead Aterm x0  Φ Akept Aagainst Asum_2 AsumBy AtermBy_3 (Asum_2 (x0).toNatClampNeg)) ∧ ((Aagainst (x0).toNatClampNeg) = 24 → vp_in x0 7 ∧ vp_in x0 7 ∧ ((Asum_2 (x0).toNatClampNeg) ≤ (Aahead (x0).toNatClampNeg) → kf_X8_tests_44 AkeptBy Aahead Aterm x0  Φ Akept Aagainst Asum_2 AsumBy AtermBy_3 0) ∧ (¬ (Asum_2 (x0).toNatClampNeg) ≤ (Aahead (x0).toNatClampNeg) → kf_X8_tests_44 AkeptBy Aahead Aterm x0  Φ Akept Aagainst Asum_2 AsumBy AtermBy_3 1)))
set_option maxHeartbeats 4000000 in
set_option maxRecDepth 100000 in
theorem kj_X8_tests_e {p : Program} {l : Launch} {e : Env} {R : Room} {s : State} {m : MethodId} {args : Array Value} {below : List Frame} {meth : Method} {c : Code} {cells slots : Nat} {Q : State → Prop} {A : Nat → Prop} {D : va_G} {ak : Nat → ClassId} {ad : Nat → Nat} (hx : p.tables.exec = Jvm.exec) (hb : c.code = cX8_tests) (hown : s.vm.findClass RX8 = some m.cls) (hts : ∀ w ∈ wsX8_tests, w.before args s = true) (hml : c.maxLocals = 3) (hE : EV D ak s) (hT : ST D ak ad A s s.heap) (hA : ∀ q, s.heap.size ≤ q → A q) (hRf : 1 ≤ R.frames) (hRl : 21 ≤ R.locals) (hRc : cells ≤ R.cells ∧ slots ≤ R.slots) (h : Nat) (am : Nat → Nat) (Fthrown : Int32) (Ftaped : Int32) (Fsize : Int32) (Fplace : Int32) (Fbegin : Int32) (Ftoken : Int32) (Fword : Int64) (Ftold : Int32) (Fwrong : Int32) (Fcode : Int32) (Fat : Int32) (Fway : Int32) (Fnext : Int32) (FisEnd : Int32) (FisFallen : Int32) (Fwritten : Int32) (Fmade : Int32) (Fstate : Int32) (FhandNext : Int32) (FhandSteps : Int32) (FhandWritten : Int32) (FmarkAt : Int32) (AkeptBy : Nat → Int32) (Aahead : Nat → Int32) (Aterm : Nat → Int32) (x0 : Int32)  (Φ : (Nat → Int32) → (Nat → Int32) → (Nat → Int32) → (Nat → Int32) → (Nat → Int32) → Prop)
    (kR165 : ∀ (Akept : Nat → Int32) (Aagainst : Nat → Int32) (Asum : Nat → Int32) (AsumBy : Nat → Int32) (AtermBy : Nat → Int32) (H : Heap) (locs : List Loc) (ls : Array Slot), Φ Akept Aagainst Asum AsumBy AtermBy → va_P D vwCl (wW_X8_tests ak ad h am Fthrown Ftaped Fsize Fplace Fbegin Ftoken Fword Ftold Fwrong Fcode Fat Fway Fnext FisEnd FisFallen Fwritten Fmade Fstate FhandNext FhandSteps FhandWritten FmarkAt Akept AkeptBy Aahead Aagainst Asum AsumBy Aterm AtermBy) H → va_D A (wW_X8_tests ak ad h am Fthrown Ftaped Fsize Fplace Fbegin Ftoken Fword Ftold Fwrong Fcode Fat Fway Fnext FisEnd FisFallen Fwritten Fmade Fstate FhandNext FhandSteps FhandWritten FmarkAt Akept AkeptBy Aahead Aagainst Asum AsumBy Aterm AtermBy) → va_S A s.heap H locs → W p l e R s m args below meth c H locs cells slots Q (F0 m 165 ls []))
    : ∀ (Akept : Nat → Int32) (Aagainst : Nat → Int32) (Asum : Nat → Int32) (AsumBy : Nat → Int32) (AtermBy : Nat → Int32) (H : Heap) (locs : List Loc) (ls : Array Slot), wp_X8_tests AkeptBy Aahead Aterm x0 Akept Aagainst Asum AsumBy AtermBy Φ → va_P D vwCl (wW_X8_tests ak ad h am Fthrown Ftaped Fsize Fplace Fbegin Ftoken Fword Ftold Fwrong Fcode Fat Fway Fnext FisEnd FisFallen Fwritten Fmade Fstate FhandNext FhandSteps FhandWritten FmarkAt Akept AkeptBy Aahead Aagainst Asum AsumBy Aterm AtermBy) H → va_D A (wW_X8_tests ak ad h am Fthrown Ftaped Fsize Fplace Fbegin Ftoken Fword Ftold Fwrong Fcode Fat Fway Fnext FisEnd FisFallen Fwritten Fmade Fstate FhandNext FhandSteps FhandWritten FmarkAt Akept AkeptBy Aahead Aagainst Asum AsumBy Aterm AtermBy) → va_S A s.heap H locs → lv_has ls 3 [(0, .ref h), (1, .int (x0))] → W p l e R s m args below meth c H locs cells slots Q (F0 m 0 ls ([])) := by
  intro Akept Aagainst Asum AsumBy AtermBy H locs ls hw hP hD hS hl
  delta wp_X8_tests at hw
  refine lv_aload_n hx hb dX8_tests_0 rfl (lv_at hl 0 rfl) ?_
  refine lv_iload_n hx hb dX8_tests_1 rfl (lv_at hl 1 rfl) ?_
  refine kc_v (wc := (wW_X8_sums ak ad h am Fthrown Ftaped Fsize Fplace Fbegin Ftoken Fword Ftold Fwrong Fcode Fat Fway Fnext FisEnd FisFallen Fwritten Fmade Fstate FhandNext FhandSteps FhandWritten FmarkAt Asum AsumBy Aterm AtermBy)) (wr := [((am 22), .inl (ak 0, 7, .inl (Akept))), ((am 23), .inl (ak 0, 7, .inl (AkeptBy))), ((am 24), .inl (ak 0, 7, .inl (Aahead))), ((am 25), .inl (ak 0, 7, .inl (Aagainst)))]) hP hD hS hA [0, 5, 6, 7, 8] [1, 2, 3, 4] rfl rfl (by decide) (by decide) (va_runV (As := [.int (x0)]) (rest := []) ⟨hx, hb, hml, hown, hts⟩ (c_X8_sums l D ak ad _ h am Fthrown Ftaped Fsize Fplace Fbegin Ftoken Fword Ftold Fwrong Fcode Fat Fway Fnext FisEnd FisFallen Fwritten Fmade Fstate FhandNext FhandSteps FhandWritten FmarkAt Asum AsumBy Aterm AtermBy x0 _ hw) (cwV 1 hts gX8_tests_X8_sums rfl rfl rfl hv_X8_sums ⟨(Nat.le_trans (Nat.le_of_ble_eq_true rfl) hRf), (Nat.le_trans (Nat.le_of_ble_eq_true rfl) hRl)⟩) (kc_preV (As := [.int (x0)]) (wc := (wW_X8_sums ak ad h am Fthrown Ftaped Fsize Fplace Fbegin Ftoken Fword Ftold Fwrong Fcode Fat Fway Fnext FisEnd FisFallen Fwritten Fmade Fstate FhandNext FhandSteps FhandWritten FmarkAt Asum AsumBy Aterm AtermBy)) hE hT hP hD hS hA [0, 5, 6, 7, 8] (by decide) rfl rfl 0 7 rfl rfl rfl) rfl rfl hl.1 rfl (lv_room (Nat.le_of_ble_eq_true rfl)) dX8_tests_2 ⟨hRc.1, hRc.2⟩) (fun u_1 H locs hw hP hD hS => ?_)
  obtain ⟨Asum_2, AtermBy_3⟩ := u_1
  try dsimp -zeta only at hw
  have hP : va_P D vwCl (wW_X8_tests ak ad h am Fthrown Ftaped Fsize Fplace Fbegin Ftoken Fword Ftold Fwrong Fcode Fat Fway Fnext FisEnd FisFallen Fwritten Fmade Fstate FhandNext FhandSteps FhandWritten FmarkAt Akept AkeptBy Aahead Aagainst Asum_2 AsumBy Aterm AtermBy_3) H := hP.sub [4, 0, 1, 2, 3, 5, 6, 7, 8] rfl
  have hD : va_D A (wW_X8_tests ak ad h am Fthrown Ftaped Fsize Fplace Fbegin Ftoken Fword Ftold Fwrong Fcode Fat Fway Fnext FisEnd FisFallen Fwritten Fmade Fstate FhandNext FhandSteps FhandWritten FmarkAt Akept AkeptBy Aahead Aagainst Asum_2 AsumBy Aterm AtermBy_3) := hD.sub [4, 0, 1, 2, 3, 5, 6, 7, 8] (by decide) rfl
  refine lv_aload_n hx hb dX8_tests_5 rfl (lv_at hl 0 rfl) ?_
  refine vt_get (D := D) (ci := 7) (v := .ref (am 26)) (C := RX8) (T := TX8) (N := 69) hx hb hts (fun w h => wm_c (wc_X8 w h)) hown hE.1 hP 0 rfl rfl 36 (by decide) tX8_36 (hts (.fieldLink RX8 90 "WornLinesModel" "sum" "[I") (wm_c hw_69)) (fun _ h9 => h9) rfl dX8_tests_6 ?_
  refine lv_iload_n hx hb dX8_tests_9 rfl (lv_at hl 1 rfl) ?_
  obtain ⟨h_5, hw⟩ := hw
  refine va_iald hx hb hE.1 hP 5 0 rfl rfl (h_5) dX8_tests_10 ?_
  refine lv_istore_n (lv' := [(2, .int (Asum_2 (x0).toNatClampNeg)), (0, .ref h), (1, .int (x0))]) hx hb dX8_tests_11 rfl hl (by decide) rfl (fun ls hl => ?_)
  refine lv_aload_n hx hb dX8_tests_12 rfl (lv_at hl 1 rfl) ?_
  refine vt_get (D := D) (ci := 7) (v := .ref (am 25)) (C := RX8) (T := TX8) (N := 69) hx hb hts (fun w h => wm_c (wc_X8 w h)) hown hE.1 hP 0 rfl rfl 35 (by decide) tX8_35 (hts (.fieldLink RX8 87 "WornLinesModel" "against" "[I") (wm_c hw_68)) (fun _ h9 => h9) rfl dX8_tests_13 ?_
  refine lv_iload_n hx hb dX8_tests_16 rfl (lv_at hl 2 rfl) ?_
  obtain ⟨h_6, hw⟩ := hw
  refine va_iald hx hb hE.1 hP 4 0 rfl rfl (h_6) dX8_tests_17 ?_
  refine lv_bipush (v := 24) hx hb dX8_tests_18 (by decide) ?_
  refine lv_icmp_ne (tgt := 44) hx hb dX8_tests_20 (by decide) (fun c_7 => ?_) (fun c_7 => ?_)
  · replace hw := hw.1 c_7
    exact kj_X8_tests_44 hx hb hown hts hml hE hT hA hRf hRl hRc h am Fthrown Ftaped Fsize Fplace Fbegin Ftoken Fword Ftold Fwrong Fcode Fat Fway Fnext FisEnd FisFallen Fwritten Fmade Fstate FhandNext FhandSteps FhandWritten FmarkAt AkeptBy Aahead Aterm x0  Φ  kR165 Akept Aagainst Asum_2 AsumBy AtermBy_3 (Asum_2 (x0).toNatClampNeg) _ _ _ hw hP hD hS (lv_sub hl [1, 2, 0] rfl)
  · replace hw := hw.2 c_7
    refine lv_aload_n hx hb dX8_tests_23 rfl (lv_at hl 1 rfl) ?_
    refine vt_get (D := D) (ci := 7) (v := .ref (am 24)) (C := RX8) (T := TX8) (N := 69) hx hb hts (fun w h => wm_c (wc_X8 w h)) hown hE.1 hP 0 rfl rfl 34 (by decide) tX8_34 (hts (.fieldLink RX8 84 "WornLinesModel" "ahead" "[I") (wm_c hw_74)) (fun _ h9 => h9) rfl dX8_tests_24 ?_
    refine lv_iload_n hx hb dX8_tests_27 rfl (lv_at hl 2 rfl) ?_
    obtain ⟨h_27, hw⟩ := hw
    refine va_iald hx hb hE.1 hP 3 0 rfl rfl (h_27) dX8_tests_28 ?_
    refine lv_aload_n hx hb dX8_tests_29 rfl (lv_at hl 1 rfl) ?_
    refine vt_get (D := D) (ci := 7) (v := .ref (am 26)) (C := RX8) (T := TX8) (N := 69) hx hb hts (fun w h => wm_c (wc_X8 w h)) hown hE.1 hP 0 rfl rfl 36 (by decide) tX8_36 (hts (.fieldLink RX8 90 "WornLinesModel" "sum" "[I") (wm_c hw_69)) (fun _ h9 => h9) rfl dX8_tests_30 ?_
    refine lv_iload_n hx hb dX8_tests_33 rfl (lv_at hl 2 rfl) ?_
    obtain ⟨h_28, hw⟩ := hw
    refine va_iald hx hb hE.1 hP 5 0 rfl rfl (h_28) dX8_tests_34 ?_
    refine lv_icmp_ge (tgt := 42) hx hb dX8_tests_35 (by decide) (fun c_29 => ?_) (fun c_29 => ?_)
    · replace hw := hw.1 c_29
      refine lv_iconst (v := 0) hx hb dX8_tests_42 (by decide) ?_
      refine lv_istore_n (lv' := [(2, .int (0)), (0, .ref h), (1, .int (x0))]) hx hb dX8_tests_43 rfl hl (by decide) rfl (fun ls hl => ?_)
      exact kj_X8_tests_44 hx hb hown hts hml hE hT hA hRf hRl hRc h am Fthrown Ftaped Fsize Fplace Fbegin Ftoken Fword Ftold Fwrong Fcode Fat Fway Fnext FisEnd FisFallen Fwritten Fmade Fstate FhandNext FhandSteps FhandWritten FmarkAt AkeptBy Aahead Aterm x0  Φ  kR165 Akept Aagainst Asum_2 AsumBy AtermBy_3 0 _ _ _ hw hP hD hS (lv_sub hl [1, 2, 0] rfl)
    · replace hw := hw.2 c_29
      refine lv_iconst (v := 1) hx hb dX8_tests_38 (by decide) ?_
      refine lv_goto (tgt := 43) hx hb dX8_tests_39 (by decide) ?_
      refine lv_istore_n (lv' := [(2, .int (1)), (0, .ref h), (1, .int (x0))]) hx hb dX8_tests_43 rfl hl (by decide) rfl (fun ls hl => ?_)
      exact kj_X8_tests_44 hx hb hown hts hml hE hT hA hRf hRl hRc h am Fthrown Ftaped Fsize Fplace Fbegin Ftoken Fword Ftold Fwrong Fcode Fat Fway Fnext FisEnd FisFallen Fwritten Fmade Fstate FhandNext FhandSteps FhandWritten FmarkAt AkeptBy Aahead Aterm x0  Φ  kR165 Akept Aagainst Asum_2 AsumBy AtermBy_3 1 _ _ _ hw hP hD hS (lv_sub hl [1, 2, 0] rfl)
set_option maxHeartbeats 4000000 in
set_option maxRecDepth 100000 in
theorem c_X8_tests (l : Launch) (D : va_G) (ak : Nat → ClassId) (ad : Nat → Nat) (sz : Nat) (h : Nat) (am : Nat → Nat) (Fthrown : Int32) (Ftaped : Int32) (Fsize : Int32) (Fplace : Int32) (Fbegin : Int32) (Ftoken : Int32) (Fword : Int64) (Ftold : Int32) (Fwrong : Int32) (Fcode : Int32) (Fat : Int32) (Fway : Int32) (Fnext : Int32) (FisEnd : Int32) (FisFallen : Int32) (Fwritten : Int32) (Fmade : Int32) (Fstate : Int32) (FhandNext : Int32) (FhandSteps : Int32) (FhandWritten : Int32) (FmarkAt : Int32) (Akept : Nat → Int32) (AkeptBy : Nat → Int32) (Aahead : Nat → Int32) (Aagainst : Nat → Int32) (Asum : Nat → Int32) (AsumBy : Nat → Int32) (Aterm : Nat → Int32) (AtermBy : Nat → Int32) (x0 : Int32) (Φ : (Nat → Int32) → (Nat → Int32) → (Nat → Int32) → (Nat → Int32) → (Nat → Int32) → Prop) (hf : wp_X8_tests AkeptBy Aahead Aterm x0 Akept Aagainst Asum AsumBy AtermBy Φ) : Met l yX8_tests wsX8_tests ({ frames := 1, cells := 0, slots := 0, locals := 21 }) (cPre D ak ad [.ref h, .int (x0)] ((wW_X8_tests ak ad h am Fthrown Ftaped Fsize Fplace Fbegin Ftoken Fword Ftold Fwrong Fcode Fat Fway Fnext FisEnd FisFallen Fwritten Fmade Fstate FhandNext FhandSteps FhandWritten FmarkAt Akept AkeptBy Aahead Aagainst Asum AsumBy Aterm AtermBy)) sz) (cV D (S := (Nat → Int32) × (Nat → Int32) × (Nat → Int32) × (Nat → Int32) × (Nat → Int32)) (fun (u : (Nat → Int32) × (Nat → Int32) × (Nat → Int32) × (Nat → Int32) × (Nat → Int32)) => Φ u.1 u.2.1 u.2.2.1 u.2.2.2.1 u.2.2.2.2) (fun u => (wW_X8_tests ak ad h am Fthrown Ftaped Fsize Fplace Fbegin Ftoken Fword Ftold Fwrong Fcode Fat Fway Fnext FisEnd FisFallen Fwritten Fmade Fstate FhandNext FhandSteps FhandWritten FmarkAt u.1 AkeptBy Aahead u.2.1 u.2.2.1 u.2.2.2.1 Aterm u.2.2.2.2)) ((wW_X8_tests ak ad h am Fthrown Ftaped Fsize Fplace Fbegin Ftoken Fword Ftold Fwrong Fcode Fat Fway Fnext FisEnd FisFallen Fwritten Fmade Fstate FhandNext FhandSteps FhandWritten FmarkAt Akept AkeptBy Aahead Aagainst Asum AsumBy Aterm AtermBy)) sz) 0 0 (va_A ((wW_X8_tests ak ad h am Fthrown Ftaped Fsize Fplace Fbegin Ftoken Fword Ftold Fwrong Fcode Fat Fway Fnext FisEnd FisFallen Fwritten Fmade Fstate FhandNext FhandSteps FhandWritten FmarkAt Akept AkeptBy Aahead Aagainst Asum AsumBy Aterm AtermBy)) sz) := by
  refine Met.ofW (cc := cX8_tests) (maxL := 3) (ret := none) (by decide) rfl ?_
  intro p e s m args below meth c s₁ B hml hv
  obtain ⟨rfl, hsz, hP, hE, hD0, hT⟩ := hv
  have hx := B.exec
  have hb := B.bytes
  have hr := B.returns
  have hts := atoms_spec (ws := wsX8_tests) B.pre
  have hown : s.vm.findClass RX8 = some m.cls := findClass_of_methodNamed B.named
  have hlocks := B.notSynchronized
  subst hsz
  have hD := hD0.self (sz := s.heap.size)
  generalize hAe : va_A ((wW_X8_tests ak ad h am Fthrown Ftaped Fsize Fplace Fbegin Ftoken Fword Ftold Fwrong Fcode Fat Fway Fnext FisEnd FisFallen Fwritten Fmade Fstate FhandNext FhandSteps FhandWritten FmarkAt Akept AkeptBy Aahead Aagainst Asum AsumBy Aterm AtermBy)) s.heap.size = A at hD hT ⊢
  have hA : ∀ q : Nat, s.heap.size ≤ q → A q := fun q h => by rw [← hAe]; exact Or.inr h
  have hS : va_S A s.heap s.heap [] := va_S.rf
  have hl := lv_entry ([.ref h, .int (x0)]) (n := 3) (Nat.le_of_ble_eq_true rfl)
  rw [lg_entry_eq]
  generalize (lg_sl ([.ref h, .int (x0)]) ++ List.replicate (3 - (lg_sl ([.ref h, .int (x0)])).length) Slot.unset).toArray = ls at hl ⊢
  have hl : lv_has ls 3 [(0, .ref h), (1, .int (x0))] := hl
  exact kj_X8_tests_e hx hb hown hts hml hE hT hA (Nat.le_of_ble_eq_true rfl) (Nat.le_of_ble_eq_true rfl) ⟨Nat.le_of_ble_eq_true rfl, Nat.le_of_ble_eq_true rfl⟩ h am Fthrown Ftaped Fsize Fplace Fbegin Ftoken Fword Ftold Fwrong Fcode Fat Fway Fnext FisEnd FisFallen Fwritten Fmade Fstate FhandNext FhandSteps FhandWritten FmarkAt AkeptBy Aahead Aterm x0 Φ (fun Akept Aagainst Asum AsumBy AtermBy H locs ls hw hP hD hS => W.vret hx hb hr (fun t ht hW => ⟨⟨(Akept, Aagainst, Asum, AsumBy, AtermBy), rfl, hw, by rw [ht]; exact hP, by rw [hAe]; exact hD⟩, by rw [hAe]; exact hS.F ht⟩) hS.2.2 dX8_tests_165) Akept Aagainst Asum AsumBy AtermBy _ _ _ hf hP hD hS hl

def wW_X8_lineOf (ak : Nat → ClassId) (ad : Nat → Nat) (h : Nat) (am : Nat → Nat) (Fthrown : Int32) (Ftaped : Int32) (Fsize : Int32) (Fplace : Int32) (Fbegin : Int32) (Ftoken : Int32) (Fword : Int64) (Ftold : Int32) (Fwrong : Int32) (Fcode : Int32) (Fat : Int32) (Fway : Int32) (Fnext : Int32) (FisEnd : Int32) (FisFallen : Int32) (Fwritten : Int32) (Fmade : Int32) (Fstate : Int32) (FhandNext : Int32) (FhandSteps : Int32) (FhandWritten : Int32) (FmarkAt : Int32) (Alines : Nat → Int32) : va_W := [(h, .inr (7, mob am (Fthrown) (Ftaped) (Fsize) (Fplace) (Fbegin) (Ftoken) (Fword) (Ftold) (Fwrong) (Fcode) (Fat) (Fway) (Fnext) (FisEnd) (FisFallen) (Fwritten) (Fmade) (Fstate) (FhandNext) (FhandSteps) (FhandWritten) (FmarkAt))), ((am 4), .inl (ak 0, 6, .inl (Alines)))]
def wp_X8_lineOf (Fat : Int32) (Alines : Nat → Int32) (x0 : Int32)  (Φ : Int32 → Prop) : Prop := vp_in Fat 6 ∧ ¬ (Alines (Fat).toNatClampNeg) = 0 ∧ (0 ≤ (x0 - x0 / (Alines (Fat).toNatClampNeg) * (Alines (Fat).toNatClampNeg)) → Φ (x0 - x0 / (Alines (Fat).toNatClampNeg) * (Alines (Fat).toNatClampNeg)) ) ∧ (¬ 0 ≤ (x0 - x0 / (Alines (Fat).toNatClampNeg) * (Alines (Fat).toNatClampNeg)) → Φ ((x0 - x0 / (Alines (Fat).toNatClampNeg) * (Alines (Fat).toNatClampNeg)) + (Alines (Fat).toNatClampNeg)) )
set_option maxHeartbeats 4000000 in
set_option maxRecDepth 100000 in
theorem kj_X8_lineOf_e {p : Program} {l : Launch} {e : Env} {R : Room} {s : State} {m : MethodId} {args : Array Value} {below : List Frame} {meth : Method} {c : Code} {cells slots : Nat} {Q : State → Prop} {A : Nat → Prop} {D : va_G} {ak : Nat → ClassId} {ad : Nat → Nat} (hx : p.tables.exec = Jvm.exec) (hb : c.code = cX8_lineOf) (hown : s.vm.findClass RX8 = some m.cls) (hts : ∀ w ∈ wsX8_lineOf, w.before args s = true) (hml : c.maxLocals = 4) (hE : EV D ak s) (hT : ST D ak ad A s s.heap) (hA : ∀ q, s.heap.size ≤ q → A q) (h : Nat) (am : Nat → Nat) (Fthrown : Int32) (Ftaped : Int32) (Fsize : Int32) (Fplace : Int32) (Fbegin : Int32) (Ftoken : Int32) (Fword : Int64) (Ftold : Int32) (Fwrong : Int32) (Fcode : Int32) (Fat : Int32) (Fway : Int32) (Fnext : Int32) (FisEnd : Int32) (FisFallen : Int32) (Fwritten : Int32) (Fmade : Int32) (Fstate : Int32) (FhandNext : Int32) (FhandSteps : Int32) (FhandWritten : Int32) (FmarkAt : Int32) (Alines : Nat → Int32) (x0 : Int32)  (Φ : Int32 → Prop)
    (kR25 : ∀ (r : Int32)  (H : Heap) (locs : List Loc) (ls : Array Slot), Φ r  → va_P D vwCl (wW_X8_lineOf ak ad h am Fthrown Ftaped Fsize Fplace Fbegin Ftoken Fword Ftold Fwrong Fcode Fat Fway Fnext FisEnd FisFallen Fwritten Fmade Fstate FhandNext FhandSteps FhandWritten FmarkAt Alines) H → va_D A (wW_X8_lineOf ak ad h am Fthrown Ftaped Fsize Fplace Fbegin Ftoken Fword Ftold Fwrong Fcode Fat Fway Fnext FisEnd FisFallen Fwritten Fmade Fstate FhandNext FhandSteps FhandWritten FmarkAt Alines) → va_S A s.heap H locs → W p l e R s m args below meth c H locs cells slots Q (F0 m 25 ls [.int r]))
    : ∀  (H : Heap) (locs : List Loc) (ls : Array Slot), wp_X8_lineOf Fat Alines x0  Φ → va_P D vwCl (wW_X8_lineOf ak ad h am Fthrown Ftaped Fsize Fplace Fbegin Ftoken Fword Ftold Fwrong Fcode Fat Fway Fnext FisEnd FisFallen Fwritten Fmade Fstate FhandNext FhandSteps FhandWritten FmarkAt Alines) H → va_D A (wW_X8_lineOf ak ad h am Fthrown Ftaped Fsize Fplace Fbegin Ftoken Fword Ftold Fwrong Fcode Fat Fway Fnext FisEnd FisFallen Fwritten Fmade Fstate FhandNext FhandSteps FhandWritten FmarkAt Alines) → va_S A s.heap H locs → lv_has ls 4 [(0, .ref h), (1, .int (x0))] → W p l e R s m args below meth c H locs cells slots Q (F0 m 0 ls ([])) := by
  intro  H locs ls hw hP hD hS hl
  delta wp_X8_lineOf at hw
  refine lv_aload_n hx hb dX8_lineOf_0 rfl (lv_at hl 0 rfl) ?_
  refine vt_get (D := D) (ci := 7) (v := .ref (am 4)) (C := RX8) (T := TX8) (N := 69) hx hb hts (fun w h => wm_c (wc_X8 w h)) hown hE.1 hP 0 rfl rfl 13 (by decide) tX8_13 (hts (.fieldLink RX8 22 "WornLinesModel" "lines" "[I") (wm_c hw_75)) (fun _ h9 => h9) rfl dX8_lineOf_1 ?_
  refine lv_aload_n hx hb dX8_lineOf_4 rfl (lv_at hl 0 rfl) ?_
  refine vt_get (D := D) (ci := 7) (v := .int (Fat)) (C := RX8) (T := TX8) (N := 69) hx hb hts (fun w h => wm_c (wc_X8 w h)) hown hE.1 hP 0 rfl rfl 42 (by decide) tX8_42 (hts (.fieldLink RX8 352 "WornLinesModel" "at" "I") (wm_c hw_76)) (fun _ h9 => h9) rfl dX8_lineOf_5 ?_
  obtain ⟨h_1, hw⟩ := hw
  refine va_iald hx hb hE.1 hP 1 0 rfl rfl (h_1) dX8_lineOf_8 ?_
  refine lv_istore_n (lv' := [(2, .int (Alines (Fat).toNatClampNeg)), (0, .ref h), (1, .int (x0))]) hx hb dX8_lineOf_9 rfl hl (by decide) rfl (fun ls hl => ?_)
  refine lv_iload_n hx hb dX8_lineOf_10 rfl (lv_at hl 2 rfl) ?_
  refine lv_iload_n hx hb dX8_lineOf_11 rfl (lv_at hl 0 rfl) ?_
  obtain ⟨h_2, hw⟩ := hw
  refine lv_irem hx hb dX8_lineOf_12 (h_2) ?_
  refine lv_istore_n (lv' := [(3, .int (x0 - x0 / (Alines (Fat).toNatClampNeg) * (Alines (Fat).toNatClampNeg))), (2, .int (Alines (Fat).toNatClampNeg)), (0, .ref h), (1, .int (x0))]) hx hb dX8_lineOf_13 rfl hl (by decide) rfl (fun ls hl => ?_)
  refine lv_iload_n hx hb dX8_lineOf_14 rfl (lv_at hl 0 rfl) ?_
  refine lv_if_ge (tgt := 24) hx hb dX8_lineOf_15 (by decide) (fun c_3 => ?_) (fun c_3 => ?_)
  · replace hw := hw.1 c_3
    refine lv_iload_n hx hb dX8_lineOf_24 rfl (lv_at hl 0 rfl) ?_
    exact kR25 (x0 - x0 / (Alines (Fat).toNatClampNeg) * (Alines (Fat).toNatClampNeg))  _ _ _ hw hP hD hS
  · replace hw := hw.2 c_3
    refine lv_iload_n hx hb dX8_lineOf_18 rfl (lv_at hl 0 rfl) ?_
    refine lv_iload_n hx hb dX8_lineOf_19 rfl (lv_at hl 1 rfl) ?_
    refine lv_iadd hx hb dX8_lineOf_20 ?_
    refine lv_goto (tgt := 25) hx hb dX8_lineOf_21 (by decide) ?_
    exact kR25 ((x0 - x0 / (Alines (Fat).toNatClampNeg) * (Alines (Fat).toNatClampNeg)) + (Alines (Fat).toNatClampNeg))  _ _ _ hw hP hD hS
set_option maxHeartbeats 4000000 in
set_option maxRecDepth 100000 in
theorem c_X8_lineOf (l : Launch) (D : va_G) (ak : Nat → ClassId) (ad : Nat → Nat) (sz : Nat) (h : Nat) (am : Nat → Nat) (Fthrown : Int32) (Ftaped : Int32) (Fsize : Int32) (Fplace : Int32) (Fbegin : Int32) (Ftoken : Int32) (Fword : Int64) (Ftold : Int32) (Fwrong : Int32) (Fcode : Int32) (Fat : Int32) (Fway : Int32) (Fnext : Int32) (FisEnd : Int32) (FisFallen : Int32) (Fwritten : Int32) (Fmade : Int32) (Fstate : Int32) (FhandNext : Int32) (FhandSteps : Int32) (FhandWritten : Int32) (FmarkAt : Int32) (Alines : Nat → Int32) (x0 : Int32) (Φ : Int32 → Prop) (hf : wp_X8_lineOf Fat Alines x0 Φ) : Met l yX8_lineOf wsX8_lineOf ({ frames := 0, cells := 0, slots := 0, locals := 0 }) (cPre D ak ad [.ref h, .int (x0)] ((wW_X8_lineOf ak ad h am Fthrown Ftaped Fsize Fplace Fbegin Ftoken Fword Ftold Fwrong Fcode Fat Fway Fnext FisEnd FisFallen Fwritten Fmade Fstate FhandNext FhandSteps FhandWritten FmarkAt Alines)) sz) (cI D (S := Unit) (fun (r : Int32) (u : Unit) => Φ r ) (fun u => (wW_X8_lineOf ak ad h am Fthrown Ftaped Fsize Fplace Fbegin Ftoken Fword Ftold Fwrong Fcode Fat Fway Fnext FisEnd FisFallen Fwritten Fmade Fstate FhandNext FhandSteps FhandWritten FmarkAt Alines)) ((wW_X8_lineOf ak ad h am Fthrown Ftaped Fsize Fplace Fbegin Ftoken Fword Ftold Fwrong Fcode Fat Fway Fnext FisEnd FisFallen Fwritten Fmade Fstate FhandNext FhandSteps FhandWritten FmarkAt Alines)) sz) 0 0 (va_A ((wW_X8_lineOf ak ad h am Fthrown Ftaped Fsize Fplace Fbegin Ftoken Fword Ftold Fwrong Fcode Fat Fway Fnext FisEnd FisFallen Fwritten Fmade Fstate FhandNext FhandSteps FhandWritten FmarkAt Alines)) sz) := by
  refine Met.ofW (cc := cX8_lineOf) (maxL := 4) (ret := (some .int)) (by decide) rfl ?_
  intro p e s m args below meth c s₁ B hml hv
  obtain ⟨rfl, hsz, hP, hE, hD0, hT⟩ := hv
  have hx := B.exec
  have hb := B.bytes
  have hr := B.returns
  have hts := atoms_spec (ws := wsX8_lineOf) B.pre
  have hown : s.vm.findClass RX8 = some m.cls := findClass_of_methodNamed B.named
  have hlocks := B.notSynchronized
  subst hsz
  have hD := hD0.self (sz := s.heap.size)
  generalize hAe : va_A ((wW_X8_lineOf ak ad h am Fthrown Ftaped Fsize Fplace Fbegin Ftoken Fword Ftold Fwrong Fcode Fat Fway Fnext FisEnd FisFallen Fwritten Fmade Fstate FhandNext FhandSteps FhandWritten FmarkAt Alines)) s.heap.size = A at hD hT ⊢
  have hA : ∀ q : Nat, s.heap.size ≤ q → A q := fun q h => by rw [← hAe]; exact Or.inr h
  have hS : va_S A s.heap s.heap [] := va_S.rf
  have hl := lv_entry ([.ref h, .int (x0)]) (n := 4) (Nat.le_of_ble_eq_true rfl)
  rw [lg_entry_eq]
  generalize (lg_sl ([.ref h, .int (x0)]) ++ List.replicate (4 - (lg_sl ([.ref h, .int (x0)])).length) Slot.unset).toArray = ls at hl ⊢
  have hl : lv_has ls 4 [(0, .ref h), (1, .int (x0))] := hl
  exact kj_X8_lineOf_e hx hb hown hts hml hE hT hA h am Fthrown Ftaped Fsize Fplace Fbegin Ftoken Fword Ftold Fwrong Fcode Fat Fway Fnext FisEnd FisFallen Fwritten Fmade Fstate FhandNext FhandSteps FhandWritten FmarkAt Alines x0 Φ (fun r  H locs ls hw hP hD hS => W.iret (v := r) hx hb hr (fun t ht hW => ⟨⟨r, (), rfl, hw, by rw [ht]; exact hP, by rw [hAe]; exact hD⟩, by rw [hAe]; exact hS.F ht⟩) hS.2.2 dX8_lineOf_25)  _ _ _ hf hP hD hS hl

def wW_X8_wornness (ak : Nat → ClassId) (ad : Nat → Nat) (h : Nat) (am : Nat → Nat) (Fthrown : Int32) (Ftaped : Int32) (Fsize : Int32) (Fplace : Int32) (Fbegin : Int32) (Ftoken : Int32) (Fword : Int64) (Ftold : Int32) (Fwrong : Int32) (Fcode : Int32) (Fat : Int32) (Fway : Int32) (Fnext : Int32) (FisEnd : Int32) (FisFallen : Int32) (Fwritten : Int32) (Fmade : Int32) (Fstate : Int32) (FhandNext : Int32) (FhandSteps : Int32) (FhandWritten : Int32) (FmarkAt : Int32) (Alines : Nat → Int32) (Awear : Nat → Int32) : va_W := [(h, .inr (7, mob am (Fthrown) (Ftaped) (Fsize) (Fplace) (Fbegin) (Ftoken) (Fword) (Ftold) (Fwrong) (Fcode) (Fat) (Fway) (Fnext) (FisEnd) (FisFallen) (Fwritten) (Fmade) (Fstate) (FhandNext) (FhandSteps) (FhandWritten) (FmarkAt))), ((am 4), .inl (ak 0, 6, .inl (Alines))), ((am 33), .inl (ak 0, 16, .inl (Awear)))]
def wp_X8_wornness (Fat : Int32) (Fway : Int32) (Alines : Nat → Int32) (Awear : Nat → Int32) (x0 : Int32)  (Φ : Int32 → Prop) : Prop := (¬ Fway = 2 → wp_X8_lineOf Fat Alines x0 (fun r_3 => vp_in r_3 16 ∧ Φ (Awear (r_3).toNatClampNeg) )) ∧ (Fway = 2 → Φ 0 )
set_option maxHeartbeats 4000000 in
set_option maxRecDepth 100000 in
theorem kj_X8_wornness_e {p : Program} {l : Launch} {e : Env} {R : Room} {s : State} {m : MethodId} {args : Array Value} {below : List Frame} {meth : Method} {c : Code} {cells slots : Nat} {Q : State → Prop} {A : Nat → Prop} {D : va_G} {ak : Nat → ClassId} {ad : Nat → Nat} (hx : p.tables.exec = Jvm.exec) (hb : c.code = cX8_wornness) (hown : s.vm.findClass RX8 = some m.cls) (hts : ∀ w ∈ wsX8_wornness, w.before args s = true) (hml : c.maxLocals = 2) (hE : EV D ak s) (hT : ST D ak ad A s s.heap) (hA : ∀ q, s.heap.size ≤ q → A q) (hRf : 1 ≤ R.frames) (hRl : 23 ≤ R.locals) (hRc : cells ≤ R.cells ∧ slots ≤ R.slots) (h : Nat) (am : Nat → Nat) (Fthrown : Int32) (Ftaped : Int32) (Fsize : Int32) (Fplace : Int32) (Fbegin : Int32) (Ftoken : Int32) (Fword : Int64) (Ftold : Int32) (Fwrong : Int32) (Fcode : Int32) (Fat : Int32) (Fway : Int32) (Fnext : Int32) (FisEnd : Int32) (FisFallen : Int32) (Fwritten : Int32) (Fmade : Int32) (Fstate : Int32) (FhandNext : Int32) (FhandSteps : Int32) (FhandWritten : Int32) (FmarkAt : Int32) (Alines : Nat → Int32) (Awear : Nat → Int32) (x0 : Int32)  (Φ : Int32 → Prop)
    (kR22 : ∀ (r : Int32)  (H : Heap) (locs : List Loc) (ls : Array Slot), Φ r  → va_P D vwCl (wW_X8_wornness ak ad h am Fthrown Ftaped Fsize Fplace Fbegin Ftoken Fword Ftold Fwrong Fcode Fat Fway Fnext FisEnd FisFallen Fwritten Fmade Fstate FhandNext FhandSteps FhandWritten FmarkAt Alines Awear) H → va_D A (wW_X8_wornness ak ad h am Fthrown Ftaped Fsize Fplace Fbegin Ftoken Fword Ftold Fwrong Fcode Fat Fway Fnext FisEnd FisFallen Fwritten Fmade Fstate FhandNext FhandSteps FhandWritten FmarkAt Alines Awear) → va_S A s.heap H locs → W p l e R s m args below meth c H locs cells slots Q (F0 m 22 ls [.int r]))
    : ∀  (H : Heap) (locs : List Loc) (ls : Array Slot), wp_X8_wornness Fat Fway Alines Awear x0  Φ → va_P D vwCl (wW_X8_wornness ak ad h am Fthrown Ftaped Fsize Fplace Fbegin Ftoken Fword Ftold Fwrong Fcode Fat Fway Fnext FisEnd FisFallen Fwritten Fmade Fstate FhandNext FhandSteps FhandWritten FmarkAt Alines Awear) H → va_D A (wW_X8_wornness ak ad h am Fthrown Ftaped Fsize Fplace Fbegin Ftoken Fword Ftold Fwrong Fcode Fat Fway Fnext FisEnd FisFallen Fwritten Fmade Fstate FhandNext FhandSteps FhandWritten FmarkAt Alines Awear) → va_S A s.heap H locs → lv_has ls 2 [(0, .ref h), (1, .int (x0))] → W p l e R s m args below meth c H locs cells slots Q (F0 m 0 ls ([])) := by
  intro  H locs ls hw hP hD hS hl
  delta wp_X8_wornness at hw
  refine lv_aload_n hx hb dX8_wornness_0 rfl (lv_at hl 0 rfl) ?_
  refine vt_get (D := D) (ci := 7) (v := .int (Fway)) (C := RX8) (T := TX8) (N := 69) hx hb hts (fun w h => wm_c (wc_X8 w h)) hown hE.1 hP 0 rfl rfl 43 (by decide) tX8_43 (hts (.fieldLink RX8 355 "WornLinesModel" "way" "I") (wm_c hw_77)) (fun _ h9 => h9) rfl dX8_wornness_1 ?_
  refine lv_iconst (v := 2) hx hb dX8_wornness_4 (by decide) ?_
  refine lv_icmp_ne (tgt := 12) hx hb dX8_wornness_5 (by decide) (fun c_1 => ?_) (fun c_1 => ?_)
  · replace hw := hw.1 c_1
    refine lv_aload_n hx hb dX8_wornness_12 rfl (lv_at hl 0 rfl) ?_
    refine vt_get (D := D) (ci := 7) (v := .ref (am 33)) (C := RX8) (T := TX8) (N := 69) hx hb hts (fun w h => wm_c (wc_X8 w h)) hown hE.1 hP 0 rfl rfl 48 (by decide) tX8_48 (hts (.fieldLink RX8 111 "WornLinesModel" "wear" "[I") (wm_c hw_78)) (fun _ h9 => h9) rfl dX8_wornness_13 ?_
    refine lv_aload_n hx hb dX8_wornness_16 rfl (lv_at hl 0 rfl) ?_
    refine lv_iload_n hx hb dX8_wornness_17 rfl (lv_at hl 1 rfl) ?_
    refine kc_i (wc := (wW_X8_lineOf ak ad h am Fthrown Ftaped Fsize Fplace Fbegin Ftoken Fword Ftold Fwrong Fcode Fat Fway Fnext FisEnd FisFallen Fwritten Fmade Fstate FhandNext FhandSteps FhandWritten FmarkAt Alines)) (wr := [((am 33), .inl (ak 0, 16, .inl (Awear)))]) hP hD hS hA [0, 1] [2] rfl rfl (by decide) (by decide) (va_runV (As := [.int (x0)]) (rest := [.ref (am 33)]) ⟨hx, hb, hml, hown, hts⟩ (c_X8_lineOf l D ak ad _ h am Fthrown Ftaped Fsize Fplace Fbegin Ftoken Fword Ftold Fwrong Fcode Fat Fway Fnext FisEnd FisFallen Fwritten Fmade Fstate FhandNext FhandSteps FhandWritten FmarkAt Alines x0 _ hw) (cwV 1 hts gX8_wornness_X8_lineOf rfl rfl rfl hv_X8_lineOf ⟨(Nat.le_trans (Nat.le_of_ble_eq_true rfl) hRf), (Nat.le_trans (Nat.le_of_ble_eq_true rfl) hRl)⟩) (kc_preV (As := [.int (x0)]) (wc := (wW_X8_lineOf ak ad h am Fthrown Ftaped Fsize Fplace Fbegin Ftoken Fword Ftold Fwrong Fcode Fat Fway Fnext FisEnd FisFallen Fwritten Fmade Fstate FhandNext FhandSteps FhandWritten FmarkAt Alines)) hE hT hP hD hS hA [0, 1] (by decide) rfl rfl 0 7 rfl rfl rfl) rfl rfl hl.1 rfl (lv_room (Nat.le_of_ble_eq_true rfl)) dX8_wornness_18 ⟨hRc.1, hRc.2⟩) (fun r_3 u_2 H locs hw hP hD hS => ?_)
    try dsimp -zeta only at hw
    have hP : va_P D vwCl (wW_X8_wornness ak ad h am Fthrown Ftaped Fsize Fplace Fbegin Ftoken Fword Ftold Fwrong Fcode Fat Fway Fnext FisEnd FisFallen Fwritten Fmade Fstate FhandNext FhandSteps FhandWritten FmarkAt Alines Awear) H := hP.sub [1, 2, 0] rfl
    have hD : va_D A (wW_X8_wornness ak ad h am Fthrown Ftaped Fsize Fplace Fbegin Ftoken Fword Ftold Fwrong Fcode Fat Fway Fnext FisEnd FisFallen Fwritten Fmade Fstate FhandNext FhandSteps FhandWritten FmarkAt Alines Awear) := hD.sub [1, 2, 0] (by decide) rfl
    obtain ⟨h_4, hw⟩ := hw
    refine va_iald hx hb hE.1 hP 2 0 rfl rfl (h_4) dX8_wornness_21 ?_
    exact kR22 (Awear (r_3).toNatClampNeg)  _ _ _ hw hP hD hS
  · replace hw := hw.2 c_1
    refine lv_iconst (v := 0) hx hb dX8_wornness_8 (by decide) ?_
    refine lv_goto (tgt := 22) hx hb dX8_wornness_9 (by decide) ?_
    exact kR22 0  _ _ _ hw hP hD hS
set_option maxHeartbeats 4000000 in
set_option maxRecDepth 100000 in
theorem c_X8_wornness (l : Launch) (D : va_G) (ak : Nat → ClassId) (ad : Nat → Nat) (sz : Nat) (h : Nat) (am : Nat → Nat) (Fthrown : Int32) (Ftaped : Int32) (Fsize : Int32) (Fplace : Int32) (Fbegin : Int32) (Ftoken : Int32) (Fword : Int64) (Ftold : Int32) (Fwrong : Int32) (Fcode : Int32) (Fat : Int32) (Fway : Int32) (Fnext : Int32) (FisEnd : Int32) (FisFallen : Int32) (Fwritten : Int32) (Fmade : Int32) (Fstate : Int32) (FhandNext : Int32) (FhandSteps : Int32) (FhandWritten : Int32) (FmarkAt : Int32) (Alines : Nat → Int32) (Awear : Nat → Int32) (x0 : Int32) (Φ : Int32 → Prop) (hf : wp_X8_wornness Fat Fway Alines Awear x0 Φ) : Met l yX8_wornness wsX8_wornness ({ frames := 1, cells := 0, slots := 0, locals := 23 }) (cPre D ak ad [.ref h, .int (x0)] ((wW_X8_wornness ak ad h am Fthrown Ftaped Fsize Fplace Fbegin Ftoken Fword Ftold Fwrong Fcode Fat Fway Fnext FisEnd FisFallen Fwritten Fmade Fstate FhandNext FhandSteps FhandWritten FmarkAt Alines Awear)) sz) (cI D (S := Unit) (fun (r : Int32) (u : Unit) => Φ r ) (fun u => (wW_X8_wornness ak ad h am Fthrown Ftaped Fsize Fplace Fbegin Ftoken Fword Ftold Fwrong Fcode Fat Fway Fnext FisEnd FisFallen Fwritten Fmade Fstate FhandNext FhandSteps FhandWritten FmarkAt Alines Awear)) ((wW_X8_wornness ak ad h am Fthrown Ftaped Fsize Fplace Fbegin Ftoken Fword Ftold Fwrong Fcode Fat Fway Fnext FisEnd FisFallen Fwritten Fmade Fstate FhandNext FhandSteps FhandWritten FmarkAt Alines Awear)) sz) 0 0 (va_A ((wW_X8_wornness ak ad h am Fthrown Ftaped Fsize Fplace Fbegin Ftoken Fword Ftold Fwrong Fcode Fat Fway Fnext FisEnd FisFallen Fwritten Fmade Fstate FhandNext FhandSteps FhandWritten FmarkAt Alines Awear)) sz) := by
  refine Met.ofW (cc := cX8_wornness) (maxL := 2) (ret := (some .int)) (by decide) rfl ?_
  intro p e s m args below meth c s₁ B hml hv
  obtain ⟨rfl, hsz, hP, hE, hD0, hT⟩ := hv
  have hx := B.exec
  have hb := B.bytes
  have hr := B.returns
  have hts := atoms_spec (ws := wsX8_wornness) B.pre
  have hown : s.vm.findClass RX8 = some m.cls := findClass_of_methodNamed B.named
  have hlocks := B.notSynchronized
  subst hsz
  have hD := hD0.self (sz := s.heap.size)
  generalize hAe : va_A ((wW_X8_wornness ak ad h am Fthrown Ftaped Fsize Fplace Fbegin Ftoken Fword Ftold Fwrong Fcode Fat Fway Fnext FisEnd FisFallen Fwritten Fmade Fstate FhandNext FhandSteps FhandWritten FmarkAt Alines Awear)) s.heap.size = A at hD hT ⊢
  have hA : ∀ q : Nat, s.heap.size ≤ q → A q := fun q h => by rw [← hAe]; exact Or.inr h
  have hS : va_S A s.heap s.heap [] := va_S.rf
  have hl := lv_entry ([.ref h, .int (x0)]) (n := 2) (Nat.le_of_ble_eq_true rfl)
  rw [lg_entry_eq]
  generalize (lg_sl ([.ref h, .int (x0)]) ++ List.replicate (2 - (lg_sl ([.ref h, .int (x0)])).length) Slot.unset).toArray = ls at hl ⊢
  have hl : lv_has ls 2 [(0, .ref h), (1, .int (x0))] := hl
  exact kj_X8_wornness_e hx hb hown hts hml hE hT hA (Nat.le_of_ble_eq_true rfl) (Nat.le_of_ble_eq_true rfl) ⟨Nat.le_of_ble_eq_true rfl, Nat.le_of_ble_eq_true rfl⟩ h am Fthrown Ftaped Fsize Fplace Fbegin Ftoken Fword Ftold Fwrong Fcode Fat Fway Fnext FisEnd FisFallen Fwritten Fmade Fstate FhandNext FhandSteps FhandWritten FmarkAt Alines Awear x0 Φ (fun r  H locs ls hw hP hD hS => W.iret (v := r) hx hb hr (fun t ht hW => ⟨⟨r, (), rfl, hw, by rw [ht]; exact hP, by rw [hAe]; exact hD⟩, by rw [hAe]; exact hS.F ht⟩) hS.2.2 dX8_wornness_22)  _ _ _ hf hP hD hS hl
end
section
theorem dX8_worked_53 : decode cX8_worked 53 = .ok (.iinc 2 1, 3) := by decide +kernel
theorem dX8_worked_56 : decode cX8_worked 56 = .ok (.aload_n 0, 1) := by decide +kernel
theorem dX8_worked_57 : decode cX8_worked 57 = .ok (.getfield 102, 3) := by decide +kernel
theorem dX8_worked_60 : decode cX8_worked 60 = .ok (.iload_n 2, 1) := by decide +kernel
theorem dX8_worked_61 : decode cX8_worked 61 = .ok (.iload 4, 2) := by decide +kernel
theorem dX8_worked_63 : decode cX8_worked 63 = .ok (.bipush 30, 2) := by decide +kernel
theorem dX8_worked_65 : decode cX8_worked 65 = .ok (.if_icmp .ne 7, 3) := by decide +kernel
theorem dX8_worked_72 : decode cX8_worked 72 = .ok (.iload 4, 2) := by decide +kernel
theorem dX8_worked_74 : decode cX8_worked 74 = .ok (.bipush 31, 2) := by decide +kernel
theorem dX8_worked_76 : decode cX8_worked 76 = .ok (.if_icmp .ne 7, 3) := by decide +kernel
theorem dX8_worked_83 : decode cX8_worked 83 = .ok (.iconst 0, 1) := by decide +kernel
theorem dX8_worked_84 : decode cX8_worked 84 = .ok (.iastore, 1) := by decide +kernel
theorem dX8_worked_85 : decode cX8_worked 85 = .ok (.aload_n 0, 1) := by decide +kernel
theorem dX8_worked_86 : decode cX8_worked 86 = .ok (.iload_n 2, 1) := by decide +kernel
set_option maxRecDepth 20000 in
theorem ggX8_worked_X8_opens : GoodIn wsX8_worked wsX8_opens := gup gc_X8_opens
set_option maxRecDepth 20000 in
theorem gX8_worked_X8_opens : GoodIn wsX8_worked (wsV RX8 262 RX8 yX8_opens wsX8_opens) := gup (glV hw_87 hw_88 hw_89 hw_15 gc_X8_opens)
theorem dX8_worked_87 : decode cX8_worked 87 = .ok (.invokevirtual 262, 3) := by decide +kernel
theorem dX8_worked_90 : decode cX8_worked 90 = .ok (.goto 275, 3) := by decide +kernel
theorem dX8_worked_365 : decode cX8_worked 365 = .ok (.iinc 3 1, 3) := by decide +kernel
theorem dX8_worked_368 : decode cX8_worked 368 = .ok (.goto (-354), 3) := by decide +kernel
theorem dX8_worked_79 : decode cX8_worked 79 = .ok (.iconst 2, 1) := by decide +kernel
theorem dX8_worked_80 : decode cX8_worked 80 = .ok (.goto 4, 3) := by decide +kernel
theorem dX8_worked_68 : decode cX8_worked 68 = .ok (.iconst 1, 1) := by decide +kernel
theorem dX8_worked_69 : decode cX8_worked 69 = .ok (.goto 15, 3) := by decide +kernel
theorem dX8_worked_107 : decode cX8_worked 107 = .ok (.aload_n 0, 1) := by decide +kernel
theorem dX8_worked_108 : decode cX8_worked 108 = .ok (.iload_n 2, 1) := by decide +kernel
set_option maxRecDepth 20000 in
theorem ggX8_worked_X8_sums : GoodIn wsX8_worked wsX8_sums := gup gc_X8_sums
set_option maxRecDepth 20000 in
theorem gX8_worked_X8_sums : GoodIn wsX8_worked (wsV RX8 259 RX8 yX8_sums wsX8_sums) := gup (glV hw_79 hw_80 hw_81 hw_15 gc_X8_sums)
theorem dX8_worked_109 : decode cX8_worked 109 = .ok (.invokevirtual 259, 3) := by decide +kernel
theorem dX8_worked_112 : decode cX8_worked 112 = .ok (.aload_n 0, 1) := by decide +kernel
theorem dX8_worked_113 : decode cX8_worked 113 = .ok (.getfield 93, 3) := by decide +kernel
theorem dX8_worked_116 : decode cX8_worked 116 = .ok (.iload_n 2, 1) := by decide +kernel
theorem dX8_worked_117 : decode cX8_worked 117 = .ok (.iload 4, 2) := by decide +kernel
theorem dX8_worked_119 : decode cX8_worked 119 = .ok (.iastore, 1) := by decide +kernel
theorem dX8_worked_120 : decode cX8_worked 120 = .ok (.goto 245, 3) := by decide +kernel
theorem dX8_worked_155 : decode cX8_worked 155 = .ok (.aload_n 0, 1) := by decide +kernel
theorem dX8_worked_156 : decode cX8_worked 156 = .ok (.iload_n 2, 1) := by decide +kernel
theorem dX8_worked_157 : decode cX8_worked 157 = .ok (.invokevirtual 259, 3) := by decide +kernel
theorem dX8_worked_160 : decode cX8_worked 160 = .ok (.aload_n 0, 1) := by decide +kernel
theorem dX8_worked_161 : decode cX8_worked 161 = .ok (.getfield 84, 3) := by decide +kernel
theorem dX8_worked_164 : decode cX8_worked 164 = .ok (.iload_n 2, 1) := by decide +kernel
theorem dX8_worked_165 : decode cX8_worked 165 = .ok (.aload_n 0, 1) := by decide +kernel
theorem dX8_worked_166 : decode cX8_worked 166 = .ok (.getfield 90, 3) := by decide +kernel
theorem dX8_worked_169 : decode cX8_worked 169 = .ok (.iload_n 2, 1) := by decide +kernel
theorem dX8_worked_170 : decode cX8_worked 170 = .ok (.iaload, 1) := by decide +kernel
theorem dX8_worked_171 : decode cX8_worked 171 = .ok (.iastore, 1) := by decide +kernel
theorem dX8_worked_172 : decode cX8_worked 172 = .ok (.aload_n 0, 1) := by decide +kernel
theorem dX8_worked_173 : decode cX8_worked 173 = .ok (.getfield 87, 3) := by decide +kernel
theorem dX8_worked_176 : decode cX8_worked 176 = .ok (.iload_n 2, 1) := by decide +kernel
theorem dX8_worked_177 : decode cX8_worked 177 = .ok (.iload 4, 2) := by decide +kernel
theorem dX8_worked_179 : decode cX8_worked 179 = .ok (.iastore, 1) := by decide +kernel
theorem dX8_worked_180 : decode cX8_worked 180 = .ok (.aload_n 0, 1) := by decide +kernel
theorem dX8_worked_181 : decode cX8_worked 181 = .ok (.getfield 90, 3) := by decide +kernel
theorem dX8_worked_184 : decode cX8_worked 184 = .ok (.iload_n 2, 1) := by decide +kernel
theorem dX8_worked_185 : decode cX8_worked 185 = .ok (.iconst 0, 1) := by decide +kernel
theorem dX8_worked_186 : decode cX8_worked 186 = .ok (.iastore, 1) := by decide +kernel
theorem dX8_worked_187 : decode cX8_worked 187 = .ok (.aload_n 0, 1) := by decide +kernel
theorem dX8_worked_188 : decode cX8_worked 188 = .ok (.getfield 93, 3) := by decide +kernel
theorem dX8_worked_191 : decode cX8_worked 191 = .ok (.iload_n 2, 1) := by decide +kernel
theorem dX8_worked_192 : decode cX8_worked 192 = .ok (.bipush 20, 2) := by decide +kernel
theorem dX8_worked_194 : decode cX8_worked 194 = .ok (.iastore, 1) := by decide +kernel
theorem dX8_worked_195 : decode cX8_worked 195 = .ok (.goto 170, 3) := by decide +kernel
theorem dX8_worked_212 : decode cX8_worked 212 = .ok (.aload_n 0, 1) := by decide +kernel
theorem dX8_worked_213 : decode cX8_worked 213 = .ok (.iload_n 2, 1) := by decide +kernel
set_option maxRecDepth 20000 in
theorem ggX8_worked_X8_tests : GoodIn wsX8_worked wsX8_tests := gup gc_X8_tests
set_option maxRecDepth 20000 in
theorem gX8_worked_X8_tests : GoodIn wsX8_worked (wsV RX8 265 RX8 yX8_tests wsX8_tests) := gup (glV hw_90 hw_91 hw_92 hw_15 gc_X8_tests)
theorem dX8_worked_214 : decode cX8_worked 214 = .ok (.invokevirtual 265, 3) := by decide +kernel
theorem dX8_worked_217 : decode cX8_worked 217 = .ok (.aload_n 0, 1) := by decide +kernel
theorem dX8_worked_218 : decode cX8_worked 218 = .ok (.getfield 81, 3) := by decide +kernel
theorem dX8_worked_221 : decode cX8_worked 221 = .ok (.iload_n 2, 1) := by decide +kernel
theorem dX8_worked_222 : decode cX8_worked 222 = .ok (.iload 4, 2) := by decide +kernel
theorem dX8_worked_224 : decode cX8_worked 224 = .ok (.iastore, 1) := by decide +kernel
theorem dX8_worked_225 : decode cX8_worked 225 = .ok (.goto 140, 3) := by decide +kernel
theorem dX8_worked_336 : decode cX8_worked 336 = .ok (.aload_n 0, 1) := by decide +kernel
theorem dX8_worked_337 : decode cX8_worked 337 = .ok (.getfield 96, 3) := by decide +kernel
theorem dX8_worked_340 : decode cX8_worked 340 = .ok (.iload_n 2, 1) := by decide +kernel
theorem dX8_worked_341 : decode cX8_worked 341 = .ok (.aload_n 0, 1) := by decide +kernel
theorem dX8_worked_342 : decode cX8_worked 342 = .ok (.getfield 99, 3) := by decide +kernel
theorem dX8_worked_345 : decode cX8_worked 345 = .ok (.iload_n 2, 1) := by decide +kernel
theorem dX8_worked_346 : decode cX8_worked 346 = .ok (.iaload, 1) := by decide +kernel
theorem dX8_worked_347 : decode cX8_worked 347 = .ok (.ifCond .ne 8, 3) := by decide +kernel
theorem dX8_worked_355 : decode cX8_worked 355 = .ok (.aload_n 0, 1) := by decide +kernel
theorem dX8_worked_356 : decode cX8_worked 356 = .ok (.getfield 96, 3) := by decide +kernel
theorem dX8_worked_359 : decode cX8_worked 359 = .ok (.iload_n 2, 1) := by decide +kernel
theorem dX8_worked_360 : decode cX8_worked 360 = .ok (.iaload, 1) := by decide +kernel
theorem dX8_worked_361 : decode cX8_worked 361 = .ok (.iload 5, 2) := by decide +kernel
theorem dX8_worked_363 : decode cX8_worked 363 = .ok (.imul, 1) := by decide +kernel
theorem dX8_worked_364 : decode cX8_worked 364 = .ok (.iastore, 1) := by decide +kernel
theorem dX8_worked_350 : decode cX8_worked 350 = .ok (.iload 5, 2) := by decide +kernel
theorem dX8_worked_352 : decode cX8_worked 352 = .ok (.goto 12, 3) := by decide +kernel
theorem dX8_worked_286 : decode cX8_worked 286 = .ok (.iload_n 2, 1) := by decide +kernel
theorem dX8_worked_287 : decode cX8_worked 287 = .ok (.ifCond .le 49, 3) := by decide +kernel
theorem dX8_worked_290 : decode cX8_worked 290 = .ok (.aload_n 0, 1) := by decide +kernel
theorem dX8_worked_291 : decode cX8_worked 291 = .ok (.getfield 102, 3) := by decide +kernel
theorem dX8_worked_294 : decode cX8_worked 294 = .ok (.iload_n 2, 1) := by decide +kernel
theorem dX8_worked_295 : decode cX8_worked 295 = .ok (.iaload, 1) := by decide +kernel
theorem dX8_worked_296 : decode cX8_worked 296 = .ok (.ifCond .le 40, 3) := by decide +kernel
theorem dX8_worked_299 : decode cX8_worked 299 = .ok (.aload_n 0, 1) := by decide +kernel
theorem dX8_worked_300 : decode cX8_worked 300 = .ok (.getfield 102, 3) := by decide +kernel
theorem dX8_worked_303 : decode cX8_worked 303 = .ok (.iload_n 2, 1) := by decide +kernel
theorem dX8_worked_304 : decode cX8_worked 304 = .ok (.iaload, 1) := by decide +kernel
theorem dX8_worked_305 : decode cX8_worked 305 = .ok (.iconst 2, 1) := by decide +kernel
theorem dX8_worked_306 : decode cX8_worked 306 = .ok (.if_icmp .ne 12, 3) := by decide +kernel
theorem dX8_worked_318 : decode cX8_worked 318 = .ok (.iload 5, 2) := by decide +kernel
theorem dX8_worked_320 : decode cX8_worked 320 = .ok (.ifCond .ne 7, 3) := by decide +kernel
theorem dX8_worked_327 : decode cX8_worked 327 = .ok (.iconst 0, 1) := by decide +kernel
theorem dX8_worked_328 : decode cX8_worked 328 = .ok (.istore 5, 2) := by decide +kernel
theorem dX8_worked_330 : decode cX8_worked 330 = .ok (.iinc 2 (-1), 3) := by decide +kernel
theorem dX8_worked_333 : decode cX8_worked 333 = .ok (.goto (-47), 3) := by decide +kernel
theorem dX8_worked_323 : decode cX8_worked 323 = .ok (.iconst 1, 1) := by decide +kernel
theorem dX8_worked_324 : decode cX8_worked 324 = .ok (.goto 4, 3) := by decide +kernel
theorem dX8_worked_309 : decode cX8_worked 309 = .ok (.aload_n 0, 1) := by decide +kernel
theorem dX8_worked_310 : decode cX8_worked 310 = .ok (.iload 5, 2) := by decide +kernel
set_option maxRecDepth 20000 in
theorem ggX8_worked_X8_wornness : GoodIn wsX8_worked wsX8_wornness := gup gc_X8_wornness
set_option maxRecDepth 20000 in
theorem gX8_worked_X8_wornness : GoodIn wsX8_worked (wsV RX8 268 RX8 yX8_wornness wsX8_wornness) := gup (glV hw_93 hw_94 hw_95 hw_15 gc_X8_wornness)
theorem dX8_worked_312 : decode cX8_worked 312 = .ok (.invokevirtual 268, 3) := by decide +kernel
theorem dX8_worked_315 : decode cX8_worked 315 = .ok (.goto 13, 3) := by decide +kernel
theorem dX8_worked_261 : decode cX8_worked 261 = .ok (.istore 5, 2) := by decide +kernel
theorem dX8_worked_263 : decode cX8_worked 263 = .ok (.iload 4, 2) := by decide +kernel
theorem dX8_worked_265 : decode cX8_worked 265 = .ok (.bipush 29, 2) := by decide +kernel
theorem dX8_worked_267 : decode cX8_worked 267 = .ok (.if_icmp .ne 19, 3) := by decide +kernel
theorem dX8_worked_270 : decode cX8_worked 270 = .ok (.aload_n 0, 1) := by decide +kernel
theorem dX8_worked_271 : decode cX8_worked 271 = .ok (.iload_n 2, 1) := by decide +kernel
theorem dX8_worked_272 : decode cX8_worked 272 = .ok (.invokevirtual 265, 3) := by decide +kernel
theorem dX8_worked_275 : decode cX8_worked 275 = .ok (.aload_n 0, 1) := by decide +kernel
theorem dX8_worked_276 : decode cX8_worked 276 = .ok (.getfield 78, 3) := by decide +kernel
theorem dX8_worked_279 : decode cX8_worked 279 = .ok (.iload_n 2, 1) := by decide +kernel
theorem dX8_worked_280 : decode cX8_worked 280 = .ok (.iaload, 1) := by decide +kernel
theorem dX8_worked_281 : decode cX8_worked 281 = .ok (.istore 5, 2) := by decide +kernel
theorem dX8_worked_283 : decode cX8_worked 283 = .ok (.iinc 2 (-1), 3) := by decide +kernel
theorem dX8_worked_14 : decode cX8_worked 14 = .ok (.iload_n 3, 1) := by decide +kernel
theorem dX8_worked_15 : decode cX8_worked 15 = .ok (.aload_n 0, 1) := by decide +kernel
theorem dX8_worked_16 : decode cX8_worked 16 = .ok (.getfield 65, 3) := by decide +kernel
theorem dX8_worked_19 : decode cX8_worked 19 = .ok (.iload_n 1, 1) := by decide +kernel
theorem dX8_worked_20 : decode cX8_worked 20 = .ok (.iaload, 1) := by decide +kernel
theorem dX8_worked_21 : decode cX8_worked 21 = .ok (.if_icmp .ge 350, 3) := by decide +kernel
theorem dX8_worked_371 : decode cX8_worked 371 = .ok (.aload_n 0, 1) := by decide +kernel
theorem dX8_worked_372 : decode cX8_worked 372 = .ok (.iconst 0, 1) := by decide +kernel
theorem dX8_worked_373 : decode cX8_worked 373 = .ok (.invokevirtual 265, 3) := by decide +kernel
theorem dX8_worked_376 : decode cX8_worked 376 = .ok (.aload_n 0, 1) := by decide +kernel
theorem dX8_worked_377 : decode cX8_worked 377 = .ok (.getfield 78, 3) := by decide +kernel
theorem dX8_worked_380 : decode cX8_worked 380 = .ok (.iconst 0, 1) := by decide +kernel
theorem dX8_worked_381 : decode cX8_worked 381 = .ok (.iaload, 1) := by decide +kernel
theorem dX8_worked_24 : decode cX8_worked 24 = .ok (.aload_n 0, 1) := by decide +kernel
theorem dX8_worked_25 : decode cX8_worked 25 = .ok (.getfield 68, 3) := by decide +kernel
theorem dX8_worked_28 : decode cX8_worked 28 = .ok (.iload_n 3, 1) := by decide +kernel
theorem dX8_worked_29 : decode cX8_worked 29 = .ok (.iaload, 1) := by decide +kernel
theorem dX8_worked_30 : decode cX8_worked 30 = .ok (.istore 4, 2) := by decide +kernel
theorem dX8_worked_32 : decode cX8_worked 32 = .ok (.iload 4, 2) := by decide +kernel
theorem dX8_worked_34 : decode cX8_worked 34 = .ok (.bipush 28, 2) := by decide +kernel
theorem dX8_worked_36 : decode cX8_worked 36 = .ok (.if_icmp .eq 17, 3) := by decide +kernel
theorem dX8_worked_39 : decode cX8_worked 39 = .ok (.iload 4, 2) := by decide +kernel
theorem dX8_worked_41 : decode cX8_worked 41 = .ok (.bipush 30, 2) := by decide +kernel
theorem dX8_worked_43 : decode cX8_worked 43 = .ok (.if_icmp .eq 10, 3) := by decide +kernel
theorem dX8_worked_46 : decode cX8_worked 46 = .ok (.iload 4, 2) := by decide +kernel
theorem dX8_worked_48 : decode cX8_worked 48 = .ok (.bipush 31, 2) := by decide +kernel
theorem dX8_worked_50 : decode cX8_worked 50 = .ok (.if_icmp .ne 43, 3) := by decide +kernel
theorem dX8_worked_93 : decode cX8_worked 93 = .ok (.iload 4, 2) := by decide +kernel
theorem dX8_worked_95 : decode cX8_worked 95 = .ok (.bipush 20, 2) := by decide +kernel
theorem dX8_worked_97 : decode cX8_worked 97 = .ok (.if_icmp .eq 10, 3) := by decide +kernel
theorem dX8_worked_100 : decode cX8_worked 100 = .ok (.iload 4, 2) := by decide +kernel
theorem dX8_worked_102 : decode cX8_worked 102 = .ok (.bipush 21, 2) := by decide +kernel
theorem dX8_worked_104 : decode cX8_worked 104 = .ok (.if_icmp .ne 19, 3) := by decide +kernel
theorem dX8_worked_123 : decode cX8_worked 123 = .ok (.iload 4, 2) := by decide +kernel
theorem dX8_worked_125 : decode cX8_worked 125 = .ok (.bipush 22, 2) := by decide +kernel
theorem dX8_worked_127 : decode cX8_worked 127 = .ok (.if_icmp .ne 14, 3) := by decide +kernel
theorem dX8_worked_141 : decode cX8_worked 141 = .ok (.iload 4, 2) := by decide +kernel
theorem dX8_worked_143 : decode cX8_worked 143 = .ok (.bipush 24, 2) := by decide +kernel
theorem dX8_worked_145 : decode cX8_worked 145 = .ok (.if_icmp .eq 10, 3) := by decide +kernel
theorem dX8_worked_148 : decode cX8_worked 148 = .ok (.iload 4, 2) := by decide +kernel
theorem dX8_worked_150 : decode cX8_worked 150 = .ok (.bipush 25, 2) := by decide +kernel
theorem dX8_worked_152 : decode cX8_worked 152 = .ok (.if_icmp .ne 46, 3) := by decide +kernel
theorem dX8_worked_198 : decode cX8_worked 198 = .ok (.iload 4, 2) := by decide +kernel
theorem dX8_worked_200 : decode cX8_worked 200 = .ok (.bipush 26, 2) := by decide +kernel
theorem dX8_worked_202 : decode cX8_worked 202 = .ok (.if_icmp .eq 10, 3) := by decide +kernel
theorem dX8_worked_205 : decode cX8_worked 205 = .ok (.iload 4, 2) := by decide +kernel
theorem dX8_worked_207 : decode cX8_worked 207 = .ok (.bipush 27, 2) := by decide +kernel
theorem dX8_worked_209 : decode cX8_worked 209 = .ok (.if_icmp .ne 19, 3) := by decide +kernel
theorem dX8_worked_228 : decode cX8_worked 228 = .ok (.iload 4, 2) := by decide +kernel
theorem dX8_worked_230 : decode cX8_worked 230 = .ok (.bipush 100, 2) := by decide +kernel
theorem dX8_worked_232 : decode cX8_worked 232 = .ok (.if_icmp .lt 11, 3) := by decide +kernel
theorem dX8_worked_243 : decode cX8_worked 243 = .ok (.iload 4, 2) := by decide +kernel
theorem dX8_worked_245 : decode cX8_worked 245 = .ok (.bipush 20, 2) := by decide +kernel
theorem dX8_worked_247 : decode cX8_worked 247 = .ok (.if_icmp .ge 13, 3) := by decide +kernel
theorem dX8_worked_260 : decode cX8_worked 260 = .ok (.iconst 0, 1) := by decide +kernel
theorem dX8_worked_250 : decode cX8_worked 250 = .ok (.aload_n 0, 1) := by decide +kernel
theorem dX8_worked_251 : decode cX8_worked 251 = .ok (.getfield 105, 3) := by decide +kernel
theorem dX8_worked_254 : decode cX8_worked 254 = .ok (.iload 4, 2) := by decide +kernel
theorem dX8_worked_256 : decode cX8_worked 256 = .ok (.iaload, 1) := by decide +kernel
theorem dX8_worked_257 : decode cX8_worked 257 = .ok (.goto 4, 3) := by decide +kernel
theorem dX8_worked_235 : decode cX8_worked 235 = .ok (.iload 4, 2) := by decide +kernel
theorem dX8_worked_237 : decode cX8_worked 237 = .ok (.bipush 100, 2) := by decide +kernel
theorem dX8_worked_239 : decode cX8_worked 239 = .ok (.isub, 1) := by decide +kernel
theorem dX8_worked_240 : decode cX8_worked 240 = .ok (.goto 21, 3) := by decide +kernel
theorem dX8_worked_130 : decode cX8_worked 130 = .ok (.aload_n 0, 1) := by decide +kernel
theorem dX8_worked_131 : decode cX8_worked 131 = .ok (.getfield 99, 3) := by decide +kernel
theorem dX8_worked_134 : decode cX8_worked 134 = .ok (.iload_n 2, 1) := by decide +kernel
theorem dX8_worked_135 : decode cX8_worked 135 = .ok (.iload 4, 2) := by decide +kernel
theorem dX8_worked_137 : decode cX8_worked 137 = .ok (.iastore, 1) := by decide +kernel
theorem dX8_worked_138 : decode cX8_worked 138 = .ok (.goto 227, 3) := by decide +kernel
theorem dX8_worked_0 : decode cX8_worked 0 = .ok (.iconst 0, 1) := by decide +kernel
theorem dX8_worked_1 : decode cX8_worked 1 = .ok (.istore_n 2, 1) := by decide +kernel
theorem dX8_worked_2 : decode cX8_worked 2 = .ok (.aload_n 0, 1) := by decide +kernel
theorem dX8_worked_3 : decode cX8_worked 3 = .ok (.iconst 0, 1) := by decide +kernel
theorem dX8_worked_4 : decode cX8_worked 4 = .ok (.invokevirtual 262, 3) := by decide +kernel
theorem dX8_worked_7 : decode cX8_worked 7 = .ok (.aload_n 0, 1) := by decide +kernel
theorem dX8_worked_8 : decode cX8_worked 8 = .ok (.getfield 62, 3) := by decide +kernel
theorem dX8_worked_11 : decode cX8_worked 11 = .ok (.iload_n 1, 1) := by decide +kernel
theorem dX8_worked_12 : decode cX8_worked 12 = .ok (.iaload, 1) := by decide +kernel
theorem dX8_worked_13 : decode cX8_worked 13 = .ok (.istore_n 3, 1) := by decide +kernel
theorem dX8_worked_382 : decode cX8_worked 382 = .ok (.ireturn, 1) := by decide +kernel
def wW_X8_worked (ak : Nat → ClassId) (ad : Nat → Nat) (h : Nat) (am : Nat → Nat) (Fthrown : Int32) (Ftaped : Int32) (Fsize : Int32) (Fplace : Int32) (Fbegin : Int32) (Ftoken : Int32) (Fword : Int64) (Ftold : Int32) (Fwrong : Int32) (Fcode : Int32) (Fat : Int32) (Fway : Int32) (Fnext : Int32) (FisEnd : Int32) (FisFallen : Int32) (Fwritten : Int32) (Fmade : Int32) (Fstate : Int32) (FhandNext : Int32) (FhandSteps : Int32) (FhandWritten : Int32) (FmarkAt : Int32) (Alines : Nat → Int32) (AlineFrom : Nat → Int32) (AlineTo : Nat → Int32) (Acodes : Nat → Int32) (Akept : Nat → Int32) (AkeptBy : Nat → Int32) (Aahead : Nat → Int32) (Aagainst : Nat → Int32) (Asum : Nat → Int32) (AsumBy : Nat → Int32) (Aterm : Nat → Int32) (AtermBy : Nat → Int32) (AbyNot : Nat → Int32) (AvalueOf : Nat → Int32) (Awear : Nat → Int32) : va_W := [(h, .inr (7, mob am (Fthrown) (Ftaped) (Fsize) (Fplace) (Fbegin) (Ftoken) (Fword) (Ftold) (Fwrong) (Fcode) (Fat) (Fway) (Fnext) (FisEnd) (FisFallen) (Fwritten) (Fmade) (Fstate) (FhandNext) (FhandSteps) (FhandWritten) (FmarkAt))), ((am 4), .inl (ak 0, 6, .inl (Alines))), ((am 17), .inl (ak 0, 192, .inl (AlineFrom))), ((am 18), .inl (ak 0, 192, .inl (AlineTo))), ((am 19), .inl (ak 0, 6000, .inl (Acodes))), ((am 22), .inl (ak 0, 7, .inl (Akept))), ((am 23), .inl (ak 0, 7, .inl (AkeptBy))), ((am 24), .inl (ak 0, 7, .inl (Aahead))), ((am 25), .inl (ak 0, 7, .inl (Aagainst))), ((am 26), .inl (ak 0, 7, .inl (Asum))), ((am 27), .inl (ak 0, 7, .inl (AsumBy))), ((am 28), .inl (ak 0, 7, .inl (Aterm))), ((am 29), .inl (ak 0, 7, .inl (AtermBy))), ((am 30), .inl (ak 0, 7, .inl (AbyNot))), ((am 31), .inl (ak 0, 20, .inl (AvalueOf))), ((am 33), .inl (ak 0, 16, .inl (Awear)))]
def kf_X8_worked_53 (Fat : Int32) (Fway : Int32) (Alines : Nat → Int32) (AlineFrom : Nat → Int32) (AlineTo : Nat → Int32) (Acodes : Nat → Int32) (AvalueOf : Nat → Int32) (Awear : Nat → Int32) (x0 : Int32) (κ14 : (Nat → Int32) → (Nat → Int32) → (Nat → Int32) → (Nat → Int32) → (Nat → Int32) → (Nat → Int32) → (Nat → Int32) → (Nat → Int32) → (Nat → Int32) → Int32 → Int32 → Prop) (Φ : Int32 → (Nat → Int32) → (Nat → Int32) → (Nat → Int32) → (Nat → Int32) → (Nat → Int32) → (Nat → Int32) → (Nat → Int32) → (Nat → Int32) → (Nat → Int32) → Prop) (Akept : Nat → Int32) (AkeptBy : Nat → Int32) (Aahead : Nat → Int32) (Aagainst : Nat → Int32) (Asum : Nat → Int32) (AsumBy : Nat → Int32) (Aterm : Nat → Int32) (AtermBy : Nat → Int32) (AbyNot : Nat → Int32) (l2 : Int32) (l3 : Int32) (l4 : Int32) : Prop := (¬ l4 = 30 → (¬ l4 = 31 → vp_in (l2 + 1) 7 ∧ wp_X8_opens (l2 + 1) AkeptBy Aagainst Asum AsumBy AtermBy (fun AkeptBy_24 Aagainst_25 Asum_26 AsumBy_27 AtermBy_28 => κ14 Akept AkeptBy_24 Aahead Aagainst_25 Asum_26 AsumBy_27 Aterm AtermBy_28 (upd AbyNot (l2 + 1).toNatClampNeg 0) (l2 + 1) (l3 + 1))) ∧ (l4 = 31 → vp_in (l2 + 1) 7 ∧ wp_X8_opens (l2 + 1) AkeptBy Aagainst Asum AsumBy AtermBy (fun AkeptBy_32 Aagainst_33 Asum_34 AsumBy_35 AtermBy_36 => κ14 Akept AkeptBy_32 Aahead Aagainst_33 Asum_34 AsumBy_35 Aterm AtermBy_36 (upd AbyNot (l2 + 1).toNatClampNeg 2) (l2 + 1) (l3 + 1)))) ∧ (l4 = 30 → vp_in (l2 + 1) 7 ∧ wp_X8_opens (l2 + 1) AkeptBy Aagainst Asum AsumBy AtermBy (fun AkeptBy_40 Aagainst_41 Asum_42 AsumBy_43 AtermBy_44 => κ14 Akept AkeptBy_40 Aahead Aagainst_41 Asum_42 AsumBy_43 Aterm AtermBy_44 (upd AbyNot (l2 + 1).toNatClampNeg 1) (l2 + 1) (l3 + 1)))
set_option maxHeartbeats 4000000 in
set_option maxRecDepth 100000 in
theorem kj_X8_worked_53 {p : Program} {l : Launch} {e : Env} {R : Room} {s : State} {m : MethodId} {args : Array Value} {below : List Frame} {meth : Method} {c : Code} {cells slots : Nat} {Q : State → Prop} {A : Nat → Prop} {D : va_G} {ak : Nat → ClassId} {ad : Nat → Nat} (hx : p.tables.exec = Jvm.exec) (hb : c.code = cX8_worked) (hown : s.vm.findClass RX8 = some m.cls) (hts : ∀ w ∈ wsX8_worked, w.before args s = true) (hml : c.maxLocals = 6) (hE : EV D ak s) (hT : ST D ak ad A s s.heap) (hA : ∀ q, s.heap.size ≤ q → A q) (hRf : 2 ≤ R.frames) (hRl : 44 ≤ R.locals) (hRc : cells ≤ R.cells ∧ slots ≤ R.slots) (h : Nat) (am : Nat → Nat) (Fthrown : Int32) (Ftaped : Int32) (Fsize : Int32) (Fplace : Int32) (Fbegin : Int32) (Ftoken : Int32) (Fword : Int64) (Ftold : Int32) (Fwrong : Int32) (Fcode : Int32) (Fat : Int32) (Fway : Int32) (Fnext : Int32) (FisEnd : Int32) (FisFallen : Int32) (Fwritten : Int32) (Fmade : Int32) (Fstate : Int32) (FhandNext : Int32) (FhandSteps : Int32) (FhandWritten : Int32) (FmarkAt : Int32) (Alines : Nat → Int32) (AlineFrom : Nat → Int32) (AlineTo : Nat → Int32) (Acodes : Nat → Int32) (AvalueOf : Nat → Int32) (Awear : Nat → Int32) (x0 : Int32) (κ14 : (Nat → Int32) → (Nat → Int32) → (Nat → Int32) → (Nat → Int32) → (Nat → Int32) → (Nat → Int32) → (Nat → Int32) → (Nat → Int32) → (Nat → Int32) → Int32 → Int32 → Prop) (Φ : Int32 → (Nat → Int32) → (Nat → Int32) → (Nat → Int32) → (Nat → Int32) → (Nat → Int32) → (Nat → Int32) → (Nat → Int32) → (Nat → Int32) → (Nat → Int32) → Prop)
    (kk14 : ∀ (Akept : Nat → Int32) (AkeptBy : Nat → Int32) (Aahead : Nat → Int32) (Aagainst : Nat → Int32) (Asum : Nat → Int32) (AsumBy : Nat → Int32) (Aterm : Nat → Int32) (AtermBy : Nat → Int32) (AbyNot : Nat → Int32) (l2 : Int32) (l3 : Int32) (H : Heap) (locs : List Loc) (ls : Array Slot), κ14 Akept AkeptBy Aahead Aagainst Asum AsumBy Aterm AtermBy AbyNot l2 l3 → va_P D vwCl (wW_X8_worked ak ad h am Fthrown Ftaped Fsize Fplace Fbegin Ftoken Fword Ftold Fwrong Fcode Fat Fway Fnext FisEnd FisFallen Fwritten Fmade Fstate FhandNext FhandSteps FhandWritten FmarkAt Alines AlineFrom AlineTo Acodes Akept AkeptBy Aahead Aagainst Asum AsumBy Aterm AtermBy AbyNot AvalueOf Awear) H → va_D A (wW_X8_worked ak ad h am Fthrown Ftaped Fsize Fplace Fbegin Ftoken Fword Ftold Fwrong Fcode Fat Fway Fnext FisEnd FisFallen Fwritten Fmade Fstate FhandNext FhandSteps FhandWritten FmarkAt Alines AlineFrom AlineTo Acodes Akept AkeptBy Aahead Aagainst Asum AsumBy Aterm AtermBy AbyNot AvalueOf Awear) → va_S A s.heap H locs → lv_has ls 6 [(0, .ref h), (1, .int (x0)), (2, .int (l2)), (3, .int (l3))] → W p l e R s m args below meth c H locs cells slots Q (F0 m 14 ls ([])))
    (kR382 : ∀ (r : Int32) (Akept : Nat → Int32) (AkeptBy : Nat → Int32) (Aahead : Nat → Int32) (Aagainst : Nat → Int32) (Asum : Nat → Int32) (AsumBy : Nat → Int32) (Aterm : Nat → Int32) (AtermBy : Nat → Int32) (AbyNot : Nat → Int32) (H : Heap) (locs : List Loc) (ls : Array Slot), Φ r Akept AkeptBy Aahead Aagainst Asum AsumBy Aterm AtermBy AbyNot → va_P D vwCl (wW_X8_worked ak ad h am Fthrown Ftaped Fsize Fplace Fbegin Ftoken Fword Ftold Fwrong Fcode Fat Fway Fnext FisEnd FisFallen Fwritten Fmade Fstate FhandNext FhandSteps FhandWritten FmarkAt Alines AlineFrom AlineTo Acodes Akept AkeptBy Aahead Aagainst Asum AsumBy Aterm AtermBy AbyNot AvalueOf Awear) H → va_D A (wW_X8_worked ak ad h am Fthrown Ftaped Fsize Fplace Fbegin Ftoken Fword Ftold Fwrong Fcode Fat Fway Fnext FisEnd FisFallen Fwritten Fmade Fstate FhandNext FhandSteps FhandWritten FmarkAt Alines AlineFrom AlineTo Acodes Akept AkeptBy Aahead Aagainst Asum AsumBy Aterm AtermBy AbyNot AvalueOf Awear) → va_S A s.heap H locs → W p l e R s m args below meth c H locs cells slots Q (F0 m 382 ls [.int r]))
    : ∀ (Akept : Nat → Int32) (AkeptBy : Nat → Int32) (Aahead : Nat → Int32) (Aagainst : Nat → Int32) (Asum : Nat → Int32) (AsumBy : Nat → Int32) (Aterm : Nat → Int32) (AtermBy : Nat → Int32) (AbyNot : Nat → Int32) (l2 : Int32) (l3 : Int32) (l4 : Int32) (H : Heap) (locs : List Loc) (ls : Array Slot), kf_X8_worked_53 Fat Fway Alines AlineFrom AlineTo Acodes AvalueOf Awear x0 κ14 Φ Akept AkeptBy Aahead Aagainst Asum AsumBy Aterm AtermBy AbyNot l2 l3 l4 → va_P D vwCl (wW_X8_worked ak ad h am Fthrown Ftaped Fsize Fplace Fbegin Ftoken Fword Ftold Fwrong Fcode Fat Fway Fnext FisEnd FisFallen Fwritten Fmade Fstate FhandNext FhandSteps FhandWritten FmarkAt Alines AlineFrom AlineTo Acodes Akept AkeptBy Aahead Aagainst Asum AsumBy Aterm AtermBy AbyNot AvalueOf Awear) H → va_D A (wW_X8_worked ak ad h am Fthrown Ftaped Fsize Fplace Fbegin Ftoken Fword Ftold Fwrong Fcode Fat Fway Fnext FisEnd FisFallen Fwritten Fmade Fstate FhandNext FhandSteps FhandWritten FmarkAt Alines AlineFrom AlineTo Acodes Akept AkeptBy Aahead Aagainst Asum AsumBy Aterm AtermBy AbyNot AvalueOf Awear) → va_S A s.heap H locs → lv_has ls 6 [(0, .ref h), (1, .int (x0)), (2, .int (l2)), (3, .int (l3)), (4, .int (l4))] → W p l e R s m args below meth c H locs cells slots Q (F0 m 53 ls ([])) := by
  intro Akept AkeptBy Aahead Aagainst Asum AsumBy Aterm AtermBy AbyNot l2 l3 l4 H locs ls hw hP hD hS hl
  delta kf_X8_worked_53 at hw
  refine lv_iinc (v := (l2 + 1)) (lv' := [(2, .int (l2 + 1)), (0, .ref h), (1, .int (x0)), (3, .int (l3)), (4, .int (l4))]) hx hb dX8_worked_53 hl (k := 2) rfl (rfl) (by decide) rfl (fun ls hl => ?_)
  refine lv_aload_n hx hb dX8_worked_56 rfl (lv_at hl 1 rfl) ?_
  refine vt_get (D := D) (ci := 7) (v := .ref (am 30)) (C := RX8) (T := TX8) (N := 69) hx hb hts (fun w h => wm_c (wc_X8 w h)) hown hE.1 hP 0 rfl rfl 40 (by decide) tX8_40 (hts (.fieldLink RX8 102 "WornLinesModel" "byNot" "[I") (wm_c hw_85)) (fun _ h9 => h9) rfl dX8_worked_57 ?_
  refine lv_iload_n hx hb dX8_worked_60 rfl (lv_at hl 0 rfl) ?_
  refine lv_iload hx hb dX8_worked_61 (lv_at hl 4 rfl) ?_
  refine lv_bipush (v := 30) hx hb dX8_worked_63 (by decide) ?_
  refine lv_icmp_ne (tgt := 72) hx hb dX8_worked_65 (by decide) (fun c_20 => ?_) (fun c_20 => ?_)
  · replace hw := hw.1 c_20
    refine lv_iload hx hb dX8_worked_72 (lv_at hl 4 rfl) ?_
    refine lv_bipush (v := 31) hx hb dX8_worked_74 (by decide) ?_
    refine lv_icmp_ne (tgt := 83) hx hb dX8_worked_76 (by decide) (fun c_21 => ?_) (fun c_21 => ?_)
    · replace hw := hw.1 c_21
      refine lv_iconst (v := 0) hx hb dX8_worked_83 (by decide) ?_
      obtain ⟨h_22, hw⟩ := hw
      refine va_iast hx hb hE.1 hP hD hS 13 0 rfl rfl (h_22) dX8_worked_84 (fun H locs hP hD hS => ?_)
      have hP : va_P D vwCl (wW_X8_worked ak ad h am Fthrown Ftaped Fsize Fplace Fbegin Ftoken Fword Ftold Fwrong Fcode Fat Fway Fnext FisEnd FisFallen Fwritten Fmade Fstate FhandNext FhandSteps FhandWritten FmarkAt Alines AlineFrom AlineTo Acodes Akept AkeptBy Aahead Aagainst Asum AsumBy Aterm AtermBy (upd AbyNot (l2 + 1).toNatClampNeg 0) AvalueOf Awear) H := hP
      have hD : va_D A (wW_X8_worked ak ad h am Fthrown Ftaped Fsize Fplace Fbegin Ftoken Fword Ftold Fwrong Fcode Fat Fway Fnext FisEnd FisFallen Fwritten Fmade Fstate FhandNext FhandSteps FhandWritten FmarkAt Alines AlineFrom AlineTo Acodes Akept AkeptBy Aahead Aagainst Asum AsumBy Aterm AtermBy (upd AbyNot (l2 + 1).toNatClampNeg 0) AvalueOf Awear) := hD
      refine lv_aload_n hx hb dX8_worked_85 rfl (lv_at hl 1 rfl) ?_
      refine lv_iload_n hx hb dX8_worked_86 rfl (lv_at hl 0 rfl) ?_
      refine kc_v (wc := (wW_X8_opens ak ad h am Fthrown Ftaped Fsize Fplace Fbegin Ftoken Fword Ftold Fwrong Fcode Fat Fway Fnext FisEnd FisFallen Fwritten Fmade Fstate FhandNext FhandSteps FhandWritten FmarkAt AkeptBy Aagainst Asum AsumBy AtermBy)) (wr := [((am 4), .inl (ak 0, 6, .inl (Alines))), ((am 17), .inl (ak 0, 192, .inl (AlineFrom))), ((am 18), .inl (ak 0, 192, .inl (AlineTo))), ((am 19), .inl (ak 0, 6000, .inl (Acodes))), ((am 22), .inl (ak 0, 7, .inl (Akept))), ((am 24), .inl (ak 0, 7, .inl (Aahead))), ((am 28), .inl (ak 0, 7, .inl (Aterm))), ((am 30), .inl (ak 0, 7, .inl (upd AbyNot (l2 + 1).toNatClampNeg 0))), ((am 31), .inl (ak 0, 20, .inl (AvalueOf))), ((am 33), .inl (ak 0, 16, .inl (Awear)))]) hP hD hS hA [0, 6, 8, 9, 10, 12] [1, 2, 3, 4, 5, 7, 11, 13, 14, 15] rfl rfl (by decide) (by decide) (va_runV (As := [.int (l2 + 1)]) (rest := []) ⟨hx, hb, hml, hown, hts⟩ (c_X8_opens l D ak ad _ h am Fthrown Ftaped Fsize Fplace Fbegin Ftoken Fword Ftold Fwrong Fcode Fat Fway Fnext FisEnd FisFallen Fwritten Fmade Fstate FhandNext FhandSteps FhandWritten FmarkAt AkeptBy Aagainst Asum AsumBy AtermBy (l2 + 1) _ hw) (cwV 1 hts gX8_worked_X8_opens rfl rfl rfl hv_X8_opens ⟨(Nat.le_trans (Nat.le_of_ble_eq_true rfl) hRf), (Nat.le_trans (Nat.le_of_ble_eq_true rfl) hRl)⟩) (kc_preV (As := [.int (l2 + 1)]) (wc := (wW_X8_opens ak ad h am Fthrown Ftaped Fsize Fplace Fbegin Ftoken Fword Ftold Fwrong Fcode Fat Fway Fnext FisEnd FisFallen Fwritten Fmade Fstate FhandNext FhandSteps FhandWritten FmarkAt AkeptBy Aagainst Asum AsumBy AtermBy)) hE hT hP hD hS hA [0, 6, 8, 9, 10, 12] (by decide) rfl rfl 0 7 rfl rfl rfl) rfl rfl hl.1 rfl (lv_room (Nat.le_of_ble_eq_true rfl)) dX8_worked_87 ⟨hRc.1, hRc.2⟩) (fun u_23 H locs hw hP hD hS => ?_)
      obtain ⟨AkeptBy_24, Aagainst_25, Asum_26, AsumBy_27, AtermBy_28⟩ := u_23
      try dsimp -zeta only at hw
      have hP : va_P D vwCl (wW_X8_worked ak ad h am Fthrown Ftaped Fsize Fplace Fbegin Ftoken Fword Ftold Fwrong Fcode Fat Fway Fnext FisEnd FisFallen Fwritten Fmade Fstate FhandNext FhandSteps FhandWritten FmarkAt Alines AlineFrom AlineTo Acodes Akept AkeptBy_24 Aahead Aagainst_25 Asum_26 AsumBy_27 Aterm AtermBy_28 (upd AbyNot (l2 + 1).toNatClampNeg 0) AvalueOf Awear) H := hP.sub [10, 0, 1, 2, 3, 4, 11, 5, 12, 13, 14, 6, 15, 7, 8, 9] rfl
      have hD : va_D A (wW_X8_worked ak ad h am Fthrown Ftaped Fsize Fplace Fbegin Ftoken Fword Ftold Fwrong Fcode Fat Fway Fnext FisEnd FisFallen Fwritten Fmade Fstate FhandNext FhandSteps FhandWritten FmarkAt Alines AlineFrom AlineTo Acodes Akept AkeptBy_24 Aahead Aagainst_25 Asum_26 AsumBy_27 Aterm AtermBy_28 (upd AbyNot (l2 + 1).toNatClampNeg 0) AvalueOf Awear) := hD.sub [10, 0, 1, 2, 3, 4, 11, 5, 12, 13, 14, 6, 15, 7, 8, 9] (by decide) rfl
      refine lv_goto (tgt := 365) hx hb dX8_worked_90 (by decide) ?_
      refine lv_iinc (v := (l3 + 1)) (lv' := [(3, .int (l3 + 1)), (2, .int (l2 + 1)), (0, .ref h), (1, .int (x0)), (4, .int (l4))]) hx hb dX8_worked_365 hl (k := 3) rfl (rfl) (by decide) rfl (fun ls hl => ?_)
      refine lv_goto (tgt := 14) hx hb dX8_worked_368 (by decide) ?_
      exact kk14 Akept AkeptBy_24 Aahead Aagainst_25 Asum_26 AsumBy_27 Aterm AtermBy_28 (upd AbyNot (l2 + 1).toNatClampNeg 0) (l2 + 1) (l3 + 1) _ _ _ hw hP hD hS (lv_sub hl [2, 3, 1, 0] rfl)
    · replace hw := hw.2 c_21
      refine lv_iconst (v := 2) hx hb dX8_worked_79 (by decide) ?_
      refine lv_goto (tgt := 84) hx hb dX8_worked_80 (by decide) ?_
      obtain ⟨h_30, hw⟩ := hw
      refine va_iast hx hb hE.1 hP hD hS 13 0 rfl rfl (h_30) dX8_worked_84 (fun H locs hP hD hS => ?_)
      have hP : va_P D vwCl (wW_X8_worked ak ad h am Fthrown Ftaped Fsize Fplace Fbegin Ftoken Fword Ftold Fwrong Fcode Fat Fway Fnext FisEnd FisFallen Fwritten Fmade Fstate FhandNext FhandSteps FhandWritten FmarkAt Alines AlineFrom AlineTo Acodes Akept AkeptBy Aahead Aagainst Asum AsumBy Aterm AtermBy (upd AbyNot (l2 + 1).toNatClampNeg 2) AvalueOf Awear) H := hP
      have hD : va_D A (wW_X8_worked ak ad h am Fthrown Ftaped Fsize Fplace Fbegin Ftoken Fword Ftold Fwrong Fcode Fat Fway Fnext FisEnd FisFallen Fwritten Fmade Fstate FhandNext FhandSteps FhandWritten FmarkAt Alines AlineFrom AlineTo Acodes Akept AkeptBy Aahead Aagainst Asum AsumBy Aterm AtermBy (upd AbyNot (l2 + 1).toNatClampNeg 2) AvalueOf Awear) := hD
      refine lv_aload_n hx hb dX8_worked_85 rfl (lv_at hl 1 rfl) ?_
      refine lv_iload_n hx hb dX8_worked_86 rfl (lv_at hl 0 rfl) ?_
      refine kc_v (wc := (wW_X8_opens ak ad h am Fthrown Ftaped Fsize Fplace Fbegin Ftoken Fword Ftold Fwrong Fcode Fat Fway Fnext FisEnd FisFallen Fwritten Fmade Fstate FhandNext FhandSteps FhandWritten FmarkAt AkeptBy Aagainst Asum AsumBy AtermBy)) (wr := [((am 4), .inl (ak 0, 6, .inl (Alines))), ((am 17), .inl (ak 0, 192, .inl (AlineFrom))), ((am 18), .inl (ak 0, 192, .inl (AlineTo))), ((am 19), .inl (ak 0, 6000, .inl (Acodes))), ((am 22), .inl (ak 0, 7, .inl (Akept))), ((am 24), .inl (ak 0, 7, .inl (Aahead))), ((am 28), .inl (ak 0, 7, .inl (Aterm))), ((am 30), .inl (ak 0, 7, .inl (upd AbyNot (l2 + 1).toNatClampNeg 2))), ((am 31), .inl (ak 0, 20, .inl (AvalueOf))), ((am 33), .inl (ak 0, 16, .inl (Awear)))]) hP hD hS hA [0, 6, 8, 9, 10, 12] [1, 2, 3, 4, 5, 7, 11, 13, 14, 15] rfl rfl (by decide) (by decide) (va_runV (As := [.int (l2 + 1)]) (rest := []) ⟨hx, hb, hml, hown, hts⟩ (c_X8_opens l D ak ad _ h am Fthrown Ftaped Fsize Fplace Fbegin Ftoken Fword Ftold Fwrong Fcode Fat Fway Fnext FisEnd FisFallen Fwritten Fmade Fstate FhandNext FhandSteps FhandWritten FmarkAt AkeptBy Aagainst Asum AsumBy AtermBy (l2 + 1) _ hw) (cwV 1 hts gX8_worked_X8_opens rfl rfl rfl hv_X8_opens ⟨(Nat.le_trans (Nat.le_of_ble_eq_true rfl) hRf), (Nat.le_trans (Nat.le_of_ble_eq_true rfl) hRl)⟩) (kc_preV (As := [.int (l2 + 1)]) (wc := (wW_X8_opens ak ad h am Fthrown Ftaped Fsize Fplace Fbegin Ftoken Fword Ftold Fwrong Fcode Fat Fway Fnext FisEnd FisFallen Fwritten Fmade Fstate FhandNext FhandSteps FhandWritten FmarkAt AkeptBy Aagainst Asum AsumBy AtermBy)) hE hT hP hD hS hA [0, 6, 8, 9, 10, 12] (by decide) rfl rfl 0 7 rfl rfl rfl) rfl rfl hl.1 rfl (lv_room (Nat.le_of_ble_eq_true rfl)) dX8_worked_87 ⟨hRc.1, hRc.2⟩) (fun u_31 H locs hw hP hD hS => ?_)
      obtain ⟨AkeptBy_32, Aagainst_33, Asum_34, AsumBy_35, AtermBy_36⟩ := u_31
      try dsimp -zeta only at hw
      have hP : va_P D vwCl (wW_X8_worked ak ad h am Fthrown Ftaped Fsize Fplace Fbegin Ftoken Fword Ftold Fwrong Fcode Fat Fway Fnext FisEnd FisFallen Fwritten Fmade Fstate FhandNext FhandSteps FhandWritten FmarkAt Alines AlineFrom AlineTo Acodes Akept AkeptBy_32 Aahead Aagainst_33 Asum_34 AsumBy_35 Aterm AtermBy_36 (upd AbyNot (l2 + 1).toNatClampNeg 2) AvalueOf Awear) H := hP.sub [10, 0, 1, 2, 3, 4, 11, 5, 12, 13, 14, 6, 15, 7, 8, 9] rfl
      have hD : va_D A (wW_X8_worked ak ad h am Fthrown Ftaped Fsize Fplace Fbegin Ftoken Fword Ftold Fwrong Fcode Fat Fway Fnext FisEnd FisFallen Fwritten Fmade Fstate FhandNext FhandSteps FhandWritten FmarkAt Alines AlineFrom AlineTo Acodes Akept AkeptBy_32 Aahead Aagainst_33 Asum_34 AsumBy_35 Aterm AtermBy_36 (upd AbyNot (l2 + 1).toNatClampNeg 2) AvalueOf Awear) := hD.sub [10, 0, 1, 2, 3, 4, 11, 5, 12, 13, 14, 6, 15, 7, 8, 9] (by decide) rfl
      refine lv_goto (tgt := 365) hx hb dX8_worked_90 (by decide) ?_
      refine lv_iinc (v := (l3 + 1)) (lv' := [(3, .int (l3 + 1)), (2, .int (l2 + 1)), (0, .ref h), (1, .int (x0)), (4, .int (l4))]) hx hb dX8_worked_365 hl (k := 3) rfl (rfl) (by decide) rfl (fun ls hl => ?_)
      refine lv_goto (tgt := 14) hx hb dX8_worked_368 (by decide) ?_
      exact kk14 Akept AkeptBy_32 Aahead Aagainst_33 Asum_34 AsumBy_35 Aterm AtermBy_36 (upd AbyNot (l2 + 1).toNatClampNeg 2) (l2 + 1) (l3 + 1) _ _ _ hw hP hD hS (lv_sub hl [2, 3, 1, 0] rfl)
  · replace hw := hw.2 c_20
    refine lv_iconst (v := 1) hx hb dX8_worked_68 (by decide) ?_
    refine lv_goto (tgt := 84) hx hb dX8_worked_69 (by decide) ?_
    obtain ⟨h_38, hw⟩ := hw
    refine va_iast hx hb hE.1 hP hD hS 13 0 rfl rfl (h_38) dX8_worked_84 (fun H locs hP hD hS => ?_)
    have hP : va_P D vwCl (wW_X8_worked ak ad h am Fthrown Ftaped Fsize Fplace Fbegin Ftoken Fword Ftold Fwrong Fcode Fat Fway Fnext FisEnd FisFallen Fwritten Fmade Fstate FhandNext FhandSteps FhandWritten FmarkAt Alines AlineFrom AlineTo Acodes Akept AkeptBy Aahead Aagainst Asum AsumBy Aterm AtermBy (upd AbyNot (l2 + 1).toNatClampNeg 1) AvalueOf Awear) H := hP
    have hD : va_D A (wW_X8_worked ak ad h am Fthrown Ftaped Fsize Fplace Fbegin Ftoken Fword Ftold Fwrong Fcode Fat Fway Fnext FisEnd FisFallen Fwritten Fmade Fstate FhandNext FhandSteps FhandWritten FmarkAt Alines AlineFrom AlineTo Acodes Akept AkeptBy Aahead Aagainst Asum AsumBy Aterm AtermBy (upd AbyNot (l2 + 1).toNatClampNeg 1) AvalueOf Awear) := hD
    refine lv_aload_n hx hb dX8_worked_85 rfl (lv_at hl 1 rfl) ?_
    refine lv_iload_n hx hb dX8_worked_86 rfl (lv_at hl 0 rfl) ?_
    refine kc_v (wc := (wW_X8_opens ak ad h am Fthrown Ftaped Fsize Fplace Fbegin Ftoken Fword Ftold Fwrong Fcode Fat Fway Fnext FisEnd FisFallen Fwritten Fmade Fstate FhandNext FhandSteps FhandWritten FmarkAt AkeptBy Aagainst Asum AsumBy AtermBy)) (wr := [((am 4), .inl (ak 0, 6, .inl (Alines))), ((am 17), .inl (ak 0, 192, .inl (AlineFrom))), ((am 18), .inl (ak 0, 192, .inl (AlineTo))), ((am 19), .inl (ak 0, 6000, .inl (Acodes))), ((am 22), .inl (ak 0, 7, .inl (Akept))), ((am 24), .inl (ak 0, 7, .inl (Aahead))), ((am 28), .inl (ak 0, 7, .inl (Aterm))), ((am 30), .inl (ak 0, 7, .inl (upd AbyNot (l2 + 1).toNatClampNeg 1))), ((am 31), .inl (ak 0, 20, .inl (AvalueOf))), ((am 33), .inl (ak 0, 16, .inl (Awear)))]) hP hD hS hA [0, 6, 8, 9, 10, 12] [1, 2, 3, 4, 5, 7, 11, 13, 14, 15] rfl rfl (by decide) (by decide) (va_runV (As := [.int (l2 + 1)]) (rest := []) ⟨hx, hb, hml, hown, hts⟩ (c_X8_opens l D ak ad _ h am Fthrown Ftaped Fsize Fplace Fbegin Ftoken Fword Ftold Fwrong Fcode Fat Fway Fnext FisEnd FisFallen Fwritten Fmade Fstate FhandNext FhandSteps FhandWritten FmarkAt AkeptBy Aagainst Asum AsumBy AtermBy (l2 + 1) _ hw) (cwV 1 hts gX8_worked_X8_opens rfl rfl rfl hv_X8_opens ⟨(Nat.le_trans (Nat.le_of_ble_eq_true rfl) hRf), (Nat.le_trans (Nat.le_of_ble_eq_true rfl) hRl)⟩) (kc_preV (As := [.int (l2 + 1)]) (wc := (wW_X8_opens ak ad h am Fthrown Ftaped Fsize Fplace Fbegin Ftoken Fword Ftold Fwrong Fcode Fat Fway Fnext FisEnd FisFallen Fwritten Fmade Fstate FhandNext FhandSteps FhandWritten FmarkAt AkeptBy Aagainst Asum AsumBy AtermBy)) hE hT hP hD hS hA [0, 6, 8, 9, 10, 12] (by decide) rfl rfl 0 7 rfl rfl rfl) rfl rfl hl.1 rfl (lv_room (Nat.le_of_ble_eq_true rfl)) dX8_worked_87 ⟨hRc.1, hRc.2⟩) (fun u_39 H locs hw hP hD hS => ?_)
    obtain ⟨AkeptBy_40, Aagainst_41, Asum_42, AsumBy_43, AtermBy_44⟩ := u_39
    try dsimp -zeta only at hw
    have hP : va_P D vwCl (wW_X8_worked ak ad h am Fthrown Ftaped Fsize Fplace Fbegin Ftoken Fword Ftold Fwrong Fcode Fat Fway Fnext FisEnd FisFallen Fwritten Fmade Fstate FhandNext FhandSteps FhandWritten FmarkAt Alines AlineFrom AlineTo Acodes Akept AkeptBy_40 Aahead Aagainst_41 Asum_42 AsumBy_43 Aterm AtermBy_44 (upd AbyNot (l2 + 1).toNatClampNeg 1) AvalueOf Awear) H := hP.sub [10, 0, 1, 2, 3, 4, 11, 5, 12, 13, 14, 6, 15, 7, 8, 9] rfl
    have hD : va_D A (wW_X8_worked ak ad h am Fthrown Ftaped Fsize Fplace Fbegin Ftoken Fword Ftold Fwrong Fcode Fat Fway Fnext FisEnd FisFallen Fwritten Fmade Fstate FhandNext FhandSteps FhandWritten FmarkAt Alines AlineFrom AlineTo Acodes Akept AkeptBy_40 Aahead Aagainst_41 Asum_42 AsumBy_43 Aterm AtermBy_44 (upd AbyNot (l2 + 1).toNatClampNeg 1) AvalueOf Awear) := hD.sub [10, 0, 1, 2, 3, 4, 11, 5, 12, 13, 14, 6, 15, 7, 8, 9] (by decide) rfl
    refine lv_goto (tgt := 365) hx hb dX8_worked_90 (by decide) ?_
    refine lv_iinc (v := (l3 + 1)) (lv' := [(3, .int (l3 + 1)), (2, .int (l2 + 1)), (0, .ref h), (1, .int (x0)), (4, .int (l4))]) hx hb dX8_worked_365 hl (k := 3) rfl (rfl) (by decide) rfl (fun ls hl => ?_)
    refine lv_goto (tgt := 14) hx hb dX8_worked_368 (by decide) ?_
    exact kk14 Akept AkeptBy_40 Aahead Aagainst_41 Asum_42 AsumBy_43 Aterm AtermBy_44 (upd AbyNot (l2 + 1).toNatClampNeg 1) (l2 + 1) (l3 + 1) _ _ _ hw hP hD hS (lv_sub hl [2, 3, 1, 0] rfl)

def kf_X8_worked_107 (Fat : Int32) (Fway : Int32) (Alines : Nat → Int32) (AlineFrom : Nat → Int32) (AlineTo : Nat → Int32) (Acodes : Nat → Int32) (AvalueOf : Nat → Int32) (Awear : Nat → Int32) (x0 : Int32) (κ14 : (Nat → Int32) → (Nat → Int32) → (Nat → Int32) → (Nat → Int32) → (Nat → Int32) → (Nat → Int32) → (Nat → Int32) → (Nat → Int32) → (Nat → Int32) → Int32 → Int32 → Prop) (Φ : Int32 → (Nat → Int32) → (Nat → Int32) → (Nat → Int32) → (Nat → Int32) → (Nat → Int32) → (Nat → Int32) → (Nat → Int32) → (Nat → Int32) → (Nat → Int32) → Prop) (Akept : Nat → Int32) (AkeptBy : Nat → Int32) (Aahead : Nat → Int32) (Aagainst : Nat → Int32) (Asum : Nat → Int32) (AsumBy : Nat → Int32) (Aterm : Nat → Int32) (AtermBy : Nat → Int32) (AbyNot : Nat → Int32) (l2 : Int32) (l3 : Int32) (l4 : Int32) : Prop := wp_X8_sums AsumBy Aterm l2 Asum AtermBy (fun Asum_50 AtermBy_51 => vp_in l2 7 ∧ κ14 Akept AkeptBy Aahead Aagainst Asum_50 (upd AsumBy (l2).toNatClampNeg l4) Aterm AtermBy_51 AbyNot l2 (l3 + 1))
set_option maxHeartbeats 4000000 in
set_option maxRecDepth 100000 in
theorem kj_X8_worked_107 {p : Program} {l : Launch} {e : Env} {R : Room} {s : State} {m : MethodId} {args : Array Value} {below : List Frame} {meth : Method} {c : Code} {cells slots : Nat} {Q : State → Prop} {A : Nat → Prop} {D : va_G} {ak : Nat → ClassId} {ad : Nat → Nat} (hx : p.tables.exec = Jvm.exec) (hb : c.code = cX8_worked) (hown : s.vm.findClass RX8 = some m.cls) (hts : ∀ w ∈ wsX8_worked, w.before args s = true) (hml : c.maxLocals = 6) (hE : EV D ak s) (hT : ST D ak ad A s s.heap) (hA : ∀ q, s.heap.size ≤ q → A q) (hRf : 2 ≤ R.frames) (hRl : 44 ≤ R.locals) (hRc : cells ≤ R.cells ∧ slots ≤ R.slots) (h : Nat) (am : Nat → Nat) (Fthrown : Int32) (Ftaped : Int32) (Fsize : Int32) (Fplace : Int32) (Fbegin : Int32) (Ftoken : Int32) (Fword : Int64) (Ftold : Int32) (Fwrong : Int32) (Fcode : Int32) (Fat : Int32) (Fway : Int32) (Fnext : Int32) (FisEnd : Int32) (FisFallen : Int32) (Fwritten : Int32) (Fmade : Int32) (Fstate : Int32) (FhandNext : Int32) (FhandSteps : Int32) (FhandWritten : Int32) (FmarkAt : Int32) (Alines : Nat → Int32) (AlineFrom : Nat → Int32) (AlineTo : Nat → Int32) (Acodes : Nat → Int32) (AvalueOf : Nat → Int32) (Awear : Nat → Int32) (x0 : Int32) (κ14 : (Nat → Int32) → (Nat → Int32) → (Nat → Int32) → (Nat → Int32) → (Nat → Int32) → (Nat → Int32) → (Nat → Int32) → (Nat → Int32) → (Nat → Int32) → Int32 → Int32 → Prop) (Φ : Int32 → (Nat → Int32) → (Nat → Int32) → (Nat → Int32) → (Nat → Int32) → (Nat → Int32) → (Nat → Int32) → (Nat → Int32) → (Nat → Int32) → (Nat → Int32) → Prop)
    (kk14 : ∀ (Akept : Nat → Int32) (AkeptBy : Nat → Int32) (Aahead : Nat → Int32) (Aagainst : Nat → Int32) (Asum : Nat → Int32) (AsumBy : Nat → Int32) (Aterm : Nat → Int32) (AtermBy : Nat → Int32) (AbyNot : Nat → Int32) (l2 : Int32) (l3 : Int32) (H : Heap) (locs : List Loc) (ls : Array Slot), κ14 Akept AkeptBy Aahead Aagainst Asum AsumBy Aterm AtermBy AbyNot l2 l3 → va_P D vwCl (wW_X8_worked ak ad h am Fthrown Ftaped Fsize Fplace Fbegin Ftoken Fword Ftold Fwrong Fcode Fat Fway Fnext FisEnd FisFallen Fwritten Fmade Fstate FhandNext FhandSteps FhandWritten FmarkAt Alines AlineFrom AlineTo Acodes Akept AkeptBy Aahead Aagainst Asum AsumBy Aterm AtermBy AbyNot AvalueOf Awear) H → va_D A (wW_X8_worked ak ad h am Fthrown Ftaped Fsize Fplace Fbegin Ftoken Fword Ftold Fwrong Fcode Fat Fway Fnext FisEnd FisFallen Fwritten Fmade Fstate FhandNext FhandSteps FhandWritten FmarkAt Alines AlineFrom AlineTo Acodes Akept AkeptBy Aahead Aagainst Asum AsumBy Aterm AtermBy AbyNot AvalueOf Awear) → va_S A s.heap H locs → lv_has ls 6 [(0, .ref h), (1, .int (x0)), (2, .int (l2)), (3, .int (l3))] → W p l e R s m args below meth c H locs cells slots Q (F0 m 14 ls ([])))
    (kR382 : ∀ (r : Int32) (Akept : Nat → Int32) (AkeptBy : Nat → Int32) (Aahead : Nat → Int32) (Aagainst : Nat → Int32) (Asum : Nat → Int32) (AsumBy : Nat → Int32) (Aterm : Nat → Int32) (AtermBy : Nat → Int32) (AbyNot : Nat → Int32) (H : Heap) (locs : List Loc) (ls : Array Slot), Φ r Akept AkeptBy Aahead Aagainst Asum AsumBy Aterm AtermBy AbyNot → va_P D vwCl (wW_X8_worked ak ad h am Fthrown Ftaped Fsize Fplace Fbegin Ftoken Fword Ftold Fwrong Fcode Fat Fway Fnext FisEnd FisFallen Fwritten Fmade Fstate FhandNext FhandSteps FhandWritten FmarkAt Alines AlineFrom AlineTo Acodes Akept AkeptBy Aahead Aagainst Asum AsumBy Aterm AtermBy AbyNot AvalueOf Awear) H → va_D A (wW_X8_worked ak ad h am Fthrown Ftaped Fsize Fplace Fbegin Ftoken Fword Ftold Fwrong Fcode Fat Fway Fnext FisEnd FisFallen Fwritten Fmade Fstate FhandNext FhandSteps FhandWritten FmarkAt Alines AlineFrom AlineTo Acodes Akept AkeptBy Aahead Aagainst Asum AsumBy Aterm AtermBy AbyNot AvalueOf Awear) → va_S A s.heap H locs → W p l e R s m args below meth c H locs cells slots Q (F0 m 382 ls [.int r]))
    : ∀ (Akept : Nat → Int32) (AkeptBy : Nat → Int32) (Aahead : Nat → Int32) (Aagainst : Nat → Int32) (Asum : Nat → Int32) (AsumBy : Nat → Int32) (Aterm : Nat → Int32) (AtermBy : Nat → Int32) (AbyNot : Nat → Int32) (l2 : Int32) (l3 : Int32) (l4 : Int32) (H : Heap) (locs : List Loc) (ls : Array Slot), kf_X8_worked_107 Fat Fway Alines AlineFrom AlineTo Acodes AvalueOf Awear x0 κ14 Φ Akept AkeptBy Aahead Aagainst Asum AsumBy Aterm AtermBy AbyNot l2 l3 l4 → va_P D vwCl (wW_X8_worked ak ad h am Fthrown Ftaped Fsize Fplace Fbegin Ftoken Fword Ftold Fwrong Fcode Fat Fway Fnext FisEnd FisFallen Fwritten Fmade Fstate FhandNext FhandSteps FhandWritten FmarkAt Alines AlineFrom AlineTo Acodes Akept AkeptBy Aahead Aagainst Asum AsumBy Aterm AtermBy AbyNot AvalueOf Awear) H → va_D A (wW_X8_worked ak ad h am Fthrown Ftaped Fsize Fplace Fbegin Ftoken Fword Ftold Fwrong Fcode Fat Fway Fnext FisEnd FisFallen Fwritten Fmade Fstate FhandNext FhandSteps FhandWritten FmarkAt Alines AlineFrom AlineTo Acodes Akept AkeptBy Aahead Aagainst Asum AsumBy Aterm AtermBy AbyNot AvalueOf Awear) → va_S A s.heap H locs → lv_has ls 6 [(0, .ref h), (1, .int (x0)), (2, .int (l2)), (3, .int (l3)), (4, .int (l4))] → W p l e R s m args below meth c H locs cells slots Q (F0 m 107 ls ([])) := by
  intro Akept AkeptBy Aahead Aagainst Asum AsumBy Aterm AtermBy AbyNot l2 l3 l4 H locs ls hw hP hD hS hl
  delta kf_X8_worked_107 at hw
  refine lv_aload_n hx hb dX8_worked_107 rfl (lv_at hl 0 rfl) ?_
  refine lv_iload_n hx hb dX8_worked_108 rfl (lv_at hl 2 rfl) ?_
  refine kc_v (wc := (wW_X8_sums ak ad h am Fthrown Ftaped Fsize Fplace Fbegin Ftoken Fword Ftold Fwrong Fcode Fat Fway Fnext FisEnd FisFallen Fwritten Fmade Fstate FhandNext FhandSteps FhandWritten FmarkAt Asum AsumBy Aterm AtermBy)) (wr := [((am 4), .inl (ak 0, 6, .inl (Alines))), ((am 17), .inl (ak 0, 192, .inl (AlineFrom))), ((am 18), .inl (ak 0, 192, .inl (AlineTo))), ((am 19), .inl (ak 0, 6000, .inl (Acodes))), ((am 22), .inl (ak 0, 7, .inl (Akept))), ((am 23), .inl (ak 0, 7, .inl (AkeptBy))), ((am 24), .inl (ak 0, 7, .inl (Aahead))), ((am 25), .inl (ak 0, 7, .inl (Aagainst))), ((am 30), .inl (ak 0, 7, .inl (AbyNot))), ((am 31), .inl (ak 0, 20, .inl (AvalueOf))), ((am 33), .inl (ak 0, 16, .inl (Awear)))]) hP hD hS hA [0, 9, 10, 11, 12] [1, 2, 3, 4, 5, 6, 7, 8, 13, 14, 15] rfl rfl (by decide) (by decide) (va_runV (As := [.int (l2)]) (rest := []) ⟨hx, hb, hml, hown, hts⟩ (c_X8_sums l D ak ad _ h am Fthrown Ftaped Fsize Fplace Fbegin Ftoken Fword Ftold Fwrong Fcode Fat Fway Fnext FisEnd FisFallen Fwritten Fmade Fstate FhandNext FhandSteps FhandWritten FmarkAt Asum AsumBy Aterm AtermBy l2 _ hw) (cwV 1 hts gX8_worked_X8_sums rfl rfl rfl hv_X8_sums ⟨(Nat.le_trans (Nat.le_of_ble_eq_true rfl) hRf), (Nat.le_trans (Nat.le_of_ble_eq_true rfl) hRl)⟩) (kc_preV (As := [.int (l2)]) (wc := (wW_X8_sums ak ad h am Fthrown Ftaped Fsize Fplace Fbegin Ftoken Fword Ftold Fwrong Fcode Fat Fway Fnext FisEnd FisFallen Fwritten Fmade Fstate FhandNext FhandSteps FhandWritten FmarkAt Asum AsumBy Aterm AtermBy)) hE hT hP hD hS hA [0, 9, 10, 11, 12] (by decide) rfl rfl 0 7 rfl rfl rfl) rfl rfl hl.1 rfl (lv_room (Nat.le_of_ble_eq_true rfl)) dX8_worked_109 ⟨hRc.1, hRc.2⟩) (fun u_49 H locs hw hP hD hS => ?_)
  obtain ⟨Asum_50, AtermBy_51⟩ := u_49
  try dsimp -zeta only at hw
  have hP : va_P D vwCl (wW_X8_worked ak ad h am Fthrown Ftaped Fsize Fplace Fbegin Ftoken Fword Ftold Fwrong Fcode Fat Fway Fnext FisEnd FisFallen Fwritten Fmade Fstate FhandNext FhandSteps FhandWritten FmarkAt Alines AlineFrom AlineTo Acodes Akept AkeptBy Aahead Aagainst Asum_50 AsumBy Aterm AtermBy_51 AbyNot AvalueOf Awear) H := hP.sub [11, 0, 1, 2, 3, 4, 5, 6, 7, 12, 13, 14, 15, 8, 9, 10] rfl
  have hD : va_D A (wW_X8_worked ak ad h am Fthrown Ftaped Fsize Fplace Fbegin Ftoken Fword Ftold Fwrong Fcode Fat Fway Fnext FisEnd FisFallen Fwritten Fmade Fstate FhandNext FhandSteps FhandWritten FmarkAt Alines AlineFrom AlineTo Acodes Akept AkeptBy Aahead Aagainst Asum_50 AsumBy Aterm AtermBy_51 AbyNot AvalueOf Awear) := hD.sub [11, 0, 1, 2, 3, 4, 5, 6, 7, 12, 13, 14, 15, 8, 9, 10] (by decide) rfl
  refine lv_aload_n hx hb dX8_worked_112 rfl (lv_at hl 0 rfl) ?_
  refine vt_get (D := D) (ci := 7) (v := .ref (am 27)) (C := RX8) (T := TX8) (N := 69) hx hb hts (fun w h => wm_c (wc_X8 w h)) hown hE.1 hP 0 rfl rfl 37 (by decide) tX8_37 (hts (.fieldLink RX8 93 "WornLinesModel" "sumBy" "[I") (wm_c hw_70)) (fun _ h9 => h9) rfl dX8_worked_113 ?_
  refine lv_iload_n hx hb dX8_worked_116 rfl (lv_at hl 2 rfl) ?_
  refine lv_iload hx hb dX8_worked_117 (lv_at hl 4 rfl) ?_
  obtain ⟨h_53, hw⟩ := hw
  refine va_iast hx hb hE.1 hP hD hS 10 0 rfl rfl (h_53) dX8_worked_119 (fun H locs hP hD hS => ?_)
  have hP : va_P D vwCl (wW_X8_worked ak ad h am Fthrown Ftaped Fsize Fplace Fbegin Ftoken Fword Ftold Fwrong Fcode Fat Fway Fnext FisEnd FisFallen Fwritten Fmade Fstate FhandNext FhandSteps FhandWritten FmarkAt Alines AlineFrom AlineTo Acodes Akept AkeptBy Aahead Aagainst Asum_50 (upd AsumBy (l2).toNatClampNeg l4) Aterm AtermBy_51 AbyNot AvalueOf Awear) H := hP
  have hD : va_D A (wW_X8_worked ak ad h am Fthrown Ftaped Fsize Fplace Fbegin Ftoken Fword Ftold Fwrong Fcode Fat Fway Fnext FisEnd FisFallen Fwritten Fmade Fstate FhandNext FhandSteps FhandWritten FmarkAt Alines AlineFrom AlineTo Acodes Akept AkeptBy Aahead Aagainst Asum_50 (upd AsumBy (l2).toNatClampNeg l4) Aterm AtermBy_51 AbyNot AvalueOf Awear) := hD
  refine lv_goto (tgt := 365) hx hb dX8_worked_120 (by decide) ?_
  refine lv_iinc (v := (l3 + 1)) (lv' := [(3, .int (l3 + 1)), (0, .ref h), (1, .int (x0)), (2, .int (l2)), (4, .int (l4))]) hx hb dX8_worked_365 hl (k := 3) rfl (rfl) (by decide) rfl (fun ls hl => ?_)
  refine lv_goto (tgt := 14) hx hb dX8_worked_368 (by decide) ?_
  exact kk14 Akept AkeptBy Aahead Aagainst Asum_50 (upd AsumBy (l2).toNatClampNeg l4) Aterm AtermBy_51 AbyNot l2 (l3 + 1) _ _ _ hw hP hD hS (lv_sub hl [1, 2, 3, 0] rfl)

def kf_X8_worked_155 (Fat : Int32) (Fway : Int32) (Alines : Nat → Int32) (AlineFrom : Nat → Int32) (AlineTo : Nat → Int32) (Acodes : Nat → Int32) (AvalueOf : Nat → Int32) (Awear : Nat → Int32) (x0 : Int32) (κ14 : (Nat → Int32) → (Nat → Int32) → (Nat → Int32) → (Nat → Int32) → (Nat → Int32) → (Nat → Int32) → (Nat → Int32) → (Nat → Int32) → (Nat → Int32) → Int32 → Int32 → Prop) (Φ : Int32 → (Nat → Int32) → (Nat → Int32) → (Nat → Int32) → (Nat → Int32) → (Nat → Int32) → (Nat → Int32) → (Nat → Int32) → (Nat → Int32) → (Nat → Int32) → Prop) (Akept : Nat → Int32) (AkeptBy : Nat → Int32) (Aahead : Nat → Int32) (Aagainst : Nat → Int32) (Asum : Nat → Int32) (AsumBy : Nat → Int32) (Aterm : Nat → Int32) (AtermBy : Nat → Int32) (AbyNot : Nat → Int32) (l2 : Int32) (l3 : Int32) (l4 : Int32) : Prop := wp_X8_sums AsumBy Aterm l2 Asum AtermBy (fun Asum_58 AtermBy_59 => vp_in l2 7 ∧ vp_in l2 7 ∧ vp_in l2 7 ∧ vp_in l2 7 ∧ vp_in l2 7 ∧ κ14 Akept AkeptBy (upd Aahead (l2).toNatClampNeg ((Asum_58 (l2).toNatClampNeg))) (upd Aagainst (l2).toNatClampNeg l4) (upd Asum_58 (l2).toNatClampNeg 0) (upd AsumBy (l2).toNatClampNeg 20) Aterm AtermBy_59 AbyNot l2 (l3 + 1))
set_option maxHeartbeats 4000000 in
set_option maxRecDepth 100000 in
theorem kj_X8_worked_155 {p : Program} {l : Launch} {e : Env} {R : Room} {s : State} {m : MethodId} {args : Array Value} {below : List Frame} {meth : Method} {c : Code} {cells slots : Nat} {Q : State → Prop} {A : Nat → Prop} {D : va_G} {ak : Nat → ClassId} {ad : Nat → Nat} (hx : p.tables.exec = Jvm.exec) (hb : c.code = cX8_worked) (hown : s.vm.findClass RX8 = some m.cls) (hts : ∀ w ∈ wsX8_worked, w.before args s = true) (hml : c.maxLocals = 6) (hE : EV D ak s) (hT : ST D ak ad A s s.heap) (hA : ∀ q, s.heap.size ≤ q → A q) (hRf : 2 ≤ R.frames) (hRl : 44 ≤ R.locals) (hRc : cells ≤ R.cells ∧ slots ≤ R.slots) (h : Nat) (am : Nat → Nat) (Fthrown : Int32) (Ftaped : Int32) (Fsize : Int32) (Fplace : Int32) (Fbegin : Int32) (Ftoken : Int32) (Fword : Int64) (Ftold : Int32) (Fwrong : Int32) (Fcode : Int32) (Fat : Int32) (Fway : Int32) (Fnext : Int32) (FisEnd : Int32) (FisFallen : Int32) (Fwritten : Int32) (Fmade : Int32) (Fstate : Int32) (FhandNext : Int32) (FhandSteps : Int32) (FhandWritten : Int32) (FmarkAt : Int32) (Alines : Nat → Int32) (AlineFrom : Nat → Int32) (AlineTo : Nat → Int32) (Acodes : Nat → Int32) (AvalueOf : Nat → Int32) (Awear : Nat → Int32) (x0 : Int32) (κ14 : (Nat → Int32) → (Nat → Int32) → (Nat → Int32) → (Nat → Int32) → (Nat → Int32) → (Nat → Int32) → (Nat → Int32) → (Nat → Int32) → (Nat → Int32) → Int32 → Int32 → Prop) (Φ : Int32 → (Nat → Int32) → (Nat → Int32) → (Nat → Int32) → (Nat → Int32) → (Nat → Int32) → (Nat → Int32) → (Nat → Int32) → (Nat → Int32) → (Nat → Int32) → Prop)
    (kk14 : ∀ (Akept : Nat → Int32) (AkeptBy : Nat → Int32) (Aahead : Nat → Int32) (Aagainst : Nat → Int32) (Asum : Nat → Int32) (AsumBy : Nat → Int32) (Aterm : Nat → Int32) (AtermBy : Nat → Int32) (AbyNot : Nat → Int32) (l2 : Int32) (l3 : Int32) (H : Heap) (locs : List Loc) (ls : Array Slot), κ14 Akept AkeptBy Aahead Aagainst Asum AsumBy Aterm AtermBy AbyNot l2 l3 → va_P D vwCl (wW_X8_worked ak ad h am Fthrown Ftaped Fsize Fplace Fbegin Ftoken Fword Ftold Fwrong Fcode Fat Fway Fnext FisEnd FisFallen Fwritten Fmade Fstate FhandNext FhandSteps FhandWritten FmarkAt Alines AlineFrom AlineTo Acodes Akept AkeptBy Aahead Aagainst Asum AsumBy Aterm AtermBy AbyNot AvalueOf Awear) H → va_D A (wW_X8_worked ak ad h am Fthrown Ftaped Fsize Fplace Fbegin Ftoken Fword Ftold Fwrong Fcode Fat Fway Fnext FisEnd FisFallen Fwritten Fmade Fstate FhandNext FhandSteps FhandWritten FmarkAt Alines AlineFrom AlineTo Acodes Akept AkeptBy Aahead Aagainst Asum AsumBy Aterm AtermBy AbyNot AvalueOf Awear) → va_S A s.heap H locs → lv_has ls 6 [(0, .ref h), (1, .int (x0)), (2, .int (l2)), (3, .int (l3))] → W p l e R s m args below meth c H locs cells slots Q (F0 m 14 ls ([])))
    (kR382 : ∀ (r : Int32) (Akept : Nat → Int32) (AkeptBy : Nat → Int32) (Aahead : Nat → Int32) (Aagainst : Nat → Int32) (Asum : Nat → Int32) (AsumBy : Nat → Int32) (Aterm : Nat → Int32) (AtermBy : Nat → Int32) (AbyNot : Nat → Int32) (H : Heap) (locs : List Loc) (ls : Array Slot), Φ r Akept AkeptBy Aahead Aagainst Asum AsumBy Aterm AtermBy AbyNot → va_P D vwCl (wW_X8_worked ak ad h am Fthrown Ftaped Fsize Fplace Fbegin Ftoken Fword Ftold Fwrong Fcode Fat Fway Fnext FisEnd FisFallen Fwritten Fmade Fstate FhandNext FhandSteps FhandWritten FmarkAt Alines AlineFrom AlineTo Acodes Akept AkeptBy Aahead Aagainst Asum AsumBy Aterm AtermBy AbyNot AvalueOf Awear) H → va_D A (wW_X8_worked ak ad h am Fthrown Ftaped Fsize Fplace Fbegin Ftoken Fword Ftold Fwrong Fcode Fat Fway Fnext FisEnd FisFallen Fwritten Fmade Fstate FhandNext FhandSteps FhandWritten FmarkAt Alines AlineFrom AlineTo Acodes Akept AkeptBy Aahead Aagainst Asum AsumBy Aterm AtermBy AbyNot AvalueOf Awear) → va_S A s.heap H locs → W p l e R s m args below meth c H locs cells slots Q (F0 m 382 ls [.int r]))
    : ∀ (Akept : Nat → Int32) (AkeptBy : Nat → Int32) (Aahead : Nat → Int32) (Aagainst : Nat → Int32) (Asum : Nat → Int32) (AsumBy : Nat → Int32) (Aterm : Nat → Int32) (AtermBy : Nat → Int32) (AbyNot : Nat → Int32) (l2 : Int32) (l3 : Int32) (l4 : Int32) (H : Heap) (locs : List Loc) (ls : Array Slot), kf_X8_worked_155 Fat Fway Alines AlineFrom AlineTo Acodes AvalueOf Awear x0 κ14 Φ Akept AkeptBy Aahead Aagainst Asum AsumBy Aterm AtermBy AbyNot l2 l3 l4 → va_P D vwCl (wW_X8_worked ak ad h am Fthrown Ftaped Fsize Fplace Fbegin Ftoken Fword Ftold Fwrong Fcode Fat Fway Fnext FisEnd FisFallen Fwritten Fmade Fstate FhandNext FhandSteps FhandWritten FmarkAt Alines AlineFrom AlineTo Acodes Akept AkeptBy Aahead Aagainst Asum AsumBy Aterm AtermBy AbyNot AvalueOf Awear) H → va_D A (wW_X8_worked ak ad h am Fthrown Ftaped Fsize Fplace Fbegin Ftoken Fword Ftold Fwrong Fcode Fat Fway Fnext FisEnd FisFallen Fwritten Fmade Fstate FhandNext FhandSteps FhandWritten FmarkAt Alines AlineFrom AlineTo Acodes Akept AkeptBy Aahead Aagainst Asum AsumBy Aterm AtermBy AbyNot AvalueOf Awear) → va_S A s.heap H locs → lv_has ls 6 [(0, .ref h), (1, .int (x0)), (2, .int (l2)), (3, .int (l3)), (4, .int (l4))] → W p l e R s m args below meth c H locs cells slots Q (F0 m 155 ls ([])) := by
  intro Akept AkeptBy Aahead Aagainst Asum AsumBy Aterm AtermBy AbyNot l2 l3 l4 H locs ls hw hP hD hS hl
  delta kf_X8_worked_155 at hw
  refine lv_aload_n hx hb dX8_worked_155 rfl (lv_at hl 0 rfl) ?_
  refine lv_iload_n hx hb dX8_worked_156 rfl (lv_at hl 2 rfl) ?_
  refine kc_v (wc := (wW_X8_sums ak ad h am Fthrown Ftaped Fsize Fplace Fbegin Ftoken Fword Ftold Fwrong Fcode Fat Fway Fnext FisEnd FisFallen Fwritten Fmade Fstate FhandNext FhandSteps FhandWritten FmarkAt Asum AsumBy Aterm AtermBy)) (wr := [((am 4), .inl (ak 0, 6, .inl (Alines))), ((am 17), .inl (ak 0, 192, .inl (AlineFrom))), ((am 18), .inl (ak 0, 192, .inl (AlineTo))), ((am 19), .inl (ak 0, 6000, .inl (Acodes))), ((am 22), .inl (ak 0, 7, .inl (Akept))), ((am 23), .inl (ak 0, 7, .inl (AkeptBy))), ((am 24), .inl (ak 0, 7, .inl (Aahead))), ((am 25), .inl (ak 0, 7, .inl (Aagainst))), ((am 30), .inl (ak 0, 7, .inl (AbyNot))), ((am 31), .inl (ak 0, 20, .inl (AvalueOf))), ((am 33), .inl (ak 0, 16, .inl (Awear)))]) hP hD hS hA [0, 9, 10, 11, 12] [1, 2, 3, 4, 5, 6, 7, 8, 13, 14, 15] rfl rfl (by decide) (by decide) (va_runV (As := [.int (l2)]) (rest := []) ⟨hx, hb, hml, hown, hts⟩ (c_X8_sums l D ak ad _ h am Fthrown Ftaped Fsize Fplace Fbegin Ftoken Fword Ftold Fwrong Fcode Fat Fway Fnext FisEnd FisFallen Fwritten Fmade Fstate FhandNext FhandSteps FhandWritten FmarkAt Asum AsumBy Aterm AtermBy l2 _ hw) (cwV 1 hts gX8_worked_X8_sums rfl rfl rfl hv_X8_sums ⟨(Nat.le_trans (Nat.le_of_ble_eq_true rfl) hRf), (Nat.le_trans (Nat.le_of_ble_eq_true rfl) hRl)⟩) (kc_preV (As := [.int (l2)]) (wc := (wW_X8_sums ak ad h am Fthrown Ftaped Fsize Fplace Fbegin Ftoken Fword Ftold Fwrong Fcode Fat Fway Fnext FisEnd FisFallen Fwritten Fmade Fstate FhandNext FhandSteps FhandWritten FmarkAt Asum AsumBy Aterm AtermBy)) hE hT hP hD hS hA [0, 9, 10, 11, 12] (by decide) rfl rfl 0 7 rfl rfl rfl) rfl rfl hl.1 rfl (lv_room (Nat.le_of_ble_eq_true rfl)) dX8_worked_157 ⟨hRc.1, hRc.2⟩) (fun u_57 H locs hw hP hD hS => ?_)
  obtain ⟨Asum_58, AtermBy_59⟩ := u_57
  try dsimp -zeta only at hw
  have hP : va_P D vwCl (wW_X8_worked ak ad h am Fthrown Ftaped Fsize Fplace Fbegin Ftoken Fword Ftold Fwrong Fcode Fat Fway Fnext FisEnd FisFallen Fwritten Fmade Fstate FhandNext FhandSteps FhandWritten FmarkAt Alines AlineFrom AlineTo Acodes Akept AkeptBy Aahead Aagainst Asum_58 AsumBy Aterm AtermBy_59 AbyNot AvalueOf Awear) H := hP.sub [11, 0, 1, 2, 3, 4, 5, 6, 7, 12, 13, 14, 15, 8, 9, 10] rfl
  have hD : va_D A (wW_X8_worked ak ad h am Fthrown Ftaped Fsize Fplace Fbegin Ftoken Fword Ftold Fwrong Fcode Fat Fway Fnext FisEnd FisFallen Fwritten Fmade Fstate FhandNext FhandSteps FhandWritten FmarkAt Alines AlineFrom AlineTo Acodes Akept AkeptBy Aahead Aagainst Asum_58 AsumBy Aterm AtermBy_59 AbyNot AvalueOf Awear) := hD.sub [11, 0, 1, 2, 3, 4, 5, 6, 7, 12, 13, 14, 15, 8, 9, 10] (by decide) rfl
  refine lv_aload_n hx hb dX8_worked_160 rfl (lv_at hl 0 rfl) ?_
  refine vt_get (D := D) (ci := 7) (v := .ref (am 24)) (C := RX8) (T := TX8) (N := 69) hx hb hts (fun w h => wm_c (wc_X8 w h)) hown hE.1 hP 0 rfl rfl 34 (by decide) tX8_34 (hts (.fieldLink RX8 84 "WornLinesModel" "ahead" "[I") (wm_c hw_74)) (fun _ h9 => h9) rfl dX8_worked_161 ?_
  refine lv_iload_n hx hb dX8_worked_164 rfl (lv_at hl 2 rfl) ?_
  refine lv_aload_n hx hb dX8_worked_165 rfl (lv_at hl 0 rfl) ?_
  refine vt_get (D := D) (ci := 7) (v := .ref (am 26)) (C := RX8) (T := TX8) (N := 69) hx hb hts (fun w h => wm_c (wc_X8 w h)) hown hE.1 hP 0 rfl rfl 36 (by decide) tX8_36 (hts (.fieldLink RX8 90 "WornLinesModel" "sum" "[I") (wm_c hw_69)) (fun _ h9 => h9) rfl dX8_worked_166 ?_
  refine lv_iload_n hx hb dX8_worked_169 rfl (lv_at hl 2 rfl) ?_
  obtain ⟨h_61, hw⟩ := hw
  refine va_iald hx hb hE.1 hP 9 0 rfl rfl (h_61) dX8_worked_170 ?_
  obtain ⟨h_62, hw⟩ := hw
  refine va_iast hx hb hE.1 hP hD hS 7 0 rfl rfl (h_62) dX8_worked_171 (fun H locs hP hD hS => ?_)
  have hP : va_P D vwCl (wW_X8_worked ak ad h am Fthrown Ftaped Fsize Fplace Fbegin Ftoken Fword Ftold Fwrong Fcode Fat Fway Fnext FisEnd FisFallen Fwritten Fmade Fstate FhandNext FhandSteps FhandWritten FmarkAt Alines AlineFrom AlineTo Acodes Akept AkeptBy (upd Aahead (l2).toNatClampNeg ((Asum_58 (l2).toNatClampNeg))) Aagainst Asum_58 AsumBy Aterm AtermBy_59 AbyNot AvalueOf Awear) H := hP
  have hD : va_D A (wW_X8_worked ak ad h am Fthrown Ftaped Fsize Fplace Fbegin Ftoken Fword Ftold Fwrong Fcode Fat Fway Fnext FisEnd FisFallen Fwritten Fmade Fstate FhandNext FhandSteps FhandWritten FmarkAt Alines AlineFrom AlineTo Acodes Akept AkeptBy (upd Aahead (l2).toNatClampNeg ((Asum_58 (l2).toNatClampNeg))) Aagainst Asum_58 AsumBy Aterm AtermBy_59 AbyNot AvalueOf Awear) := hD
  refine lv_aload_n hx hb dX8_worked_172 rfl (lv_at hl 0 rfl) ?_
  refine vt_get (D := D) (ci := 7) (v := .ref (am 25)) (C := RX8) (T := TX8) (N := 69) hx hb hts (fun w h => wm_c (wc_X8 w h)) hown hE.1 hP 0 rfl rfl 35 (by decide) tX8_35 (hts (.fieldLink RX8 87 "WornLinesModel" "against" "[I") (wm_c hw_68)) (fun _ h9 => h9) rfl dX8_worked_173 ?_
  refine lv_iload_n hx hb dX8_worked_176 rfl (lv_at hl 2 rfl) ?_
  refine lv_iload hx hb dX8_worked_177 (lv_at hl 4 rfl) ?_
  obtain ⟨h_63, hw⟩ := hw
  refine va_iast hx hb hE.1 hP hD hS 8 0 rfl rfl (h_63) dX8_worked_179 (fun H locs hP hD hS => ?_)
  have hP : va_P D vwCl (wW_X8_worked ak ad h am Fthrown Ftaped Fsize Fplace Fbegin Ftoken Fword Ftold Fwrong Fcode Fat Fway Fnext FisEnd FisFallen Fwritten Fmade Fstate FhandNext FhandSteps FhandWritten FmarkAt Alines AlineFrom AlineTo Acodes Akept AkeptBy (upd Aahead (l2).toNatClampNeg ((Asum_58 (l2).toNatClampNeg))) (upd Aagainst (l2).toNatClampNeg l4) Asum_58 AsumBy Aterm AtermBy_59 AbyNot AvalueOf Awear) H := hP
  have hD : va_D A (wW_X8_worked ak ad h am Fthrown Ftaped Fsize Fplace Fbegin Ftoken Fword Ftold Fwrong Fcode Fat Fway Fnext FisEnd FisFallen Fwritten Fmade Fstate FhandNext FhandSteps FhandWritten FmarkAt Alines AlineFrom AlineTo Acodes Akept AkeptBy (upd Aahead (l2).toNatClampNeg ((Asum_58 (l2).toNatClampNeg))) (upd Aagainst (l2).toNatClampNeg l4) Asum_58 AsumBy Aterm AtermBy_59 AbyNot AvalueOf Awear) := hD
  refine lv_aload_n hx hb dX8_worked_180 rfl (lv_at hl 0 rfl) ?_
  refine vt_get (D := D) (ci := 7) (v := .ref (am 26)) (C := RX8) (T := TX8) (N := 69) hx hb hts (fun w h => wm_c (wc_X8 w h)) hown hE.1 hP 0 rfl rfl 36 (by decide) tX8_36 (hts (.fieldLink RX8 90 "WornLinesModel" "sum" "[I") (wm_c hw_69)) (fun _ h9 => h9) rfl dX8_worked_181 ?_
  refine lv_iload_n hx hb dX8_worked_184 rfl (lv_at hl 2 rfl) ?_
  refine lv_iconst (v := 0) hx hb dX8_worked_185 (by decide) ?_
  obtain ⟨h_64, hw⟩ := hw
  refine va_iast hx hb hE.1 hP hD hS 9 0 rfl rfl (h_64) dX8_worked_186 (fun H locs hP hD hS => ?_)
  have hP : va_P D vwCl (wW_X8_worked ak ad h am Fthrown Ftaped Fsize Fplace Fbegin Ftoken Fword Ftold Fwrong Fcode Fat Fway Fnext FisEnd FisFallen Fwritten Fmade Fstate FhandNext FhandSteps FhandWritten FmarkAt Alines AlineFrom AlineTo Acodes Akept AkeptBy (upd Aahead (l2).toNatClampNeg ((Asum_58 (l2).toNatClampNeg))) (upd Aagainst (l2).toNatClampNeg l4) (upd Asum_58 (l2).toNatClampNeg 0) AsumBy Aterm AtermBy_59 AbyNot AvalueOf Awear) H := hP
  have hD : va_D A (wW_X8_worked ak ad h am Fthrown Ftaped Fsize Fplace Fbegin Ftoken Fword Ftold Fwrong Fcode Fat Fway Fnext FisEnd FisFallen Fwritten Fmade Fstate FhandNext FhandSteps FhandWritten FmarkAt Alines AlineFrom AlineTo Acodes Akept AkeptBy (upd Aahead (l2).toNatClampNeg ((Asum_58 (l2).toNatClampNeg))) (upd Aagainst (l2).toNatClampNeg l4) (upd Asum_58 (l2).toNatClampNeg 0) AsumBy Aterm AtermBy_59 AbyNot AvalueOf Awear) := hD
  refine lv_aload_n hx hb dX8_worked_187 rfl (lv_at hl 0 rfl) ?_
  refine vt_get (D := D) (ci := 7) (v := .ref (am 27)) (C := RX8) (T := TX8) (N := 69) hx hb hts (fun w h => wm_c (wc_X8 w h)) hown hE.1 hP 0 rfl rfl 37 (by decide) tX8_37 (hts (.fieldLink RX8 93 "WornLinesModel" "sumBy" "[I") (wm_c hw_70)) (fun _ h9 => h9) rfl dX8_worked_188 ?_
  refine lv_iload_n hx hb dX8_worked_191 rfl (lv_at hl 2 rfl) ?_
  refine lv_bipush (v := 20) hx hb dX8_worked_192 (by decide) ?_
  obtain ⟨h_65, hw⟩ := hw
  refine va_iast hx hb hE.1 hP hD hS 10 0 rfl rfl (h_65) dX8_worked_194 (fun H locs hP hD hS => ?_)
  have hP : va_P D vwCl (wW_X8_worked ak ad h am Fthrown Ftaped Fsize Fplace Fbegin Ftoken Fword Ftold Fwrong Fcode Fat Fway Fnext FisEnd FisFallen Fwritten Fmade Fstate FhandNext FhandSteps FhandWritten FmarkAt Alines AlineFrom AlineTo Acodes Akept AkeptBy (upd Aahead (l2).toNatClampNeg ((Asum_58 (l2).toNatClampNeg))) (upd Aagainst (l2).toNatClampNeg l4) (upd Asum_58 (l2).toNatClampNeg 0) (upd AsumBy (l2).toNatClampNeg 20) Aterm AtermBy_59 AbyNot AvalueOf Awear) H := hP
  have hD : va_D A (wW_X8_worked ak ad h am Fthrown Ftaped Fsize Fplace Fbegin Ftoken Fword Ftold Fwrong Fcode Fat Fway Fnext FisEnd FisFallen Fwritten Fmade Fstate FhandNext FhandSteps FhandWritten FmarkAt Alines AlineFrom AlineTo Acodes Akept AkeptBy (upd Aahead (l2).toNatClampNeg ((Asum_58 (l2).toNatClampNeg))) (upd Aagainst (l2).toNatClampNeg l4) (upd Asum_58 (l2).toNatClampNeg 0) (upd AsumBy (l2).toNatClampNeg 20) Aterm AtermBy_59 AbyNot AvalueOf Awear) := hD
  refine lv_goto (tgt := 365) hx hb dX8_worked_195 (by decide) ?_
  refine lv_iinc (v := (l3 + 1)) (lv' := [(3, .int (l3 + 1)), (0, .ref h), (1, .int (x0)), (2, .int (l2)), (4, .int (l4))]) hx hb dX8_worked_365 hl (k := 3) rfl (rfl) (by decide) rfl (fun ls hl => ?_)
  refine lv_goto (tgt := 14) hx hb dX8_worked_368 (by decide) ?_
  exact kk14 Akept AkeptBy (upd Aahead (l2).toNatClampNeg ((Asum_58 (l2).toNatClampNeg))) (upd Aagainst (l2).toNatClampNeg l4) (upd Asum_58 (l2).toNatClampNeg 0) (upd AsumBy (l2).toNatClampNeg 20) Aterm AtermBy_59 AbyNot l2 (l3 + 1) _ _ _ hw hP hD hS (lv_sub hl [1, 2, 3, 0] rfl)

def kf_X8_worked_212 (Fat : Int32) (Fway : Int32) (Alines : Nat → Int32) (AlineFrom : Nat → Int32) (AlineTo : Nat → Int32) (Acodes : Nat → Int32) (AvalueOf : Nat → Int32) (Awear : Nat → Int32) (x0 : Int32) (κ14 : (Nat → Int32) → (Nat → Int32) → (Nat → Int32) → (Nat → Int32) → (Nat → Int32) → (Nat → Int32) → (Nat → Int32) → (Nat → Int32) → (Nat → Int32) → Int32 → Int32 → Prop) (Φ : Int32 → (Nat → Int32) → (Nat → Int32) → (Nat → Int32) → (Nat → Int32) → (Nat → Int32) → (Nat → Int32) → (Nat → Int32) → (Nat → Int32) → (Nat → Int32) → Prop) (Akept : Nat → Int32) (AkeptBy : Nat → Int32) (Aahead : Nat → Int32) (Aagainst : Nat → Int32) (Asum : Nat → Int32) (AsumBy : Nat → Int32) (Aterm : Nat → Int32) (AtermBy : Nat → Int32) (AbyNot : Nat → Int32) (l2 : Int32) (l3 : Int32) (l4 : Int32) : Prop := wp_X8_tests AkeptBy Aahead Aterm l2 Akept Aagainst Asum AsumBy AtermBy (fun Akept_69 Aagainst_70 Asum_71 AsumBy_72 AtermBy_73 => vp_in l2 7 ∧ κ14 Akept_69 (upd AkeptBy (l2).toNatClampNeg l4) Aahead Aagainst_70 Asum_71 AsumBy_72 Aterm AtermBy_73 AbyNot l2 (l3 + 1))
set_option maxHeartbeats 4000000 in
set_option maxRecDepth 100000 in
theorem kj_X8_worked_212 {p : Program} {l : Launch} {e : Env} {R : Room} {s : State} {m : MethodId} {args : Array Value} {below : List Frame} {meth : Method} {c : Code} {cells slots : Nat} {Q : State → Prop} {A : Nat → Prop} {D : va_G} {ak : Nat → ClassId} {ad : Nat → Nat} (hx : p.tables.exec = Jvm.exec) (hb : c.code = cX8_worked) (hown : s.vm.findClass RX8 = some m.cls) (hts : ∀ w ∈ wsX8_worked, w.before args s = true) (hml : c.maxLocals = 6) (hE : EV D ak s) (hT : ST D ak ad A s s.heap) (hA : ∀ q, s.heap.size ≤ q → A q) (hRf : 2 ≤ R.frames) (hRl : 44 ≤ R.locals) (hRc : cells ≤ R.cells ∧ slots ≤ R.slots) (h : Nat) (am : Nat → Nat) (Fthrown : Int32) (Ftaped : Int32) (Fsize : Int32) (Fplace : Int32) (Fbegin : Int32) (Ftoken : Int32) (Fword : Int64) (Ftold : Int32) (Fwrong : Int32) (Fcode : Int32) (Fat : Int32) (Fway : Int32) (Fnext : Int32) (FisEnd : Int32) (FisFallen : Int32) (Fwritten : Int32) (Fmade : Int32) (Fstate : Int32) (FhandNext : Int32) (FhandSteps : Int32) (FhandWritten : Int32) (FmarkAt : Int32) (Alines : Nat → Int32) (AlineFrom : Nat → Int32) (AlineTo : Nat → Int32) (Acodes : Nat → Int32) (AvalueOf : Nat → Int32) (Awear : Nat → Int32) (x0 : Int32) (κ14 : (Nat → Int32) → (Nat → Int32) → (Nat → Int32) → (Nat → Int32) → (Nat → Int32) → (Nat → Int32) → (Nat → Int32) → (Nat → Int32) → (Nat → Int32) → Int32 → Int32 → Prop) (Φ : Int32 → (Nat → Int32) → (Nat → Int32) → (Nat → Int32) → (Nat → Int32) → (Nat → Int32) → (Nat → Int32) → (Nat → Int32) → (Nat → Int32) → (Nat → Int32) → Prop)
    (kk14 : ∀ (Akept : Nat → Int32) (AkeptBy : Nat → Int32) (Aahead : Nat → Int32) (Aagainst : Nat → Int32) (Asum : Nat → Int32) (AsumBy : Nat → Int32) (Aterm : Nat → Int32) (AtermBy : Nat → Int32) (AbyNot : Nat → Int32) (l2 : Int32) (l3 : Int32) (H : Heap) (locs : List Loc) (ls : Array Slot), κ14 Akept AkeptBy Aahead Aagainst Asum AsumBy Aterm AtermBy AbyNot l2 l3 → va_P D vwCl (wW_X8_worked ak ad h am Fthrown Ftaped Fsize Fplace Fbegin Ftoken Fword Ftold Fwrong Fcode Fat Fway Fnext FisEnd FisFallen Fwritten Fmade Fstate FhandNext FhandSteps FhandWritten FmarkAt Alines AlineFrom AlineTo Acodes Akept AkeptBy Aahead Aagainst Asum AsumBy Aterm AtermBy AbyNot AvalueOf Awear) H → va_D A (wW_X8_worked ak ad h am Fthrown Ftaped Fsize Fplace Fbegin Ftoken Fword Ftold Fwrong Fcode Fat Fway Fnext FisEnd FisFallen Fwritten Fmade Fstate FhandNext FhandSteps FhandWritten FmarkAt Alines AlineFrom AlineTo Acodes Akept AkeptBy Aahead Aagainst Asum AsumBy Aterm AtermBy AbyNot AvalueOf Awear) → va_S A s.heap H locs → lv_has ls 6 [(0, .ref h), (1, .int (x0)), (2, .int (l2)), (3, .int (l3))] → W p l e R s m args below meth c H locs cells slots Q (F0 m 14 ls ([])))
    (kR382 : ∀ (r : Int32) (Akept : Nat → Int32) (AkeptBy : Nat → Int32) (Aahead : Nat → Int32) (Aagainst : Nat → Int32) (Asum : Nat → Int32) (AsumBy : Nat → Int32) (Aterm : Nat → Int32) (AtermBy : Nat → Int32) (AbyNot : Nat → Int32) (H : Heap) (locs : List Loc) (ls : Array Slot), Φ r Akept AkeptBy Aahead Aagainst Asum AsumBy Aterm AtermBy AbyNot → va_P D vwCl (wW_X8_worked ak ad h am Fthrown Ftaped Fsize Fplace Fbegin Ftoken Fword Ftold Fwrong Fcode Fat Fway Fnext FisEnd FisFallen Fwritten Fmade Fstate FhandNext FhandSteps FhandWritten FmarkAt Alines AlineFrom AlineTo Acodes Akept AkeptBy Aahead Aagainst Asum AsumBy Aterm AtermBy AbyNot AvalueOf Awear) H → va_D A (wW_X8_worked ak ad h am Fthrown Ftaped Fsize Fplace Fbegin Ftoken Fword Ftold Fwrong Fcode Fat Fway Fnext FisEnd FisFallen Fwritten Fmade Fstate FhandNext FhandSteps FhandWritten FmarkAt Alines AlineFrom AlineTo Acodes Akept AkeptBy Aahead Aagainst Asum AsumBy Aterm AtermBy AbyNot AvalueOf Awear) → va_S A s.heap H locs → W p l e R s m args below meth c H locs cells slots Q (F0 m 382 ls [.int r]))
    : ∀ (Akept : Nat → Int32) (AkeptBy : Nat → Int32) (Aahead : Nat → Int32) (Aagainst : Nat → Int32) (Asum : Nat → Int32) (AsumBy : Nat → Int32) (Aterm : Nat → Int32) (AtermBy : Nat → Int32) (AbyNot : Nat → Int32) (l2 : Int32) (l3 : Int32) (l4 : Int32) (H : Heap) (locs : List Loc) (ls : Array Slot), kf_X8_worked_212 Fat Fway Alines AlineFrom AlineTo Acodes AvalueOf Awear x0 κ14 Φ Akept AkeptBy Aahead Aagainst Asum AsumBy Aterm AtermBy AbyNot l2 l3 l4 → va_P D vwCl (wW_X8_worked ak ad h am Fthrown Ftaped Fsize Fplace Fbegin Ftoken Fword Ftold Fwrong Fcode Fat Fway Fnext FisEnd FisFallen Fwritten Fmade Fstate FhandNext FhandSteps FhandWritten FmarkAt Alines AlineFrom AlineTo Acodes Akept AkeptBy Aahead Aagainst Asum AsumBy Aterm AtermBy AbyNot AvalueOf Awear) H → va_D A (wW_X8_worked ak ad h am Fthrown Ftaped Fsize Fplace Fbegin Ftoken Fword Ftold Fwrong Fcode Fat Fway Fnext FisEnd FisFallen Fwritten Fmade Fstate FhandNext FhandSteps FhandWritten FmarkAt Alines AlineFrom AlineTo Acodes Akept AkeptBy Aahead Aagainst Asum AsumBy Aterm AtermBy AbyNot AvalueOf Awear) → va_S A s.heap H locs → lv_has ls 6 [(0, .ref h), (1, .int (x0)), (2, .int (l2)), (3, .int (l3)), (4, .int (l4))] → W p l e R s m args below meth c H locs cells slots Q (F0 m 212 ls ([])) := by
  intro Akept AkeptBy Aahead Aagainst Asum AsumBy Aterm AtermBy AbyNot l2 l3 l4 H locs ls hw hP hD hS hl
  delta kf_X8_worked_212 at hw
  refine lv_aload_n hx hb dX8_worked_212 rfl (lv_at hl 0 rfl) ?_
  refine lv_iload_n hx hb dX8_worked_213 rfl (lv_at hl 2 rfl) ?_
  refine kc_v (wc := (wW_X8_tests ak ad h am Fthrown Ftaped Fsize Fplace Fbegin Ftoken Fword Ftold Fwrong Fcode Fat Fway Fnext FisEnd FisFallen Fwritten Fmade Fstate FhandNext FhandSteps FhandWritten FmarkAt Akept AkeptBy Aahead Aagainst Asum AsumBy Aterm AtermBy)) (wr := [((am 4), .inl (ak 0, 6, .inl (Alines))), ((am 17), .inl (ak 0, 192, .inl (AlineFrom))), ((am 18), .inl (ak 0, 192, .inl (AlineTo))), ((am 19), .inl (ak 0, 6000, .inl (Acodes))), ((am 30), .inl (ak 0, 7, .inl (AbyNot))), ((am 31), .inl (ak 0, 20, .inl (AvalueOf))), ((am 33), .inl (ak 0, 16, .inl (Awear)))]) hP hD hS hA [0, 5, 6, 7, 8, 9, 10, 11, 12] [1, 2, 3, 4, 13, 14, 15] rfl rfl (by decide) (by decide) (va_runV (As := [.int (l2)]) (rest := []) ⟨hx, hb, hml, hown, hts⟩ (c_X8_tests l D ak ad _ h am Fthrown Ftaped Fsize Fplace Fbegin Ftoken Fword Ftold Fwrong Fcode Fat Fway Fnext FisEnd FisFallen Fwritten Fmade Fstate FhandNext FhandSteps FhandWritten FmarkAt Akept AkeptBy Aahead Aagainst Asum AsumBy Aterm AtermBy l2 _ hw) (cwV 1 hts gX8_worked_X8_tests rfl rfl rfl hv_X8_tests ⟨(Nat.le_trans (Nat.le_of_ble_eq_true rfl) hRf), (Nat.le_trans (Nat.le_of_ble_eq_true rfl) hRl)⟩) (kc_preV (As := [.int (l2)]) (wc := (wW_X8_tests ak ad h am Fthrown Ftaped Fsize Fplace Fbegin Ftoken Fword Ftold Fwrong Fcode Fat Fway Fnext FisEnd FisFallen Fwritten Fmade Fstate FhandNext FhandSteps FhandWritten FmarkAt Akept AkeptBy Aahead Aagainst Asum AsumBy Aterm AtermBy)) hE hT hP hD hS hA [0, 5, 6, 7, 8, 9, 10, 11, 12] (by decide) rfl rfl 0 7 rfl rfl rfl) rfl rfl hl.1 rfl (lv_room (Nat.le_of_ble_eq_true rfl)) dX8_worked_214 ⟨hRc.1, hRc.2⟩) (fun u_68 H locs hw hP hD hS => ?_)
  obtain ⟨Akept_69, Aagainst_70, Asum_71, AsumBy_72, AtermBy_73⟩ := u_68
  try dsimp -zeta only at hw
  have hP : va_P D vwCl (wW_X8_worked ak ad h am Fthrown Ftaped Fsize Fplace Fbegin Ftoken Fword Ftold Fwrong Fcode Fat Fway Fnext FisEnd FisFallen Fwritten Fmade Fstate FhandNext FhandSteps FhandWritten FmarkAt Alines AlineFrom AlineTo Acodes Akept_69 AkeptBy Aahead Aagainst_70 Asum_71 AsumBy_72 Aterm AtermBy_73 AbyNot AvalueOf Awear) H := hP.sub [7, 0, 1, 2, 3, 8, 9, 10, 11, 12, 13, 14, 15, 4, 5, 6] rfl
  have hD : va_D A (wW_X8_worked ak ad h am Fthrown Ftaped Fsize Fplace Fbegin Ftoken Fword Ftold Fwrong Fcode Fat Fway Fnext FisEnd FisFallen Fwritten Fmade Fstate FhandNext FhandSteps FhandWritten FmarkAt Alines AlineFrom AlineTo Acodes Akept_69 AkeptBy Aahead Aagainst_70 Asum_71 AsumBy_72 Aterm AtermBy_73 AbyNot AvalueOf Awear) := hD.sub [7, 0, 1, 2, 3, 8, 9, 10, 11, 12, 13, 14, 15, 4, 5, 6] (by decide) rfl
  refine lv_aload_n hx hb dX8_worked_217 rfl (lv_at hl 0 rfl) ?_
  refine vt_get (D := D) (ci := 7) (v := .ref (am 23)) (C := RX8) (T := TX8) (N := 69) hx hb hts (fun w h => wm_c (wc_X8 w h)) hown hE.1 hP 0 rfl rfl 33 (by decide) tX8_33 (hts (.fieldLink RX8 81 "WornLinesModel" "keptBy" "[I") (wm_c hw_67)) (fun _ h9 => h9) rfl dX8_worked_218 ?_
  refine lv_iload_n hx hb dX8_worked_221 rfl (lv_at hl 2 rfl) ?_
  refine lv_iload hx hb dX8_worked_222 (lv_at hl 4 rfl) ?_
  obtain ⟨h_75, hw⟩ := hw
  refine va_iast hx hb hE.1 hP hD hS 6 0 rfl rfl (h_75) dX8_worked_224 (fun H locs hP hD hS => ?_)
  have hP : va_P D vwCl (wW_X8_worked ak ad h am Fthrown Ftaped Fsize Fplace Fbegin Ftoken Fword Ftold Fwrong Fcode Fat Fway Fnext FisEnd FisFallen Fwritten Fmade Fstate FhandNext FhandSteps FhandWritten FmarkAt Alines AlineFrom AlineTo Acodes Akept_69 (upd AkeptBy (l2).toNatClampNeg l4) Aahead Aagainst_70 Asum_71 AsumBy_72 Aterm AtermBy_73 AbyNot AvalueOf Awear) H := hP
  have hD : va_D A (wW_X8_worked ak ad h am Fthrown Ftaped Fsize Fplace Fbegin Ftoken Fword Ftold Fwrong Fcode Fat Fway Fnext FisEnd FisFallen Fwritten Fmade Fstate FhandNext FhandSteps FhandWritten FmarkAt Alines AlineFrom AlineTo Acodes Akept_69 (upd AkeptBy (l2).toNatClampNeg l4) Aahead Aagainst_70 Asum_71 AsumBy_72 Aterm AtermBy_73 AbyNot AvalueOf Awear) := hD
  refine lv_goto (tgt := 365) hx hb dX8_worked_225 (by decide) ?_
  refine lv_iinc (v := (l3 + 1)) (lv' := [(3, .int (l3 + 1)), (0, .ref h), (1, .int (x0)), (2, .int (l2)), (4, .int (l4))]) hx hb dX8_worked_365 hl (k := 3) rfl (rfl) (by decide) rfl (fun ls hl => ?_)
  refine lv_goto (tgt := 14) hx hb dX8_worked_368 (by decide) ?_
  exact kk14 Akept_69 (upd AkeptBy (l2).toNatClampNeg l4) Aahead Aagainst_70 Asum_71 AsumBy_72 Aterm AtermBy_73 AbyNot l2 (l3 + 1) _ _ _ hw hP hD hS (lv_sub hl [1, 2, 3, 0] rfl)

def kf_X8_worked_336 (Fat : Int32) (Fway : Int32) (Alines : Nat → Int32) (AlineFrom : Nat → Int32) (AlineTo : Nat → Int32) (Acodes : Nat → Int32) (AvalueOf : Nat → Int32) (Awear : Nat → Int32) (x0 : Int32) (κ14 : (Nat → Int32) → (Nat → Int32) → (Nat → Int32) → (Nat → Int32) → (Nat → Int32) → (Nat → Int32) → (Nat → Int32) → (Nat → Int32) → (Nat → Int32) → Int32 → Int32 → Prop) (Φ : Int32 → (Nat → Int32) → (Nat → Int32) → (Nat → Int32) → (Nat → Int32) → (Nat → Int32) → (Nat → Int32) → (Nat → Int32) → (Nat → Int32) → (Nat → Int32) → Prop) (Akept : Nat → Int32) (AkeptBy : Nat → Int32) (Aahead : Nat → Int32) (Aagainst : Nat → Int32) (Asum : Nat → Int32) (AsumBy : Nat → Int32) (Aterm : Nat → Int32) (AtermBy : Nat → Int32) (AbyNot : Nat → Int32) (l2 : Int32) (l3 : Int32) (l5 : Int32) : Prop := vp_in l2 7 ∧ (¬ (AtermBy (l2).toNatClampNeg) = 0 → vp_in l2 7 ∧ vp_in l2 7 ∧ κ14 Akept AkeptBy Aahead Aagainst Asum AsumBy (upd Aterm (l2).toNatClampNeg (((Aterm (l2).toNatClampNeg) * l5))) AtermBy AbyNot l2 (l3 + 1)) ∧ ((AtermBy (l2).toNatClampNeg) = 0 → vp_in l2 7 ∧ κ14 Akept AkeptBy Aahead Aagainst Asum AsumBy (upd Aterm (l2).toNatClampNeg l5) AtermBy AbyNot l2 (l3 + 1))
set_option maxHeartbeats 4000000 in
set_option maxRecDepth 100000 in
theorem kj_X8_worked_336 {p : Program} {l : Launch} {e : Env} {R : Room} {s : State} {m : MethodId} {args : Array Value} {below : List Frame} {meth : Method} {c : Code} {cells slots : Nat} {Q : State → Prop} {A : Nat → Prop} {D : va_G} {ak : Nat → ClassId} {ad : Nat → Nat} (hx : p.tables.exec = Jvm.exec) (hb : c.code = cX8_worked) (hown : s.vm.findClass RX8 = some m.cls) (hts : ∀ w ∈ wsX8_worked, w.before args s = true) (hml : c.maxLocals = 6) (hE : EV D ak s) (hT : ST D ak ad A s s.heap) (hA : ∀ q, s.heap.size ≤ q → A q) (hRf : 2 ≤ R.frames) (hRl : 44 ≤ R.locals) (hRc : cells ≤ R.cells ∧ slots ≤ R.slots) (h : Nat) (am : Nat → Nat) (Fthrown : Int32) (Ftaped : Int32) (Fsize : Int32) (Fplace : Int32) (Fbegin : Int32) (Ftoken : Int32) (Fword : Int64) (Ftold : Int32) (Fwrong : Int32) (Fcode : Int32) (Fat : Int32) (Fway : Int32) (Fnext : Int32) (FisEnd : Int32) (FisFallen : Int32) (Fwritten : Int32) (Fmade : Int32) (Fstate : Int32) (FhandNext : Int32) (FhandSteps : Int32) (FhandWritten : Int32) (FmarkAt : Int32) (Alines : Nat → Int32) (AlineFrom : Nat → Int32) (AlineTo : Nat → Int32) (Acodes : Nat → Int32) (AvalueOf : Nat → Int32) (Awear : Nat → Int32) (x0 : Int32) (κ14 : (Nat → Int32) → (Nat → Int32) → (Nat → Int32) → (Nat → Int32) → (Nat → Int32) → (Nat → Int32) → (Nat → Int32) → (Nat → Int32) → (Nat → Int32) → Int32 → Int32 → Prop) (Φ : Int32 → (Nat → Int32) → (Nat → Int32) → (Nat → Int32) → (Nat → Int32) → (Nat → Int32) → (Nat → Int32) → (Nat → Int32) → (Nat → Int32) → (Nat → Int32) → Prop)
    (kk14 : ∀ (Akept : Nat → Int32) (AkeptBy : Nat → Int32) (Aahead : Nat → Int32) (Aagainst : Nat → Int32) (Asum : Nat → Int32) (AsumBy : Nat → Int32) (Aterm : Nat → Int32) (AtermBy : Nat → Int32) (AbyNot : Nat → Int32) (l2 : Int32) (l3 : Int32) (H : Heap) (locs : List Loc) (ls : Array Slot), κ14 Akept AkeptBy Aahead Aagainst Asum AsumBy Aterm AtermBy AbyNot l2 l3 → va_P D vwCl (wW_X8_worked ak ad h am Fthrown Ftaped Fsize Fplace Fbegin Ftoken Fword Ftold Fwrong Fcode Fat Fway Fnext FisEnd FisFallen Fwritten Fmade Fstate FhandNext FhandSteps FhandWritten FmarkAt Alines AlineFrom AlineTo Acodes Akept AkeptBy Aahead Aagainst Asum AsumBy Aterm AtermBy AbyNot AvalueOf Awear) H → va_D A (wW_X8_worked ak ad h am Fthrown Ftaped Fsize Fplace Fbegin Ftoken Fword Ftold Fwrong Fcode Fat Fway Fnext FisEnd FisFallen Fwritten Fmade Fstate FhandNext FhandSteps FhandWritten FmarkAt Alines AlineFrom AlineTo Acodes Akept AkeptBy Aahead Aagainst Asum AsumBy Aterm AtermBy AbyNot AvalueOf Awear) → va_S A s.heap H locs → lv_has ls 6 [(0, .ref h), (1, .int (x0)), (2, .int (l2)), (3, .int (l3))] → W p l e R s m args below meth c H locs cells slots Q (F0 m 14 ls ([])))
    (kR382 : ∀ (r : Int32) (Akept : Nat → Int32) (AkeptBy : Nat → Int32) (Aahead : Nat → Int32) (Aagainst : Nat → Int32) (Asum : Nat → Int32) (AsumBy : Nat → Int32) (Aterm : Nat → Int32) (AtermBy : Nat → Int32) (AbyNot : Nat → Int32) (H : Heap) (locs : List Loc) (ls : Array Slot), Φ r Akept AkeptBy Aahead Aagainst Asum AsumBy Aterm AtermBy AbyNot → va_P D vwCl (wW_X8_worked ak ad h am Fthrown Ftaped Fsize Fplace Fbegin Ftoken Fword Ftold Fwrong Fcode Fat Fway Fnext FisEnd FisFallen Fwritten Fmade Fstate FhandNext FhandSteps FhandWritten FmarkAt Alines AlineFrom AlineTo Acodes Akept AkeptBy Aahead Aagainst Asum AsumBy Aterm AtermBy AbyNot AvalueOf Awear) H → va_D A (wW_X8_worked ak ad h am Fthrown Ftaped Fsize Fplace Fbegin Ftoken Fword Ftold Fwrong Fcode Fat Fway Fnext FisEnd FisFallen Fwritten Fmade Fstate FhandNext FhandSteps FhandWritten FmarkAt Alines AlineFrom AlineTo Acodes Akept AkeptBy Aahead Aagainst Asum AsumBy Aterm AtermBy AbyNot AvalueOf Awear) → va_S A s.heap H locs → W p l e R s m args below meth c H locs cells slots Q (F0 m 382 ls [.int r]))
    : ∀ (Akept : Nat → Int32) (AkeptBy : Nat → Int32) (Aahead : Nat → Int32) (Aagainst : Nat → Int32) (Asum : Nat → Int32) (AsumBy : Nat → Int32) (Aterm : Nat → Int32) (AtermBy : Nat → Int32) (AbyNot : Nat → Int32) (l2 : Int32) (l3 : Int32) (l5 : Int32) (H : Heap) (locs : List Loc) (ls : Array Slot), kf_X8_worked_336 Fat Fway Alines AlineFrom AlineTo Acodes AvalueOf Awear x0 κ14 Φ Akept AkeptBy Aahead Aagainst Asum AsumBy Aterm AtermBy AbyNot l2 l3 l5 → va_P D vwCl (wW_X8_worked ak ad h am Fthrown Ftaped Fsize Fplace Fbegin Ftoken Fword Ftold Fwrong Fcode Fat Fway Fnext FisEnd FisFallen Fwritten Fmade Fstate FhandNext FhandSteps FhandWritten FmarkAt Alines AlineFrom AlineTo Acodes Akept AkeptBy Aahead Aagainst Asum AsumBy Aterm AtermBy AbyNot AvalueOf Awear) H → va_D A (wW_X8_worked ak ad h am Fthrown Ftaped Fsize Fplace Fbegin Ftoken Fword Ftold Fwrong Fcode Fat Fway Fnext FisEnd FisFallen Fwritten Fmade Fstate FhandNext FhandSteps FhandWritten FmarkAt Alines AlineFrom AlineTo Acodes Akept AkeptBy Aahead Aagainst Asum AsumBy Aterm AtermBy AbyNot AvalueOf Awear) → va_S A s.heap H locs → lv_has ls 6 [(0, .ref h), (1, .int (x0)), (2, .int (l2)), (3, .int (l3)), (5, .int (l5))] → W p l e R s m args below meth c H locs cells slots Q (F0 m 336 ls ([])) := by
  intro Akept AkeptBy Aahead Aagainst Asum AsumBy Aterm AtermBy AbyNot l2 l3 l5 H locs ls hw hP hD hS hl
  delta kf_X8_worked_336 at hw
  refine lv_aload_n hx hb dX8_worked_336 rfl (lv_at hl 0 rfl) ?_
  refine vt_get (D := D) (ci := 7) (v := .ref (am 28)) (C := RX8) (T := TX8) (N := 69) hx hb hts (fun w h => wm_c (wc_X8 w h)) hown hE.1 hP 0 rfl rfl 38 (by decide) tX8_38 (hts (.fieldLink RX8 96 "WornLinesModel" "term" "[I") (wm_c hw_72)) (fun _ h9 => h9) rfl dX8_worked_337 ?_
  refine lv_iload_n hx hb dX8_worked_340 rfl (lv_at hl 2 rfl) ?_
  refine lv_aload_n hx hb dX8_worked_341 rfl (lv_at hl 0 rfl) ?_
  refine vt_get (D := D) (ci := 7) (v := .ref (am 29)) (C := RX8) (T := TX8) (N := 69) hx hb hts (fun w h => wm_c (wc_X8 w h)) hown hE.1 hP 0 rfl rfl 39 (by decide) tX8_39 (hts (.fieldLink RX8 99 "WornLinesModel" "termBy" "[I") (wm_c hw_71)) (fun _ h9 => h9) rfl dX8_worked_342 ?_
  refine lv_iload_n hx hb dX8_worked_345 rfl (lv_at hl 2 rfl) ?_
  obtain ⟨h_81, hw⟩ := hw
  refine va_iald hx hb hE.1 hP 12 0 rfl rfl (h_81) dX8_worked_346 ?_
  refine lv_if_ne (tgt := 355) hx hb dX8_worked_347 (by decide) (fun c_82 => ?_) (fun c_82 => ?_)
  · replace hw := hw.1 c_82
    refine lv_aload_n hx hb dX8_worked_355 rfl (lv_at hl 0 rfl) ?_
    refine vt_get (D := D) (ci := 7) (v := .ref (am 28)) (C := RX8) (T := TX8) (N := 69) hx hb hts (fun w h => wm_c (wc_X8 w h)) hown hE.1 hP 0 rfl rfl 38 (by decide) tX8_38 (hts (.fieldLink RX8 96 "WornLinesModel" "term" "[I") (wm_c hw_72)) (fun _ h9 => h9) rfl dX8_worked_356 ?_
    refine lv_iload_n hx hb dX8_worked_359 rfl (lv_at hl 2 rfl) ?_
    obtain ⟨h_83, hw⟩ := hw
    refine va_iald hx hb hE.1 hP 11 0 rfl rfl (h_83) dX8_worked_360 ?_
    refine lv_iload hx hb dX8_worked_361 (lv_at hl 4 rfl) ?_
    refine lv_imul hx hb dX8_worked_363 ?_
    obtain ⟨h_84, hw⟩ := hw
    refine va_iast hx hb hE.1 hP hD hS 11 0 rfl rfl (h_84) dX8_worked_364 (fun H locs hP hD hS => ?_)
    have hP : va_P D vwCl (wW_X8_worked ak ad h am Fthrown Ftaped Fsize Fplace Fbegin Ftoken Fword Ftold Fwrong Fcode Fat Fway Fnext FisEnd FisFallen Fwritten Fmade Fstate FhandNext FhandSteps FhandWritten FmarkAt Alines AlineFrom AlineTo Acodes Akept AkeptBy Aahead Aagainst Asum AsumBy (upd Aterm (l2).toNatClampNeg (((Aterm (l2).toNatClampNeg) * l5))) AtermBy AbyNot AvalueOf Awear) H := hP
    have hD : va_D A (wW_X8_worked ak ad h am Fthrown Ftaped Fsize Fplace Fbegin Ftoken Fword Ftold Fwrong Fcode Fat Fway Fnext FisEnd FisFallen Fwritten Fmade Fstate FhandNext FhandSteps FhandWritten FmarkAt Alines AlineFrom AlineTo Acodes Akept AkeptBy Aahead Aagainst Asum AsumBy (upd Aterm (l2).toNatClampNeg (((Aterm (l2).toNatClampNeg) * l5))) AtermBy AbyNot AvalueOf Awear) := hD
    refine lv_iinc (v := (l3 + 1)) (lv' := [(3, .int (l3 + 1)), (0, .ref h), (1, .int (x0)), (2, .int (l2)), (5, .int (l5))]) hx hb dX8_worked_365 hl (k := 3) rfl (rfl) (by decide) rfl (fun ls hl => ?_)
    refine lv_goto (tgt := 14) hx hb dX8_worked_368 (by decide) ?_
    exact kk14 Akept AkeptBy Aahead Aagainst Asum AsumBy (upd Aterm (l2).toNatClampNeg (((Aterm (l2).toNatClampNeg) * l5))) AtermBy AbyNot l2 (l3 + 1) _ _ _ hw hP hD hS (lv_sub hl [1, 2, 3, 0] rfl)
  · replace hw := hw.2 c_82
    refine lv_iload hx hb dX8_worked_350 (lv_at hl 4 rfl) ?_
    refine lv_goto (tgt := 364) hx hb dX8_worked_352 (by decide) ?_
    obtain ⟨h_85, hw⟩ := hw
    refine va_iast hx hb hE.1 hP hD hS 11 0 rfl rfl (h_85) dX8_worked_364 (fun H locs hP hD hS => ?_)
    have hP : va_P D vwCl (wW_X8_worked ak ad h am Fthrown Ftaped Fsize Fplace Fbegin Ftoken Fword Ftold Fwrong Fcode Fat Fway Fnext FisEnd FisFallen Fwritten Fmade Fstate FhandNext FhandSteps FhandWritten FmarkAt Alines AlineFrom AlineTo Acodes Akept AkeptBy Aahead Aagainst Asum AsumBy (upd Aterm (l2).toNatClampNeg l5) AtermBy AbyNot AvalueOf Awear) H := hP
    have hD : va_D A (wW_X8_worked ak ad h am Fthrown Ftaped Fsize Fplace Fbegin Ftoken Fword Ftold Fwrong Fcode Fat Fway Fnext FisEnd FisFallen Fwritten Fmade Fstate FhandNext FhandSteps FhandWritten FmarkAt Alines AlineFrom AlineTo Acodes Akept AkeptBy Aahead Aagainst Asum AsumBy (upd Aterm (l2).toNatClampNeg l5) AtermBy AbyNot AvalueOf Awear) := hD
    refine lv_iinc (v := (l3 + 1)) (lv' := [(3, .int (l3 + 1)), (0, .ref h), (1, .int (x0)), (2, .int (l2)), (5, .int (l5))]) hx hb dX8_worked_365 hl (k := 3) rfl (rfl) (by decide) rfl (fun ls hl => ?_)
    refine lv_goto (tgt := 14) hx hb dX8_worked_368 (by decide) ?_
    exact kk14 Akept AkeptBy Aahead Aagainst Asum AsumBy (upd Aterm (l2).toNatClampNeg l5) AtermBy AbyNot l2 (l3 + 1) _ _ _ hw hP hD hS (lv_sub hl [1, 2, 3, 0] rfl)

def lb_X8_worked_286 (Fat : Int32) (Fway : Int32) (Alines : Nat → Int32) (AlineFrom : Nat → Int32) (AlineTo : Nat → Int32) (Acodes : Nat → Int32) (AvalueOf : Nat → Int32) (Awear : Nat → Int32) (x0 : Int32) (κ14 : (Nat → Int32) → (Nat → Int32) → (Nat → Int32) → (Nat → Int32) → (Nat → Int32) → (Nat → Int32) → (Nat → Int32) → (Nat → Int32) → (Nat → Int32) → Int32 → Int32 → Prop) (Φ : Int32 → (Nat → Int32) → (Nat → Int32) → (Nat → Int32) → (Nat → Int32) → (Nat → Int32) → (Nat → Int32) → (Nat → Int32) → (Nat → Int32) → (Nat → Int32) → Prop) (back : (Nat → Int32) → (Nat → Int32) → (Nat → Int32) → (Nat → Int32) → (Nat → Int32) → (Nat → Int32) → (Nat → Int32) → (Nat → Int32) → (Nat → Int32) → Int32 → Int32 → Int32 → Prop) (Akept : Nat → Int32) (AkeptBy : Nat → Int32) (Aahead : Nat → Int32) (Aagainst : Nat → Int32) (Asum : Nat → Int32) (AsumBy : Nat → Int32) (Aterm : Nat → Int32) (AtermBy : Nat → Int32) (AbyNot : Nat → Int32) (l2 : Int32) (l3 : Int32) (l5 : Int32) : Prop := (l2 ≤ 0 → kf_X8_worked_336 Fat Fway Alines AlineFrom AlineTo Acodes AvalueOf Awear x0 κ14 Φ Akept AkeptBy Aahead Aagainst Asum AsumBy Aterm AtermBy AbyNot l2 l3 l5) ∧ (¬ l2 ≤ 0 → vp_in l2 7 ∧ ((AbyNot (l2).toNatClampNeg) ≤ 0 → kf_X8_worked_336 Fat Fway Alines AlineFrom AlineTo Acodes AvalueOf Awear x0 κ14 Φ Akept AkeptBy Aahead Aagainst Asum AsumBy Aterm AtermBy AbyNot l2 l3 l5) ∧ (¬ (AbyNot (l2).toNatClampNeg) ≤ 0 → vp_in l2 7 ∧ (¬ (AbyNot (l2).toNatClampNeg) = 2 → (¬ l5 = 0 → back Akept AkeptBy Aahead Aagainst Asum AsumBy Aterm AtermBy AbyNot (l2 + (-1)) l3 0) ∧ (l5 = 0 → back Akept AkeptBy Aahead Aagainst Asum AsumBy Aterm AtermBy AbyNot (l2 + (-1)) l3 1)) ∧ ((AbyNot (l2).toNatClampNeg) = 2 → wp_X8_wornness Fat Fway Alines Awear l5 (fun r_92 => back Akept AkeptBy Aahead Aagainst Asum AsumBy Aterm AtermBy AbyNot (l2 + (-1)) l3 r_92))))
def lf_X8_worked_286 (Fat : Int32) (Fway : Int32) (Alines : Nat → Int32) (AlineFrom : Nat → Int32) (AlineTo : Nat → Int32) (Acodes : Nat → Int32) (AvalueOf : Nat → Int32) (Awear : Nat → Int32) (x0 : Int32) (κ14 : (Nat → Int32) → (Nat → Int32) → (Nat → Int32) → (Nat → Int32) → (Nat → Int32) → (Nat → Int32) → (Nat → Int32) → (Nat → Int32) → (Nat → Int32) → Int32 → Int32 → Prop) (Φ : Int32 → (Nat → Int32) → (Nat → Int32) → (Nat → Int32) → (Nat → Int32) → (Nat → Int32) → (Nat → Int32) → (Nat → Int32) → (Nat → Int32) → (Nat → Int32) → Prop) : Nat → (Nat → Int32) → (Nat → Int32) → (Nat → Int32) → (Nat → Int32) → (Nat → Int32) → (Nat → Int32) → (Nat → Int32) → (Nat → Int32) → (Nat → Int32) → Int32 → Int32 → Int32 → Prop
  | 0, _, _, _, _, _, _, _, _, _, _, _, _ => False
  | n_ + 1, Akept, AkeptBy, Aahead, Aagainst, Asum, AsumBy, Aterm, AtermBy, AbyNot, l2, l3, l5 => lb_X8_worked_286 Fat Fway Alines AlineFrom AlineTo Acodes AvalueOf Awear x0 κ14 Φ (lf_X8_worked_286 Fat Fway Alines AlineFrom AlineTo Acodes AvalueOf Awear x0 κ14 Φ n_) Akept AkeptBy Aahead Aagainst Asum AsumBy Aterm AtermBy AbyNot l2 l3 l5
theorem li_X8_worked_286 (Fat : Int32) (Fway : Int32) (Alines : Nat → Int32) (AlineFrom : Nat → Int32) (AlineTo : Nat → Int32) (Acodes : Nat → Int32) (AvalueOf : Nat → Int32) (Awear : Nat → Int32) (x0 : Int32) (κ14 : (Nat → Int32) → (Nat → Int32) → (Nat → Int32) → (Nat → Int32) → (Nat → Int32) → (Nat → Int32) → (Nat → Int32) → (Nat → Int32) → (Nat → Int32) → Int32 → Int32 → Prop) (Φ : Int32 → (Nat → Int32) → (Nat → Int32) → (Nat → Int32) → (Nat → Int32) → (Nat → Int32) → (Nat → Int32) → (Nat → Int32) → (Nat → Int32) → (Nat → Int32) → Prop) (Inv : (Nat → Int32) → (Nat → Int32) → (Nat → Int32) → (Nat → Int32) → (Nat → Int32) → (Nat → Int32) → (Nat → Int32) → (Nat → Int32) → (Nat → Int32) → Int32 → Int32 → Int32 → Prop) (mu : (Nat → Int32) → (Nat → Int32) → (Nat → Int32) → (Nat → Int32) → (Nat → Int32) → (Nat → Int32) → (Nat → Int32) → (Nat → Int32) → (Nat → Int32) → Int32 → Int32 → Int32 → Nat) (hs : ∀ (back : (Nat → Int32) → (Nat → Int32) → (Nat → Int32) → (Nat → Int32) → (Nat → Int32) → (Nat → Int32) → (Nat → Int32) → (Nat → Int32) → (Nat → Int32) → Int32 → Int32 → Int32 → Prop) (Akept : Nat → Int32) (AkeptBy : Nat → Int32) (Aahead : Nat → Int32) (Aagainst : Nat → Int32) (Asum : Nat → Int32) (AsumBy : Nat → Int32) (Aterm : Nat → Int32) (AtermBy : Nat → Int32) (AbyNot : Nat → Int32) (l2 : Int32) (l3 : Int32) (l5 : Int32), Inv Akept AkeptBy Aahead Aagainst Asum AsumBy Aterm AtermBy AbyNot l2 l3 l5 → (∀ (Akept' : Nat → Int32) (AkeptBy' : Nat → Int32) (Aahead' : Nat → Int32) (Aagainst' : Nat → Int32) (Asum' : Nat → Int32) (AsumBy' : Nat → Int32) (Aterm' : Nat → Int32) (AtermBy' : Nat → Int32) (AbyNot' : Nat → Int32) (l2' : Int32) (l3' : Int32) (l5' : Int32), Inv Akept' AkeptBy' Aahead' Aagainst' Asum' AsumBy' Aterm' AtermBy' AbyNot' l2' l3' l5' → mu Akept' AkeptBy' Aahead' Aagainst' Asum' AsumBy' Aterm' AtermBy' AbyNot' l2' l3' l5' < mu Akept AkeptBy Aahead Aagainst Asum AsumBy Aterm AtermBy AbyNot l2 l3 l5 → back Akept' AkeptBy' Aahead' Aagainst' Asum' AsumBy' Aterm' AtermBy' AbyNot' l2' l3' l5') → lb_X8_worked_286 Fat Fway Alines AlineFrom AlineTo Acodes AvalueOf Awear x0 κ14 Φ back Akept AkeptBy Aahead Aagainst Asum AsumBy Aterm AtermBy AbyNot l2 l3 l5) : ∀ (n_ : Nat) (Akept : Nat → Int32) (AkeptBy : Nat → Int32) (Aahead : Nat → Int32) (Aagainst : Nat → Int32) (Asum : Nat → Int32) (AsumBy : Nat → Int32) (Aterm : Nat → Int32) (AtermBy : Nat → Int32) (AbyNot : Nat → Int32) (l2 : Int32) (l3 : Int32) (l5 : Int32), Inv Akept AkeptBy Aahead Aagainst Asum AsumBy Aterm AtermBy AbyNot l2 l3 l5 → mu Akept AkeptBy Aahead Aagainst Asum AsumBy Aterm AtermBy AbyNot l2 l3 l5 < n_ → lf_X8_worked_286 Fat Fway Alines AlineFrom AlineTo Acodes AvalueOf Awear x0 κ14 Φ n_ Akept AkeptBy Aahead Aagainst Asum AsumBy Aterm AtermBy AbyNot l2 l3 l5 := by
  intro n_
  induction n_ with
  | zero => intro Akept AkeptBy Aahead Aagainst Asum AsumBy Aterm AtermBy AbyNot l2 l3 l5 _ h; exact absurd h (Nat.not_lt_zero _)
  | succ n_ ih => intro Akept AkeptBy Aahead Aagainst Asum AsumBy Aterm AtermBy AbyNot l2 l3 l5 hI hm; exact hs _ Akept AkeptBy Aahead Aagainst Asum AsumBy Aterm AtermBy AbyNot l2 l3 l5 hI (fun Akept' AkeptBy' Aahead' Aagainst' Asum' AsumBy' Aterm' AtermBy' AbyNot' l2' l3' l5' h1 h2 => ih Akept' AkeptBy' Aahead' Aagainst' Asum' AsumBy' Aterm' AtermBy' AbyNot' l2' l3' l5' h1 (by omega))
set_option maxHeartbeats 4000000 in
set_option maxRecDepth 100000 in
theorem lp_X8_worked_286 {p : Program} {l : Launch} {e : Env} {R : Room} {s : State} {m : MethodId} {args : Array Value} {below : List Frame} {meth : Method} {c : Code} {cells slots : Nat} {Q : State → Prop} {A : Nat → Prop} {D : va_G} {ak : Nat → ClassId} {ad : Nat → Nat} (hx : p.tables.exec = Jvm.exec) (hb : c.code = cX8_worked) (hown : s.vm.findClass RX8 = some m.cls) (hts : ∀ w ∈ wsX8_worked, w.before args s = true) (hml : c.maxLocals = 6) (hE : EV D ak s) (hT : ST D ak ad A s s.heap) (hA : ∀ q, s.heap.size ≤ q → A q) (hRf : 2 ≤ R.frames) (hRl : 44 ≤ R.locals) (hRc : cells ≤ R.cells ∧ slots ≤ R.slots) (h : Nat) (am : Nat → Nat) (Fthrown : Int32) (Ftaped : Int32) (Fsize : Int32) (Fplace : Int32) (Fbegin : Int32) (Ftoken : Int32) (Fword : Int64) (Ftold : Int32) (Fwrong : Int32) (Fcode : Int32) (Fat : Int32) (Fway : Int32) (Fnext : Int32) (FisEnd : Int32) (FisFallen : Int32) (Fwritten : Int32) (Fmade : Int32) (Fstate : Int32) (FhandNext : Int32) (FhandSteps : Int32) (FhandWritten : Int32) (FmarkAt : Int32) (Alines : Nat → Int32) (AlineFrom : Nat → Int32) (AlineTo : Nat → Int32) (Acodes : Nat → Int32) (AvalueOf : Nat → Int32) (Awear : Nat → Int32) (x0 : Int32) (κ14 : (Nat → Int32) → (Nat → Int32) → (Nat → Int32) → (Nat → Int32) → (Nat → Int32) → (Nat → Int32) → (Nat → Int32) → (Nat → Int32) → (Nat → Int32) → Int32 → Int32 → Prop) (Φ : Int32 → (Nat → Int32) → (Nat → Int32) → (Nat → Int32) → (Nat → Int32) → (Nat → Int32) → (Nat → Int32) → (Nat → Int32) → (Nat → Int32) → (Nat → Int32) → Prop)
    (kk14 : ∀ (Akept : Nat → Int32) (AkeptBy : Nat → Int32) (Aahead : Nat → Int32) (Aagainst : Nat → Int32) (Asum : Nat → Int32) (AsumBy : Nat → Int32) (Aterm : Nat → Int32) (AtermBy : Nat → Int32) (AbyNot : Nat → Int32) (l2 : Int32) (l3 : Int32) (H : Heap) (locs : List Loc) (ls : Array Slot), κ14 Akept AkeptBy Aahead Aagainst Asum AsumBy Aterm AtermBy AbyNot l2 l3 → va_P D vwCl (wW_X8_worked ak ad h am Fthrown Ftaped Fsize Fplace Fbegin Ftoken Fword Ftold Fwrong Fcode Fat Fway Fnext FisEnd FisFallen Fwritten Fmade Fstate FhandNext FhandSteps FhandWritten FmarkAt Alines AlineFrom AlineTo Acodes Akept AkeptBy Aahead Aagainst Asum AsumBy Aterm AtermBy AbyNot AvalueOf Awear) H → va_D A (wW_X8_worked ak ad h am Fthrown Ftaped Fsize Fplace Fbegin Ftoken Fword Ftold Fwrong Fcode Fat Fway Fnext FisEnd FisFallen Fwritten Fmade Fstate FhandNext FhandSteps FhandWritten FmarkAt Alines AlineFrom AlineTo Acodes Akept AkeptBy Aahead Aagainst Asum AsumBy Aterm AtermBy AbyNot AvalueOf Awear) → va_S A s.heap H locs → lv_has ls 6 [(0, .ref h), (1, .int (x0)), (2, .int (l2)), (3, .int (l3))] → W p l e R s m args below meth c H locs cells slots Q (F0 m 14 ls ([])))
    (kR382 : ∀ (r : Int32) (Akept : Nat → Int32) (AkeptBy : Nat → Int32) (Aahead : Nat → Int32) (Aagainst : Nat → Int32) (Asum : Nat → Int32) (AsumBy : Nat → Int32) (Aterm : Nat → Int32) (AtermBy : Nat → Int32) (AbyNot : Nat → Int32) (H : Heap) (locs : List Loc) (ls : Array Slot), Φ r Akept AkeptBy Aahead Aagainst Asum AsumBy Aterm AtermBy AbyNot → va_P D vwCl (wW_X8_worked ak ad h am Fthrown Ftaped Fsize Fplace Fbegin Ftoken Fword Ftold Fwrong Fcode Fat Fway Fnext FisEnd FisFallen Fwritten Fmade Fstate FhandNext FhandSteps FhandWritten FmarkAt Alines AlineFrom AlineTo Acodes Akept AkeptBy Aahead Aagainst Asum AsumBy Aterm AtermBy AbyNot AvalueOf Awear) H → va_D A (wW_X8_worked ak ad h am Fthrown Ftaped Fsize Fplace Fbegin Ftoken Fword Ftold Fwrong Fcode Fat Fway Fnext FisEnd FisFallen Fwritten Fmade Fstate FhandNext FhandSteps FhandWritten FmarkAt Alines AlineFrom AlineTo Acodes Akept AkeptBy Aahead Aagainst Asum AsumBy Aterm AtermBy AbyNot AvalueOf Awear) → va_S A s.heap H locs → W p l e R s m args below meth c H locs cells slots Q (F0 m 382 ls [.int r]))
    : ∀ (n_ : Nat) (Akept : Nat → Int32) (AkeptBy : Nat → Int32) (Aahead : Nat → Int32) (Aagainst : Nat → Int32) (Asum : Nat → Int32) (AsumBy : Nat → Int32) (Aterm : Nat → Int32) (AtermBy : Nat → Int32) (AbyNot : Nat → Int32) (l2 : Int32) (l3 : Int32) (l5 : Int32) (H : Heap) (locs : List Loc) (ls : Array Slot), lf_X8_worked_286 Fat Fway Alines AlineFrom AlineTo Acodes AvalueOf Awear x0 κ14 Φ n_ Akept AkeptBy Aahead Aagainst Asum AsumBy Aterm AtermBy AbyNot l2 l3 l5 → va_P D vwCl (wW_X8_worked ak ad h am Fthrown Ftaped Fsize Fplace Fbegin Ftoken Fword Ftold Fwrong Fcode Fat Fway Fnext FisEnd FisFallen Fwritten Fmade Fstate FhandNext FhandSteps FhandWritten FmarkAt Alines AlineFrom AlineTo Acodes Akept AkeptBy Aahead Aagainst Asum AsumBy Aterm AtermBy AbyNot AvalueOf Awear) H → va_D A (wW_X8_worked ak ad h am Fthrown Ftaped Fsize Fplace Fbegin Ftoken Fword Ftold Fwrong Fcode Fat Fway Fnext FisEnd FisFallen Fwritten Fmade Fstate FhandNext FhandSteps FhandWritten FmarkAt Alines AlineFrom AlineTo Acodes Akept AkeptBy Aahead Aagainst Asum AsumBy Aterm AtermBy AbyNot AvalueOf Awear) → va_S A s.heap H locs → lv_has ls 6 [(0, .ref h), (1, .int (x0)), (2, .int (l2)), (3, .int (l3)), (5, .int (l5))] → W p l e R s m args below meth c H locs cells slots Q (F0 m 286 ls ([])) := by
  intro n_
  induction n_ with
  | zero =>
    intro Akept AkeptBy Aahead Aagainst Asum AsumBy Aterm AtermBy AbyNot l2 l3 l5 H locs ls hw
    exact hw.elim
  | succ n_ ih =>
    intro Akept AkeptBy Aahead Aagainst Asum AsumBy Aterm AtermBy AbyNot l2 l3 l5 H locs ls hw hP hD hS hl
    have hw : lb_X8_worked_286 Fat Fway Alines AlineFrom AlineTo Acodes AvalueOf Awear x0 κ14 Φ (lf_X8_worked_286 Fat Fway Alines AlineFrom AlineTo Acodes AvalueOf Awear x0 κ14 Φ n_) Akept AkeptBy Aahead Aagainst Asum AsumBy Aterm AtermBy AbyNot l2 l3 l5 := hw
    delta lb_X8_worked_286 at hw
    refine lv_iload_n hx hb dX8_worked_286 rfl (lv_at hl 2 rfl) ?_
    refine lv_if_le (tgt := 336) hx hb dX8_worked_287 (by decide) (fun c_80 => ?_) (fun c_80 => ?_)
    · replace hw := hw.1 c_80
      exact kj_X8_worked_336 hx hb hown hts hml hE hT hA hRf hRl hRc h am Fthrown Ftaped Fsize Fplace Fbegin Ftoken Fword Ftold Fwrong Fcode Fat Fway Fnext FisEnd FisFallen Fwritten Fmade Fstate FhandNext FhandSteps FhandWritten FmarkAt Alines AlineFrom AlineTo Acodes AvalueOf Awear x0 _ Φ kk14 kR382 Akept AkeptBy Aahead Aagainst Asum AsumBy Aterm AtermBy AbyNot l2 l3 l5 _ _ _ hw hP hD hS (lv_sub hl [0, 1, 2, 3, 4] rfl)
    · replace hw := hw.2 c_80
      refine lv_aload_n hx hb dX8_worked_290 rfl (lv_at hl 0 rfl) ?_
      refine vt_get (D := D) (ci := 7) (v := .ref (am 30)) (C := RX8) (T := TX8) (N := 69) hx hb hts (fun w h => wm_c (wc_X8 w h)) hown hE.1 hP 0 rfl rfl 40 (by decide) tX8_40 (hts (.fieldLink RX8 102 "WornLinesModel" "byNot" "[I") (wm_c hw_85)) (fun _ h9 => h9) rfl dX8_worked_291 ?_
      refine lv_iload_n hx hb dX8_worked_294 rfl (lv_at hl 2 rfl) ?_
      obtain ⟨h_86, hw⟩ := hw
      refine va_iald hx hb hE.1 hP 13 0 rfl rfl (h_86) dX8_worked_295 ?_
      refine lv_if_le (tgt := 336) hx hb dX8_worked_296 (by decide) (fun c_87 => ?_) (fun c_87 => ?_)
      · replace hw := hw.1 c_87
        exact kj_X8_worked_336 hx hb hown hts hml hE hT hA hRf hRl hRc h am Fthrown Ftaped Fsize Fplace Fbegin Ftoken Fword Ftold Fwrong Fcode Fat Fway Fnext FisEnd FisFallen Fwritten Fmade Fstate FhandNext FhandSteps FhandWritten FmarkAt Alines AlineFrom AlineTo Acodes AvalueOf Awear x0 _ Φ kk14 kR382 Akept AkeptBy Aahead Aagainst Asum AsumBy Aterm AtermBy AbyNot l2 l3 l5 _ _ _ hw hP hD hS (lv_sub hl [0, 1, 2, 3, 4] rfl)
      · replace hw := hw.2 c_87
        refine lv_aload_n hx hb dX8_worked_299 rfl (lv_at hl 0 rfl) ?_
        refine vt_get (D := D) (ci := 7) (v := .ref (am 30)) (C := RX8) (T := TX8) (N := 69) hx hb hts (fun w h => wm_c (wc_X8 w h)) hown hE.1 hP 0 rfl rfl 40 (by decide) tX8_40 (hts (.fieldLink RX8 102 "WornLinesModel" "byNot" "[I") (wm_c hw_85)) (fun _ h9 => h9) rfl dX8_worked_300 ?_
        refine lv_iload_n hx hb dX8_worked_303 rfl (lv_at hl 2 rfl) ?_
        obtain ⟨h_88, hw⟩ := hw
        refine va_iald hx hb hE.1 hP 13 0 rfl rfl (h_88) dX8_worked_304 ?_
        refine lv_iconst (v := 2) hx hb dX8_worked_305 (by decide) ?_
        refine lv_icmp_ne (tgt := 318) hx hb dX8_worked_306 (by decide) (fun c_89 => ?_) (fun c_89 => ?_)
        · replace hw := hw.1 c_89
          refine lv_iload hx hb dX8_worked_318 (lv_at hl 4 rfl) ?_
          refine lv_if_ne (tgt := 327) hx hb dX8_worked_320 (by decide) (fun c_90 => ?_) (fun c_90 => ?_)
          · replace hw := hw.1 c_90
            refine lv_iconst (v := 0) hx hb dX8_worked_327 (by decide) ?_
            refine lv_istore (lv' := [(5, .int (0)), (0, .ref h), (1, .int (x0)), (2, .int (l2)), (3, .int (l3))]) hx hb dX8_worked_328 hl (by decide) rfl (fun ls hl => ?_)
            refine lv_iinc (v := (l2 + (-1))) (lv' := [(2, .int (l2 + (-1))), (5, .int (0)), (0, .ref h), (1, .int (x0)), (3, .int (l3))]) hx hb dX8_worked_330 hl (k := 3) rfl (rfl) (by decide) rfl (fun ls hl => ?_)
            refine lv_goto (tgt := 286) hx hb dX8_worked_333 (by decide) ?_
            exact ih Akept AkeptBy Aahead Aagainst Asum AsumBy Aterm AtermBy AbyNot (l2 + (-1)) l3 0 _ _ _ hw hP hD hS (lv_sub hl [2, 3, 0, 4, 1] rfl)
          · replace hw := hw.2 c_90
            refine lv_iconst (v := 1) hx hb dX8_worked_323 (by decide) ?_
            refine lv_goto (tgt := 328) hx hb dX8_worked_324 (by decide) ?_
            refine lv_istore (lv' := [(5, .int (1)), (0, .ref h), (1, .int (x0)), (2, .int (l2)), (3, .int (l3))]) hx hb dX8_worked_328 hl (by decide) rfl (fun ls hl => ?_)
            refine lv_iinc (v := (l2 + (-1))) (lv' := [(2, .int (l2 + (-1))), (5, .int (1)), (0, .ref h), (1, .int (x0)), (3, .int (l3))]) hx hb dX8_worked_330 hl (k := 3) rfl (rfl) (by decide) rfl (fun ls hl => ?_)
            refine lv_goto (tgt := 286) hx hb dX8_worked_333 (by decide) ?_
            exact ih Akept AkeptBy Aahead Aagainst Asum AsumBy Aterm AtermBy AbyNot (l2 + (-1)) l3 1 _ _ _ hw hP hD hS (lv_sub hl [2, 3, 0, 4, 1] rfl)
        · replace hw := hw.2 c_89
          refine lv_aload_n hx hb dX8_worked_309 rfl (lv_at hl 0 rfl) ?_
          refine lv_iload hx hb dX8_worked_310 (lv_at hl 4 rfl) ?_
          refine kc_i (wc := (wW_X8_wornness ak ad h am Fthrown Ftaped Fsize Fplace Fbegin Ftoken Fword Ftold Fwrong Fcode Fat Fway Fnext FisEnd FisFallen Fwritten Fmade Fstate FhandNext FhandSteps FhandWritten FmarkAt Alines Awear)) (wr := [((am 17), .inl (ak 0, 192, .inl (AlineFrom))), ((am 18), .inl (ak 0, 192, .inl (AlineTo))), ((am 19), .inl (ak 0, 6000, .inl (Acodes))), ((am 22), .inl (ak 0, 7, .inl (Akept))), ((am 23), .inl (ak 0, 7, .inl (AkeptBy))), ((am 24), .inl (ak 0, 7, .inl (Aahead))), ((am 25), .inl (ak 0, 7, .inl (Aagainst))), ((am 26), .inl (ak 0, 7, .inl (Asum))), ((am 27), .inl (ak 0, 7, .inl (AsumBy))), ((am 28), .inl (ak 0, 7, .inl (Aterm))), ((am 29), .inl (ak 0, 7, .inl (AtermBy))), ((am 30), .inl (ak 0, 7, .inl (AbyNot))), ((am 31), .inl (ak 0, 20, .inl (AvalueOf)))]) hP hD hS hA [0, 1, 15] [2, 3, 4, 5, 6, 7, 8, 9, 10, 11, 12, 13, 14] rfl rfl (by decide) (by decide) (va_runV (As := [.int (l5)]) (rest := []) ⟨hx, hb, hml, hown, hts⟩ (c_X8_wornness l D ak ad _ h am Fthrown Ftaped Fsize Fplace Fbegin Ftoken Fword Ftold Fwrong Fcode Fat Fway Fnext FisEnd FisFallen Fwritten Fmade Fstate FhandNext FhandSteps FhandWritten FmarkAt Alines Awear l5 _ hw) (cwV 1 hts gX8_worked_X8_wornness rfl rfl rfl hv_X8_wornness ⟨(Nat.le_trans (Nat.le_of_ble_eq_true rfl) hRf), (Nat.le_trans (Nat.le_of_ble_eq_true rfl) hRl)⟩) (kc_preV (As := [.int (l5)]) (wc := (wW_X8_wornness ak ad h am Fthrown Ftaped Fsize Fplace Fbegin Ftoken Fword Ftold Fwrong Fcode Fat Fway Fnext FisEnd FisFallen Fwritten Fmade Fstate FhandNext FhandSteps FhandWritten FmarkAt Alines Awear)) hE hT hP hD hS hA [0, 1, 15] (by decide) rfl rfl 0 7 rfl rfl rfl) rfl rfl hl.1 rfl (lv_room (Nat.le_of_ble_eq_true rfl)) dX8_worked_312 ⟨hRc.1, hRc.2⟩) (fun r_92 u_91 H locs hw hP hD hS => ?_)
          try dsimp -zeta only at hw
          have hP : va_P D vwCl (wW_X8_worked ak ad h am Fthrown Ftaped Fsize Fplace Fbegin Ftoken Fword Ftold Fwrong Fcode Fat Fway Fnext FisEnd FisFallen Fwritten Fmade Fstate FhandNext FhandSteps FhandWritten FmarkAt Alines AlineFrom AlineTo Acodes Akept AkeptBy Aahead Aagainst Asum AsumBy Aterm AtermBy AbyNot AvalueOf Awear) H := hP.sub [13, 14, 0, 1, 2, 3, 4, 5, 6, 7, 8, 9, 10, 11, 12, 15] rfl
          have hD : va_D A (wW_X8_worked ak ad h am Fthrown Ftaped Fsize Fplace Fbegin Ftoken Fword Ftold Fwrong Fcode Fat Fway Fnext FisEnd FisFallen Fwritten Fmade Fstate FhandNext FhandSteps FhandWritten FmarkAt Alines AlineFrom AlineTo Acodes Akept AkeptBy Aahead Aagainst Asum AsumBy Aterm AtermBy AbyNot AvalueOf Awear) := hD.sub [13, 14, 0, 1, 2, 3, 4, 5, 6, 7, 8, 9, 10, 11, 12, 15] (by decide) rfl
          refine lv_goto (tgt := 328) hx hb dX8_worked_315 (by decide) ?_
          refine lv_istore (lv' := [(5, .int (r_92)), (0, .ref h), (1, .int (x0)), (2, .int (l2)), (3, .int (l3))]) hx hb dX8_worked_328 hl (by decide) rfl (fun ls hl => ?_)
          refine lv_iinc (v := (l2 + (-1))) (lv' := [(2, .int (l2 + (-1))), (5, .int (r_92)), (0, .ref h), (1, .int (x0)), (3, .int (l3))]) hx hb dX8_worked_330 hl (k := 3) rfl (rfl) (by decide) rfl (fun ls hl => ?_)
          refine lv_goto (tgt := 286) hx hb dX8_worked_333 (by decide) ?_
          exact ih Akept AkeptBy Aahead Aagainst Asum AsumBy Aterm AtermBy AbyNot (l2 + (-1)) l3 r_92 _ _ _ hw hP hD hS (lv_sub hl [2, 3, 0, 4, 1] rfl)

def kf_X8_worked_261 (Fat : Int32) (Fway : Int32) (Alines : Nat → Int32) (AlineFrom : Nat → Int32) (AlineTo : Nat → Int32) (Acodes : Nat → Int32) (AvalueOf : Nat → Int32) (Awear : Nat → Int32) (x0 : Int32) (κ14 : (Nat → Int32) → (Nat → Int32) → (Nat → Int32) → (Nat → Int32) → (Nat → Int32) → (Nat → Int32) → (Nat → Int32) → (Nat → Int32) → (Nat → Int32) → Int32 → Int32 → Prop) (Φ : Int32 → (Nat → Int32) → (Nat → Int32) → (Nat → Int32) → (Nat → Int32) → (Nat → Int32) → (Nat → Int32) → (Nat → Int32) → (Nat → Int32) → (Nat → Int32) → Prop) (Akept : Nat → Int32) (AkeptBy : Nat → Int32) (Aahead : Nat → Int32) (Aagainst : Nat → Int32) (Asum : Nat → Int32) (AsumBy : Nat → Int32) (Aterm : Nat → Int32) (AtermBy : Nat → Int32) (AbyNot : Nat → Int32) (l2 : Int32) (l3 : Int32) (l4 : Int32) (s0 : Int32) : Prop := (¬ l4 = 29 → (∃ n_, lf_X8_worked_286 Fat Fway Alines AlineFrom AlineTo Acodes AvalueOf Awear x0 κ14 Φ n_ Akept AkeptBy Aahead Aagainst Asum AsumBy Aterm AtermBy AbyNot l2 l3 s0)) ∧ (l4 = 29 → wp_X8_tests AkeptBy Aahead Aterm l2 Akept Aagainst Asum AsumBy AtermBy (fun Akept_94 Aagainst_95 Asum_96 AsumBy_97 AtermBy_98 => vp_in l2 7 ∧ (∃ n_, lf_X8_worked_286 Fat Fway Alines AlineFrom AlineTo Acodes AvalueOf Awear x0 κ14 Φ n_ Akept_94 AkeptBy Aahead Aagainst_95 Asum_96 AsumBy_97 Aterm AtermBy_98 AbyNot (l2 + (-1)) l3 (Akept_94 (l2).toNatClampNeg))))
set_option maxHeartbeats 4000000 in
set_option maxRecDepth 100000 in
theorem kj_X8_worked_261 {p : Program} {l : Launch} {e : Env} {R : Room} {s : State} {m : MethodId} {args : Array Value} {below : List Frame} {meth : Method} {c : Code} {cells slots : Nat} {Q : State → Prop} {A : Nat → Prop} {D : va_G} {ak : Nat → ClassId} {ad : Nat → Nat} (hx : p.tables.exec = Jvm.exec) (hb : c.code = cX8_worked) (hown : s.vm.findClass RX8 = some m.cls) (hts : ∀ w ∈ wsX8_worked, w.before args s = true) (hml : c.maxLocals = 6) (hE : EV D ak s) (hT : ST D ak ad A s s.heap) (hA : ∀ q, s.heap.size ≤ q → A q) (hRf : 2 ≤ R.frames) (hRl : 44 ≤ R.locals) (hRc : cells ≤ R.cells ∧ slots ≤ R.slots) (h : Nat) (am : Nat → Nat) (Fthrown : Int32) (Ftaped : Int32) (Fsize : Int32) (Fplace : Int32) (Fbegin : Int32) (Ftoken : Int32) (Fword : Int64) (Ftold : Int32) (Fwrong : Int32) (Fcode : Int32) (Fat : Int32) (Fway : Int32) (Fnext : Int32) (FisEnd : Int32) (FisFallen : Int32) (Fwritten : Int32) (Fmade : Int32) (Fstate : Int32) (FhandNext : Int32) (FhandSteps : Int32) (FhandWritten : Int32) (FmarkAt : Int32) (Alines : Nat → Int32) (AlineFrom : Nat → Int32) (AlineTo : Nat → Int32) (Acodes : Nat → Int32) (AvalueOf : Nat → Int32) (Awear : Nat → Int32) (x0 : Int32) (κ14 : (Nat → Int32) → (Nat → Int32) → (Nat → Int32) → (Nat → Int32) → (Nat → Int32) → (Nat → Int32) → (Nat → Int32) → (Nat → Int32) → (Nat → Int32) → Int32 → Int32 → Prop) (Φ : Int32 → (Nat → Int32) → (Nat → Int32) → (Nat → Int32) → (Nat → Int32) → (Nat → Int32) → (Nat → Int32) → (Nat → Int32) → (Nat → Int32) → (Nat → Int32) → Prop)
    (kk14 : ∀ (Akept : Nat → Int32) (AkeptBy : Nat → Int32) (Aahead : Nat → Int32) (Aagainst : Nat → Int32) (Asum : Nat → Int32) (AsumBy : Nat → Int32) (Aterm : Nat → Int32) (AtermBy : Nat → Int32) (AbyNot : Nat → Int32) (l2 : Int32) (l3 : Int32) (H : Heap) (locs : List Loc) (ls : Array Slot), κ14 Akept AkeptBy Aahead Aagainst Asum AsumBy Aterm AtermBy AbyNot l2 l3 → va_P D vwCl (wW_X8_worked ak ad h am Fthrown Ftaped Fsize Fplace Fbegin Ftoken Fword Ftold Fwrong Fcode Fat Fway Fnext FisEnd FisFallen Fwritten Fmade Fstate FhandNext FhandSteps FhandWritten FmarkAt Alines AlineFrom AlineTo Acodes Akept AkeptBy Aahead Aagainst Asum AsumBy Aterm AtermBy AbyNot AvalueOf Awear) H → va_D A (wW_X8_worked ak ad h am Fthrown Ftaped Fsize Fplace Fbegin Ftoken Fword Ftold Fwrong Fcode Fat Fway Fnext FisEnd FisFallen Fwritten Fmade Fstate FhandNext FhandSteps FhandWritten FmarkAt Alines AlineFrom AlineTo Acodes Akept AkeptBy Aahead Aagainst Asum AsumBy Aterm AtermBy AbyNot AvalueOf Awear) → va_S A s.heap H locs → lv_has ls 6 [(0, .ref h), (1, .int (x0)), (2, .int (l2)), (3, .int (l3))] → W p l e R s m args below meth c H locs cells slots Q (F0 m 14 ls ([])))
    (kR382 : ∀ (r : Int32) (Akept : Nat → Int32) (AkeptBy : Nat → Int32) (Aahead : Nat → Int32) (Aagainst : Nat → Int32) (Asum : Nat → Int32) (AsumBy : Nat → Int32) (Aterm : Nat → Int32) (AtermBy : Nat → Int32) (AbyNot : Nat → Int32) (H : Heap) (locs : List Loc) (ls : Array Slot), Φ r Akept AkeptBy Aahead Aagainst Asum AsumBy Aterm AtermBy AbyNot → va_P D vwCl (wW_X8_worked ak ad h am Fthrown Ftaped Fsize Fplace Fbegin Ftoken Fword Ftold Fwrong Fcode Fat Fway Fnext FisEnd FisFallen Fwritten Fmade Fstate FhandNext FhandSteps FhandWritten FmarkAt Alines AlineFrom AlineTo Acodes Akept AkeptBy Aahead Aagainst Asum AsumBy Aterm AtermBy AbyNot AvalueOf Awear) H → va_D A (wW_X8_worked ak ad h am Fthrown Ftaped Fsize Fplace Fbegin Ftoken Fword Ftold Fwrong Fcode Fat Fway Fnext FisEnd FisFallen Fwritten Fmade Fstate FhandNext FhandSteps FhandWritten FmarkAt Alines AlineFrom AlineTo Acodes Akept AkeptBy Aahead Aagainst Asum AsumBy Aterm AtermBy AbyNot AvalueOf Awear) → va_S A s.heap H locs → W p l e R s m args below meth c H locs cells slots Q (F0 m 382 ls [.int r]))
    : ∀ (Akept : Nat → Int32) (AkeptBy : Nat → Int32) (Aahead : Nat → Int32) (Aagainst : Nat → Int32) (Asum : Nat → Int32) (AsumBy : Nat → Int32) (Aterm : Nat → Int32) (AtermBy : Nat → Int32) (AbyNot : Nat → Int32) (l2 : Int32) (l3 : Int32) (l4 : Int32) (s0 : Int32) (H : Heap) (locs : List Loc) (ls : Array Slot), kf_X8_worked_261 Fat Fway Alines AlineFrom AlineTo Acodes AvalueOf Awear x0 κ14 Φ Akept AkeptBy Aahead Aagainst Asum AsumBy Aterm AtermBy AbyNot l2 l3 l4 s0 → va_P D vwCl (wW_X8_worked ak ad h am Fthrown Ftaped Fsize Fplace Fbegin Ftoken Fword Ftold Fwrong Fcode Fat Fway Fnext FisEnd FisFallen Fwritten Fmade Fstate FhandNext FhandSteps FhandWritten FmarkAt Alines AlineFrom AlineTo Acodes Akept AkeptBy Aahead Aagainst Asum AsumBy Aterm AtermBy AbyNot AvalueOf Awear) H → va_D A (wW_X8_worked ak ad h am Fthrown Ftaped Fsize Fplace Fbegin Ftoken Fword Ftold Fwrong Fcode Fat Fway Fnext FisEnd FisFallen Fwritten Fmade Fstate FhandNext FhandSteps FhandWritten FmarkAt Alines AlineFrom AlineTo Acodes Akept AkeptBy Aahead Aagainst Asum AsumBy Aterm AtermBy AbyNot AvalueOf Awear) → va_S A s.heap H locs → lv_has ls 6 [(0, .ref h), (1, .int (x0)), (2, .int (l2)), (3, .int (l3)), (4, .int (l4))] → W p l e R s m args below meth c H locs cells slots Q (F0 m 261 ls (.int (s0) :: [])) := by
  intro Akept AkeptBy Aahead Aagainst Asum AsumBy Aterm AtermBy AbyNot l2 l3 l4 s0 H locs ls hw hP hD hS hl
  delta kf_X8_worked_261 at hw
  refine lv_istore (lv' := [(5, .int (s0)), (0, .ref h), (1, .int (x0)), (2, .int (l2)), (3, .int (l3)), (4, .int (l4))]) hx hb dX8_worked_261 hl (by decide) rfl (fun ls hl => ?_)
  refine lv_iload hx hb dX8_worked_263 (lv_at hl 5 rfl) ?_
  refine lv_bipush (v := 29) hx hb dX8_worked_265 (by decide) ?_
  refine lv_icmp_ne (tgt := 286) hx hb dX8_worked_267 (by decide) (fun c_79 => ?_) (fun c_79 => ?_)
  · replace hw := hw.1 c_79
    obtain ⟨n1_, hw⟩ := hw
    exact lp_X8_worked_286 hx hb hown hts hml hE hT hA hRf hRl hRc h am Fthrown Ftaped Fsize Fplace Fbegin Ftoken Fword Ftold Fwrong Fcode Fat Fway Fnext FisEnd FisFallen Fwritten Fmade Fstate FhandNext FhandSteps FhandWritten FmarkAt Alines AlineFrom AlineTo Acodes AvalueOf Awear x0 _ Φ kk14 kR382 n1_ Akept AkeptBy Aahead Aagainst Asum AsumBy Aterm AtermBy AbyNot l2 l3 s0 _ _ _ hw hP hD hS (lv_sub hl [1, 2, 3, 4, 0] rfl)
  · replace hw := hw.2 c_79
    refine lv_aload_n hx hb dX8_worked_270 rfl (lv_at hl 1 rfl) ?_
    refine lv_iload_n hx hb dX8_worked_271 rfl (lv_at hl 3 rfl) ?_
    refine kc_v (wc := (wW_X8_tests ak ad h am Fthrown Ftaped Fsize Fplace Fbegin Ftoken Fword Ftold Fwrong Fcode Fat Fway Fnext FisEnd FisFallen Fwritten Fmade Fstate FhandNext FhandSteps FhandWritten FmarkAt Akept AkeptBy Aahead Aagainst Asum AsumBy Aterm AtermBy)) (wr := [((am 4), .inl (ak 0, 6, .inl (Alines))), ((am 17), .inl (ak 0, 192, .inl (AlineFrom))), ((am 18), .inl (ak 0, 192, .inl (AlineTo))), ((am 19), .inl (ak 0, 6000, .inl (Acodes))), ((am 30), .inl (ak 0, 7, .inl (AbyNot))), ((am 31), .inl (ak 0, 20, .inl (AvalueOf))), ((am 33), .inl (ak 0, 16, .inl (Awear)))]) hP hD hS hA [0, 5, 6, 7, 8, 9, 10, 11, 12] [1, 2, 3, 4, 13, 14, 15] rfl rfl (by decide) (by decide) (va_runV (As := [.int (l2)]) (rest := []) ⟨hx, hb, hml, hown, hts⟩ (c_X8_tests l D ak ad _ h am Fthrown Ftaped Fsize Fplace Fbegin Ftoken Fword Ftold Fwrong Fcode Fat Fway Fnext FisEnd FisFallen Fwritten Fmade Fstate FhandNext FhandSteps FhandWritten FmarkAt Akept AkeptBy Aahead Aagainst Asum AsumBy Aterm AtermBy l2 _ hw) (cwV 1 hts gX8_worked_X8_tests rfl rfl rfl hv_X8_tests ⟨(Nat.le_trans (Nat.le_of_ble_eq_true rfl) hRf), (Nat.le_trans (Nat.le_of_ble_eq_true rfl) hRl)⟩) (kc_preV (As := [.int (l2)]) (wc := (wW_X8_tests ak ad h am Fthrown Ftaped Fsize Fplace Fbegin Ftoken Fword Ftold Fwrong Fcode Fat Fway Fnext FisEnd FisFallen Fwritten Fmade Fstate FhandNext FhandSteps FhandWritten FmarkAt Akept AkeptBy Aahead Aagainst Asum AsumBy Aterm AtermBy)) hE hT hP hD hS hA [0, 5, 6, 7, 8, 9, 10, 11, 12] (by decide) rfl rfl 0 7 rfl rfl rfl) rfl rfl hl.1 rfl (lv_room (Nat.le_of_ble_eq_true rfl)) dX8_worked_272 ⟨hRc.1, hRc.2⟩) (fun u_93 H locs hw hP hD hS => ?_)
    obtain ⟨Akept_94, Aagainst_95, Asum_96, AsumBy_97, AtermBy_98⟩ := u_93
    try dsimp -zeta only at hw
    have hP : va_P D vwCl (wW_X8_worked ak ad h am Fthrown Ftaped Fsize Fplace Fbegin Ftoken Fword Ftold Fwrong Fcode Fat Fway Fnext FisEnd FisFallen Fwritten Fmade Fstate FhandNext FhandSteps FhandWritten FmarkAt Alines AlineFrom AlineTo Acodes Akept_94 AkeptBy Aahead Aagainst_95 Asum_96 AsumBy_97 Aterm AtermBy_98 AbyNot AvalueOf Awear) H := hP.sub [7, 0, 1, 2, 3, 8, 9, 10, 11, 12, 13, 14, 15, 4, 5, 6] rfl
    have hD : va_D A (wW_X8_worked ak ad h am Fthrown Ftaped Fsize Fplace Fbegin Ftoken Fword Ftold Fwrong Fcode Fat Fway Fnext FisEnd FisFallen Fwritten Fmade Fstate FhandNext FhandSteps FhandWritten FmarkAt Alines AlineFrom AlineTo Acodes Akept_94 AkeptBy Aahead Aagainst_95 Asum_96 AsumBy_97 Aterm AtermBy_98 AbyNot AvalueOf Awear) := hD.sub [7, 0, 1, 2, 3, 8, 9, 10, 11, 12, 13, 14, 15, 4, 5, 6] (by decide) rfl
    refine lv_aload_n hx hb dX8_worked_275 rfl (lv_at hl 1 rfl) ?_
    refine vt_get (D := D) (ci := 7) (v := .ref (am 22)) (C := RX8) (T := TX8) (N := 69) hx hb hts (fun w h => wm_c (wc_X8 w h)) hown hE.1 hP 0 rfl rfl 32 (by decide) tX8_32 (hts (.fieldLink RX8 78 "WornLinesModel" "kept" "[I") (wm_c hw_73)) (fun _ h9 => h9) rfl dX8_worked_276 ?_
    refine lv_iload_n hx hb dX8_worked_279 rfl (lv_at hl 3 rfl) ?_
    obtain ⟨h_100, hw⟩ := hw
    refine va_iald hx hb hE.1 hP 5 0 rfl rfl (h_100) dX8_worked_280 ?_
    refine lv_istore (lv' := [(5, .int (Akept_94 (l2).toNatClampNeg)), (0, .ref h), (1, .int (x0)), (2, .int (l2)), (3, .int (l3)), (4, .int (l4))]) hx hb dX8_worked_281 hl (by decide) rfl (fun ls hl => ?_)
    refine lv_iinc (v := (l2 + (-1))) (lv' := [(2, .int (l2 + (-1))), (5, .int (Akept_94 (l2).toNatClampNeg)), (0, .ref h), (1, .int (x0)), (3, .int (l3)), (4, .int (l4))]) hx hb dX8_worked_283 hl (k := 3) rfl (rfl) (by decide) rfl (fun ls hl => ?_)
    obtain ⟨n1_, hw⟩ := hw
    exact lp_X8_worked_286 hx hb hown hts hml hE hT hA hRf hRl hRc h am Fthrown Ftaped Fsize Fplace Fbegin Ftoken Fword Ftold Fwrong Fcode Fat Fway Fnext FisEnd FisFallen Fwritten Fmade Fstate FhandNext FhandSteps FhandWritten FmarkAt Alines AlineFrom AlineTo Acodes AvalueOf Awear x0 _ Φ kk14 kR382 n1_ Akept_94 AkeptBy Aahead Aagainst_95 Asum_96 AsumBy_97 Aterm AtermBy_98 AbyNot (l2 + (-1)) l3 (Akept_94 (l2).toNatClampNeg) _ _ _ hw hP hD hS (lv_sub hl [2, 3, 0, 4, 1] rfl)

def lb_X8_worked_14 (Fat : Int32) (Fway : Int32) (Alines : Nat → Int32) (AlineFrom : Nat → Int32) (AlineTo : Nat → Int32) (Acodes : Nat → Int32) (AvalueOf : Nat → Int32) (Awear : Nat → Int32) (x0 : Int32)  (Φ : Int32 → (Nat → Int32) → (Nat → Int32) → (Nat → Int32) → (Nat → Int32) → (Nat → Int32) → (Nat → Int32) → (Nat → Int32) → (Nat → Int32) → (Nat → Int32) → Prop) (back : (Nat → Int32) → (Nat → Int32) → (Nat → Int32) → (Nat → Int32) → (Nat → Int32) → (Nat → Int32) → (Nat → Int32) → (Nat → Int32) → (Nat → Int32) → Int32 → Int32 → Prop) (Akept : Nat → Int32) (AkeptBy : Nat → Int32) (Aahead : Nat → Int32) (Aagainst : Nat → Int32) (Asum : Nat → Int32) (AsumBy : Nat → Int32) (Aterm : Nat → Int32) (AtermBy : Nat → Int32) (AbyNot : Nat → Int32) (l2 : Int32) (l3 : Int32) : Prop := vp_in x0 192 ∧ ((AlineTo (x0).toNatClampNeg) ≤ l3 → wp_X8_tests AkeptBy Aahead Aterm 0 Akept Aagainst Asum AsumBy AtermBy (fun Akept_12 Aagainst_13 Asum_14 AsumBy_15 AtermBy_16 => Φ (Akept_12 0) Akept_12 AkeptBy Aahead Aagainst_13 Asum_14 AsumBy_15 Aterm AtermBy_16 AbyNot)) ∧ (¬ (AlineTo (x0).toNatClampNeg) ≤ l3 → vp_in l3 6000 ∧ ((Acodes (l3).toNatClampNeg) = 28 → kf_X8_worked_53 Fat Fway Alines AlineFrom AlineTo Acodes AvalueOf Awear x0 back Φ Akept AkeptBy Aahead Aagainst Asum AsumBy Aterm AtermBy AbyNot l2 l3 (Acodes (l3).toNatClampNeg)) ∧ (¬ (Acodes (l3).toNatClampNeg) = 28 → ((Acodes (l3).toNatClampNeg) = 30 → kf_X8_worked_53 Fat Fway Alines AlineFrom AlineTo Acodes AvalueOf Awear x0 back Φ Akept AkeptBy Aahead Aagainst Asum AsumBy Aterm AtermBy AbyNot l2 l3 (Acodes (l3).toNatClampNeg)) ∧ (¬ (Acodes (l3).toNatClampNeg) = 30 → (¬ (Acodes (l3).toNatClampNeg) = 31 → ((Acodes (l3).toNatClampNeg) = 20 → kf_X8_worked_107 Fat Fway Alines AlineFrom AlineTo Acodes AvalueOf Awear x0 back Φ Akept AkeptBy Aahead Aagainst Asum AsumBy Aterm AtermBy AbyNot l2 l3 (Acodes (l3).toNatClampNeg)) ∧ (¬ (Acodes (l3).toNatClampNeg) = 20 → (¬ (Acodes (l3).toNatClampNeg) = 21 → (¬ (Acodes (l3).toNatClampNeg) = 22 → ((Acodes (l3).toNatClampNeg) = 24 → kf_X8_worked_155 Fat Fway Alines AlineFrom AlineTo Acodes AvalueOf Awear x0 back Φ Akept AkeptBy Aahead Aagainst Asum AsumBy Aterm AtermBy AbyNot l2 l3 (Acodes (l3).toNatClampNeg)) ∧ (¬ (Acodes (l3).toNatClampNeg) = 24 → (¬ (Acodes (l3).toNatClampNeg) = 25 → ((Acodes (l3).toNatClampNeg) = 26 → kf_X8_worked_212 Fat Fway Alines AlineFrom AlineTo Acodes AvalueOf Awear x0 back Φ Akept AkeptBy Aahead Aagainst Asum AsumBy Aterm AtermBy AbyNot l2 l3 (Acodes (l3).toNatClampNeg)) ∧ (¬ (Acodes (l3).toNatClampNeg) = 26 → (¬ (Acodes (l3).toNatClampNeg) = 27 → ((Acodes (l3).toNatClampNeg) < 100 → (20 ≤ (Acodes (l3).toNatClampNeg) → kf_X8_worked_261 Fat Fway Alines AlineFrom AlineTo Acodes AvalueOf Awear x0 back Φ Akept AkeptBy Aahead Aagainst Asum AsumBy Aterm AtermBy AbyNot l2 l3 (Acodes (l3).toNatClampNeg) 0) ∧ (¬ 20 ≤ (Acodes (l3).toNatClampNeg) → vp_in (Acodes (l3).toNatClampNeg) 20 ∧ kf_X8_worked_261 Fat Fway Alines AlineFrom AlineTo Acodes AvalueOf Awear x0 back Φ Akept AkeptBy Aahead Aagainst Asum AsumBy Aterm AtermBy AbyNot l2 l3 (Acodes (l3).toNatClampNeg) (AvalueOf (Acodes (l3).toNatClampNeg).toNatClampNeg))) ∧ (¬ (Acodes (l3).toNatClampNeg) < 100 → kf_X8_worked_261 Fat Fway Alines AlineFrom AlineTo Acodes AvalueOf Awear x0 back Φ Akept AkeptBy Aahead Aagainst Asum AsumBy Aterm AtermBy AbyNot l2 l3 (Acodes (l3).toNatClampNeg) ((Acodes (l3).toNatClampNeg) - 100))) ∧ ((Acodes (l3).toNatClampNeg) = 27 → kf_X8_worked_212 Fat Fway Alines AlineFrom AlineTo Acodes AvalueOf Awear x0 back Φ Akept AkeptBy Aahead Aagainst Asum AsumBy Aterm AtermBy AbyNot l2 l3 (Acodes (l3).toNatClampNeg)))) ∧ ((Acodes (l3).toNatClampNeg) = 25 → kf_X8_worked_155 Fat Fway Alines AlineFrom AlineTo Acodes AvalueOf Awear x0 back Φ Akept AkeptBy Aahead Aagainst Asum AsumBy Aterm AtermBy AbyNot l2 l3 (Acodes (l3).toNatClampNeg)))) ∧ ((Acodes (l3).toNatClampNeg) = 22 → vp_in l2 7 ∧ back Akept AkeptBy Aahead Aagainst Asum AsumBy Aterm (upd AtermBy (l2).toNatClampNeg ((Acodes (l3).toNatClampNeg))) AbyNot l2 (l3 + 1))) ∧ ((Acodes (l3).toNatClampNeg) = 21 → kf_X8_worked_107 Fat Fway Alines AlineFrom AlineTo Acodes AvalueOf Awear x0 back Φ Akept AkeptBy Aahead Aagainst Asum AsumBy Aterm AtermBy AbyNot l2 l3 (Acodes (l3).toNatClampNeg)))) ∧ ((Acodes (l3).toNatClampNeg) = 31 → kf_X8_worked_53 Fat Fway Alines AlineFrom AlineTo Acodes AvalueOf Awear x0 back Φ Akept AkeptBy Aahead Aagainst Asum AsumBy Aterm AtermBy AbyNot l2 l3 (Acodes (l3).toNatClampNeg)))))
def lf_X8_worked_14 (Fat : Int32) (Fway : Int32) (Alines : Nat → Int32) (AlineFrom : Nat → Int32) (AlineTo : Nat → Int32) (Acodes : Nat → Int32) (AvalueOf : Nat → Int32) (Awear : Nat → Int32) (x0 : Int32)  (Φ : Int32 → (Nat → Int32) → (Nat → Int32) → (Nat → Int32) → (Nat → Int32) → (Nat → Int32) → (Nat → Int32) → (Nat → Int32) → (Nat → Int32) → (Nat → Int32) → Prop) : Nat → (Nat → Int32) → (Nat → Int32) → (Nat → Int32) → (Nat → Int32) → (Nat → Int32) → (Nat → Int32) → (Nat → Int32) → (Nat → Int32) → (Nat → Int32) → Int32 → Int32 → Prop
  | 0, _, _, _, _, _, _, _, _, _, _, _ => False
  | n_ + 1, Akept, AkeptBy, Aahead, Aagainst, Asum, AsumBy, Aterm, AtermBy, AbyNot, l2, l3 => lb_X8_worked_14 Fat Fway Alines AlineFrom AlineTo Acodes AvalueOf Awear x0  Φ (lf_X8_worked_14 Fat Fway Alines AlineFrom AlineTo Acodes AvalueOf Awear x0  Φ n_) Akept AkeptBy Aahead Aagainst Asum AsumBy Aterm AtermBy AbyNot l2 l3
theorem li_X8_worked_14 (Fat : Int32) (Fway : Int32) (Alines : Nat → Int32) (AlineFrom : Nat → Int32) (AlineTo : Nat → Int32) (Acodes : Nat → Int32) (AvalueOf : Nat → Int32) (Awear : Nat → Int32) (x0 : Int32)  (Φ : Int32 → (Nat → Int32) → (Nat → Int32) → (Nat → Int32) → (Nat → Int32) → (Nat → Int32) → (Nat → Int32) → (Nat → Int32) → (Nat → Int32) → (Nat → Int32) → Prop) (Inv : (Nat → Int32) → (Nat → Int32) → (Nat → Int32) → (Nat → Int32) → (Nat → Int32) → (Nat → Int32) → (Nat → Int32) → (Nat → Int32) → (Nat → Int32) → Int32 → Int32 → Prop) (mu : (Nat → Int32) → (Nat → Int32) → (Nat → Int32) → (Nat → Int32) → (Nat → Int32) → (Nat → Int32) → (Nat → Int32) → (Nat → Int32) → (Nat → Int32) → Int32 → Int32 → Nat) (hs : ∀ (back : (Nat → Int32) → (Nat → Int32) → (Nat → Int32) → (Nat → Int32) → (Nat → Int32) → (Nat → Int32) → (Nat → Int32) → (Nat → Int32) → (Nat → Int32) → Int32 → Int32 → Prop) (Akept : Nat → Int32) (AkeptBy : Nat → Int32) (Aahead : Nat → Int32) (Aagainst : Nat → Int32) (Asum : Nat → Int32) (AsumBy : Nat → Int32) (Aterm : Nat → Int32) (AtermBy : Nat → Int32) (AbyNot : Nat → Int32) (l2 : Int32) (l3 : Int32), Inv Akept AkeptBy Aahead Aagainst Asum AsumBy Aterm AtermBy AbyNot l2 l3 → (∀ (Akept' : Nat → Int32) (AkeptBy' : Nat → Int32) (Aahead' : Nat → Int32) (Aagainst' : Nat → Int32) (Asum' : Nat → Int32) (AsumBy' : Nat → Int32) (Aterm' : Nat → Int32) (AtermBy' : Nat → Int32) (AbyNot' : Nat → Int32) (l2' : Int32) (l3' : Int32), Inv Akept' AkeptBy' Aahead' Aagainst' Asum' AsumBy' Aterm' AtermBy' AbyNot' l2' l3' → mu Akept' AkeptBy' Aahead' Aagainst' Asum' AsumBy' Aterm' AtermBy' AbyNot' l2' l3' < mu Akept AkeptBy Aahead Aagainst Asum AsumBy Aterm AtermBy AbyNot l2 l3 → back Akept' AkeptBy' Aahead' Aagainst' Asum' AsumBy' Aterm' AtermBy' AbyNot' l2' l3') → lb_X8_worked_14 Fat Fway Alines AlineFrom AlineTo Acodes AvalueOf Awear x0  Φ back Akept AkeptBy Aahead Aagainst Asum AsumBy Aterm AtermBy AbyNot l2 l3) : ∀ (n_ : Nat) (Akept : Nat → Int32) (AkeptBy : Nat → Int32) (Aahead : Nat → Int32) (Aagainst : Nat → Int32) (Asum : Nat → Int32) (AsumBy : Nat → Int32) (Aterm : Nat → Int32) (AtermBy : Nat → Int32) (AbyNot : Nat → Int32) (l2 : Int32) (l3 : Int32), Inv Akept AkeptBy Aahead Aagainst Asum AsumBy Aterm AtermBy AbyNot l2 l3 → mu Akept AkeptBy Aahead Aagainst Asum AsumBy Aterm AtermBy AbyNot l2 l3 < n_ → lf_X8_worked_14 Fat Fway Alines AlineFrom AlineTo Acodes AvalueOf Awear x0  Φ n_ Akept AkeptBy Aahead Aagainst Asum AsumBy Aterm AtermBy AbyNot l2 l3 := by
  intro n_
  induction n_ with
  | zero => intro Akept AkeptBy Aahead Aagainst Asum AsumBy Aterm AtermBy AbyNot l2 l3 _ h; exact absurd h (Nat.not_lt_zero _)
  | succ n_ ih => intro Akept AkeptBy Aahead Aagainst Asum AsumBy Aterm AtermBy AbyNot l2 l3 hI hm; exact hs _ Akept AkeptBy Aahead Aagainst Asum AsumBy Aterm AtermBy AbyNot l2 l3 hI (fun Akept' AkeptBy' Aahead' Aagainst' Asum' AsumBy' Aterm' AtermBy' AbyNot' l2' l3' h1 h2 => ih Akept' AkeptBy' Aahead' Aagainst' Asum' AsumBy' Aterm' AtermBy' AbyNot' l2' l3' h1 (by omega))
set_option maxHeartbeats 4000000 in
set_option maxRecDepth 100000 in
theorem lp_X8_worked_14 {p : Program} {l : Launch} {e : Env} {R : Room} {s : State} {m : MethodId} {args : Array Value} {below : List Frame} {meth : Method} {c : Code} {cells slots : Nat} {Q : State → Prop} {A : Nat → Prop} {D : va_G} {ak : Nat → ClassId} {ad : Nat → Nat} (hx : p.tables.exec = Jvm.exec) (hb : c.code = cX8_worked) (hown : s.vm.findClass RX8 = some m.cls) (hts : ∀ w ∈ wsX8_worked, w.before args s = true) (hml : c.maxLocals = 6) (hE : EV D ak s) (hT : ST D ak ad A s s.heap) (hA : ∀ q, s.heap.size ≤ q → A q) (hRf : 2 ≤ R.frames) (hRl : 44 ≤ R.locals) (hRc : cells ≤ R.cells ∧ slots ≤ R.slots) (h : Nat) (am : Nat → Nat) (Fthrown : Int32) (Ftaped : Int32) (Fsize : Int32) (Fplace : Int32) (Fbegin : Int32) (Ftoken : Int32) (Fword : Int64) (Ftold : Int32) (Fwrong : Int32) (Fcode : Int32) (Fat : Int32) (Fway : Int32) (Fnext : Int32) (FisEnd : Int32) (FisFallen : Int32) (Fwritten : Int32) (Fmade : Int32) (Fstate : Int32) (FhandNext : Int32) (FhandSteps : Int32) (FhandWritten : Int32) (FmarkAt : Int32) (Alines : Nat → Int32) (AlineFrom : Nat → Int32) (AlineTo : Nat → Int32) (Acodes : Nat → Int32) (AvalueOf : Nat → Int32) (Awear : Nat → Int32) (x0 : Int32)  (Φ : Int32 → (Nat → Int32) → (Nat → Int32) → (Nat → Int32) → (Nat → Int32) → (Nat → Int32) → (Nat → Int32) → (Nat → Int32) → (Nat → Int32) → (Nat → Int32) → Prop)
    (kR382 : ∀ (r : Int32) (Akept : Nat → Int32) (AkeptBy : Nat → Int32) (Aahead : Nat → Int32) (Aagainst : Nat → Int32) (Asum : Nat → Int32) (AsumBy : Nat → Int32) (Aterm : Nat → Int32) (AtermBy : Nat → Int32) (AbyNot : Nat → Int32) (H : Heap) (locs : List Loc) (ls : Array Slot), Φ r Akept AkeptBy Aahead Aagainst Asum AsumBy Aterm AtermBy AbyNot → va_P D vwCl (wW_X8_worked ak ad h am Fthrown Ftaped Fsize Fplace Fbegin Ftoken Fword Ftold Fwrong Fcode Fat Fway Fnext FisEnd FisFallen Fwritten Fmade Fstate FhandNext FhandSteps FhandWritten FmarkAt Alines AlineFrom AlineTo Acodes Akept AkeptBy Aahead Aagainst Asum AsumBy Aterm AtermBy AbyNot AvalueOf Awear) H → va_D A (wW_X8_worked ak ad h am Fthrown Ftaped Fsize Fplace Fbegin Ftoken Fword Ftold Fwrong Fcode Fat Fway Fnext FisEnd FisFallen Fwritten Fmade Fstate FhandNext FhandSteps FhandWritten FmarkAt Alines AlineFrom AlineTo Acodes Akept AkeptBy Aahead Aagainst Asum AsumBy Aterm AtermBy AbyNot AvalueOf Awear) → va_S A s.heap H locs → W p l e R s m args below meth c H locs cells slots Q (F0 m 382 ls [.int r]))
    : ∀ (n_ : Nat) (Akept : Nat → Int32) (AkeptBy : Nat → Int32) (Aahead : Nat → Int32) (Aagainst : Nat → Int32) (Asum : Nat → Int32) (AsumBy : Nat → Int32) (Aterm : Nat → Int32) (AtermBy : Nat → Int32) (AbyNot : Nat → Int32) (l2 : Int32) (l3 : Int32) (H : Heap) (locs : List Loc) (ls : Array Slot), lf_X8_worked_14 Fat Fway Alines AlineFrom AlineTo Acodes AvalueOf Awear x0  Φ n_ Akept AkeptBy Aahead Aagainst Asum AsumBy Aterm AtermBy AbyNot l2 l3 → va_P D vwCl (wW_X8_worked ak ad h am Fthrown Ftaped Fsize Fplace Fbegin Ftoken Fword Ftold Fwrong Fcode Fat Fway Fnext FisEnd FisFallen Fwritten Fmade Fstate FhandNext FhandSteps FhandWritten FmarkAt Alines AlineFrom AlineTo Acodes Akept AkeptBy Aahead Aagainst Asum AsumBy Aterm AtermBy AbyNot AvalueOf Awear) H → va_D A (wW_X8_worked ak ad h am Fthrown Ftaped Fsize Fplace Fbegin Ftoken Fword Ftold Fwrong Fcode Fat Fway Fnext FisEnd FisFallen Fwritten Fmade Fstate FhandNext FhandSteps FhandWritten FmarkAt Alines AlineFrom AlineTo Acodes Akept AkeptBy Aahead Aagainst Asum AsumBy Aterm AtermBy AbyNot AvalueOf Awear) → va_S A s.heap H locs → lv_has ls 6 [(0, .ref h), (1, .int (x0)), (2, .int (l2)), (3, .int (l3))] → W p l e R s m args below meth c H locs cells slots Q (F0 m 14 ls ([])) := by
  intro n_
  induction n_ with
  | zero =>
    intro Akept AkeptBy Aahead Aagainst Asum AsumBy Aterm AtermBy AbyNot l2 l3 H locs ls hw
    exact hw.elim
  | succ n_ ih =>
    intro Akept AkeptBy Aahead Aagainst Asum AsumBy Aterm AtermBy AbyNot l2 l3 H locs ls hw hP hD hS hl
    have hw : lb_X8_worked_14 Fat Fway Alines AlineFrom AlineTo Acodes AvalueOf Awear x0  Φ (lf_X8_worked_14 Fat Fway Alines AlineFrom AlineTo Acodes AvalueOf Awear x0  Φ n_) Akept AkeptBy Aahead Aagainst Asum AsumBy Aterm AtermBy AbyNot l2 l3 := hw
    delta lb_X8_worked_14 at hw
    refine lv_iload_n hx hb dX8_worked_14 rfl (lv_at hl 3 rfl) ?_
    refine lv_aload_n hx hb dX8_worked_15 rfl (lv_at hl 0 rfl) ?_
    refine vt_get (D := D) (ci := 7) (v := .ref (am 18)) (C := RX8) (T := TX8) (N := 69) hx hb hts (fun w h => wm_c (wc_X8 w h)) hown hE.1 hP 0 rfl rfl 27 (by decide) tX8_27 (hts (.fieldLink RX8 65 "WornLinesModel" "lineTo" "[I") (wm_c hw_43)) (fun _ h9 => h9) rfl dX8_worked_16 ?_
    refine lv_iload_n hx hb dX8_worked_19 rfl (lv_at hl 1 rfl) ?_
    obtain ⟨h_9, hw⟩ := hw
    refine va_iald hx hb hE.1 hP 3 0 rfl rfl (h_9) dX8_worked_20 ?_
    refine lv_icmp_ge (tgt := 371) hx hb dX8_worked_21 (by decide) (fun c_10 => ?_) (fun c_10 => ?_)
    · replace hw := hw.1 c_10
      refine lv_aload_n hx hb dX8_worked_371 rfl (lv_at hl 0 rfl) ?_
      refine lv_iconst (v := 0) hx hb dX8_worked_372 (by decide) ?_
      refine kc_v (wc := (wW_X8_tests ak ad h am Fthrown Ftaped Fsize Fplace Fbegin Ftoken Fword Ftold Fwrong Fcode Fat Fway Fnext FisEnd FisFallen Fwritten Fmade Fstate FhandNext FhandSteps FhandWritten FmarkAt Akept AkeptBy Aahead Aagainst Asum AsumBy Aterm AtermBy)) (wr := [((am 4), .inl (ak 0, 6, .inl (Alines))), ((am 17), .inl (ak 0, 192, .inl (AlineFrom))), ((am 18), .inl (ak 0, 192, .inl (AlineTo))), ((am 19), .inl (ak 0, 6000, .inl (Acodes))), ((am 30), .inl (ak 0, 7, .inl (AbyNot))), ((am 31), .inl (ak 0, 20, .inl (AvalueOf))), ((am 33), .inl (ak 0, 16, .inl (Awear)))]) hP hD hS hA [0, 5, 6, 7, 8, 9, 10, 11, 12] [1, 2, 3, 4, 13, 14, 15] rfl rfl (by decide) (by decide) (va_runV (As := [.int (0)]) (rest := []) ⟨hx, hb, hml, hown, hts⟩ (c_X8_tests l D ak ad _ h am Fthrown Ftaped Fsize Fplace Fbegin Ftoken Fword Ftold Fwrong Fcode Fat Fway Fnext FisEnd FisFallen Fwritten Fmade Fstate FhandNext FhandSteps FhandWritten FmarkAt Akept AkeptBy Aahead Aagainst Asum AsumBy Aterm AtermBy 0 _ hw) (cwV 1 hts gX8_worked_X8_tests rfl rfl rfl hv_X8_tests ⟨(Nat.le_trans (Nat.le_of_ble_eq_true rfl) hRf), (Nat.le_trans (Nat.le_of_ble_eq_true rfl) hRl)⟩) (kc_preV (As := [.int (0)]) (wc := (wW_X8_tests ak ad h am Fthrown Ftaped Fsize Fplace Fbegin Ftoken Fword Ftold Fwrong Fcode Fat Fway Fnext FisEnd FisFallen Fwritten Fmade Fstate FhandNext FhandSteps FhandWritten FmarkAt Akept AkeptBy Aahead Aagainst Asum AsumBy Aterm AtermBy)) hE hT hP hD hS hA [0, 5, 6, 7, 8, 9, 10, 11, 12] (by decide) rfl rfl 0 7 rfl rfl rfl) rfl rfl hl.1 rfl (lv_room (Nat.le_of_ble_eq_true rfl)) dX8_worked_373 ⟨hRc.1, hRc.2⟩) (fun u_11 H locs hw hP hD hS => ?_)
      obtain ⟨Akept_12, Aagainst_13, Asum_14, AsumBy_15, AtermBy_16⟩ := u_11
      try dsimp -zeta only at hw
      have hP : va_P D vwCl (wW_X8_worked ak ad h am Fthrown Ftaped Fsize Fplace Fbegin Ftoken Fword Ftold Fwrong Fcode Fat Fway Fnext FisEnd FisFallen Fwritten Fmade Fstate FhandNext FhandSteps FhandWritten FmarkAt Alines AlineFrom AlineTo Acodes Akept_12 AkeptBy Aahead Aagainst_13 Asum_14 AsumBy_15 Aterm AtermBy_16 AbyNot AvalueOf Awear) H := hP.sub [7, 0, 1, 2, 3, 8, 9, 10, 11, 12, 13, 14, 15, 4, 5, 6] rfl
      have hD : va_D A (wW_X8_worked ak ad h am Fthrown Ftaped Fsize Fplace Fbegin Ftoken Fword Ftold Fwrong Fcode Fat Fway Fnext FisEnd FisFallen Fwritten Fmade Fstate FhandNext FhandSteps FhandWritten FmarkAt Alines AlineFrom AlineTo Acodes Akept_12 AkeptBy Aahead Aagainst_13 Asum_14 AsumBy_15 Aterm AtermBy_16 AbyNot AvalueOf Awear) := hD.sub [7, 0, 1, 2, 3, 8, 9, 10, 11, 12, 13, 14, 15, 4, 5, 6] (by decide) rfl
      refine lv_aload_n hx hb dX8_worked_376 rfl (lv_at hl 0 rfl) ?_
      refine vt_get (D := D) (ci := 7) (v := .ref (am 22)) (C := RX8) (T := TX8) (N := 69) hx hb hts (fun w h => wm_c (wc_X8 w h)) hown hE.1 hP 0 rfl rfl 32 (by decide) tX8_32 (hts (.fieldLink RX8 78 "WornLinesModel" "kept" "[I") (wm_c hw_73)) (fun _ h9 => h9) rfl dX8_worked_377 ?_
      refine lv_iconst (v := 0) hx hb dX8_worked_380 (by decide) ?_
      refine va_iald hx hb hE.1 hP 5 0 rfl rfl (by unfold vp_in; decide) dX8_worked_381 ?_
      refine W.eq (g2 := F0 m 382 ls (.int (Akept_12 0) :: [])) rfl ?_
      exact kR382 (Akept_12 0) Akept_12 AkeptBy Aahead Aagainst_13 Asum_14 AsumBy_15 Aterm AtermBy_16 AbyNot _ _ _ hw hP hD hS
    · replace hw := hw.2 c_10
      refine lv_aload_n hx hb dX8_worked_24 rfl (lv_at hl 0 rfl) ?_
      refine vt_get (D := D) (ci := 7) (v := .ref (am 19)) (C := RX8) (T := TX8) (N := 69) hx hb hts (fun w h => wm_c (wc_X8 w h)) hown hE.1 hP 0 rfl rfl 28 (by decide) tX8_28 (hts (.fieldLink RX8 68 "WornLinesModel" "codes" "[I") (wm_c hw_17)) (fun _ h9 => h9) rfl dX8_worked_25 ?_
      refine lv_iload_n hx hb dX8_worked_28 rfl (lv_at hl 3 rfl) ?_
      obtain ⟨h_18, hw⟩ := hw
      refine va_iald hx hb hE.1 hP 4 0 rfl rfl (h_18) dX8_worked_29 ?_
      refine lv_istore (lv' := [(4, .int (Acodes (l3).toNatClampNeg)), (0, .ref h), (1, .int (x0)), (2, .int (l2)), (3, .int (l3))]) hx hb dX8_worked_30 hl (by decide) rfl (fun ls hl => ?_)
      refine lv_iload hx hb dX8_worked_32 (lv_at hl 0 rfl) ?_
      refine lv_bipush (v := 28) hx hb dX8_worked_34 (by decide) ?_
      refine lv_icmp_eq (tgt := 53) hx hb dX8_worked_36 (by decide) (fun c_19 => ?_) (fun c_19 => ?_)
      · replace hw := hw.1 c_19
        exact kj_X8_worked_53 hx hb hown hts hml hE hT hA hRf hRl hRc h am Fthrown Ftaped Fsize Fplace Fbegin Ftoken Fword Ftold Fwrong Fcode Fat Fway Fnext FisEnd FisFallen Fwritten Fmade Fstate FhandNext FhandSteps FhandWritten FmarkAt Alines AlineFrom AlineTo Acodes AvalueOf Awear x0 _ Φ ih kR382 Akept AkeptBy Aahead Aagainst Asum AsumBy Aterm AtermBy AbyNot l2 l3 (Acodes (l3).toNatClampNeg) _ _ _ hw hP hD hS (lv_sub hl [1, 2, 3, 4, 0] rfl)
      · replace hw := hw.2 c_19
        refine lv_iload hx hb dX8_worked_39 (lv_at hl 0 rfl) ?_
        refine lv_bipush (v := 30) hx hb dX8_worked_41 (by decide) ?_
        refine lv_icmp_eq (tgt := 53) hx hb dX8_worked_43 (by decide) (fun c_46 => ?_) (fun c_46 => ?_)
        · replace hw := hw.1 c_46
          exact kj_X8_worked_53 hx hb hown hts hml hE hT hA hRf hRl hRc h am Fthrown Ftaped Fsize Fplace Fbegin Ftoken Fword Ftold Fwrong Fcode Fat Fway Fnext FisEnd FisFallen Fwritten Fmade Fstate FhandNext FhandSteps FhandWritten FmarkAt Alines AlineFrom AlineTo Acodes AvalueOf Awear x0 _ Φ ih kR382 Akept AkeptBy Aahead Aagainst Asum AsumBy Aterm AtermBy AbyNot l2 l3 (Acodes (l3).toNatClampNeg) _ _ _ hw hP hD hS (lv_sub hl [1, 2, 3, 4, 0] rfl)
        · replace hw := hw.2 c_46
          refine lv_iload hx hb dX8_worked_46 (lv_at hl 0 rfl) ?_
          refine lv_bipush (v := 31) hx hb dX8_worked_48 (by decide) ?_
          refine lv_icmp_ne (tgt := 93) hx hb dX8_worked_50 (by decide) (fun c_47 => ?_) (fun c_47 => ?_)
          · replace hw := hw.1 c_47
            refine lv_iload hx hb dX8_worked_93 (lv_at hl 0 rfl) ?_
            refine lv_bipush (v := 20) hx hb dX8_worked_95 (by decide) ?_
            refine lv_icmp_eq (tgt := 107) hx hb dX8_worked_97 (by decide) (fun c_48 => ?_) (fun c_48 => ?_)
            · replace hw := hw.1 c_48
              exact kj_X8_worked_107 hx hb hown hts hml hE hT hA hRf hRl hRc h am Fthrown Ftaped Fsize Fplace Fbegin Ftoken Fword Ftold Fwrong Fcode Fat Fway Fnext FisEnd FisFallen Fwritten Fmade Fstate FhandNext FhandSteps FhandWritten FmarkAt Alines AlineFrom AlineTo Acodes AvalueOf Awear x0 _ Φ ih kR382 Akept AkeptBy Aahead Aagainst Asum AsumBy Aterm AtermBy AbyNot l2 l3 (Acodes (l3).toNatClampNeg) _ _ _ hw hP hD hS (lv_sub hl [1, 2, 3, 4, 0] rfl)
            · replace hw := hw.2 c_48
              refine lv_iload hx hb dX8_worked_100 (lv_at hl 0 rfl) ?_
              refine lv_bipush (v := 21) hx hb dX8_worked_102 (by decide) ?_
              refine lv_icmp_ne (tgt := 123) hx hb dX8_worked_104 (by decide) (fun c_54 => ?_) (fun c_54 => ?_)
              · replace hw := hw.1 c_54
                refine lv_iload hx hb dX8_worked_123 (lv_at hl 0 rfl) ?_
                refine lv_bipush (v := 22) hx hb dX8_worked_125 (by decide) ?_
                refine lv_icmp_ne (tgt := 141) hx hb dX8_worked_127 (by decide) (fun c_55 => ?_) (fun c_55 => ?_)
                · replace hw := hw.1 c_55
                  refine lv_iload hx hb dX8_worked_141 (lv_at hl 0 rfl) ?_
                  refine lv_bipush (v := 24) hx hb dX8_worked_143 (by decide) ?_
                  refine lv_icmp_eq (tgt := 155) hx hb dX8_worked_145 (by decide) (fun c_56 => ?_) (fun c_56 => ?_)
                  · replace hw := hw.1 c_56
                    exact kj_X8_worked_155 hx hb hown hts hml hE hT hA hRf hRl hRc h am Fthrown Ftaped Fsize Fplace Fbegin Ftoken Fword Ftold Fwrong Fcode Fat Fway Fnext FisEnd FisFallen Fwritten Fmade Fstate FhandNext FhandSteps FhandWritten FmarkAt Alines AlineFrom AlineTo Acodes AvalueOf Awear x0 _ Φ ih kR382 Akept AkeptBy Aahead Aagainst Asum AsumBy Aterm AtermBy AbyNot l2 l3 (Acodes (l3).toNatClampNeg) _ _ _ hw hP hD hS (lv_sub hl [1, 2, 3, 4, 0] rfl)
                  · replace hw := hw.2 c_56
                    refine lv_iload hx hb dX8_worked_148 (lv_at hl 0 rfl) ?_
                    refine lv_bipush (v := 25) hx hb dX8_worked_150 (by decide) ?_
                    refine lv_icmp_ne (tgt := 198) hx hb dX8_worked_152 (by decide) (fun c_66 => ?_) (fun c_66 => ?_)
                    · replace hw := hw.1 c_66
                      refine lv_iload hx hb dX8_worked_198 (lv_at hl 0 rfl) ?_
                      refine lv_bipush (v := 26) hx hb dX8_worked_200 (by decide) ?_
                      refine lv_icmp_eq (tgt := 212) hx hb dX8_worked_202 (by decide) (fun c_67 => ?_) (fun c_67 => ?_)
                      · replace hw := hw.1 c_67
                        exact kj_X8_worked_212 hx hb hown hts hml hE hT hA hRf hRl hRc h am Fthrown Ftaped Fsize Fplace Fbegin Ftoken Fword Ftold Fwrong Fcode Fat Fway Fnext FisEnd FisFallen Fwritten Fmade Fstate FhandNext FhandSteps FhandWritten FmarkAt Alines AlineFrom AlineTo Acodes AvalueOf Awear x0 _ Φ ih kR382 Akept AkeptBy Aahead Aagainst Asum AsumBy Aterm AtermBy AbyNot l2 l3 (Acodes (l3).toNatClampNeg) _ _ _ hw hP hD hS (lv_sub hl [1, 2, 3, 4, 0] rfl)
                      · replace hw := hw.2 c_67
                        refine lv_iload hx hb dX8_worked_205 (lv_at hl 0 rfl) ?_
                        refine lv_bipush (v := 27) hx hb dX8_worked_207 (by decide) ?_
                        refine lv_icmp_ne (tgt := 228) hx hb dX8_worked_209 (by decide) (fun c_76 => ?_) (fun c_76 => ?_)
                        · replace hw := hw.1 c_76
                          refine lv_iload hx hb dX8_worked_228 (lv_at hl 0 rfl) ?_
                          refine lv_bipush (v := 100) hx hb dX8_worked_230 (by decide) ?_
                          refine lv_icmp_lt (tgt := 243) hx hb dX8_worked_232 (by decide) (fun c_77 => ?_) (fun c_77 => ?_)
                          · replace hw := hw.1 c_77
                            refine lv_iload hx hb dX8_worked_243 (lv_at hl 0 rfl) ?_
                            refine lv_bipush (v := 20) hx hb dX8_worked_245 (by decide) ?_
                            refine lv_icmp_ge (tgt := 260) hx hb dX8_worked_247 (by decide) (fun c_78 => ?_) (fun c_78 => ?_)
                            · replace hw := hw.1 c_78
                              refine lv_iconst (v := 0) hx hb dX8_worked_260 (by decide) ?_
                              exact kj_X8_worked_261 hx hb hown hts hml hE hT hA hRf hRl hRc h am Fthrown Ftaped Fsize Fplace Fbegin Ftoken Fword Ftold Fwrong Fcode Fat Fway Fnext FisEnd FisFallen Fwritten Fmade Fstate FhandNext FhandSteps FhandWritten FmarkAt Alines AlineFrom AlineTo Acodes AvalueOf Awear x0 _ Φ ih kR382 Akept AkeptBy Aahead Aagainst Asum AsumBy Aterm AtermBy AbyNot l2 l3 (Acodes (l3).toNatClampNeg) 0 _ _ _ hw hP hD hS (lv_sub hl [1, 2, 3, 4, 0] rfl)
                            · replace hw := hw.2 c_78
                              refine lv_aload_n hx hb dX8_worked_250 rfl (lv_at hl 1 rfl) ?_
                              refine vt_get (D := D) (ci := 7) (v := .ref (am 31)) (C := RX8) (T := TX8) (N := 69) hx hb hts (fun w h => wm_c (wc_X8 w h)) hown hE.1 hP 0 rfl rfl 41 (by decide) tX8_41 (hts (.fieldLink RX8 105 "WornLinesModel" "valueOf" "[I") (wm_c hw_86)) (fun _ h9 => h9) rfl dX8_worked_251 ?_
                              refine lv_iload hx hb dX8_worked_254 (lv_at hl 0 rfl) ?_
                              obtain ⟨h_101, hw⟩ := hw
                              refine va_iald hx hb hE.1 hP 14 0 rfl rfl (h_101) dX8_worked_256 ?_
                              refine lv_goto (tgt := 261) hx hb dX8_worked_257 (by decide) ?_
                              exact kj_X8_worked_261 hx hb hown hts hml hE hT hA hRf hRl hRc h am Fthrown Ftaped Fsize Fplace Fbegin Ftoken Fword Ftold Fwrong Fcode Fat Fway Fnext FisEnd FisFallen Fwritten Fmade Fstate FhandNext FhandSteps FhandWritten FmarkAt Alines AlineFrom AlineTo Acodes AvalueOf Awear x0 _ Φ ih kR382 Akept AkeptBy Aahead Aagainst Asum AsumBy Aterm AtermBy AbyNot l2 l3 (Acodes (l3).toNatClampNeg) (AvalueOf (Acodes (l3).toNatClampNeg).toNatClampNeg) _ _ _ hw hP hD hS (lv_sub hl [1, 2, 3, 4, 0] rfl)
                          · replace hw := hw.2 c_77
                            refine lv_iload hx hb dX8_worked_235 (lv_at hl 0 rfl) ?_
                            refine lv_bipush (v := 100) hx hb dX8_worked_237 (by decide) ?_
                            refine lv_isub hx hb dX8_worked_239 ?_
                            refine lv_goto (tgt := 261) hx hb dX8_worked_240 (by decide) ?_
                            exact kj_X8_worked_261 hx hb hown hts hml hE hT hA hRf hRl hRc h am Fthrown Ftaped Fsize Fplace Fbegin Ftoken Fword Ftold Fwrong Fcode Fat Fway Fnext FisEnd FisFallen Fwritten Fmade Fstate FhandNext FhandSteps FhandWritten FmarkAt Alines AlineFrom AlineTo Acodes AvalueOf Awear x0 _ Φ ih kR382 Akept AkeptBy Aahead Aagainst Asum AsumBy Aterm AtermBy AbyNot l2 l3 (Acodes (l3).toNatClampNeg) ((Acodes (l3).toNatClampNeg) - 100) _ _ _ hw hP hD hS (lv_sub hl [1, 2, 3, 4, 0] rfl)
                        · replace hw := hw.2 c_76
                          exact kj_X8_worked_212 hx hb hown hts hml hE hT hA hRf hRl hRc h am Fthrown Ftaped Fsize Fplace Fbegin Ftoken Fword Ftold Fwrong Fcode Fat Fway Fnext FisEnd FisFallen Fwritten Fmade Fstate FhandNext FhandSteps FhandWritten FmarkAt Alines AlineFrom AlineTo Acodes AvalueOf Awear x0 _ Φ ih kR382 Akept AkeptBy Aahead Aagainst Asum AsumBy Aterm AtermBy AbyNot l2 l3 (Acodes (l3).toNatClampNeg) _ _ _ hw hP hD hS (lv_sub hl [1, 2, 3, 4, 0] rfl)
                    · replace hw := hw.2 c_66
                      exact kj_X8_worked_155 hx hb hown hts hml hE hT hA hRf hRl hRc h am Fthrown Ftaped Fsize Fplace Fbegin Ftoken Fword Ftold Fwrong Fcode Fat Fway Fnext FisEnd FisFallen Fwritten Fmade Fstate FhandNext FhandSteps FhandWritten FmarkAt Alines AlineFrom AlineTo Acodes AvalueOf Awear x0 _ Φ ih kR382 Akept AkeptBy Aahead Aagainst Asum AsumBy Aterm AtermBy AbyNot l2 l3 (Acodes (l3).toNatClampNeg) _ _ _ hw hP hD hS (lv_sub hl [1, 2, 3, 4, 0] rfl)
                · replace hw := hw.2 c_55
                  refine lv_aload_n hx hb dX8_worked_130 rfl (lv_at hl 1 rfl) ?_
                  refine vt_get (D := D) (ci := 7) (v := .ref (am 29)) (C := RX8) (T := TX8) (N := 69) hx hb hts (fun w h => wm_c (wc_X8 w h)) hown hE.1 hP 0 rfl rfl 39 (by decide) tX8_39 (hts (.fieldLink RX8 99 "WornLinesModel" "termBy" "[I") (wm_c hw_71)) (fun _ h9 => h9) rfl dX8_worked_131 ?_
                  refine lv_iload_n hx hb dX8_worked_134 rfl (lv_at hl 3 rfl) ?_
                  refine lv_iload hx hb dX8_worked_135 (lv_at hl 0 rfl) ?_
                  obtain ⟨h_102, hw⟩ := hw
                  refine va_iast hx hb hE.1 hP hD hS 12 0 rfl rfl (h_102) dX8_worked_137 (fun H locs hP hD hS => ?_)
                  have hP : va_P D vwCl (wW_X8_worked ak ad h am Fthrown Ftaped Fsize Fplace Fbegin Ftoken Fword Ftold Fwrong Fcode Fat Fway Fnext FisEnd FisFallen Fwritten Fmade Fstate FhandNext FhandSteps FhandWritten FmarkAt Alines AlineFrom AlineTo Acodes Akept AkeptBy Aahead Aagainst Asum AsumBy Aterm (upd AtermBy (l2).toNatClampNeg ((Acodes (l3).toNatClampNeg))) AbyNot AvalueOf Awear) H := hP
                  have hD : va_D A (wW_X8_worked ak ad h am Fthrown Ftaped Fsize Fplace Fbegin Ftoken Fword Ftold Fwrong Fcode Fat Fway Fnext FisEnd FisFallen Fwritten Fmade Fstate FhandNext FhandSteps FhandWritten FmarkAt Alines AlineFrom AlineTo Acodes Akept AkeptBy Aahead Aagainst Asum AsumBy Aterm (upd AtermBy (l2).toNatClampNeg ((Acodes (l3).toNatClampNeg))) AbyNot AvalueOf Awear) := hD
                  refine lv_goto (tgt := 365) hx hb dX8_worked_138 (by decide) ?_
                  refine lv_iinc (v := (l3 + 1)) (lv' := [(3, .int (l3 + 1)), (4, .int (Acodes (l3).toNatClampNeg)), (0, .ref h), (1, .int (x0)), (2, .int (l2))]) hx hb dX8_worked_365 hl (k := 4) rfl (rfl) (by decide) rfl (fun ls hl => ?_)
                  refine lv_goto (tgt := 14) hx hb dX8_worked_368 (by decide) ?_
                  exact ih Akept AkeptBy Aahead Aagainst Asum AsumBy Aterm (upd AtermBy (l2).toNatClampNeg ((Acodes (l3).toNatClampNeg))) AbyNot l2 (l3 + 1) _ _ _ hw hP hD hS (lv_sub hl [2, 3, 4, 0] rfl)
              · replace hw := hw.2 c_54
                exact kj_X8_worked_107 hx hb hown hts hml hE hT hA hRf hRl hRc h am Fthrown Ftaped Fsize Fplace Fbegin Ftoken Fword Ftold Fwrong Fcode Fat Fway Fnext FisEnd FisFallen Fwritten Fmade Fstate FhandNext FhandSteps FhandWritten FmarkAt Alines AlineFrom AlineTo Acodes AvalueOf Awear x0 _ Φ ih kR382 Akept AkeptBy Aahead Aagainst Asum AsumBy Aterm AtermBy AbyNot l2 l3 (Acodes (l3).toNatClampNeg) _ _ _ hw hP hD hS (lv_sub hl [1, 2, 3, 4, 0] rfl)
          · replace hw := hw.2 c_47
            exact kj_X8_worked_53 hx hb hown hts hml hE hT hA hRf hRl hRc h am Fthrown Ftaped Fsize Fplace Fbegin Ftoken Fword Ftold Fwrong Fcode Fat Fway Fnext FisEnd FisFallen Fwritten Fmade Fstate FhandNext FhandSteps FhandWritten FmarkAt Alines AlineFrom AlineTo Acodes AvalueOf Awear x0 _ Φ ih kR382 Akept AkeptBy Aahead Aagainst Asum AsumBy Aterm AtermBy AbyNot l2 l3 (Acodes (l3).toNatClampNeg) _ _ _ hw hP hD hS (lv_sub hl [1, 2, 3, 4, 0] rfl)

def wp_X8_worked (Fat : Int32) (Fway : Int32) (Alines : Nat → Int32) (AlineFrom : Nat → Int32) (AlineTo : Nat → Int32) (Acodes : Nat → Int32) (AvalueOf : Nat → Int32) (Awear : Nat → Int32) (x0 : Int32) (Akept : Nat → Int32) (AkeptBy : Nat → Int32) (Aahead : Nat → Int32) (Aagainst : Nat → Int32) (Asum : Nat → Int32) (AsumBy : Nat → Int32) (Aterm : Nat → Int32) (AtermBy : Nat → Int32) (AbyNot : Nat → Int32) (Φ : Int32 → (Nat → Int32) → (Nat → Int32) → (Nat → Int32) → (Nat → Int32) → (Nat → Int32) → (Nat → Int32) → (Nat → Int32) → (Nat → Int32) → (Nat → Int32) → Prop) : Prop := wp_X8_opens 0 AkeptBy Aagainst Asum AsumBy AtermBy (fun AkeptBy_2 Aagainst_3 Asum_4 AsumBy_5 AtermBy_6 => vp_in x0 192 ∧ (∃ n_, lf_X8_worked_14 Fat Fway Alines AlineFrom AlineTo Acodes AvalueOf Awear x0  Φ n_ Akept AkeptBy_2 Aahead Aagainst_3 Asum_4 AsumBy_5 Aterm AtermBy_6 AbyNot 0 (AlineFrom (x0).toNatClampNeg)))
set_option maxHeartbeats 4000000 in
set_option maxRecDepth 100000 in
theorem kj_X8_worked_e {p : Program} {l : Launch} {e : Env} {R : Room} {s : State} {m : MethodId} {args : Array Value} {below : List Frame} {meth : Method} {c : Code} {cells slots : Nat} {Q : State → Prop} {A : Nat → Prop} {D : va_G} {ak : Nat → ClassId} {ad : Nat → Nat} (hx : p.tables.exec = Jvm.exec) (hb : c.code = cX8_worked) (hown : s.vm.findClass RX8 = some m.cls) (hts : ∀ w ∈ wsX8_worked, w.before args s = true) (hml : c.maxLocals = 6) (hE : EV D ak s) (hT : ST D ak ad A s s.heap) (hA : ∀ q, s.heap.size ≤ q → A q) (hRf : 2 ≤ R.frames) (hRl : 44 ≤ R.locals) (hRc : cells ≤ R.cells ∧ slots ≤ R.slots) (h : Nat) (am : Nat → Nat) (Fthrown : Int32) (Ftaped : Int32) (Fsize : Int32) (Fplace : Int32) (Fbegin : Int32) (Ftoken : Int32) (Fword : Int64) (Ftold : Int32) (Fwrong : Int32) (Fcode : Int32) (Fat : Int32) (Fway : Int32) (Fnext : Int32) (FisEnd : Int32) (FisFallen : Int32) (Fwritten : Int32) (Fmade : Int32) (Fstate : Int32) (FhandNext : Int32) (FhandSteps : Int32) (FhandWritten : Int32) (FmarkAt : Int32) (Alines : Nat → Int32) (AlineFrom : Nat → Int32) (AlineTo : Nat → Int32) (Acodes : Nat → Int32) (AvalueOf : Nat → Int32) (Awear : Nat → Int32) (x0 : Int32)  (Φ : Int32 → (Nat → Int32) → (Nat → Int32) → (Nat → Int32) → (Nat → Int32) → (Nat → Int32) → (Nat → Int32) → (Nat → Int32) → (Nat → Int32) → (Nat → Int32) → Prop)
    (kR382 : ∀ (r : Int32) (Akept : Nat → Int32) (AkeptBy : Nat → Int32) (Aahead : Nat → Int32) (Aagainst : Nat → Int32) (Asum : Nat → Int32) (AsumBy : Nat → Int32) (Aterm : Nat → Int32) (AtermBy : Nat → Int32) (AbyNot : Nat → Int32) (H : Heap) (locs : List Loc) (ls : Array Slot), Φ r Akept AkeptBy Aahead Aagainst Asum AsumBy Aterm AtermBy AbyNot → va_P D vwCl (wW_X8_worked ak ad h am Fthrown Ftaped Fsize Fplace Fbegin Ftoken Fword Ftold Fwrong Fcode Fat Fway Fnext FisEnd FisFallen Fwritten Fmade Fstate FhandNext FhandSteps FhandWritten FmarkAt Alines AlineFrom AlineTo Acodes Akept AkeptBy Aahead Aagainst Asum AsumBy Aterm AtermBy AbyNot AvalueOf Awear) H → va_D A (wW_X8_worked ak ad h am Fthrown Ftaped Fsize Fplace Fbegin Ftoken Fword Ftold Fwrong Fcode Fat Fway Fnext FisEnd FisFallen Fwritten Fmade Fstate FhandNext FhandSteps FhandWritten FmarkAt Alines AlineFrom AlineTo Acodes Akept AkeptBy Aahead Aagainst Asum AsumBy Aterm AtermBy AbyNot AvalueOf Awear) → va_S A s.heap H locs → W p l e R s m args below meth c H locs cells slots Q (F0 m 382 ls [.int r]))
    : ∀ (Akept : Nat → Int32) (AkeptBy : Nat → Int32) (Aahead : Nat → Int32) (Aagainst : Nat → Int32) (Asum : Nat → Int32) (AsumBy : Nat → Int32) (Aterm : Nat → Int32) (AtermBy : Nat → Int32) (AbyNot : Nat → Int32) (H : Heap) (locs : List Loc) (ls : Array Slot), wp_X8_worked Fat Fway Alines AlineFrom AlineTo Acodes AvalueOf Awear x0 Akept AkeptBy Aahead Aagainst Asum AsumBy Aterm AtermBy AbyNot Φ → va_P D vwCl (wW_X8_worked ak ad h am Fthrown Ftaped Fsize Fplace Fbegin Ftoken Fword Ftold Fwrong Fcode Fat Fway Fnext FisEnd FisFallen Fwritten Fmade Fstate FhandNext FhandSteps FhandWritten FmarkAt Alines AlineFrom AlineTo Acodes Akept AkeptBy Aahead Aagainst Asum AsumBy Aterm AtermBy AbyNot AvalueOf Awear) H → va_D A (wW_X8_worked ak ad h am Fthrown Ftaped Fsize Fplace Fbegin Ftoken Fword Ftold Fwrong Fcode Fat Fway Fnext FisEnd FisFallen Fwritten Fmade Fstate FhandNext FhandSteps FhandWritten FmarkAt Alines AlineFrom AlineTo Acodes Akept AkeptBy Aahead Aagainst Asum AsumBy Aterm AtermBy AbyNot AvalueOf Awear) → va_S A s.heap H locs → lv_has ls 6 [(0, .ref h), (1, .int (x0))] → W p l e R s m args below meth c H locs cells slots Q (F0 m 0 ls ([])) := by
  intro Akept AkeptBy Aahead Aagainst Asum AsumBy Aterm AtermBy AbyNot H locs ls hw hP hD hS hl
  delta wp_X8_worked at hw
  refine lv_iconst (v := 0) hx hb dX8_worked_0 (by decide) ?_
  refine lv_istore_n (lv' := [(2, .int (0)), (0, .ref h), (1, .int (x0))]) hx hb dX8_worked_1 rfl hl (by decide) rfl (fun ls hl => ?_)
  refine lv_aload_n hx hb dX8_worked_2 rfl (lv_at hl 1 rfl) ?_
  refine lv_iconst (v := 0) hx hb dX8_worked_3 (by decide) ?_
  refine kc_v (wc := (wW_X8_opens ak ad h am Fthrown Ftaped Fsize Fplace Fbegin Ftoken Fword Ftold Fwrong Fcode Fat Fway Fnext FisEnd FisFallen Fwritten Fmade Fstate FhandNext FhandSteps FhandWritten FmarkAt AkeptBy Aagainst Asum AsumBy AtermBy)) (wr := [((am 4), .inl (ak 0, 6, .inl (Alines))), ((am 17), .inl (ak 0, 192, .inl (AlineFrom))), ((am 18), .inl (ak 0, 192, .inl (AlineTo))), ((am 19), .inl (ak 0, 6000, .inl (Acodes))), ((am 22), .inl (ak 0, 7, .inl (Akept))), ((am 24), .inl (ak 0, 7, .inl (Aahead))), ((am 28), .inl (ak 0, 7, .inl (Aterm))), ((am 30), .inl (ak 0, 7, .inl (AbyNot))), ((am 31), .inl (ak 0, 20, .inl (AvalueOf))), ((am 33), .inl (ak 0, 16, .inl (Awear)))]) hP hD hS hA [0, 6, 8, 9, 10, 12] [1, 2, 3, 4, 5, 7, 11, 13, 14, 15] rfl rfl (by decide) (by decide) (va_runV (As := [.int (0)]) (rest := []) ⟨hx, hb, hml, hown, hts⟩ (c_X8_opens l D ak ad _ h am Fthrown Ftaped Fsize Fplace Fbegin Ftoken Fword Ftold Fwrong Fcode Fat Fway Fnext FisEnd FisFallen Fwritten Fmade Fstate FhandNext FhandSteps FhandWritten FmarkAt AkeptBy Aagainst Asum AsumBy AtermBy 0 _ hw) (cwV 1 hts gX8_worked_X8_opens rfl rfl rfl hv_X8_opens ⟨(Nat.le_trans (Nat.le_of_ble_eq_true rfl) hRf), (Nat.le_trans (Nat.le_of_ble_eq_true rfl) hRl)⟩) (kc_preV (As := [.int (0)]) (wc := (wW_X8_opens ak ad h am Fthrown Ftaped Fsize Fplace Fbegin Ftoken Fword Ftold Fwrong Fcode Fat Fway Fnext FisEnd FisFallen Fwritten Fmade Fstate FhandNext FhandSteps FhandWritten FmarkAt AkeptBy Aagainst Asum AsumBy AtermBy)) hE hT hP hD hS hA [0, 6, 8, 9, 10, 12] (by decide) rfl rfl 0 7 rfl rfl rfl) rfl rfl hl.1 rfl (lv_room (Nat.le_of_ble_eq_true rfl)) dX8_worked_4 ⟨hRc.1, hRc.2⟩) (fun u_1 H locs hw hP hD hS => ?_)
  obtain ⟨AkeptBy_2, Aagainst_3, Asum_4, AsumBy_5, AtermBy_6⟩ := u_1
  try dsimp -zeta only at hw
  have hP : va_P D vwCl (wW_X8_worked ak ad h am Fthrown Ftaped Fsize Fplace Fbegin Ftoken Fword Ftold Fwrong Fcode Fat Fway Fnext FisEnd FisFallen Fwritten Fmade Fstate FhandNext FhandSteps FhandWritten FmarkAt Alines AlineFrom AlineTo Acodes Akept AkeptBy_2 Aahead Aagainst_3 Asum_4 AsumBy_5 Aterm AtermBy_6 AbyNot AvalueOf Awear) H := hP.sub [10, 0, 1, 2, 3, 4, 11, 5, 12, 13, 14, 6, 15, 7, 8, 9] rfl
  have hD : va_D A (wW_X8_worked ak ad h am Fthrown Ftaped Fsize Fplace Fbegin Ftoken Fword Ftold Fwrong Fcode Fat Fway Fnext FisEnd FisFallen Fwritten Fmade Fstate FhandNext FhandSteps FhandWritten FmarkAt Alines AlineFrom AlineTo Acodes Akept AkeptBy_2 Aahead Aagainst_3 Asum_4 AsumBy_5 Aterm AtermBy_6 AbyNot AvalueOf Awear) := hD.sub [10, 0, 1, 2, 3, 4, 11, 5, 12, 13, 14, 6, 15, 7, 8, 9] (by decide) rfl
  refine lv_aload_n hx hb dX8_worked_7 rfl (lv_at hl 1 rfl) ?_
  refine vt_get (D := D) (ci := 7) (v := .ref (am 17)) (C := RX8) (T := TX8) (N := 69) hx hb hts (fun w h => wm_c (wc_X8 w h)) hown hE.1 hP 0 rfl rfl 26 (by decide) tX8_26 (hts (.fieldLink RX8 62 "WornLinesModel" "lineFrom" "[I") (wm_c hw_45)) (fun _ h9 => h9) rfl dX8_worked_8 ?_
  refine lv_iload_n hx hb dX8_worked_11 rfl (lv_at hl 2 rfl) ?_
  obtain ⟨h_8, hw⟩ := hw
  refine va_iald hx hb hE.1 hP 2 0 rfl rfl (h_8) dX8_worked_12 ?_
  refine lv_istore_n (lv' := [(3, .int (AlineFrom (x0).toNatClampNeg)), (2, .int (0)), (0, .ref h), (1, .int (x0))]) hx hb dX8_worked_13 rfl hl (by decide) rfl (fun ls hl => ?_)
  obtain ⟨n1_, hw⟩ := hw
  exact lp_X8_worked_14 hx hb hown hts hml hE hT hA hRf hRl hRc h am Fthrown Ftaped Fsize Fplace Fbegin Ftoken Fword Ftold Fwrong Fcode Fat Fway Fnext FisEnd FisFallen Fwritten Fmade Fstate FhandNext FhandSteps FhandWritten FmarkAt Alines AlineFrom AlineTo Acodes AvalueOf Awear x0  Φ  kR382 n1_ Akept AkeptBy_2 Aahead Aagainst_3 Asum_4 AsumBy_5 Aterm AtermBy_6 AbyNot 0 (AlineFrom (x0).toNatClampNeg) _ _ _ hw hP hD hS (lv_sub hl [2, 3, 1, 0] rfl)
set_option maxHeartbeats 4000000 in
set_option maxRecDepth 100000 in
theorem c_X8_worked (l : Launch) (D : va_G) (ak : Nat → ClassId) (ad : Nat → Nat) (sz : Nat) (h : Nat) (am : Nat → Nat) (Fthrown : Int32) (Ftaped : Int32) (Fsize : Int32) (Fplace : Int32) (Fbegin : Int32) (Ftoken : Int32) (Fword : Int64) (Ftold : Int32) (Fwrong : Int32) (Fcode : Int32) (Fat : Int32) (Fway : Int32) (Fnext : Int32) (FisEnd : Int32) (FisFallen : Int32) (Fwritten : Int32) (Fmade : Int32) (Fstate : Int32) (FhandNext : Int32) (FhandSteps : Int32) (FhandWritten : Int32) (FmarkAt : Int32) (Alines : Nat → Int32) (AlineFrom : Nat → Int32) (AlineTo : Nat → Int32) (Acodes : Nat → Int32) (Akept : Nat → Int32) (AkeptBy : Nat → Int32) (Aahead : Nat → Int32) (Aagainst : Nat → Int32) (Asum : Nat → Int32) (AsumBy : Nat → Int32) (Aterm : Nat → Int32) (AtermBy : Nat → Int32) (AbyNot : Nat → Int32) (AvalueOf : Nat → Int32) (Awear : Nat → Int32) (x0 : Int32) (Φ : Int32 → (Nat → Int32) → (Nat → Int32) → (Nat → Int32) → (Nat → Int32) → (Nat → Int32) → (Nat → Int32) → (Nat → Int32) → (Nat → Int32) → (Nat → Int32) → Prop) (hf : wp_X8_worked Fat Fway Alines AlineFrom AlineTo Acodes AvalueOf Awear x0 Akept AkeptBy Aahead Aagainst Asum AsumBy Aterm AtermBy AbyNot Φ) : Met l yX8_worked wsX8_worked ({ frames := 2, cells := 0, slots := 0, locals := 44 }) (cPre D ak ad [.ref h, .int (x0)] ((wW_X8_worked ak ad h am Fthrown Ftaped Fsize Fplace Fbegin Ftoken Fword Ftold Fwrong Fcode Fat Fway Fnext FisEnd FisFallen Fwritten Fmade Fstate FhandNext FhandSteps FhandWritten FmarkAt Alines AlineFrom AlineTo Acodes Akept AkeptBy Aahead Aagainst Asum AsumBy Aterm AtermBy AbyNot AvalueOf Awear)) sz) (cI D (S := (Nat → Int32) × (Nat → Int32) × (Nat → Int32) × (Nat → Int32) × (Nat → Int32) × (Nat → Int32) × (Nat → Int32) × (Nat → Int32) × (Nat → Int32)) (fun (r : Int32) (u : (Nat → Int32) × (Nat → Int32) × (Nat → Int32) × (Nat → Int32) × (Nat → Int32) × (Nat → Int32) × (Nat → Int32) × (Nat → Int32) × (Nat → Int32)) => Φ r u.1 u.2.1 u.2.2.1 u.2.2.2.1 u.2.2.2.2.1 u.2.2.2.2.2.1 u.2.2.2.2.2.2.1 u.2.2.2.2.2.2.2.1 u.2.2.2.2.2.2.2.2) (fun u => (wW_X8_worked ak ad h am Fthrown Ftaped Fsize Fplace Fbegin Ftoken Fword Ftold Fwrong Fcode Fat Fway Fnext FisEnd FisFallen Fwritten Fmade Fstate FhandNext FhandSteps FhandWritten FmarkAt Alines AlineFrom AlineTo Acodes u.1 u.2.1 u.2.2.1 u.2.2.2.1 u.2.2.2.2.1 u.2.2.2.2.2.1 u.2.2.2.2.2.2.1 u.2.2.2.2.2.2.2.1 u.2.2.2.2.2.2.2.2 AvalueOf Awear)) ((wW_X8_worked ak ad h am Fthrown Ftaped Fsize Fplace Fbegin Ftoken Fword Ftold Fwrong Fcode Fat Fway Fnext FisEnd FisFallen Fwritten Fmade Fstate FhandNext FhandSteps FhandWritten FmarkAt Alines AlineFrom AlineTo Acodes Akept AkeptBy Aahead Aagainst Asum AsumBy Aterm AtermBy AbyNot AvalueOf Awear)) sz) 0 0 (va_A ((wW_X8_worked ak ad h am Fthrown Ftaped Fsize Fplace Fbegin Ftoken Fword Ftold Fwrong Fcode Fat Fway Fnext FisEnd FisFallen Fwritten Fmade Fstate FhandNext FhandSteps FhandWritten FmarkAt Alines AlineFrom AlineTo Acodes Akept AkeptBy Aahead Aagainst Asum AsumBy Aterm AtermBy AbyNot AvalueOf Awear)) sz) := by
  refine Met.ofW (cc := cX8_worked) (maxL := 6) (ret := (some .int)) (by decide) rfl ?_
  intro p e s m args below meth c s₁ B hml hv
  obtain ⟨rfl, hsz, hP, hE, hD0, hT⟩ := hv
  have hx := B.exec
  have hb := B.bytes
  have hr := B.returns
  have hts := atoms_spec (ws := wsX8_worked) B.pre
  have hown : s.vm.findClass RX8 = some m.cls := findClass_of_methodNamed B.named
  have hlocks := B.notSynchronized
  subst hsz
  have hD := hD0.self (sz := s.heap.size)
  generalize hAe : va_A ((wW_X8_worked ak ad h am Fthrown Ftaped Fsize Fplace Fbegin Ftoken Fword Ftold Fwrong Fcode Fat Fway Fnext FisEnd FisFallen Fwritten Fmade Fstate FhandNext FhandSteps FhandWritten FmarkAt Alines AlineFrom AlineTo Acodes Akept AkeptBy Aahead Aagainst Asum AsumBy Aterm AtermBy AbyNot AvalueOf Awear)) s.heap.size = A at hD hT ⊢
  have hA : ∀ q : Nat, s.heap.size ≤ q → A q := fun q h => by rw [← hAe]; exact Or.inr h
  have hS : va_S A s.heap s.heap [] := va_S.rf
  have hl := lv_entry ([.ref h, .int (x0)]) (n := 6) (Nat.le_of_ble_eq_true rfl)
  rw [lg_entry_eq]
  generalize (lg_sl ([.ref h, .int (x0)]) ++ List.replicate (6 - (lg_sl ([.ref h, .int (x0)])).length) Slot.unset).toArray = ls at hl ⊢
  have hl : lv_has ls 6 [(0, .ref h), (1, .int (x0))] := hl
  exact kj_X8_worked_e hx hb hown hts hml hE hT hA (Nat.le_of_ble_eq_true rfl) (Nat.le_of_ble_eq_true rfl) ⟨Nat.le_of_ble_eq_true rfl, Nat.le_of_ble_eq_true rfl⟩ h am Fthrown Ftaped Fsize Fplace Fbegin Ftoken Fword Ftold Fwrong Fcode Fat Fway Fnext FisEnd FisFallen Fwritten Fmade Fstate FhandNext FhandSteps FhandWritten FmarkAt Alines AlineFrom AlineTo Acodes AvalueOf Awear x0 Φ (fun r Akept AkeptBy Aahead Aagainst Asum AsumBy Aterm AtermBy AbyNot H locs ls hw hP hD hS => W.iret (v := r) hx hb hr (fun t ht hW => ⟨⟨r, (Akept, AkeptBy, Aahead, Aagainst, Asum, AsumBy, Aterm, AtermBy, AbyNot), rfl, hw, by rw [ht]; exact hP, by rw [hAe]; exact hD⟩, by rw [hAe]; exact hS.F ht⟩) hS.2.2 dX8_worked_382) Akept AkeptBy Aahead Aagainst Asum AsumBy Aterm AtermBy AbyNot _ _ _ hf hP hD hS hl
end
