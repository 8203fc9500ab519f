theorem dX8_opens_0 : decode cX8_opens 0 = .ok (.aload_n 0, 1) := by decide +kernel
theorem dX8_opens_1 : decode cX8_opens 1 = .ok (.getfield 81, 3) := by decide +kernel
theorem dX8_opens_4 : decode cX8_opens 4 = .ok (.iload_n 1, 1) := by decide +kernel
theorem dX8_opens_5 : decode cX8_opens 5 = .ok (.iconst 0, 1) := by decide +kernel
theorem dX8_opens_6 : decode cX8_opens 6 = .ok (.iastore, 1) := by decide +kernel
theorem dX8_opens_7 : decode cX8_opens 7 = .ok (.aload_n 0, 1) := by decide +kernel
theorem dX8_opens_8 : decode cX8_opens 8 = .ok (.getfield 87, 3) := by decide +kernel
theorem dX8_opens_11 : decode cX8_opens 11 = .ok (.iload_n 1, 1) := by decide +kernel
theorem dX8_opens_12 : decode cX8_opens 12 = .ok (.iconst 0, 1) := by decide +kernel
theorem dX8_opens_13 : decode cX8_opens 13 = .ok (.iastore, 1) := by decide +kernel
theorem dX8_opens_14 : decode cX8_opens 14 = .ok (.aload_n 0, 1) := by decide +kernel
theorem dX8_opens_15 : decode cX8_opens 15 = .ok (.getfield 90, 3) := by decide +kernel
theorem dX8_opens_18 : decode cX8_opens 18 = .ok (.iload_n 1, 1) := by decide +kernel
theorem dX8_opens_19 : decode cX8_opens 19 = .ok (.iconst 0, 1) := by decide +kernel
theorem dX8_opens_20 : decode cX8_opens 20 = .ok (.iastore, 1) := by decide +kernel
theorem dX8_opens_21 : decode cX8_opens 21 = .ok (.aload_n 0, 1) := by decide +kernel
theorem dX8_opens_22 : decode cX8_opens 22 = .ok (.getfield 93, 3) := by decide +kernel
theorem dX8_opens_25 : decode cX8_opens 25 = .ok (.iload_n 1, 1) := by decide +kernel
theorem dX8_opens_26 : decode cX8_opens 26 = .ok (.bipush 20, 2) := by decide +kernel
theorem dX8_opens_28 : decode cX8_opens 28 = .ok (.iastore, 1) := by decide +kernel
theorem dX8_opens_29 : decode cX8_opens 29 = .ok (.aload_n 0, 1) := by decide +kernel
theorem dX8_opens_30 : decode cX8_opens 30 = .ok (.getfield 99, 3) := by decide +kernel
theorem dX8_opens_33 : decode cX8_opens 33 = .ok (.iload_n 1, 1) := by decide +kernel
theorem dX8_opens_34 : decode cX8_opens 34 = .ok (.iconst 0, 1) := by decide +kernel
theorem dX8_opens_35 : decode cX8_opens 35 = .ok (.iastore, 1) := by decide +kernel
theorem dX8_opens_36 : decode cX8_opens 36 = .ok (.return_, 1) := by decide +kernel
theorem dX8_sums_0 : decode cX8_sums 0 = .ok (.aload_n 0, 1) := by decide +kernel
theorem dX8_sums_1 : decode cX8_sums 1 = .ok (.getfield 90, 3) := by decide +kernel
theorem dX8_sums_4 : decode cX8_sums 4 = .ok (.iload_n 1, 1) := by decide +kernel
theorem dX8_sums_5 : decode cX8_sums 5 = .ok (.aload_n 0, 1) := by decide +kernel
theorem dX8_sums_6 : decode cX8_sums 6 = .ok (.getfield 93, 3) := by decide +kernel
theorem dX8_sums_9 : decode cX8_sums 9 = .ok (.iload_n 1, 1) := by decide +kernel
theorem dX8_sums_10 : decode cX8_sums 10 = .ok (.iaload, 1) := by decide +kernel
theorem dX8_sums_11 : decode cX8_sums 11 = .ok (.bipush 21, 2) := by decide +kernel
theorem dX8_sums_13 : decode cX8_sums 13 = .ok (.if_icmp .ne 19, 3) := by decide +kernel
theorem dX8_sums_32 : decode cX8_sums 32 = .ok (.aload_n 0, 1) := by decide +kernel
theorem dX8_sums_33 : decode cX8_sums 33 = .ok (.getfield 90, 3) := by decide +kernel
theorem dX8_sums_36 : decode cX8_sums 36 = .ok (.iload_n 1, 1) := by decide +kernel
theorem dX8_sums_37 : decode cX8_sums 37 = .ok (.iaload, 1) := by decide +kernel
theorem dX8_sums_38 : decode cX8_sums 38 = .ok (.aload_n 0, 1) := by decide +kernel
theorem dX8_sums_39 : decode cX8_sums 39 = .ok (.getfield 96, 3) := by decide +kernel
theorem dX8_sums_42 : decode cX8_sums 42 = .ok (.iload_n 1, 1) := by decide +kernel
theorem dX8_sums_43 : decode cX8_sums 43 = .ok (.iaload, 1) := by decide +kernel
theorem dX8_sums_44 : decode cX8_sums 44 = .ok (.iadd, 1) := by decide +kernel
theorem dX8_sums_45 : decode cX8_sums 45 = .ok (.iastore, 1) := by decide +kernel
theorem dX8_sums_46 : decode cX8_sums 46 = .ok (.aload_n 0, 1) := by decide +kernel
theorem dX8_sums_47 : decode cX8_sums 47 = .ok (.getfield 99, 3) := by decide +kernel
theorem dX8_sums_50 : decode cX8_sums 50 = .ok (.iload_n 1, 1) := by decide +kernel
theorem dX8_sums_51 : decode cX8_sums 51 = .ok (.iconst 0, 1) := by decide +kernel
theorem dX8_sums_52 : decode cX8_sums 52 = .ok (.iastore, 1) := by decide +kernel
theorem dX8_sums_16 : decode cX8_sums 16 = .ok (.aload_n 0, 1) := by decide +kernel
theorem dX8_sums_17 : decode cX8_sums 17 = .ok (.getfield 90, 3) := by decide +kernel
theorem dX8_sums_20 : decode cX8_sums 20 = .ok (.iload_n 1, 1) := by decide +kernel
theorem dX8_sums_21 : decode cX8_sums 21 = .ok (.iaload, 1) := by decide +kernel
theorem dX8_sums_22 : decode cX8_sums 22 = .ok (.aload_n 0, 1) := by decide +kernel
theorem dX8_sums_23 : decode cX8_sums 23 = .ok (.getfield 96, 3) := by decide +kernel
theorem dX8_sums_26 : decode cX8_sums 26 = .ok (.iload_n 1, 1) := by decide +kernel
theorem dX8_sums_27 : decode cX8_sums 27 = .ok (.iaload, 1) := by decide +kernel
theorem dX8_sums_28 : decode cX8_sums 28 = .ok (.isub, 1) := by decide +kernel
theorem dX8_sums_29 : decode cX8_sums 29 = .ok (.goto 16, 3) := by decide +kernel
theorem dX8_sums_53 : decode cX8_sums 53 = .ok (.return_, 1) := by decide +kernel
theorem dX8_tests_136 : decode cX8_tests 136 = .ok (.aload_n 0, 1) := by decide +kernel
theorem dX8_tests_137 : decode cX8_tests 137 = .ok (.getfield 78, 3) := by decide +kernel
theorem dX8_tests_140 : decode cX8_tests 140 = .ok (.iload_n 1, 1) := by decide +kernel
theorem dX8_tests_141 : decode cX8_tests 141 = .ok (.iload_n 2, 1) := by decide +kernel
theorem dX8_tests_142 : decode cX8_tests 142 = .ok (.iastore, 1) := by decide +kernel
theorem dX8_tests_143 : decode cX8_tests 143 = .ok (.aload_n 0, 1) := by decide +kernel
theorem dX8_tests_144 : decode cX8_tests 144 = .ok (.getfield 87, 3) := by decide +kernel
theorem dX8_tests_147 : decode cX8_tests 147 = .ok (.iload_n 1, 1) := by decide +kernel
theorem dX8_tests_148 : decode cX8_tests 148 = .ok (.iconst 0, 1) := by decide +kernel
theorem dX8_tests_149 : decode cX8_tests 149 = .ok (.iastore, 1) := by decide +kernel
theorem dX8_tests_150 : decode cX8_tests 150 = .ok (.aload_n 0, 1) := by decide +kernel
theorem dX8_tests_151 : decode cX8_tests 151 = .ok (.getfield 90, 3) := by decide +kernel
theorem dX8_tests_154 : decode cX8_tests 154 = .ok (.iload_n 1, 1) := by decide +kernel
theorem dX8_tests_155 : decode cX8_tests 155 = .ok (.iconst 0, 1) := by decide +kernel
theorem dX8_tests_156 : decode cX8_tests 156 = .ok (.iastore, 1) := by decide +kernel
theorem dX8_tests_157 : decode cX8_tests 157 = .ok (.aload_n 0, 1) := by decide +kernel
theorem dX8_tests_158 : decode cX8_tests 158 = .ok (.getfield 93, 3) := by decide +kernel
theorem dX8_tests_161 : decode cX8_tests 161 = .ok (.iload_n 1, 1) := by decide +kernel
theorem dX8_tests_162 : decode cX8_tests 162 = .ok (.bipush 20, 2) := by decide +kernel
theorem dX8_tests_164 : decode cX8_tests 164 = .ok (.iastore, 1) := by decide +kernel
theorem dX8_tests_106 : decode cX8_tests 106 = .ok (.aload_n 0, 1) := by decide +kernel
theorem dX8_tests_107 : decode cX8_tests 107 = .ok (.getfield 81, 3) := by decide +kernel
theorem dX8_tests_110 : decode cX8_tests 110 = .ok (.iload_n 1, 1) := by decide +kernel
theorem dX8_tests_111 : decode cX8_tests 111 = .ok (.iaload, 1) := by decide +kernel
theorem dX8_tests_112 : decode cX8_tests 112 = .ok (.bipush 27, 2) := by decide +kernel
theorem dX8_tests_114 : decode cX8_tests 114 = .ok (.if_icmp .ne 22, 3) := by decide +kernel
theorem dX8_tests_117 : decode cX8_tests 117 = .ok (.aload_n 0, 1) := by decide +kernel
theorem dX8_tests_118 : decode cX8_tests 118 = .ok (.getfield 78, 3) := by decide +kernel
theorem dX8_tests_121 : decode cX8_tests 121 = .ok (.iload_n 1, 1) := by decide +kernel
theorem dX8_tests_122 : decode cX8_tests 122 = .ok (.iaload, 1) := by decide +kernel
theorem dX8_tests_123 : decode cX8_tests 123 = .ok (.ifCond .ne 7, 3) := by decide +kernel
theorem dX8_tests_130 : decode cX8_tests 130 = .ok (.iconst 1, 1) := by decide +kernel
theorem dX8_tests_131 : decode cX8_tests 131 = .ok (.goto 4, 3) := by decide +kernel
theorem dX8_tests_135 : decode cX8_tests 135 = .ok (.istore_n 2, 1) := by decide +kernel
theorem dX8_tests_126 : decode cX8_tests 126 = .ok (.iload_n 2, 1) := by decide +kernel
theorem dX8_tests_127 : decode cX8_tests 127 = .ok (.ifCond .eq 7, 3) := by decide +kernel
theorem dX8_tests_134 : decode cX8_tests 134 = .ok (.iconst 0, 1) := by decide +kernel
theorem dX8_tests_76 : decode cX8_tests 76 = .ok (.aload_n 0, 1) := by decide +kernel
theorem dX8_tests_77 : decode cX8_tests 77 = .ok (.getfield 81, 3) := by decide +kernel
theorem dX8_tests_80 : decode cX8_tests 80 = .ok (.iload_n 1, 1) := by decide +kernel
theorem dX8_tests_81 : decode cX8_tests 81 = .ok (.iaload, 1) := by decide +kernel
theorem dX8_tests_82 : decode cX8_tests 82 = .ok (.bipush 26, 2) := by decide +kernel
theorem dX8_tests_84 : decode cX8_tests 84 = .ok (.if_icmp .ne 22, 3) := by decide +kernel
theorem dX8_tests_87 : decode cX8_tests 87 = .ok (.aload_n 0, 1) := by decide +kernel
theorem dX8_tests_88 : decode cX8_tests 88 = .ok (.getfield 78, 3) := by decide +kernel
theorem dX8_tests_91 : decode cX8_tests 91 = .ok (.iload_n 1, 1) := by decide +kernel
theorem dX8_tests_92 : decode cX8_tests 92 = .ok (.iaload, 1) := by decide +kernel
theorem dX8_tests_93 : decode cX8_tests 93 = .ok (.ifCond .eq 11, 3) := by decide +kernel
theorem dX8_tests_104 : decode cX8_tests 104 = .ok (.iconst 0, 1) := by decide +kernel
theorem dX8_tests_105 : decode cX8_tests 105 = .ok (.istore_n 2, 1) := by decide +kernel
theorem dX8_tests_96 : decode cX8_tests 96 = .ok (.iload_n 2, 1) := by decide +kernel
theorem dX8_tests_97 : decode cX8_tests 97 = .ok (.ifCond .eq 7, 3) := by decide +kernel
theorem dX8_tests_100 : decode cX8_tests 100 = .ok (.iconst 1, 1) := by decide +kernel
theorem dX8_tests_101 : decode cX8_tests 101 = .ok (.goto 4, 3) := by decide +kernel
theorem dX8_tests_44 : decode cX8_tests 44 = .ok (.aload_n 0, 1) := by decide +kernel
theorem dX8_tests_45 : decode cX8_tests 45 = .ok (.getfield 87, 3) := by decide +kernel
theorem dX8_tests_48 : decode cX8_tests 48 = .ok (.iload_n 1, 1) := by decide +kernel
theorem dX8_tests_49 : decode cX8_tests 49 = .ok (.iaload, 1) := by decide +kernel
theorem dX8_tests_50 : decode cX8_tests 50 = .ok (.bipush 25, 2) := by decide +kernel
theorem dX8_tests_52 : decode cX8_tests 52 = .ok (.if_icmp .ne 24, 3) := by decide +kernel
theorem dX8_tests_55 : decode cX8_tests 55 = .ok (.aload_n 0, 1) := by decide +kernel
theorem dX8_tests_56 : decode cX8_tests 56 = .ok (.getfield 84, 3) := by decide +kernel
theorem dX8_tests_59 : decode cX8_tests 59 = .ok (.iload_n 1, 1) := by decide +kernel
theorem dX8_tests_60 : decode cX8_tests 60 = .ok (.iaload, 1) := by decide +kernel
theorem dX8_tests_61 : decode cX8_tests 61 = .ok (.aload_n 0, 1) := by decide +kernel
theorem dX8_tests_62 : decode cX8_tests 62 = .ok (.getfield 90, 3) := by decide +kernel
theorem dX8_tests_65 : decode cX8_tests 65 = .ok (.iload_n 1, 1) := by decide +kernel
theorem dX8_tests_66 : decode cX8_tests 66 = .ok (.iaload, 1) := by decide +kernel
theorem dX8_tests_67 : decode cX8_tests 67 = .ok (.if_icmp .ne 7, 3) := by decide +kernel
theorem dX8_tests_74 : decode cX8_tests 74 = .ok (.iconst 0, 1) := by decide +kernel
theorem dX8_tests_75 : decode cX8_tests 75 = .ok (.istore_n 2, 1) := by decide +kernel
theorem dX8_tests_70 : decode cX8_tests 70 = .ok (.iconst 1, 1) := by decide +kernel
theorem dX8_tests_71 : decode cX8_tests 71 = .ok (.goto 4, 3) := by decide +kernel
theorem dX8_tests_0 : decode cX8_tests 0 = .ok (.aload_n 0, 1) := by decide +kernel
theorem dX8_tests_1 : decode cX8_tests 1 = .ok (.iload_n 1, 1) := by decide +kernel
set_option maxRecDepth 20000 in
theorem ggX8_tests_X8_sums : GoodIn wsX8_tests wsX8_sums := gup gc_X8_sums
set_option maxRecDepth 20000 in
theorem gX8_tests_X8_sums : GoodIn wsX8_tests (wsV RX8 259 RX8 yX8_sums wsX8_sums) := gup (glV hw_79 hw_80 hw_81 hw_15 gc_X8_sums)
theorem dX8_tests_2 : decode cX8_tests 2 = .ok (.invokevirtual 259, 3) := by decide +kernel
theorem dX8_tests_5 : decode cX8_tests 5 = .ok (.aload_n 0, 1) := by decide +kernel
theorem dX8_tests_6 : decode cX8_tests 6 = .ok (.getfield 90, 3) := by decide +kernel
theorem dX8_tests_9 : decode cX8_tests 9 = .ok (.iload_n 1, 1) := by decide +kernel
theorem dX8_tests_10 : decode cX8_tests 10 = .ok (.iaload, 1) := by decide +kernel
theorem dX8_tests_11 : decode cX8_tests 11 = .ok (.istore_n 2, 1) := by decide +kernel
theorem dX8_tests_12 : decode cX8_tests 12 = .ok (.aload_n 0, 1) := by decide +kernel
theorem dX8_tests_13 : decode cX8_tests 13 = .ok (.getfield 87, 3) := by decide +kernel
theorem dX8_tests_16 : decode cX8_tests 16 = .ok (.iload_n 1, 1) := by decide +kernel
theorem dX8_tests_17 : decode cX8_tests 17 = .ok (.iaload, 1) := by decide +kernel
theorem dX8_tests_18 : decode cX8_tests 18 = .ok (.bipush 24, 2) := by decide +kernel
theorem dX8_tests_20 : decode cX8_tests 20 = .ok (.if_icmp .ne 24, 3) := by decide +kernel
theorem dX8_tests_23 : decode cX8_tests 23 = .ok (.aload_n 0, 1) := by decide +kernel
theorem dX8_tests_24 : decode cX8_tests 24 = .ok (.getfield 84, 3) := by decide +kernel
theorem dX8_tests_27 : decode cX8_tests 27 = .ok (.iload_n 1, 1) := by decide +kernel
theorem dX8_tests_28 : decode cX8_tests 28 = .ok (.iaload, 1) := by decide +kernel
theorem dX8_tests_29 : decode cX8_tests 29 = .ok (.aload_n 0, 1) := by decide +kernel
theorem dX8_tests_30 : decode cX8_tests 30 = .ok (.getfield 90, 3) := by decide +kernel
theorem dX8_tests_33 : decode cX8_tests 33 = .ok (.iload_n 1, 1) := by decide +kernel
theorem dX8_tests_34 : decode cX8_tests 34 = .ok (.iaload, 1) := by decide +kernel
theorem dX8_tests_35 : decode cX8_tests 35 = .ok (.if_icmp .ge 7, 3) := by decide +kernel
theorem dX8_tests_42 : decode cX8_tests 42 = .ok (.iconst 0, 1) := by decide +kernel
theorem dX8_tests_43 : decode cX8_tests 43 = .ok (.istore_n 2, 1) := by decide +kernel
theorem dX8_tests_38 : decode cX8_tests 38 = .ok (.iconst 1, 1) := by decide +kernel
theorem dX8_tests_39 : decode cX8_tests 39 = .ok (.goto 4, 3) := by decide +kernel
theorem dX8_tests_165 : decode cX8_tests 165 = .ok (.return_, 1) := by decide +kernel
theorem dX8_lineOf_0 : decode cX8_lineOf 0 = .ok (.aload_n 0, 1) := by decide +kernel
theorem dX8_lineOf_1 : decode cX8_lineOf 1 = .ok (.getfield 22, 3) := by decide +kernel
theorem dX8_lineOf_4 : decode cX8_lineOf 4 = .ok (.aload_n 0, 1) := by decide +kernel
theorem dX8_lineOf_5 : decode cX8_lineOf 5 = .ok (.getfield 352, 3) := by decide +kernel
theorem dX8_lineOf_8 : decode cX8_lineOf 8 = .ok (.iaload, 1) := by decide +kernel
theorem dX8_lineOf_9 : decode cX8_lineOf 9 = .ok (.istore_n 2, 1) := by decide +kernel
theorem dX8_lineOf_10 : decode cX8_lineOf 10 = .ok (.iload_n 1, 1) := by decide +kernel
theorem dX8_lineOf_11 : decode cX8_lineOf 11 = .ok (.iload_n 2, 1) := by decide +kernel
theorem dX8_lineOf_12 : decode cX8_lineOf 12 = .ok (.irem, 1) := by decide +kernel
theorem dX8_lineOf_13 : decode cX8_lineOf 13 = .ok (.istore_n 3, 1) := by decide +kernel
theorem dX8_lineOf_14 : decode cX8_lineOf 14 = .ok (.iload_n 3, 1) := by decide +kernel
theorem dX8_lineOf_15 : decode cX8_lineOf 15 = .ok (.ifCond .ge 9, 3) := by decide +kernel
theorem dX8_lineOf_24 : decode cX8_lineOf 24 = .ok (.iload_n 3, 1) := by decide +kernel
theorem dX8_lineOf_18 : decode cX8_lineOf 18 = .ok (.iload_n 3, 1) := by decide +kernel
theorem dX8_lineOf_19 : decode cX8_lineOf 19 = .ok (.iload_n 2, 1) := by decide +kernel
theorem dX8_lineOf_20 : decode cX8_lineOf 20 = .ok (.iadd, 1) := by decide +kernel
theorem dX8_lineOf_21 : decode cX8_lineOf 21 = .ok (.goto 4, 3) := by decide +kernel
theorem dX8_lineOf_25 : decode cX8_lineOf 25 = .ok (.ireturn, 1) := by decide +kernel
theorem dX8_wornness_0 : decode cX8_wornness 0 = .ok (.aload_n 0, 1) := by decide +kernel
theorem dX8_wornness_1 : decode cX8_wornness 1 = .ok (.getfield 355, 3) := by decide +kernel
theorem dX8_wornness_4 : decode cX8_wornness 4 = .ok (.iconst 2, 1) := by decide +kernel
theorem dX8_wornness_5 : decode cX8_wornness 5 = .ok (.if_icmp .ne 7, 3) := by decide +kernel
theorem dX8_wornness_12 : decode cX8_wornness 12 = .ok (.aload_n 0, 1) := by decide +kernel
theorem dX8_wornness_13 : decode cX8_wornness 13 = .ok (.getfield 111, 3) := by decide +kernel
theorem dX8_wornness_16 : decode cX8_wornness 16 = .ok (.aload_n 0, 1) := by decide +kernel
theorem dX8_wornness_17 : decode cX8_wornness 17 = .ok (.iload_n 1, 1) := by decide +kernel
set_option maxRecDepth 20000 in
theorem ggX8_wornness_X8_lineOf : GoodIn wsX8_wornness wsX8_lineOf := gup gc_X8_lineOf
set_option maxRecDepth 20000 in
theorem gX8_wornness_X8_lineOf : GoodIn wsX8_wornness (wsV RX8 358 RX8 yX8_lineOf wsX8_lineOf) := gup (glV hw_82 hw_83 hw_84 hw_15 gc_X8_lineOf)
theorem dX8_wornness_18 : decode cX8_wornness 18 = .ok (.invokevirtual 358, 3) := by decide +kernel
theorem dX8_wornness_21 : decode cX8_wornness 21 = .ok (.iaload, 1) := by decide +kernel
theorem dX8_wornness_8 : decode cX8_wornness 8 = .ok (.iconst 0, 1) := by decide +kernel
theorem dX8_wornness_9 : decode cX8_wornness 9 = .ok (.goto 13, 3) := by decide +kernel
theorem dX8_wornness_22 : decode cX8_wornness 22 = .ok (.ireturn, 1) := by decide +kernel
def wW_X8_opens (ak : Nat → ClassId) (ad : Nat → Nat) (h : Nat) (am : Nat → Nat) (Fthrown : Int32) (Ftaped : Int32) (Fsize : Int32) (Fplace : Int32) (Fbegin : Int32) (Ftoken : Int32) (Fword : Int64) (Ftold : Int32) (Fwrong : Int32) (Fcode : Int32) (Fat : Int32) (Fway : Int32) (Fnext : Int32) (FisEnd : Int32) (FisFallen : Int32) (Fwritten : Int32) (Fmade : Int32) (Fstate : Int32) (FhandNext : Int32) (FhandSteps : Int32) (FhandWritten : Int32) (FmarkAt : Int32) (AkeptBy : Nat → Int32) (Aagainst : Nat → Int32) (Asum : Nat → Int32) (AsumBy : Nat → Int32) (AtermBy : Nat → Int32) : va_W := [(h, .inr (7, mob am (Fthrown) (Ftaped) (Fsize) (Fplace) (Fbegin) (Ftoken) (Fword) (Ftold) (Fwrong) (Fcode) (Fat) (Fway) (Fnext) (FisEnd) (FisFallen) (Fwritten) (Fmade) (Fstate) (FhandNext) (FhandSteps) (FhandWritten) (FmarkAt))), ((am 23), .inl (ak 0, 7, .inl (AkeptBy))), ((am 25), .inl (ak 0, 7, .inl (Aagainst))), ((am 26), .inl (ak 0, 7, .inl (Asum))), ((am 27), .inl (ak 0, 7, .inl (AsumBy))), ((am 29), .inl (ak 0, 7, .inl (AtermBy)))]
def wp_X8_opens (x0 : Int32) (AkeptBy : Nat → Int32) (Aagainst : Nat → Int32) (Asum : Nat → Int32) (AsumBy : Nat → Int32) (AtermBy : Nat → Int32) (Φ : (Nat → Int32) → (Nat → Int32) → (Nat → Int32) → (Nat → Int32) → (Nat → Int32) → Prop) : Prop := vp_in x0 7 ∧ vp_in x0 7 ∧ vp_in x0 7 ∧ vp_in x0 7 ∧ vp_in x0 7 ∧ Φ (upd AkeptBy (x0).toNatClampNeg 0) (upd Aagainst (x0).toNatClampNeg 0) (upd Asum (x0).toNatClampNeg 0) (upd AsumBy (x0).toNatClampNeg 20) (upd AtermBy (x0).toNatClampNeg 0)
set_option maxHeartbeats 4000000 in
set_option maxRecDepth 100000 in
theorem kj_X8_opens_e {p : Program} {l : Launch} {e : Env} {R : Room} {s : State} {m : MethodId} {args : Array Value} {below : List Frame} {meth : Method} {c : Code} {cells slots : Nat} {Q : State → Prop} {A : Nat → Prop} {D : va_G} {ak : Nat → ClassId} {ad : Nat → Nat} (hx : p.tables.exec = Jvm.exec) (hb : c.code = cX8_opens) (hown : s.vm.findClass RX8 = some m.cls) (hts : ∀ w ∈ wsX8_opens, w.before args s = true) (hml : c.maxLocals = 2) (hE : EV D ak s) (hT : ST D ak ad A s s.heap) (hA : ∀ q, s.heap.size ≤ q → A q) (h : Nat) (am : Nat → Nat) (Fthrown : Int32) (Ftaped : Int32) (Fsize : Int32) (Fplace : Int32) (Fbegin : Int32) (Ftoken : Int32) (Fword : Int64) (Ftold : Int32) (Fwrong : Int32) (Fcode : Int32) (Fat : Int32) (Fway : Int32) (Fnext : Int32) (FisEnd : Int32) (FisFallen : Int32) (Fwritten : Int32) (Fmade : Int32) (Fstate : Int32) (FhandNext : Int32) (FhandSteps : Int32) (FhandWritten : Int32) (FmarkAt : Int32) (x0 : Int32)  (Φ : (Nat → Int32) → (Nat → Int32) → (Nat → Int32) → (Nat → Int32) → (Nat → Int32) → Prop)
    (kR36 : ∀ (AkeptBy : Nat → Int32) (Aagainst : Nat → Int32) (Asum : Nat → Int32) (AsumBy : Nat → Int32) (AtermBy : Nat → Int32) (H : Heap) (locs : List Loc) (ls : Array Slot), Φ AkeptBy Aagainst Asum AsumBy AtermBy → va_P D vwCl (wW_X8_opens ak ad h am Fthrown Ftaped Fsize Fplace Fbegin Ftoken Fword Ftold Fwrong Fcode Fat Fway Fnext FisEnd FisFallen Fwritten Fmade Fstate FhandNext FhandSteps FhandWritten FmarkAt AkeptBy Aagainst Asum AsumBy AtermBy) H → va_D A (wW_X8_opens ak ad h am Fthrown Ftaped Fsize Fplace Fbegin Ftoken Fword Ftold Fwrong Fcode Fat Fway Fnext FisEnd FisFallen Fwritten Fmade Fstate FhandNext FhandSteps FhandWritten FmarkAt AkeptBy Aagainst Asum AsumBy AtermBy) → va_S A s.heap H locs → W p l e R s m args below meth c H locs cells slots Q (F0 m 36 ls []))
    : ∀ (AkeptBy : Nat → Int32) (Aagainst : Nat → Int32) (Asum : Nat → Int32) (AsumBy : Nat → Int32) (AtermBy : Nat → Int32) (H : Heap) (locs : List Loc) (ls : Array Slot), wp_X8_opens x0 AkeptBy Aagainst Asum AsumBy AtermBy Φ → va_P D vwCl (wW_X8_opens ak ad h am Fthrown Ftaped Fsize Fplace Fbegin Ftoken Fword Ftold Fwrong Fcode Fat Fway Fnext FisEnd FisFallen Fwritten Fmade Fstate FhandNext FhandSteps FhandWritten FmarkAt AkeptBy Aagainst Asum AsumBy AtermBy) H → va_D A (wW_X8_opens ak ad h am Fthrown Ftaped Fsize Fplace Fbegin Ftoken Fword Ftold Fwrong Fcode Fat Fway Fnext FisEnd FisFallen Fwritten Fmade Fstate FhandNext FhandSteps FhandWritten FmarkAt AkeptBy Aagainst Asum AsumBy AtermBy) → va_S A s.heap H locs → lv_has ls 2 [(0, .ref h), (1, .int (x0))] → W p l e R s m args below meth c H locs cells slots Q (F0 m 0 ls ([])) := by
  intro AkeptBy Aagainst Asum AsumBy AtermBy H locs ls hw hP hD hS hl
  delta wp_X8_opens at hw
  refine lv_aload_n hx hb dX8_opens_0 rfl (lv_at hl 0 rfl) ?_
  refine va_get (D := D) (ci := 7) (v := .ref (am 23)) (C := RX8) (T := TX8) (N := 69) hx hb hts (fun w h => wm_c (wc_X8 w h)) hown hE.1 hP 0 rfl rfl 33 (by decide) (hts (.fieldLink RX8 81 "WornLinesModel" "keptBy" "[I") (wm_c hw_67)) (fun _ h9 => h9) rfl dX8_opens_1 ?_
  refine lv_iload_n hx hb dX8_opens_4 rfl (lv_at hl 1 rfl) ?_
  refine lv_iconst (v := 0) hx hb dX8_opens_5 (by decide) ?_
  obtain ⟨h_1, hw⟩ := hw
  refine va_iast hx hb hE.1 hP hD hS 1 0 rfl rfl (h_1) dX8_opens_6 (fun H locs hP hD hS => ?_)
  have hP : va_P D vwCl (wW_X8_opens ak ad h am Fthrown Ftaped Fsize Fplace Fbegin Ftoken Fword Ftold Fwrong Fcode Fat Fway Fnext FisEnd FisFallen Fwritten Fmade Fstate FhandNext FhandSteps FhandWritten FmarkAt (upd AkeptBy (x0).toNatClampNeg 0) Aagainst Asum AsumBy AtermBy) H := hP
  have hD : va_D A (wW_X8_opens ak ad h am Fthrown Ftaped Fsize Fplace Fbegin Ftoken Fword Ftold Fwrong Fcode Fat Fway Fnext FisEnd FisFallen Fwritten Fmade Fstate FhandNext FhandSteps FhandWritten FmarkAt (upd AkeptBy (x0).toNatClampNeg 0) Aagainst Asum AsumBy AtermBy) := hD
  refine lv_aload_n hx hb dX8_opens_7 rfl (lv_at hl 0 rfl) ?_
  refine va_get (D := D) (ci := 7) (v := .ref (am 25)) (C := RX8) (T := TX8) (N := 69) hx hb hts (fun w h => wm_c (wc_X8 w h)) hown hE.1 hP 0 rfl rfl 35 (by decide) (hts (.fieldLink RX8 87 "WornLinesModel" "against" "[I") (wm_c hw_68)) (fun _ h9 => h9) rfl dX8_opens_8 ?_
  refine lv_iload_n hx hb dX8_opens_11 rfl (lv_at hl 1 rfl) ?_
  refine lv_iconst (v := 0) hx hb dX8_opens_12 (by decide) ?_
  obtain ⟨h_2, hw⟩ := hw
  refine va_iast hx hb hE.1 hP hD hS 2 0 rfl rfl (h_2) dX8_opens_13 (fun H locs hP hD hS => ?_)
  have hP : va_P D vwCl (wW_X8_opens ak ad h am Fthrown Ftaped Fsize Fplace Fbegin Ftoken Fword Ftold Fwrong Fcode Fat Fway Fnext FisEnd FisFallen Fwritten Fmade Fstate FhandNext FhandSteps FhandWritten FmarkAt (upd AkeptBy (x0).toNatClampNeg 0) (upd Aagainst (x0).toNatClampNeg 0) Asum AsumBy AtermBy) H := hP
  have hD : va_D A (wW_X8_opens ak ad h am Fthrown Ftaped Fsize Fplace Fbegin Ftoken Fword Ftold Fwrong Fcode Fat Fway Fnext FisEnd FisFallen Fwritten Fmade Fstate FhandNext FhandSteps FhandWritten FmarkAt (upd AkeptBy (x0).toNatClampNeg 0) (upd Aagainst (x0).toNatClampNeg 0) Asum AsumBy AtermBy) := hD
  refine lv_aload_n hx hb dX8_opens_14 rfl (lv_at hl 0 rfl) ?_
  refine va_get (D := D) (ci := 7) (v := .ref (am 26)) (C := RX8) (T := TX8) (N := 69) hx hb hts (fun w h => wm_c (wc_X8 w h)) hown hE.1 hP 0 rfl rfl 36 (by decide) (hts (.fieldLink RX8 90 "WornLinesModel" "sum" "[I") (wm_c hw_69)) (fun _ h9 => h9) rfl dX8_opens_15 ?_
  refine lv_iload_n hx hb dX8_opens_18 rfl (lv_at hl 1 rfl) ?_
  refine lv_iconst (v := 0) hx hb dX8_opens_19 (by decide) ?_
  obtain ⟨h_3, hw⟩ := hw
  refine va_iast hx hb hE.1 hP hD hS 3 0 rfl rfl (h_3) dX8_opens_20 (fun H locs hP hD hS => ?_)
  have hP : va_P D vwCl (wW_X8_opens ak ad h am Fthrown Ftaped Fsize Fplace Fbegin Ftoken Fword Ftold Fwrong Fcode Fat Fway Fnext FisEnd FisFallen Fwritten Fmade Fstate FhandNext FhandSteps FhandWritten FmarkAt (upd AkeptBy (x0).toNatClampNeg 0) (upd Aagainst (x0).toNatClampNeg 0) (upd Asum (x0).toNatClampNeg 0) AsumBy AtermBy) H := hP
  have hD : va_D A (wW_X8_opens ak ad h am Fthrown Ftaped Fsize Fplace Fbegin Ftoken Fword Ftold Fwrong Fcode Fat Fway Fnext FisEnd FisFallen Fwritten Fmade Fstate FhandNext FhandSteps FhandWritten FmarkAt (upd AkeptBy (x0).toNatClampNeg 0) (upd Aagainst (x0).toNatClampNeg 0) (upd Asum (x0).toNatClampNeg 0) AsumBy AtermBy) := hD
  refine lv_aload_n hx hb dX8_opens_21 rfl (lv_at hl 0 rfl) ?_
  refine va_get (D := D) (ci := 7) (v := .ref (am 27)) (C := RX8) (T := TX8) (N := 69) hx hb hts (fun w h => wm_c (wc_X8 w h)) hown hE.1 hP 0 rfl rfl 37 (by decide) (hts (.fieldLink RX8 93 "WornLinesModel" "sumBy" "[I") (wm_c hw_70)) (fun _ h9 => h9) rfl dX8_opens_22 ?_
  refine lv_iload_n hx hb dX8_opens_25 rfl (lv_at hl 1 rfl) ?_
  refine lv_bipush (v := 20) hx hb dX8_opens_26 (by decide) ?_
  obtain ⟨h_4, hw⟩ := hw
  refine va_iast hx hb hE.1 hP hD hS 4 0 rfl rfl (h_4) dX8_opens_28 (fun H locs hP hD hS => ?_)
  have hP : va_P D vwCl (wW_X8_opens ak ad h am Fthrown Ftaped Fsize Fplace Fbegin Ftoken Fword Ftold Fwrong Fcode Fat Fway Fnext FisEnd FisFallen Fwritten Fmade Fstate FhandNext FhandSteps FhandWritten FmarkAt (upd AkeptBy (x0).toNatClampNeg 0) (upd Aagainst (x0).toNatClampNeg 0) (upd Asum (x0).toNatClampNeg 0) (upd AsumBy (x0).toNatClampNeg 20) AtermBy) H := hP
  have hD : va_D A (wW_X8_opens ak ad h am Fthrown Ftaped Fsize Fplace Fbegin Ftoken Fword Ftold Fwrong Fcode Fat Fway Fnext FisEnd FisFallen Fwritten Fmade Fstate FhandNext FhandSteps FhandWritten FmarkAt (upd AkeptBy (x0).toNatClampNeg 0) (upd Aagainst (x0).toNatClampNeg 0) (upd Asum (x0).toNatClampNeg 0) (upd AsumBy (x0).toNatClampNeg 20) AtermBy) := hD
  refine lv_aload_n hx hb dX8_opens_29 rfl (lv_at hl 0 rfl) ?_
  refine va_get (D := D) (ci := 7) (v := .ref (am 29)) (C := RX8) (T := TX8) (N := 69) hx hb hts (fun w h => wm_c (wc_X8 w h)) hown hE.1 hP 0 rfl rfl 39 (by decide) (hts (.fieldLink RX8 99 "WornLinesModel" "termBy" "[I") (wm_c hw_71)) (fun _ h9 => h9) rfl dX8_opens_30 ?_
  refine lv_iload_n hx hb dX8_opens_33 rfl (lv_at hl 1 rfl) ?_
  refine lv_iconst (v := 0) hx hb dX8_opens_34 (by decide) ?_
  obtain ⟨h_5, hw⟩ := hw
  refine va_iast hx hb hE.1 hP hD hS 5 0 rfl rfl (h_5) dX8_opens_35 (fun H locs hP hD hS => ?_)
  have hP : va_P D vwCl (wW_X8_opens ak ad h am Fthrown Ftaped Fsize Fplace Fbegin Ftoken Fword Ftold Fwrong Fcode Fat Fway Fnext FisEnd FisFallen Fwritten Fmade Fstate FhandNext FhandSteps FhandWritten FmarkAt (upd AkeptBy (x0).toNatClampNeg 0) (upd Aagainst (x0).toNatClampNeg 0) (upd Asum (x0).toNatClampNeg 0) (upd AsumBy (x0).toNatClampNeg 20) (upd AtermBy (x0).toNatClampNeg 0)) H := hP
  have hD : va_D A (wW_X8_opens ak ad h am Fthrown Ftaped Fsize Fplace Fbegin Ftoken Fword Ftold Fwrong Fcode Fat Fway Fnext FisEnd FisFallen Fwritten Fmade Fstate FhandNext FhandSteps FhandWritten FmarkAt (upd AkeptBy (x0).toNatClampNeg 0) (upd Aagainst (x0).toNatClampNeg 0) (upd Asum (x0).toNatClampNeg 0) (upd AsumBy (x0).toNatClampNeg 20) (upd AtermBy (x0).toNatClampNeg 0)) := hD
  exact kR36 (upd AkeptBy (x0).toNatClampNeg 0) (upd Aagainst (x0).toNatClampNeg 0) (upd Asum (x0).toNatClampNeg 0) (upd AsumBy (x0).toNatClampNeg 20) (upd AtermBy (x0).toNatClampNeg 0) _ _ _ hw hP hD hS
set_option maxHeartbeats 4000000 in
set_option maxRecDepth 100000 in
theorem c_X8_opens (l : Launch) (D : va_G) (ak : Nat → ClassId) (ad : Nat → Nat) (sz : Nat) (h : Nat) (am : Nat → Nat) (Fthrown : Int32) (Ftaped : Int32) (Fsize : Int32) (Fplace : Int32) (Fbegin : Int32) (Ftoken : Int32) (Fword : Int64) (Ftold : Int32) (Fwrong : Int32) (Fcode : Int32) (Fat : Int32) (Fway : Int32) (Fnext : Int32) (FisEnd : Int32) (FisFallen : Int32) (Fwritten : Int32) (Fmade : Int32) (Fstate : Int32) (FhandNext : Int32) (FhandSteps : Int32) (FhandWritten : Int32) (FmarkAt : Int32) (AkeptBy : Nat → Int32) (Aagainst : Nat → Int32) (Asum : Nat → Int32) (AsumBy : Nat → Int32) (AtermBy : Nat → Int32) (x0 : Int32) (Φ : (Nat → Int32) → (Nat → Int32) → (Nat → Int32) → (Nat → Int32) → (Nat → Int32) → Prop) (hf : wp_X8_opens x0 AkeptBy Aagainst Asum AsumBy AtermBy Φ) : Met l yX8_opens wsX8_opens ({ frames := 0, cells := 0, slots := 0, locals := 0 }) (cPre D ak ad [.ref h, .int (x0)] ((wW_X8_opens ak ad h am Fthrown Ftaped Fsize Fplace Fbegin Ftoken Fword Ftold Fwrong Fcode Fat Fway Fnext FisEnd FisFallen Fwritten Fmade Fstate FhandNext FhandSteps FhandWritten FmarkAt AkeptBy Aagainst Asum AsumBy AtermBy)) sz) (cV D (S := (Nat → Int32) × (Nat → Int32) × (Nat → Int32) × (Nat → Int32) × (Nat → Int32)) (fun (u : (Nat → Int32) × (Nat → Int32) × (Nat → Int32) × (Nat → Int32) × (Nat → Int32)) => Φ u.1 u.2.1 u.2.2.1 u.2.2.2.1 u.2.2.2.2) (fun u => (wW_X8_opens ak ad h am Fthrown Ftaped Fsize Fplace Fbegin Ftoken Fword Ftold Fwrong Fcode Fat Fway Fnext FisEnd FisFallen Fwritten Fmade Fstate FhandNext FhandSteps FhandWritten FmarkAt u.1 u.2.1 u.2.2.1 u.2.2.2.1 u.2.2.2.2)) ((wW_X8_opens ak ad h am Fthrown Ftaped Fsize Fplace Fbegin Ftoken Fword Ftold Fwrong Fcode Fat Fway Fnext FisEnd FisFallen Fwritten Fmade Fstate FhandNext FhandSteps FhandWritten FmarkAt AkeptBy Aagainst Asum AsumBy AtermBy)) sz) 0 0 (va_A ((wW_X8_opens ak ad h am Fthrown Ftaped Fsize Fplace Fbegin Ftoken Fword Ftold Fwrong Fcode Fat Fway Fnext FisEnd FisFallen Fwritten Fmade Fstate FhandNext FhandSteps FhandWritten FmarkAt AkeptBy Aagainst Asum AsumBy AtermBy)) sz) := by
  refine Met.ofW (cc := cX8_opens) (maxL := 2) (ret := none) (by decide) rfl ?_
  intro p e s m args below meth c s₁ B hml hv
  obtain ⟨rfl, hsz, hP, hE, hD0, hT⟩ := hv
  have hx := B.exec
  have hb := B.bytes
  have hr := B.returns
  have hts := atoms_spec (ws := wsX8_opens) B.pre
  have hown : s.vm.findClass RX8 = some m.cls := findClass_of_methodNamed B.named
  have hlocks := B.notSynchronized
  subst hsz
  have hD := hD0.self (sz := s.heap.size)
  generalize hAe : va_A ((wW_X8_opens ak ad h am Fthrown Ftaped Fsize Fplace Fbegin Ftoken Fword Ftold Fwrong Fcode Fat Fway Fnext FisEnd FisFallen Fwritten Fmade Fstate FhandNext FhandSteps FhandWritten FmarkAt AkeptBy Aagainst Asum AsumBy AtermBy)) s.heap.size = A at hD hT ⊢
  have hA : ∀ q : Nat, s.heap.size ≤ q → A q := fun q h => by rw [← hAe]; exact Or.inr h
  have hS : va_S A s.heap s.heap [] := va_S.rf
  have hl := lv_entry ([.ref h, .int (x0)]) (n := 2) (Nat.le_of_ble_eq_true rfl)
  rw [lg_entry_eq]
  generalize (lg_sl ([.ref h, .int (x0)]) ++ List.replicate (2 - (lg_sl ([.ref h, .int (x0)])).length) Slot.unset).toArray = ls at hl ⊢
  have hl : lv_has ls 2 [(0, .ref h), (1, .int (x0))] := hl
  exact kj_X8_opens_e hx hb hown hts hml hE hT hA h am Fthrown Ftaped Fsize Fplace Fbegin Ftoken Fword Ftold Fwrong Fcode Fat Fway Fnext FisEnd FisFallen Fwritten Fmade Fstate FhandNext FhandSteps FhandWritten FmarkAt x0 Φ (fun AkeptBy Aagainst Asum AsumBy AtermBy H locs ls hw hP hD hS => W.vret hx hb hr (fun t ht hW => ⟨⟨(AkeptBy, Aagainst, Asum, AsumBy, AtermBy), rfl, hw, by rw [ht]; exact hP, by rw [hAe]; exact hD⟩, by rw [hAe]; exact hS.F ht⟩) hS.2.2 dX8_opens_36) AkeptBy Aagainst Asum AsumBy AtermBy _ _ _ hf hP hD hS hl

def wW_X8_sums (ak : Nat → ClassId) (ad : Nat → Nat) (h : Nat) (am : Nat → Nat) (Fthrown : Int32) (Ftaped : Int32) (Fsize : Int32) (Fplace : Int32) (Fbegin : Int32) (Ftoken : Int32) (Fword : Int64) (Ftold : Int32) (Fwrong : Int32) (Fcode : Int32) (Fat : Int32) (Fway : Int32) (Fnext : Int32) (FisEnd : Int32) (FisFallen : Int32) (Fwritten : Int32) (Fmade : Int32) (Fstate : Int32) (FhandNext : Int32) (FhandSteps : Int32) (FhandWritten : Int32) (FmarkAt : Int32) (Asum : Nat → Int32) (AsumBy : Nat → Int32) (Aterm : Nat → Int32) (AtermBy : Nat → Int32) : va_W := [(h, .inr (7, mob am (Fthrown) (Ftaped) (Fsize) (Fplace) (Fbegin) (Ftoken) (Fword) (Ftold) (Fwrong) (Fcode) (Fat) (Fway) (Fnext) (FisEnd) (FisFallen) (Fwritten) (Fmade) (Fstate) (FhandNext) (FhandSteps) (FhandWritten) (FmarkAt))), ((am 26), .inl (ak 0, 7, .inl (Asum))), ((am 27), .inl (ak 0, 7, .inl (AsumBy))), ((am 28), .inl (ak 0, 7, .inl (Aterm))), ((am 29), .inl (ak 0, 7, .inl (AtermBy)))]
def wp_X8_sums (AsumBy : Nat → Int32) (Aterm : Nat → Int32) (x0 : Int32) (Asum : Nat → Int32) (AtermBy : Nat → Int32) (Φ : (Nat → Int32) → (Nat → Int32) → Prop) : Prop := vp_in x0 7 ∧ (¬ (AsumBy (x0).toNatClampNeg) = 21 → vp_in x0 7 ∧ vp_in x0 7 ∧ vp_in x0 7 ∧ vp_in x0 7 ∧ Φ (upd Asum (x0).toNatClampNeg (((Asum (x0).toNatClampNeg) + (Aterm (x0).toNatClampNeg)))) (upd AtermBy (x0).toNatClampNeg 0)) ∧ ((AsumBy (x0).toNatClampNeg) = 21 → vp_in x0 7 ∧ vp_in x0 7 ∧ vp_in x0 7 ∧ vp_in x0 7 ∧ Φ (upd Asum (x0).toNatClampNeg (((Asum (x0).toNatClampNeg) - (Aterm (x0).toNatClampNeg)))) (upd AtermBy (x0).toNatClampNeg 0))
set_option maxHeartbeats 4000000 in
set_option maxRecDepth 100000 in
theorem kj_X8_sums_e {p : Program} {l : Launch} {e : Env} {R : Room} {s : State} {m : MethodId} {args : Array Value} {below : List Frame} {meth : Method} {c : Code} {cells slots : Nat} {Q : State → Prop} {A : Nat → Prop} {D : va_G} {ak : Nat → ClassId} {ad : Nat → Nat} (hx : p.tables.exec = Jvm.exec) (hb : c.code = cX8_sums) (hown : s.vm.findClass RX8 = some m.cls) (hts : ∀ w ∈ wsX8_sums, w.before args s = true) (hml : c.maxLocals = 2) (hE : EV D ak s) (hT : ST D ak ad A s s.heap) (hA : ∀ q, s.heap.size ≤ q → A q) (h : Nat) (am : Nat → Nat) (Fthrown : Int32) (Ftaped : Int32) (Fsize : Int32) (Fplace : Int32) (Fbegin : Int32) (Ftoken : Int32) (Fword : Int64) (Ftold : Int32) (Fwrong : Int32) (Fcode : Int32) (Fat : Int32) (Fway : Int32) (Fnext : Int32) (FisEnd : Int32) (FisFallen : Int32) (Fwritten : Int32) (Fmade : Int32) (Fstate : Int32) (FhandNext : Int32) (FhandSteps : Int32) (FhandWritten : Int32) (FmarkAt : Int32) (AsumBy : Nat → Int32) (Aterm : Nat → Int32) (x0 : Int32)  (Φ : (Nat → Int32) → (Nat → Int32) → Prop)
    (kR53 : ∀ (Asum : Nat → Int32) (AtermBy : Nat → Int32) (H : Heap) (locs : List Loc) (ls : Array Slot), Φ Asum AtermBy → va_P D vwCl (wW_X8_sums ak ad h am Fthrown Ftaped Fsize Fplace Fbegin Ftoken Fword Ftold Fwrong Fcode Fat Fway Fnext FisEnd FisFallen Fwritten Fmade Fstate FhandNext FhandSteps FhandWritten FmarkAt Asum AsumBy Aterm AtermBy) H → va_D A (wW_X8_sums ak ad h am Fthrown Ftaped Fsize Fplace Fbegin Ftoken Fword Ftold Fwrong Fcode Fat Fway Fnext FisEnd FisFallen Fwritten Fmade Fstate FhandNext FhandSteps FhandWritten FmarkAt Asum AsumBy Aterm AtermBy) → va_S A s.heap H locs → W p l e R s m args below meth c H locs cells slots Q (F0 m 53 ls []))
    : ∀ (Asum : Nat → Int32) (AtermBy : Nat → Int32) (H : Heap) (locs : List Loc) (ls : Array Slot), wp_X8_sums AsumBy Aterm x0 Asum AtermBy Φ → va_P D vwCl (wW_X8_sums ak ad h am Fthrown Ftaped Fsize Fplace Fbegin Ftoken Fword Ftold Fwrong Fcode Fat Fway Fnext FisEnd FisFallen Fwritten Fmade Fstate FhandNext FhandSteps FhandWritten FmarkAt Asum AsumBy Aterm AtermBy) H → va_D A (wW_X8_sums ak ad h am Fthrown Ftaped Fsize Fplace Fbegin Ftoken Fword Ftold Fwrong Fcode Fat Fway Fnext FisEnd FisFallen Fwritten Fmade Fstate FhandNext FhandSteps FhandWritten FmarkAt Asum AsumBy Aterm AtermBy) → va_S A s.heap H locs → lv_has ls 2 [(0, .ref h), (1, .int (x0))] → W p l e R s m args below meth c H locs cells slots Q (F0 m 0 ls ([])) := by
  intro Asum AtermBy H locs ls hw hP hD hS hl
  delta wp_X8_sums at hw
  refine lv_aload_n hx hb dX8_sums_0 rfl (lv_at hl 0 rfl) ?_
  refine va_get (D := D) (ci := 7) (v := .ref (am 26)) (C := RX8) (T := TX8) (N := 69) hx hb hts (fun w h => wm_c (wc_X8 w h)) hown hE.1 hP 0 rfl rfl 36 (by decide) (hts (.fieldLink RX8 90 "WornLinesModel" "sum" "[I") (wm_c hw_69)) (fun _ h9 => h9) rfl dX8_sums_1 ?_
  refine lv_iload_n hx hb dX8_sums_4 rfl (lv_at hl 1 rfl) ?_
  refine lv_aload_n hx hb dX8_sums_5 rfl (lv_at hl 0 rfl) ?_
  refine va_get (D := D) (ci := 7) (v := .ref (am 27)) (C := RX8) (T := TX8) (N := 69) hx hb hts (fun w h => wm_c (wc_X8 w h)) hown hE.1 hP 0 rfl rfl 37 (by decide) (hts (.fieldLink RX8 93 "WornLinesModel" "sumBy" "[I") (wm_c hw_70)) (fun _ h9 => h9) rfl dX8_sums_6 ?_
  refine lv_iload_n hx hb dX8_sums_9 rfl (lv_at hl 1 rfl) ?_
  obtain ⟨h_1, hw⟩ := hw
  refine va_iald hx hb hE.1 hP 2 0 rfl rfl (h_1) dX8_sums_10 ?_
  refine lv_bipush (v := 21) hx hb dX8_sums_11 (by decide) ?_
  refine lv_icmp_ne (tgt := 32) hx hb dX8_sums_13 (by decide) (fun c_2 => ?_) (fun c_2 => ?_)
  · replace hw := hw.1 c_2
    refine lv_aload_n hx hb dX8_sums_32 rfl (lv_at hl 0 rfl) ?_
    refine va_get (D := D) (ci := 7) (v := .ref (am 26)) (C := RX8) (T := TX8) (N := 69) hx hb hts (fun w h => wm_c (wc_X8 w h)) hown hE.1 hP 0 rfl rfl 36 (by decide) (hts (.fieldLink RX8 90 "WornLinesModel" "sum" "[I") (wm_c hw_69)) (fun _ h9 => h9) rfl dX8_sums_33 ?_
    refine lv_iload_n hx hb dX8_sums_36 rfl (lv_at hl 1 rfl) ?_
    obtain ⟨h_3, hw⟩ := hw
    refine va_iald hx hb hE.1 hP 1 0 rfl rfl (h_3) dX8_sums_37 ?_
    refine lv_aload_n hx hb dX8_sums_38 rfl (lv_at hl 0 rfl) ?_
    refine va_get (D := D) (ci := 7) (v := .ref (am 28)) (C := RX8) (T := TX8) (N := 69) hx hb hts (fun w h => wm_c (wc_X8 w h)) hown hE.1 hP 0 rfl rfl 38 (by decide) (hts (.fieldLink RX8 96 "WornLinesModel" "term" "[I") (wm_c hw_72)) (fun _ h9 => h9) rfl dX8_sums_39 ?_
    refine lv_iload_n hx hb dX8_sums_42 rfl (lv_at hl 1 rfl) ?_
    obtain ⟨h_4, hw⟩ := hw
    refine va_iald hx hb hE.1 hP 3 0 rfl rfl (h_4) dX8_sums_43 ?_
    refine lv_iadd hx hb dX8_sums_44 ?_
    obtain ⟨h_5, hw⟩ := hw
    refine va_iast hx hb hE.1 hP hD hS 1 0 rfl rfl (h_5) dX8_sums_45 (fun H locs hP hD hS => ?_)
    have hP : va_P D vwCl (wW_X8_sums ak ad h am Fthrown Ftaped Fsize Fplace Fbegin Ftoken Fword Ftold Fwrong Fcode Fat Fway Fnext FisEnd FisFallen Fwritten Fmade Fstate FhandNext FhandSteps FhandWritten FmarkAt (upd Asum (x0).toNatClampNeg (((Asum (x0).toNatClampNeg) + (Aterm (x0).toNatClampNeg)))) AsumBy Aterm AtermBy) H := hP
    have hD : va_D A (wW_X8_sums ak ad h am Fthrown Ftaped Fsize Fplace Fbegin Ftoken Fword Ftold Fwrong Fcode Fat Fway Fnext FisEnd FisFallen Fwritten Fmade Fstate FhandNext FhandSteps FhandWritten FmarkAt (upd Asum (x0).toNatClampNeg (((Asum (x0).toNatClampNeg) + (Aterm (x0).toNatClampNeg)))) AsumBy Aterm AtermBy) := hD
    refine lv_aload_n hx hb dX8_sums_46 rfl (lv_at hl 0 rfl) ?_
    refine va_get (D := D) (ci := 7) (v := .ref (am 29)) (C := RX8) (T := TX8) (N := 69) hx hb hts (fun w h => wm_c (wc_X8 w h)) hown hE.1 hP 0 rfl rfl 39 (by decide) (hts (.fieldLink RX8 99 "WornLinesModel" "termBy" "[I") (wm_c hw_71)) (fun _ h9 => h9) rfl dX8_sums_47 ?_
    refine lv_iload_n hx hb dX8_sums_50 rfl (lv_at hl 1 rfl) ?_
    refine lv_iconst (v := 0) hx hb dX8_sums_51 (by decide) ?_
    obtain ⟨h_6, hw⟩ := hw
    refine va_iast hx hb hE.1 hP hD hS 4 0 rfl rfl (h_6) dX8_sums_52 (fun H locs hP hD hS => ?_)
    have hP : va_P D vwCl (wW_X8_sums ak ad h am Fthrown Ftaped Fsize Fplace Fbegin Ftoken Fword Ftold Fwrong Fcode Fat Fway Fnext FisEnd FisFallen Fwritten Fmade Fstate FhandNext FhandSteps FhandWritten FmarkAt (upd Asum (x0).toNatClampNeg (((Asum (x0).toNatClampNeg) + (Aterm (x0).toNatClampNeg)))) AsumBy Aterm (upd AtermBy (x0).toNatClampNeg 0)) H := hP
    have hD : va_D A (wW_X8_sums ak ad h am Fthrown Ftaped Fsize Fplace Fbegin Ftoken Fword Ftold Fwrong Fcode Fat Fway Fnext FisEnd FisFallen Fwritten Fmade Fstate FhandNext FhandSteps FhandWritten FmarkAt (upd Asum (x0).toNatClampNeg (((Asum (x0).toNatClampNeg) + (Aterm (x0).toNatClampNeg)))) AsumBy Aterm (upd AtermBy (x0).toNatClampNeg 0)) := hD
    exact kR53 (upd Asum (x0).toNatClampNeg (((Asum (x0).toNatClampNeg) + (Aterm (x0).toNatClampNeg)))) (upd AtermBy (x0).toNatClampNeg 0) _ _ _ hw hP hD hS
  · replace hw := hw.2 c_2
    refine lv_aload_n hx hb dX8_sums_16 rfl (lv_at hl 0 rfl) ?_
    refine va_get (D := D) (ci := 7) (v := .ref (am 26)) (C := RX8) (T := TX8) (N := 69) hx hb hts (fun w h => wm_c (wc_X8 w h)) hown hE.1 hP 0 rfl rfl 36 (by decide) (hts (.fieldLink RX8 90 "WornLinesModel" "sum" "[I") (wm_c hw_69)) (fun _ h9 => h9) rfl dX8_sums_17 ?_
    refine lv_iload_n hx hb dX8_sums_20 rfl (lv_at hl 1 rfl) ?_
    obtain ⟨h_7, hw⟩ := hw
    refine va_iald hx hb hE.1 hP 1 0 rfl rfl (h_7) dX8_sums_21 ?_
    refine lv_aload_n hx hb dX8_sums_22 rfl (lv_at hl 0 rfl) ?_
    refine va_get (D := D) (ci := 7) (v := .ref (am 28)) (C := RX8) (T := TX8) (N := 69) hx hb hts (fun w h => wm_c (wc_X8 w h)) hown hE.1 hP 0 rfl rfl 38 (by decide) (hts (.fieldLink RX8 96 "WornLinesModel" "term" "[I") (wm_c hw_72)) (fun _ h9 => h9) rfl dX8_sums_23 ?_
    refine lv_iload_n hx hb dX8_sums_26 rfl (lv_at hl 1 rfl) ?_
    obtain ⟨h_8, hw⟩ := hw
    refine va_iald hx hb hE.1 hP 3 0 rfl rfl (h_8) dX8_sums_27 ?_
    refine lv_isub hx hb dX8_sums_28 ?_
    refine lv_goto (tgt := 45) hx hb dX8_sums_29 (by decide) ?_
    obtain ⟨h_9, hw⟩ := hw
    refine va_iast hx hb hE.1 hP hD hS 1 0 rfl rfl (h_9) dX8_sums_45 (fun H locs hP hD hS => ?_)
    have hP : va_P D vwCl (wW_X8_sums ak ad h am Fthrown Ftaped Fsize Fplace Fbegin Ftoken Fword Ftold Fwrong Fcode Fat Fway Fnext FisEnd FisFallen Fwritten Fmade Fstate FhandNext FhandSteps FhandWritten FmarkAt (upd Asum (x0).toNatClampNeg (((Asum (x0).toNatClampNeg) - (Aterm (x0).toNatClampNeg)))) AsumBy Aterm AtermBy) H := hP
    have hD : va_D A (wW_X8_sums ak ad h am Fthrown Ftaped Fsize Fplace Fbegin Ftoken Fword Ftold Fwrong Fcode Fat Fway Fnext FisEnd FisFallen Fwritten Fmade Fstate FhandNext FhandSteps FhandWritten FmarkAt (upd Asum (x0).toNatClampNeg (((Asum (x0).toNatClampNeg) - (Aterm (x0).toNatClampNeg)))) AsumBy Aterm AtermBy) := hD
    refine lv_aload_n hx hb dX8_sums_46 rfl (lv_at hl 0 rfl) ?_
    refine va_get (D := D) (ci := 7) (v := .ref (am 29)) (C := RX8) (T := TX8) (N := 69) hx hb hts (fun w h => wm_c (wc_X8 w h)) hown hE.1 hP 0 rfl rfl 39 (by decide) (hts (.fieldLink RX8 99 "WornLinesModel" "termBy" "[I") (wm_c hw_71)) (fun _ h9 => h9) rfl dX8_sums_47 ?_
    refine lv_iload_n hx hb dX8_sums_50 rfl (lv_at hl 1 rfl) ?_
    refine lv_iconst (v := 0) hx hb dX8_sums_51 (by decide) ?_
    obtain ⟨h_10, hw⟩ := hw
    refine va_iast hx hb hE.1 hP hD hS 4 0 rfl rfl (h_10) dX8_sums_52 (fun H locs hP hD hS => ?_)
    have hP : va_P D vwCl (wW_X8_sums ak ad h am Fthrown Ftaped Fsize Fplace Fbegin Ftoken Fword Ftold Fwrong Fcode Fat Fway Fnext FisEnd FisFallen Fwritten Fmade Fstate FhandNext FhandSteps FhandWritten FmarkAt (upd Asum (x0).toNatClampNeg (((Asum (x0).toNatClampNeg) - (Aterm (x0).toNatClampNeg)))) AsumBy Aterm (upd AtermBy (x0).toNatClampNeg 0)) H := hP
    have hD : va_D A (wW_X8_sums ak ad h am Fthrown Ftaped Fsize Fplace Fbegin Ftoken Fword Ftold Fwrong Fcode Fat Fway Fnext FisEnd FisFallen Fwritten Fmade Fstate FhandNext FhandSteps FhandWritten FmarkAt (upd Asum (x0).toNatClampNeg (((Asum (x0).toNatClampNeg) - (Aterm (x0).toNatClampNeg)))) AsumBy Aterm (upd AtermBy (x0).toNatClampNeg 0)) := hD
    exact kR53 (upd Asum (x0).toNatClampNeg (((Asum (x0).toNatClampNeg) - (Aterm (x0).toNatClampNeg)))) (upd AtermBy (x0).toNatClampNeg 0) _ _ _ hw hP hD hS
set_option maxHeartbeats 4000000 in
set_option maxRecDepth 100000 in
theorem c_X8_sums (l : Launch) (D : va_G) (ak : Nat → ClassId) (ad : Nat → Nat) (sz : Nat) (h : Nat) (am : Nat → Nat) (Fthrown : Int32) (Ftaped : Int32) (Fsize : Int32) (Fplace : Int32) (Fbegin : Int32) (Ftoken : Int32) (Fword : Int64) (Ftold : Int32) (Fwrong : Int32) (Fcode : Int32) (Fat : Int32) (Fway : Int32) (Fnext : Int32) (FisEnd : Int32) (FisFallen : Int32) (Fwritten : Int32) (Fmade : Int32) (Fstate : Int32) (FhandNext : Int32) (FhandSteps : Int32) (FhandWritten : Int32) (FmarkAt : Int32) (Asum : Nat → Int32) (AsumBy : Nat → Int32) (Aterm : Nat → Int32) (AtermBy : Nat → Int32) (x0 : Int32) (Φ : (Nat → Int32) → (Nat → Int32) → Prop) (hf : wp_X8_sums AsumBy Aterm x0 Asum AtermBy Φ) : Met l yX8_sums wsX8_sums ({ frames := 0, cells := 0, slots := 0, locals := 0 }) (cPre D ak ad [.ref h, .int (x0)] ((wW_X8_sums ak ad h am Fthrown Ftaped Fsize Fplace Fbegin Ftoken Fword Ftold Fwrong Fcode Fat Fway Fnext FisEnd FisFallen Fwritten Fmade Fstate FhandNext FhandSteps FhandWritten FmarkAt Asum AsumBy Aterm AtermBy)) sz) (cV D (S := (Nat → Int32) × (Nat → Int32)) (fun (u : (Nat → Int32) × (Nat → Int32)) => Φ u.1 u.2) (fun u => (wW_X8_sums ak ad h am Fthrown Ftaped Fsize Fplace Fbegin Ftoken Fword Ftold Fwrong Fcode Fat Fway Fnext FisEnd FisFallen Fwritten Fmade Fstate FhandNext FhandSteps FhandWritten FmarkAt u.1 AsumBy Aterm u.2)) ((wW_X8_sums ak ad h am Fthrown Ftaped Fsize Fplace Fbegin Ftoken Fword Ftold Fwrong Fcode Fat Fway Fnext FisEnd FisFallen Fwritten Fmade Fstate FhandNext FhandSteps FhandWritten FmarkAt Asum AsumBy Aterm AtermBy)) sz) 0 0 (va_A ((wW_X8_sums ak ad h am Fthrown Ftaped Fsize Fplace Fbegin Ftoken Fword Ftold Fwrong Fcode Fat Fway Fnext FisEnd FisFallen Fwritten Fmade Fstate FhandNext FhandSteps FhandWritten FmarkAt Asum AsumBy Aterm AtermBy)) sz) := by
  refine Met.ofW (cc := cX8_sums) (maxL := 2) (ret := none) (by decide) rfl ?_
  intro p e s m args below meth c s₁ B hml hv
  obtain ⟨rfl, hsz, hP, hE, hD0, hT⟩ := hv
  have hx := B.exec
  have hb := B.bytes
  have hr := B.returns
  have hts := atoms_spec (ws := wsX8_sums) B.pre
  have hown : s.vm.findClass RX8 = some m.cls := findClass_of_methodNamed B.named
  have hlocks := B.notSynchronized
  subst hsz
  have hD := hD0.self (sz := s.heap.size)
  generalize hAe : va_A ((wW_X8_sums ak ad h am Fthrown Ftaped Fsize Fplace Fbegin Ftoken Fword Ftold Fwrong Fcode Fat Fway Fnext FisEnd FisFallen Fwritten Fmade Fstate FhandNext FhandSteps FhandWritten FmarkAt Asum AsumBy Aterm AtermBy)) s.heap.size = A at hD hT ⊢
  have hA : ∀ q : Nat, s.heap.size ≤ q → A q := fun q h => by rw [← hAe]; exact Or.inr h
  have hS : va_S A s.heap s.heap [] := va_S.rf
  have hl := lv_entry ([.ref h, .int (x0)]) (n := 2) (Nat.le_of_ble_eq_true rfl)
  rw [lg_entry_eq]
  generalize (lg_sl ([.ref h, .int (x0)]) ++ List.replicate (2 - (lg_sl ([.ref h, .int (x0)])).length) Slot.unset).toArray = ls at hl ⊢
  have hl : lv_has ls 2 [(0, .ref h), (1, .int (x0))] := hl
  exact kj_X8_sums_e hx hb hown hts hml hE hT hA h am Fthrown Ftaped Fsize Fplace Fbegin Ftoken Fword Ftold Fwrong Fcode Fat Fway Fnext FisEnd FisFallen Fwritten Fmade Fstate FhandNext FhandSteps FhandWritten FmarkAt AsumBy Aterm x0 Φ (fun Asum AtermBy H locs ls hw hP hD hS => W.vret hx hb hr (fun t ht hW => ⟨⟨(Asum, AtermBy), rfl, hw, by rw [ht]; exact hP, by rw [hAe]; exact hD⟩, by rw [hAe]; exact hS.F ht⟩) hS.2.2 dX8_sums_53) Asum AtermBy _ _ _ hf hP hD hS hl

def wW_X8_tests (ak : Nat → ClassId) (ad : Nat → Nat) (h : Nat) (am : Nat → Nat) (Fthrown : Int32) (Ftaped : Int32) (Fsize : Int32) (Fplace : Int32) (Fbegin : Int32) (Ftoken : Int32) (Fword : Int64) (Ftold : Int32) (Fwrong : Int32) (Fcode : Int32) (Fat : Int32) (Fway : Int32) (Fnext : Int32) (FisEnd : Int32) (FisFallen : Int32) (Fwritten : Int32) (Fmade : Int32) (Fstate : Int32) (FhandNext : Int32) (FhandSteps : Int32) (FhandWritten : Int32) (FmarkAt : Int32) (Akept : Nat → Int32) (AkeptBy : Nat → Int32) (Aahead : Nat → Int32) (Aagainst : Nat → Int32) (Asum : Nat → Int32) (AsumBy : Nat → Int32) (Aterm : Nat → Int32) (AtermBy : Nat → Int32) : va_W := [(h, .inr (7, mob am (Fthrown) (Ftaped) (Fsize) (Fplace) (Fbegin) (Ftoken) (Fword) (Ftold) (Fwrong) (Fcode) (Fat) (Fway) (Fnext) (FisEnd) (FisFallen) (Fwritten) (Fmade) (Fstate) (FhandNext) (FhandSteps) (FhandWritten) (FmarkAt))), ((am 22), .inl (ak 0, 7, .inl (Akept))), ((am 23), .inl (ak 0, 7, .inl (AkeptBy))), ((am 24), .inl (ak 0, 7, .inl (Aahead))), ((am 25), .inl (ak 0, 7, .inl (Aagainst))), ((am 26), .inl (ak 0, 7, .inl (Asum))), ((am 27), .inl (ak 0, 7, .inl (AsumBy))), ((am 28), .inl (ak 0, 7, .inl (Aterm))), ((am 29), .inl (ak 0, 7, .inl (AtermBy)))]
def kf_X8_tests_136 (AkeptBy : Nat → Int32) (Aahead : Nat → Int32) (Aterm : Nat → Int32) (x0 : Int32)  (Φ : (Nat → Int32) → (Nat → Int32) → (Nat → Int32) → (Nat → Int32) → (Nat → Int32) → Prop) (Akept : Nat → Int32) (Aagainst : Nat → Int32) (Asum : Nat → Int32) (AsumBy : Nat → Int32) (AtermBy : Nat → Int32) (l2 : Int32) : Prop := vp_in x0 7 ∧ vp_in x0 7 ∧ vp_in x0 7 ∧ vp_in x0 7 ∧ Φ (upd Akept (x0).toNatClampNeg l2) (upd Aagainst (x0).toNatClampNeg 0) (upd Asum (x0).toNatClampNeg 0) (upd AsumBy (x0).toNatClampNeg 20) AtermBy
set_option maxHeartbeats 4000000 in
set_option maxRecDepth 100000 in
theorem kj_X8_tests_136 {p : Program} {l : Launch} {e : Env} {R : Room} {s : State} {m : MethodId} {args : Array Value} {below : List Frame} {meth : Method} {c : Code} {cells slots : Nat} {Q : State → Prop} {A : Nat → Prop} {D : va_G} {ak : Nat → ClassId} {ad : Nat → Nat} (hx : p.tables.exec = Jvm.exec) (hb : c.code = cX8_tests) (hown : s.vm.findClass RX8 = some m.cls) (hts : ∀ w ∈ wsX8_tests, w.before args s = true) (hml : c.maxLocals = 3) (hE : EV D ak s) (hT : ST D ak ad A s s.heap) (hA : ∀ q, s.heap.size ≤ q → A q) (hRf : 1 ≤ R.frames) (hRl : 21 ≤ R.locals) (hRc : cells ≤ R.cells ∧ slots ≤ R.slots) (h : Nat) (am : Nat → Nat) (Fthrown : Int32) (Ftaped : Int32) (Fsize : Int32) (Fplace : Int32) (Fbegin : Int32) (Ftoken : Int32) (Fword : Int64) (Ftold : Int32) (Fwrong : Int32) (Fcode : Int32) (Fat : Int32) (Fway : Int32) (Fnext : Int32) (FisEnd : Int32) (FisFallen : Int32) (Fwritten : Int32) (Fmade : Int32) (Fstate : Int32) (FhandNext : Int32) (FhandSteps : Int32) (FhandWritten : Int32) (FmarkAt : Int32) (AkeptBy : Nat → Int32) (Aahead : Nat → Int32) (Aterm : Nat → Int32) (x0 : Int32)  (Φ : (Nat → Int32) → (Nat → Int32) → (Nat → Int32) → (Nat → Int32) → (Nat → Int32) → Prop)
    (kR165 : ∀ (Akept : Nat → Int32) (Aagainst : Nat → Int32) (Asum : Nat → Int32) (AsumBy : Nat → Int32) (AtermBy : Nat → Int32) (H : Heap) (locs : List Loc) (ls : Array Slot), Φ Akept Aagainst Asum AsumBy AtermBy → va_P D vwCl (wW_X8_tests ak ad h am Fthrown Ftaped Fsize Fplace Fbegin Ftoken Fword Ftold Fwrong Fcode Fat Fway Fnext FisEnd FisFallen Fwritten Fmade Fstate FhandNext FhandSteps FhandWritten FmarkAt Akept AkeptBy Aahead Aagainst Asum AsumBy Aterm AtermBy) H → va_D A (wW_X8_tests ak ad h am Fthrown Ftaped Fsize Fplace Fbegin Ftoken Fword Ftold Fwrong Fcode Fat Fway Fnext FisEnd FisFallen Fwritten Fmade Fstate FhandNext FhandSteps FhandWritten FmarkAt Akept AkeptBy Aahead Aagainst Asum AsumBy Aterm AtermBy) → va_S A s.heap H locs → W p l e R s m args below meth c H locs cells slots Q (F0 m 165 ls []))
    : ∀ (Akept : Nat → Int32) (Aagainst : Nat → Int32) (Asum : Nat → Int32) (AsumBy : Nat → Int32) (AtermBy : Nat → Int32) (l2 : Int32) (H : Heap) (locs : List Loc) (ls : Array Slot), kf_X8_tests_136 AkeptBy Aahead Aterm x0  Φ Akept Aagainst Asum AsumBy AtermBy l2 → va_P D vwCl (wW_X8_tests ak ad h am Fthrown Ftaped Fsize Fplace Fbegin Ftoken Fword Ftold Fwrong Fcode Fat Fway Fnext FisEnd FisFallen Fwritten Fmade Fstate FhandNext FhandSteps FhandWritten FmarkAt Akept AkeptBy Aahead Aagainst Asum AsumBy Aterm AtermBy) H → va_D A (wW_X8_tests ak ad h am Fthrown Ftaped Fsize Fplace Fbegin Ftoken Fword Ftold Fwrong Fcode Fat Fway Fnext FisEnd FisFallen Fwritten Fmade Fstate FhandNext FhandSteps FhandWritten FmarkAt Akept AkeptBy Aahead Aagainst Asum AsumBy Aterm AtermBy) → va_S A s.heap H locs → lv_has ls 3 [(0, .ref h), (1, .int (x0)), (2, .int (l2))] → W p l e R s m args below meth c H locs cells slots Q (F0 m 136 ls ([])) := by
  intro Akept Aagainst Asum AsumBy AtermBy l2 H locs ls hw hP hD hS hl
  delta kf_X8_tests_136 at hw
  refine lv_aload_n hx hb dX8_tests_136 rfl (lv_at hl 0 rfl) ?_
  refine va_get (D := D) (ci := 7) (v := .ref (am 22)) (C := RX8) (T := TX8) (N := 69) hx hb hts (fun w h => wm_c (wc_X8 w h)) hown hE.1 hP 0 rfl rfl 32 (by decide) (hts (.fieldLink RX8 78 "WornLinesModel" "kept" "[I") (wm_c hw_73)) (fun _ h9 => h9) rfl dX8_tests_137 ?_
  refine lv_iload_n hx hb dX8_tests_140 rfl (lv_at hl 1 rfl) ?_
  refine lv_iload_n hx hb dX8_tests_141 rfl (lv_at hl 2 rfl) ?_
  obtain ⟨h_14, hw⟩ := hw
  refine va_iast hx hb hE.1 hP hD hS 1 0 rfl rfl (h_14) dX8_tests_142 (fun H locs hP hD hS => ?_)
  have hP : va_P D vwCl (wW_X8_tests ak ad h am Fthrown Ftaped Fsize Fplace Fbegin Ftoken Fword Ftold Fwrong Fcode Fat Fway Fnext FisEnd FisFallen Fwritten Fmade Fstate FhandNext FhandSteps FhandWritten FmarkAt (upd Akept (x0).toNatClampNeg l2) AkeptBy Aahead Aagainst Asum AsumBy Aterm AtermBy) H := hP
  have hD : va_D A (wW_X8_tests ak ad h am Fthrown Ftaped Fsize Fplace Fbegin Ftoken Fword Ftold Fwrong Fcode Fat Fway Fnext FisEnd FisFallen Fwritten Fmade Fstate FhandNext FhandSteps FhandWritten FmarkAt (upd Akept (x0).toNatClampNeg l2) AkeptBy Aahead Aagainst Asum AsumBy Aterm AtermBy) := hD
  refine lv_aload_n hx hb dX8_tests_143 rfl (lv_at hl 0 rfl) ?_
  refine va_get (D := D) (ci := 7) (v := .ref (am 25)) (C := RX8) (T := TX8) (N := 69) hx hb hts (fun w h => wm_c (wc_X8 w h)) hown hE.1 hP 0 rfl rfl 35 (by decide) (hts (.fieldLink RX8 87 "WornLinesModel" "against" "[I") (wm_c hw_68)) (fun _ h9 => h9) rfl dX8_tests_144 ?_
  refine lv_iload_n hx hb dX8_tests_147 rfl (lv_at hl 1 rfl) ?_
  refine lv_iconst (v := 0) hx hb dX8_tests_148 (by decide) ?_
  obtain ⟨h_15, hw⟩ := hw
  refine va_iast hx hb hE.1 hP hD hS 4 0 rfl rfl (h_15) dX8_tests_149 (fun H locs hP hD hS => ?_)
  have hP : va_P D vwCl (wW_X8_tests ak ad h am Fthrown Ftaped Fsize Fplace Fbegin Ftoken Fword Ftold Fwrong Fcode Fat Fway Fnext FisEnd FisFallen Fwritten Fmade Fstate FhandNext FhandSteps FhandWritten FmarkAt (upd Akept (x0).toNatClampNeg l2) AkeptBy Aahead (upd Aagainst (x0).toNatClampNeg 0) Asum AsumBy Aterm AtermBy) H := hP
  have hD : va_D A (wW_X8_tests ak ad h am Fthrown Ftaped Fsize Fplace Fbegin Ftoken Fword Ftold Fwrong Fcode Fat Fway Fnext FisEnd FisFallen Fwritten Fmade Fstate FhandNext FhandSteps FhandWritten FmarkAt (upd Akept (x0).toNatClampNeg l2) AkeptBy Aahead (upd Aagainst (x0).toNatClampNeg 0) Asum AsumBy Aterm AtermBy) := hD
  refine lv_aload_n hx hb dX8_tests_150 rfl (lv_at hl 0 rfl) ?_
  refine va_get (D := D) (ci := 7) (v := .ref (am 26)) (C := RX8) (T := TX8) (N := 69) hx hb hts (fun w h => wm_c (wc_X8 w h)) hown hE.1 hP 0 rfl rfl 36 (by decide) (hts (.fieldLink RX8 90 "WornLinesModel" "sum" "[I") (wm_c hw_69)) (fun _ h9 => h9) rfl dX8_tests_151 ?_
  refine lv_iload_n hx hb dX8_tests_154 rfl (lv_at hl 1 rfl) ?_
  refine lv_iconst (v := 0) hx hb dX8_tests_155 (by decide) ?_
  obtain ⟨h_16, hw⟩ := hw
  refine va_iast hx hb hE.1 hP hD hS 5 0 rfl rfl (h_16) dX8_tests_156 (fun H locs hP hD hS => ?_)
  have hP : va_P D vwCl (wW_X8_tests ak ad h am Fthrown Ftaped Fsize Fplace Fbegin Ftoken Fword Ftold Fwrong Fcode Fat Fway Fnext FisEnd FisFallen Fwritten Fmade Fstate FhandNext FhandSteps FhandWritten FmarkAt (upd Akept (x0).toNatClampNeg l2) AkeptBy Aahead (upd Aagainst (x0).toNatClampNeg 0) (upd Asum (x0).toNatClampNeg 0) AsumBy Aterm AtermBy) H := hP
  have hD : va_D A (wW_X8_tests ak ad h am Fthrown Ftaped Fsize Fplace Fbegin Ftoken Fword Ftold Fwrong Fcode Fat Fway Fnext FisEnd FisFallen Fwritten Fmade Fstate FhandNext FhandSteps FhandWritten FmarkAt (upd Akept (x0).toNatClampNeg l2) AkeptBy Aahead (upd Aagainst (x0).toNatClampNeg 0) (upd Asum (x0).toNatClampNeg 0) AsumBy Aterm AtermBy) := hD
  refine lv_aload_n hx hb dX8_tests_157 rfl (lv_at hl 0 rfl) ?_
  refine va_get (D := D) (ci := 7) (v := .ref (am 27)) (C := RX8) (T := TX8) (N := 69) hx hb hts (fun w h => wm_c (wc_X8 w h)) hown hE.1 hP 0 rfl rfl 37 (by decide) (hts (.fieldLink RX8 93 "WornLinesModel" "sumBy" "[I") (wm_c hw_70)) (fun _ h9 => h9) rfl dX8_tests_158 ?_
  refine lv_iload_n hx hb dX8_tests_161 rfl (lv_at hl 1 rfl) ?_
  refine lv_bipush (v := 20) hx hb dX8_tests_162 (by decide) ?_
  obtain ⟨h_17, hw⟩ := hw
  refine va_iast hx hb hE.1 hP hD hS 6 0 rfl rfl (h_17) dX8_tests_164 (fun H locs hP hD hS => ?_)
  have hP : va_P D vwCl (wW_X8_tests ak ad h am Fthrown Ftaped Fsize Fplace Fbegin Ftoken Fword Ftold Fwrong Fcode Fat Fway Fnext FisEnd FisFallen Fwritten Fmade Fstate FhandNext FhandSteps FhandWritten FmarkAt (upd Akept (x0).toNatClampNeg l2) AkeptBy Aahead (upd Aagainst (x0).toNatClampNeg 0) (upd Asum (x0).toNatClampNeg 0) (upd AsumBy (x0).toNatClampNeg 20) Aterm AtermBy) H := hP
  have hD : va_D A (wW_X8_tests ak ad h am Fthrown Ftaped Fsize Fplace Fbegin Ftoken Fword Ftold Fwrong Fcode Fat Fway Fnext FisEnd FisFallen Fwritten Fmade Fstate FhandNext FhandSteps FhandWritten FmarkAt (upd Akept (x0).toNatClampNeg l2) AkeptBy Aahead (upd Aagainst (x0).toNatClampNeg 0) (upd Asum (x0).toNatClampNeg 0) (upd AsumBy (x0).toNatClampNeg 20) Aterm AtermBy) := hD
  exact kR165 (upd Akept (x0).toNatClampNeg l2) (upd Aagainst (x0).toNatClampNeg 0) (upd Asum (x0).toNatClampNeg 0) (upd AsumBy (x0).toNatClampNeg 20) AtermBy _ _ _ hw hP hD hS

def kf_X8_tests_106 (AkeptBy : Nat → Int32) (Aahead : Nat → Int32) (Aterm : Nat → Int32) (x0 : Int32)  (Φ : (Nat → Int32) → (Nat → Int32) → (Nat → Int32) → (Nat → Int32) → (Nat → Int32) → Prop) (Akept : Nat → Int32) (Aagainst : Nat → Int32) (Asum : Nat → Int32) (AsumBy : Nat → Int32) (AtermBy : Nat → Int32) (l2 : Int32) : Prop := vp_in x0 7 ∧ (¬ (AkeptBy (x0).toNatClampNeg) = 27 → kf_X8_tests_136 AkeptBy Aahead Aterm x0  Φ Akept Aagainst Asum AsumBy AtermBy l2) ∧ ((AkeptBy (x0).toNatClampNeg) = 27 → vp_in x0 7 ∧ (¬ (Akept (x0).toNatClampNeg) = 0 → kf_X8_tests_136 AkeptBy Aahead Aterm x0  Φ Akept Aagainst Asum AsumBy AtermBy 1) ∧ ((Akept (x0).toNatClampNeg) = 0 → (l2 = 0 → kf_X8_tests_136 AkeptBy Aahead Aterm x0  Φ Akept Aagainst Asum AsumBy AtermBy 0) ∧ (¬ l2 = 0 → kf_X8_tests_136 AkeptBy Aahead Aterm x0  Φ Akept Aagainst Asum AsumBy AtermBy 1)))
set_option maxHeartbeats 4000000 in
set_option maxRecDepth 100000 in
theorem kj_X8_tests_106 {p : Program} {l : Launch} {e : Env} {R : Room} {s : State} {m : MethodId} {args : Array Value} {below : List Frame} {meth : Method} {c : Code} {cells slots : Nat} {Q : State → Prop} {A : Nat → Prop} {D : va_G} {ak : Nat → ClassId} {ad : Nat → Nat} (hx : p.tables.exec = Jvm.exec) (hb : c.code = cX8_tests) (hown : s.vm.findClass RX8 = some m.cls) (hts : ∀ w ∈ wsX8_tests, w.before args s = true) (hml : c.maxLocals = 3) (hE : EV D ak s) (hT : ST D ak ad A s s.heap) (hA : ∀ q, s.heap.size ≤ q → A q) (hRf : 1 ≤ R.frames) (hRl : 21 ≤ R.locals) (hRc : cells ≤ R.cells ∧ slots ≤ R.slots) (h : Nat) (am : Nat → Nat) (Fthrown : Int32) (Ftaped : Int32) (Fsize : Int32) (Fplace : Int32) (Fbegin : Int32) (Ftoken : Int32) (Fword : Int64) (Ftold : Int32) (Fwrong : Int32) (Fcode : Int32) (Fat : Int32) (Fway : Int32) (Fnext : Int32) (FisEnd : Int32) (FisFallen : Int32) (Fwritten : Int32) (Fmade : Int32) (Fstate : Int32) (FhandNext : Int32) (FhandSteps : Int32) (FhandWritten : Int32) (FmarkAt : Int32) (AkeptBy : Nat → Int32) (Aahead : Nat → Int32) (Aterm : Nat → Int32) (x0 : Int32)  (Φ : (Nat → Int32) → (Nat → Int32) → (Nat → Int32) → (Nat → Int32) → (Nat → Int32) → Prop)
    (kR165 : ∀ (Akept : Nat → Int32) (Aagainst : Nat → Int32) (Asum : Nat → Int32) (AsumBy : Nat → Int32) (AtermBy : Nat → Int32) (H : Heap) (locs : List Loc) (ls : Array Slot), Φ Akept Aagainst Asum AsumBy AtermBy → va_P D vwCl (wW_X8_tests ak ad h am Fthrown Ftaped Fsize Fplace Fbegin Ftoken Fword Ftold Fwrong Fcode Fat Fway Fnext FisEnd FisFallen Fwritten Fmade Fstate FhandNext FhandSteps FhandWritten FmarkAt Akept AkeptBy Aahead Aagainst Asum AsumBy Aterm AtermBy) H → va_D A (wW_X8_tests ak ad h am Fthrown Ftaped Fsize Fplace Fbegin Ftoken Fword Ftold Fwrong Fcode Fat Fway Fnext FisEnd FisFallen Fwritten Fmade Fstate FhandNext FhandSteps FhandWritten FmarkAt Akept AkeptBy Aahead Aagainst Asum AsumBy Aterm AtermBy) → va_S A s.heap H locs → W p l e R s m args below meth c H locs cells slots Q (F0 m 165 ls []))
    : ∀ (Akept : Nat → Int32) (Aagainst : Nat → Int32) (Asum : Nat → Int32) (AsumBy : Nat → Int32) (AtermBy : Nat → Int32) (l2 : Int32) (H : Heap) (locs : List Loc) (ls : Array Slot), kf_X8_tests_106 AkeptBy Aahead Aterm x0  Φ Akept Aagainst Asum AsumBy AtermBy l2 → va_P D vwCl (wW_X8_tests ak ad h am Fthrown Ftaped Fsize Fplace Fbegin Ftoken Fword Ftold Fwrong Fcode Fat Fway Fnext FisEnd FisFallen Fwritten Fmade Fstate FhandNext FhandSteps FhandWritten FmarkAt Akept AkeptBy Aahead Aagainst Asum AsumBy Aterm AtermBy) H → va_D A (wW_X8_tests ak ad h am Fthrown Ftaped Fsize Fplace Fbegin Ftoken Fword Ftold Fwrong Fcode Fat Fway Fnext FisEnd FisFallen Fwritten Fmade Fstate FhandNext FhandSteps FhandWritten FmarkAt Akept AkeptBy Aahead Aagainst Asum AsumBy Aterm AtermBy) → va_S A s.heap H locs → lv_has ls 3 [(0, .ref h), (1, .int (x0)), (2, .int (l2))] → W p l e R s m args below meth c H locs cells slots Q (F0 m 106 ls ([])) := by
  intro Akept Aagainst Asum AsumBy AtermBy l2 H locs ls hw hP hD hS hl
  delta kf_X8_tests_106 at hw
  refine lv_aload_n hx hb dX8_tests_106 rfl (lv_at hl 0 rfl) ?_
  refine va_get (D := D) (ci := 7) (v := .ref (am 23)) (C := RX8) (T := TX8) (N := 69) hx hb hts (fun w h => wm_c (wc_X8 w h)) hown hE.1 hP 0 rfl rfl 33 (by decide) (hts (.fieldLink RX8 81 "WornLinesModel" "keptBy" "[I") (wm_c hw_67)) (fun _ h9 => h9) rfl dX8_tests_107 ?_
  refine lv_iload_n hx hb dX8_tests_110 rfl (lv_at hl 1 rfl) ?_
  obtain ⟨h_12, hw⟩ := hw
  refine va_iald hx hb hE.1 hP 2 0 rfl rfl (h_12) dX8_tests_111 ?_
  refine lv_bipush (v := 27) hx hb dX8_tests_112 (by decide) ?_
  refine lv_icmp_ne (tgt := 136) hx hb dX8_tests_114 (by decide) (fun c_13 => ?_) (fun c_13 => ?_)
  · replace hw := hw.1 c_13
    exact kj_X8_tests_136 hx hb hown hts hml hE hT hA hRf hRl hRc h am Fthrown Ftaped Fsize Fplace Fbegin Ftoken Fword Ftold Fwrong Fcode Fat Fway Fnext FisEnd FisFallen Fwritten Fmade Fstate FhandNext FhandSteps FhandWritten FmarkAt AkeptBy Aahead Aterm x0  Φ  kR165 Akept Aagainst Asum AsumBy AtermBy l2 _ _ _ hw hP hD hS (lv_sub hl [0, 1, 2] rfl)
  · replace hw := hw.2 c_13
    refine lv_aload_n hx hb dX8_tests_117 rfl (lv_at hl 0 rfl) ?_
    refine va_get (D := D) (ci := 7) (v := .ref (am 22)) (C := RX8) (T := TX8) (N := 69) hx hb hts (fun w h => wm_c (wc_X8 w h)) hown hE.1 hP 0 rfl rfl 32 (by decide) (hts (.fieldLink RX8 78 "WornLinesModel" "kept" "[I") (wm_c hw_73)) (fun _ h9 => h9) rfl dX8_tests_118 ?_
    refine lv_iload_n hx hb dX8_tests_121 rfl (lv_at hl 1 rfl) ?_
    obtain ⟨h_18, hw⟩ := hw
    refine va_iald hx hb hE.1 hP 1 0 rfl rfl (h_18) dX8_tests_122 ?_
    refine lv_if_ne (tgt := 130) hx hb dX8_tests_123 (by decide) (fun c_19 => ?_) (fun c_19 => ?_)
    · replace hw := hw.1 c_19
      refine lv_iconst (v := 1) hx hb dX8_tests_130 (by decide) ?_
      refine lv_goto (tgt := 135) hx hb dX8_tests_131 (by decide) ?_
      refine lv_istore_n (lv' := [(2, .int (1)), (0, .ref h), (1, .int (x0))]) hx hb dX8_tests_135 rfl hl (by decide) rfl (fun ls hl => ?_)
      exact kj_X8_tests_136 hx hb hown hts hml hE hT hA hRf hRl hRc h am Fthrown Ftaped Fsize Fplace Fbegin Ftoken Fword Ftold Fwrong Fcode Fat Fway Fnext FisEnd FisFallen Fwritten Fmade Fstate FhandNext FhandSteps FhandWritten FmarkAt AkeptBy Aahead Aterm x0  Φ  kR165 Akept Aagainst Asum AsumBy AtermBy 1 _ _ _ hw hP hD hS (lv_sub hl [1, 2, 0] rfl)
    · replace hw := hw.2 c_19
      refine lv_iload_n hx hb dX8_tests_126 rfl (lv_at hl 2 rfl) ?_
      refine lv_if_eq (tgt := 134) hx hb dX8_tests_127 (by decide) (fun c_20 => ?_) (fun c_20 => ?_)
      · replace hw := hw.1 c_20
        refine lv_iconst (v := 0) hx hb dX8_tests_134 (by decide) ?_
        refine lv_istore_n (lv' := [(2, .int (0)), (0, .ref h), (1, .int (x0))]) hx hb dX8_tests_135 rfl hl (by decide) rfl (fun ls hl => ?_)
        exact kj_X8_tests_136 hx hb hown hts hml hE hT hA hRf hRl hRc h am Fthrown Ftaped Fsize Fplace Fbegin Ftoken Fword Ftold Fwrong Fcode Fat Fway Fnext FisEnd FisFallen Fwritten Fmade Fstate FhandNext FhandSteps FhandWritten FmarkAt AkeptBy Aahead Aterm x0  Φ  kR165 Akept Aagainst Asum AsumBy AtermBy 0 _ _ _ hw hP hD hS (lv_sub hl [1, 2, 0] rfl)
      · replace hw := hw.2 c_20
        refine lv_iconst (v := 1) hx hb dX8_tests_130 (by decide) ?_
        refine lv_goto (tgt := 135) hx hb dX8_tests_131 (by decide) ?_
        refine lv_istore_n (lv' := [(2, .int (1)), (0, .ref h), (1, .int (x0))]) hx hb dX8_tests_135 rfl hl (by decide) rfl (fun ls hl => ?_)
        exact kj_X8_tests_136 hx hb hown hts hml hE hT hA hRf hRl hRc h am Fthrown Ftaped Fsize Fplace Fbegin Ftoken Fword Ftold Fwrong Fcode Fat Fway Fnext FisEnd FisFallen Fwritten Fmade Fstate FhandNext FhandSteps FhandWritten FmarkAt AkeptBy Aahead Aterm x0  Φ  kR165 Akept Aagainst Asum AsumBy AtermBy 1 _ _ _ hw hP hD hS (lv_sub hl [1, 2, 0] rfl)

def kf_X8_tests_76 (AkeptBy : Nat → Int32) (Aahead : Nat → Int32) (Aterm : Nat → Int32) (x0 : Int32)  (Φ : (Nat → Int32) → (Nat → Int32) → (Nat → Int32) → (Nat → Int32) → (Nat → Int32) → Prop) (Akept : Nat → Int32) (Aagainst : Nat → Int32) (Asum : Nat → Int32) (AsumBy : Nat → Int32) (AtermBy : Nat → Int32) (l2 : Int32) : Prop := vp_in x0 7 ∧ (¬ (AkeptBy (x0).toNatClampNeg) = 26 → kf_X8_tests_106 AkeptBy Aahead Aterm x0  Φ Akept Aagainst Asum AsumBy AtermBy l2) ∧ ((AkeptBy (x0).toNatClampNeg) = 26 → vp_in x0 7 ∧ ((Akept (x0).toNatClampNeg) = 0 → kf_X8_tests_106 AkeptBy Aahead Aterm x0  Φ Akept Aagainst Asum AsumBy AtermBy 0) ∧ (¬ (Akept (x0).toNatClampNeg) = 0 → (l2 = 0 → kf_X8_tests_106 AkeptBy Aahead Aterm x0  Φ Akept Aagainst Asum AsumBy AtermBy 0) ∧ (¬ l2 = 0 → kf_X8_tests_106 AkeptBy Aahead Aterm x0  Φ Akept Aagainst Asum AsumBy AtermBy 1)))
set_option maxHeartbeats 4000000 in
set_option maxRecDepth 100000 in
theorem kj_X8_tests_76 {p : Program} {l : Launch} {e : Env} {R : Room} {s : State} {m : MethodId} {args : Array Value} {below : List Frame} {meth : Method} {c : Code} {cells slots : Nat} {Q : State → Prop} {A : Nat → Prop} {D : va_G} {ak : Nat → ClassId} {ad : Nat → Nat} (hx : p.tables.exec = Jvm.exec) (hb : c.code = cX8_tests) (hown : s.vm.findClass RX8 = some m.cls) (hts : ∀ w ∈ wsX8_tests, w.before args s = true) (hml : c.maxLocals = 3) (hE : EV D ak s) (hT : ST D ak ad A s s.heap) (hA : ∀ q, s.heap.size ≤ q → A q) (hRf : 1 ≤ R.frames) (hRl : 21 ≤ R.locals) (hRc : cells ≤ R.cells ∧ slots ≤ R.slots) (h : Nat) (am : Nat → Nat) (Fthrown : Int32) (Ftaped : Int32) (Fsize : Int32) (Fplace : Int32) (Fbegin : Int32) (Ftoken : Int32) (Fword : Int64) (Ftold : Int32) (Fwrong : Int32) (Fcode : Int32) (Fat : Int32) (Fway : Int32) (Fnext : Int32) (FisEnd : Int32) (FisFallen : Int32) (Fwritten : Int32) (Fmade : Int32) (Fstate : Int32) (FhandNext : Int32) (FhandSteps : Int32) (FhandWritten : Int32) (FmarkAt : Int32) (AkeptBy : Nat → Int32) (Aahead : Nat → Int32) (Aterm : Nat → Int32) (x0 : Int32)  (Φ : (Nat → Int32) → (Nat → Int32) → (Nat → Int32) → (Nat → Int32) → (Nat → Int32) → Prop)
    (kR165 : ∀ (Akept : Nat → Int32) (Aagainst : Nat → Int32) (Asum : Nat → Int32) (AsumBy : Nat → Int32) (AtermBy : Nat → Int32) (H : Heap) (locs : List Loc) (ls : Array Slot), Φ Akept Aagainst Asum AsumBy AtermBy → va_P D vwCl (wW_X8_tests ak ad h am Fthrown Ftaped Fsize Fplace Fbegin Ftoken Fword Ftold Fwrong Fcode Fat Fway Fnext FisEnd FisFallen Fwritten Fmade Fstate FhandNext FhandSteps FhandWritten FmarkAt Akept AkeptBy Aahead Aagainst Asum AsumBy Aterm AtermBy) H → va_D A (wW_X8_tests ak ad h am Fthrown Ftaped Fsize Fplace Fbegin Ftoken Fword Ftold Fwrong Fcode Fat Fway Fnext FisEnd FisFallen Fwritten Fmade Fstate FhandNext FhandSteps FhandWritten FmarkAt Akept AkeptBy Aahead Aagainst Asum AsumBy Aterm AtermBy) → va_S A s.heap H locs → W p l e R s m args below meth c H locs cells slots Q (F0 m 165 ls []))
    : ∀ (Akept : Nat → Int32) (Aagainst : Nat → Int32) (Asum : Nat → Int32) (AsumBy : Nat → Int32) (AtermBy : Nat → Int32) (l2 : Int32) (H : Heap) (locs : List Loc) (ls : Array Slot), kf_X8_tests_76 AkeptBy Aahead Aterm x0  Φ Akept Aagainst Asum AsumBy AtermBy l2 → va_P D vwCl (wW_X8_tests ak ad h am Fthrown Ftaped Fsize Fplace Fbegin Ftoken Fword Ftold Fwrong Fcode Fat Fway Fnext FisEnd FisFallen Fwritten Fmade Fstate FhandNext FhandSteps FhandWritten FmarkAt Akept AkeptBy Aahead Aagainst Asum AsumBy Aterm AtermBy) H → va_D A (wW_X8_tests ak ad h am Fthrown Ftaped Fsize Fplace Fbegin Ftoken Fword Ftold Fwrong Fcode Fat Fway Fnext FisEnd FisFallen Fwritten Fmade Fstate FhandNext FhandSteps FhandWritten FmarkAt Akept AkeptBy Aahead Aagainst Asum AsumBy Aterm AtermBy) → va_S A s.heap H locs → lv_has ls 3 [(0, .ref h), (1, .int (x0)), (2, .int (l2))] → W p l e R s m args below meth c H locs cells slots Q (F0 m 76 ls ([])) := by
  intro Akept Aagainst Asum AsumBy AtermBy l2 H locs ls hw hP hD hS hl
  delta kf_X8_tests_76 at hw
  refine lv_aload_n hx hb dX8_tests_76 rfl (lv_at hl 0 rfl) ?_
  refine va_get (D := D) (ci := 7) (v := .ref (am 23)) (C := RX8) (T := TX8) (N := 69) hx hb hts (fun w h => wm_c (wc_X8 w h)) hown hE.1 hP 0 rfl rfl 33 (by decide) (hts (.fieldLink RX8 81 "WornLinesModel" "keptBy" "[I") (wm_c hw_67)) (fun _ h9 => h9) rfl dX8_tests_77 ?_
  refine lv_iload_n hx hb dX8_tests_80 rfl (lv_at hl 1 rfl) ?_
  obtain ⟨h_10, hw⟩ := hw
  refine va_iald hx hb hE.1 hP 2 0 rfl rfl (h_10) dX8_tests_81 ?_
  refine lv_bipush (v := 26) hx hb dX8_tests_82 (by decide) ?_
  refine lv_icmp_ne (tgt := 106) hx hb dX8_tests_84 (by decide) (fun c_11 => ?_) (fun c_11 => ?_)
  · replace hw := hw.1 c_11
    exact kj_X8_tests_106 hx hb hown hts hml hE hT hA hRf hRl hRc h am Fthrown Ftaped Fsize Fplace Fbegin Ftoken Fword Ftold Fwrong Fcode Fat Fway Fnext FisEnd FisFallen Fwritten Fmade Fstate FhandNext FhandSteps FhandWritten FmarkAt AkeptBy Aahead Aterm x0  Φ  kR165 Akept Aagainst Asum AsumBy AtermBy l2 _ _ _ hw hP hD hS (lv_sub hl [0, 1, 2] rfl)
  · replace hw := hw.2 c_11
    refine lv_aload_n hx hb dX8_tests_87 rfl (lv_at hl 0 rfl) ?_
    refine va_get (D := D) (ci := 7) (v := .ref (am 22)) (C := RX8) (T := TX8) (N := 69) hx hb hts (fun w h => wm_c (wc_X8 w h)) hown hE.1 hP 0 rfl rfl 32 (by decide) (hts (.fieldLink RX8 78 "WornLinesModel" "kept" "[I") (wm_c hw_73)) (fun _ h9 => h9) rfl dX8_tests_88 ?_
    refine lv_iload_n hx hb dX8_tests_91 rfl (lv_at hl 1 rfl) ?_
    obtain ⟨h_21, hw⟩ := hw
    refine va_iald hx hb hE.1 hP 1 0 rfl rfl (h_21) dX8_tests_92 ?_
    refine lv_if_eq (tgt := 104) hx hb dX8_tests_93 (by decide) (fun c_22 => ?_) (fun c_22 => ?_)
    · replace hw := hw.1 c_22
      refine lv_iconst (v := 0) hx hb dX8_tests_104 (by decide) ?_
      refine lv_istore_n (lv' := [(2, .int (0)), (0, .ref h), (1, .int (x0))]) hx hb dX8_tests_105 rfl hl (by decide) rfl (fun ls hl => ?_)
      exact kj_X8_tests_106 hx hb hown hts hml hE hT hA hRf hRl hRc h am Fthrown Ftaped Fsize Fplace Fbegin Ftoken Fword Ftold Fwrong Fcode Fat Fway Fnext FisEnd FisFallen Fwritten Fmade Fstate FhandNext FhandSteps FhandWritten FmarkAt AkeptBy Aahead Aterm x0  Φ  kR165 Akept Aagainst Asum AsumBy AtermBy 0 _ _ _ hw hP hD hS (lv_sub hl [1, 2, 0] rfl)
    · replace hw := hw.2 c_22
      refine lv_iload_n hx hb dX8_tests_96 rfl (lv_at hl 2 rfl) ?_
      refine lv_if_eq (tgt := 104) hx hb dX8_tests_97 (by decide) (fun c_23 => ?_) (fun c_23 => ?_)
      · replace hw := hw.1 c_23
        refine lv_iconst (v := 0) hx hb dX8_tests_104 (by decide) ?_
        refine lv_istore_n (lv' := [(2, .int (0)), (0, .ref h), (1, .int (x0))]) hx hb dX8_tests_105 rfl hl (by decide) rfl (fun ls hl => ?_)
        exact kj_X8_tests_106 hx hb hown hts hml hE hT hA hRf hRl hRc h am Fthrown Ftaped Fsize Fplace Fbegin Ftoken Fword Ftold Fwrong Fcode Fat Fway Fnext FisEnd FisFallen Fwritten Fmade Fstate FhandNext FhandSteps FhandWritten FmarkAt AkeptBy Aahead Aterm x0  Φ  kR165 Akept Aagainst Asum AsumBy AtermBy 0 _ _ _ hw hP hD hS (lv_sub hl [1, 2, 0] rfl)
      · replace hw := hw.2 c_23
        refine lv_iconst (v := 1) hx hb dX8_tests_100 (by decide) ?_
        refine lv_goto (tgt := 105) hx hb dX8_tests_101 (by decide) ?_
        refine lv_istore_n (lv' := [(2, .int (1)), (0, .ref h), (1, .int (x0))]) hx hb dX8_tests_105 rfl hl (by decide) rfl (fun ls hl => ?_)
        exact kj_X8_tests_106 hx hb hown hts hml hE hT hA hRf hRl hRc h am Fthrown Ftaped Fsize Fplace Fbegin Ftoken Fword Ftold Fwrong Fcode Fat Fway Fnext FisEnd FisFallen Fwritten Fmade Fstate FhandNext FhandSteps FhandWritten FmarkAt AkeptBy Aahead Aterm x0  Φ  kR165 Akept Aagainst Asum AsumBy AtermBy 1 _ _ _ hw hP hD hS (lv_sub hl [1, 2, 0] rfl)

def kf_X8_tests_44 (AkeptBy : Nat → Int32) (Aahead : Nat → Int32) (Aterm : Nat → Int32) (x0 : Int32)  (Φ : (Nat → Int32) → (Nat → Int32) → (Nat → Int32) → (Nat → Int32) → (Nat → Int32) → Prop) (Akept : Nat → Int32) (Aagainst : Nat → Int32) (Asum : Nat → Int32) (AsumBy : Nat → Int32) (AtermBy : Nat → Int32) (l2 : Int32) : Prop := vp_in x0 7 ∧ (¬ (Aagainst (x0).toNatClampNeg) = 25 → kf_X8_tests_76 AkeptBy Aahead Aterm x0  Φ Akept Aagainst Asum AsumBy AtermBy l2) ∧ ((Aagainst (x0).toNatClampNeg) = 25 → vp_in x0 7 ∧ vp_in x0 7 ∧ (¬ (Aahead (x0).toNatClampNeg) = (Asum (x0).toNatClampNeg) → kf_X8_tests_76 AkeptBy Aahead Aterm x0  Φ Akept Aagainst Asum AsumBy AtermBy 0) ∧ ((Aahead (x0).toNatClampNeg) = (Asum (x0).toNatClampNeg) → kf_X8_tests_76 AkeptBy Aahead Aterm x0  Φ Akept Aagainst Asum AsumBy AtermBy 1))
set_option maxHeartbeats 4000000 in
set_option maxRecDepth 100000 in
theorem kj_X8_tests_44 {p : Program} {l : Launch} {e : Env} {R : Room} {s : State} {m : MethodId} {args : Array Value} {below : List Frame} {meth : Method} {c : Code} {cells slots : Nat} {Q : State → Prop} {A : Nat → Prop} {D : va_G} {ak : Nat → ClassId} {ad : Nat → Nat} (hx : p.tables.exec = Jvm.exec) (hb : c.code = cX8_tests) (hown : s.vm.findClass RX8 = some m.cls) (hts : ∀ w ∈ wsX8_tests, w.before args s = true) (hml : c.maxLocals = 3) (hE : EV D ak s) (hT : ST D ak ad A s s.heap) (hA : ∀ q, s.heap.size ≤ q → A q) (hRf : 1 ≤ R.frames) (hRl : 21 ≤ R.locals) (hRc : cells ≤ R.cells ∧ slots ≤ R.slots) (h : Nat) (am : Nat → Nat) (Fthrown : Int32) (Ftaped : Int32) (Fsize : Int32) (Fplace : Int32) (Fbegin : Int32) (Ftoken : Int32) (Fword : Int64) (Ftold : Int32) (Fwrong : Int32) (Fcode : Int32) (Fat : Int32) (Fway : Int32) (Fnext : Int32) (FisEnd : Int32) (FisFallen : Int32) (Fwritten : Int32) (Fmade : Int32) (Fstate : Int32) (FhandNext : Int32) (FhandSteps : Int32) (FhandWritten : Int32) (FmarkAt : Int32) (AkeptBy : Nat → Int32) (Aahead : Nat → Int32) (Aterm : Nat → Int32) (x0 : Int32)  (Φ : (Nat → Int32) → (Nat → Int32) → (Nat → Int32) → (Nat → Int32) → (Nat → Int32) → Prop)
    (kR165 : ∀ (Akept : Nat → Int32) (Aagainst : Nat → Int32) (Asum : Nat → Int32) (AsumBy : Nat → Int32) (AtermBy : Nat → Int32) (H : Heap) (locs : List Loc) (ls : Array Slot), Φ Akept Aagainst Asum AsumBy AtermBy → va_P D vwCl (wW_X8_tests ak ad h am Fthrown Ftaped Fsize Fplace Fbegin Ftoken Fword Ftold Fwrong Fcode Fat Fway Fnext FisEnd FisFallen Fwritten Fmade Fstate FhandNext FhandSteps FhandWritten FmarkAt Akept AkeptBy Aahead Aagainst Asum AsumBy Aterm AtermBy) H → va_D A (wW_X8_tests ak ad h am Fthrown Ftaped Fsize Fplace Fbegin Ftoken Fword Ftold Fwrong Fcode Fat Fway Fnext FisEnd FisFallen Fwritten Fmade Fstate FhandNext FhandSteps FhandWritten FmarkAt Akept AkeptBy Aahead Aagainst Asum AsumBy Aterm AtermBy) → va_S A s.heap H locs → W p l e R s m args below meth c H locs cells slots Q (F0 m 165 ls []))
    : ∀ (Akept : Nat → Int32) (Aagainst : Nat → Int32) (Asum : Nat → Int32) (AsumBy : Nat → Int32) (AtermBy : Nat → Int32) (l2 : Int32) (H : Heap) (locs : List Loc) (ls : Array Slot), kf_X8_tests_44 AkeptBy Aahead Aterm x0  Φ Akept Aagainst Asum AsumBy AtermBy l2 → va_P D vwCl (wW_X8_tests ak ad h am Fthrown Ftaped Fsize Fplace Fbegin Ftoken Fword Ftold Fwrong Fcode Fat Fway Fnext FisEnd FisFallen Fwritten Fmade Fstate FhandNext FhandSteps FhandWritten FmarkAt Akept AkeptBy Aahead Aagainst Asum AsumBy Aterm AtermBy) H → va_D A (wW_X8_tests ak ad h am Fthrown Ftaped Fsize Fplace Fbegin Ftoken Fword Ftold Fwrong Fcode Fat Fway Fnext FisEnd FisFallen Fwritten Fmade Fstate FhandNext FhandSteps FhandWritten FmarkAt Akept AkeptBy Aahead Aagainst Asum AsumBy Aterm AtermBy) → va_S A s.heap H locs → lv_has ls 3 [(0, .ref h), (1, .int (x0)), (2, .int (l2))] → W p l e R s m args below meth c H locs cells slots Q (F0 m 44 ls ([])) := by
  intro Akept Aagainst Asum AsumBy AtermBy l2 H locs ls hw hP hD hS hl
  delta kf_X8_tests_44 at hw
  refine lv_aload_n hx hb dX8_tests_44 rfl (lv_at hl 0 rfl) ?_
  refine va_get (D := D) (ci := 7) (v := .ref (am 25)) (C := RX8) (T := TX8) (N := 69) hx hb hts (fun w h => wm_c (wc_X8 w h)) hown hE.1 hP 0 rfl rfl 35 (by decide) (hts (.fieldLink RX8 87 "WornLinesModel" "against" "[I") (wm_c hw_68)) (fun _ h9 => h9) rfl dX8_tests_45 ?_
  refine lv_iload_n hx hb dX8_tests_48 rfl (lv_at hl 1 rfl) ?_
  obtain ⟨h_8, hw⟩ := hw
  refine va_iald hx hb hE.1 hP 4 0 rfl rfl (h_8) dX8_tests_49 ?_
  refine lv_bipush (v := 25) hx hb dX8_tests_50 (by decide) ?_
  refine lv_icmp_ne (tgt := 76) hx hb dX8_tests_52 (by decide) (fun c_9 => ?_) (fun c_9 => ?_)
  · replace hw := hw.1 c_9
    exact kj_X8_tests_76 hx hb hown hts hml hE hT hA hRf hRl hRc h am Fthrown Ftaped Fsize Fplace Fbegin Ftoken Fword Ftold Fwrong Fcode Fat Fway Fnext FisEnd FisFallen Fwritten Fmade Fstate FhandNext FhandSteps FhandWritten FmarkAt AkeptBy Aahead Aterm x0  Φ  kR165 Akept Aagainst Asum AsumBy AtermBy l2 _ _ _ hw hP hD hS (lv_sub hl [0, 1, 2] rfl)
  · replace hw := hw.2 c_9
    refine lv_aload_n hx hb dX8_tests_55 rfl (lv_at hl 0 rfl) ?_
    refine va_get (D := D) (ci := 7) (v := .ref (am 24)) (C := RX8) (T := TX8) (N := 69) hx hb hts (fun w h => wm_c (wc_X8 w h)) hown hE.1 hP 0 rfl rfl 34 (by decide) (hts (.fieldLink RX8 84 "WornLinesModel" "ahead" "[I") (wm_c hw_74)) (fun _ h9 => h9) rfl dX8_tests_56 ?_
    refine lv_iload_n hx hb dX8_tests_59 rfl (lv_at hl 1 rfl) ?_
    obtain ⟨h_24, hw⟩ := hw
    refine va_iald hx hb hE.1 hP 3 0 rfl rfl (h_24) dX8_tests_60 ?_
    refine lv_aload_n hx hb dX8_tests_61 rfl (lv_at hl 0 rfl) ?_
    refine va_get (D := D) (ci := 7) (v := .ref (am 26)) (C := RX8) (T := TX8) (N := 69) hx hb hts (fun w h => wm_c (wc_X8 w h)) hown hE.1 hP 0 rfl rfl 36 (by decide) (hts (.fieldLink RX8 90 "WornLinesModel" "sum" "[I") (wm_c hw_69)) (fun _ h9 => h9) rfl dX8_tests_62 ?_
    refine lv_iload_n hx hb dX8_tests_65 rfl (lv_at hl 1 rfl) ?_
    obtain ⟨h_25, hw⟩ := hw
    refine va_iald hx hb hE.1 hP 5 0 rfl rfl (h_25) dX8_tests_66 ?_
    refine lv_icmp_ne (tgt := 74) hx hb dX8_tests_67 (by decide) (fun c_26 => ?_) (fun c_26 => ?_)
    · replace hw := hw.1 c_26
      refine lv_iconst (v := 0) hx hb dX8_tests_74 (by decide) ?_
      refine lv_istore_n (lv' := [(2, .int (0)), (0, .ref h), (1, .int (x0))]) hx hb dX8_tests_75 rfl hl (by decide) rfl (fun ls hl => ?_)
      exact kj_X8_tests_76 hx hb hown hts hml hE hT hA hRf hRl hRc h am Fthrown Ftaped Fsize Fplace Fbegin Ftoken Fword Ftold Fwrong Fcode Fat Fway Fnext FisEnd FisFallen Fwritten Fmade Fstate FhandNext FhandSteps FhandWritten FmarkAt AkeptBy Aahead Aterm x0  Φ  kR165 Akept Aagainst Asum AsumBy AtermBy 0 _ _ _ hw hP hD hS (lv_sub hl [1, 2, 0] rfl)
    · replace hw := hw.2 c_26
      refine lv_iconst (v := 1) hx hb dX8_tests_70 (by decide) ?_
      refine lv_goto (tgt := 75) hx hb dX8_tests_71 (by decide) ?_
      refine lv_istore_n (lv' := [(2, .int (1)), (0, .ref h), (1, .int (x0))]) hx hb dX8_tests_75 rfl hl (by decide) rfl (fun ls hl => ?_)
      exact kj_X8_tests_76 hx hb hown hts hml hE hT hA hRf hRl hRc h am Fthrown Ftaped Fsize Fplace Fbegin Ftoken Fword Ftold Fwrong Fcode Fat Fway Fnext FisEnd FisFallen Fwritten Fmade Fstate FhandNext FhandSteps FhandWritten FmarkAt AkeptBy Aahead Aterm x0  Φ  kR165 Akept Aagainst Asum AsumBy AtermBy 1 _ _ _ hw hP hD hS (lv_sub hl [1, 2, 0] rfl)

def wp_X8_tests (AkeptBy : Nat → Int32) (Aahead : Nat → Int32) (Aterm : Nat → Int32) (x0 : Int32) (Akept : Nat → Int32) (Aagainst : Nat → Int32) (Asum : Nat → Int32) (AsumBy : Nat → Int32) (AtermBy : Nat → Int32) (Φ : (Nat → Int32) → (Nat → Int32) → (Nat → Int32) → (Nat → Int32) → (Nat → Int32) → Prop) : Prop := wp_X8_sums AsumBy Aterm x0 Asum AtermBy (fun Asum_2 AtermBy_3 => vp_in x0 7 ∧ vp_in x0 7 ∧ (¬ (Aagainst (x0).toNatClampNeg) = 24 → kf_X8_tests_44 AkeptBy Aahead Aterm x0  Φ Akept Aagainst Asum_2 AsumBy AtermBy_3 (Asum_2 (x0).toNatClampNeg)) ∧ ((Aagainst (x0).toNatClampNeg) = 24 → vp_in x0 7 ∧ vp_in x0 7 ∧ ((Asum_2 (x0).toNatClampNeg) ≤ (Aahead (x0).toNatClampNeg) → kf_X8_tests_44 AkeptBy Aahead Aterm x0  Φ Akept Aagainst Asum_2 AsumBy AtermBy_3 0) ∧ (¬ (Asum_2 (x0).toNatClampNeg) ≤ (Aahead (x0).toNatClampNeg) → kf_X8_tests_44 AkeptBy Aahead Aterm x0  Φ Akept Aagainst Asum_2 AsumBy AtermBy_3 1)))
set_option maxHeartbeats 4000000 in
set_option maxRecDepth 100000 in
theorem kj_X8_tests_e {p : Program} {l : Launch} {e : Env} {R : Room} {s : State} {m : MethodId} {args : Array Value} {below : List Frame} {meth : Method} {c : Code} {cells slots : Nat} {Q : State → Prop} {A : Nat → Prop} {D : va_G} {ak : Nat → ClassId} {ad : Nat → Nat} (hx : p.tables.exec = Jvm.exec) (hb : c.code = cX8_tests) (hown : s.vm.findClass RX8 = some m.cls) (hts : ∀ w ∈ wsX8_tests, w.before args s = true) (hml : c.maxLocals = 3) (hE : EV D ak s) (hT : ST D ak ad A s s.heap) (hA : ∀ q, s.heap.size ≤ q → A q) (hRf : 1 ≤ R.frames) (hRl : 21 ≤ R.locals) (hRc : cells ≤ R.cells ∧ slots ≤ R.slots) (h : Nat) (am : Nat → Nat) (Fthrown : Int32) (Ftaped : Int32) (Fsize : Int32) (Fplace : Int32) (Fbegin : Int32) (Ftoken : Int32) (Fword : Int64) (Ftold : Int32) (Fwrong : Int32) (Fcode : Int32) (Fat : Int32) (Fway : Int32) (Fnext : Int32) (FisEnd : Int32) (FisFallen : Int32) (Fwritten : Int32) (Fmade : Int32) (Fstate : Int32) (FhandNext : Int32) (FhandSteps : Int32) (FhandWritten : Int32) (FmarkAt : Int32) (AkeptBy : Nat → Int32) (Aahead : Nat → Int32) (Aterm : Nat → Int32) (x0 : Int32)  (Φ : (Nat → Int32) → (Nat → Int32) → (Nat → Int32) → (Nat → Int32) → (Nat → Int32) → Prop)
    (kR165 : ∀ (Akept : Nat → Int32) (Aagainst : Nat → Int32) (Asum : Nat → Int32) (AsumBy : Nat → Int32) (AtermBy : Nat → Int32) (H : Heap) (locs : List Loc) (ls : Array Slot), Φ Akept Aagainst Asum AsumBy AtermBy → va_P D vwCl (wW_X8_tests ak ad h am Fthrown Ftaped Fsize Fplace Fbegin Ftoken Fword Ftold Fwrong Fcode Fat Fway Fnext FisEnd FisFallen Fwritten Fmade Fstate FhandNext FhandSteps FhandWritten FmarkAt Akept AkeptBy Aahead Aagainst Asum AsumBy Aterm AtermBy) H → va_D A (wW_X8_tests ak ad h am Fthrown Ftaped Fsize Fplace Fbegin Ftoken Fword Ftold Fwrong Fcode Fat Fway Fnext FisEnd FisFallen Fwritten Fmade Fstate FhandNext FhandSteps FhandWritten FmarkAt Akept AkeptBy Aahead Aagainst Asum AsumBy Aterm AtermBy) → va_S A s.heap H locs → W p l e R s m args below meth c H locs cells slots Q (F0 m 165 ls []))
    : ∀ (Akept : Nat → Int32) (Aagainst : Nat → Int32) (Asum : Nat → Int32) (AsumBy : Nat → Int32) (AtermBy : Nat → Int32) (H : Heap) (locs : List Loc) (ls : Array Slot), wp_X8_tests AkeptBy Aahead Aterm x0 Akept Aagainst Asum AsumBy AtermBy Φ → va_P D vwCl (wW_X8_tests ak ad h am Fthrown Ftaped Fsize Fplace Fbegin Ftoken Fword Ftold Fwrong Fcode Fat Fway Fnext FisEnd FisFallen Fwritten Fmade Fstate FhandNext FhandSteps FhandWritten FmarkAt Akept AkeptBy Aahead Aagainst Asum AsumBy Aterm AtermBy) H → va_D A (wW_X8_tests ak ad h am Fthrown Ftaped Fsize Fplace Fbegin Ftoken Fword Ftold Fwrong Fcode Fat Fway Fnext FisEnd FisFallen Fwritten Fmade Fstate FhandNext FhandSteps FhandWritten FmarkAt Akept AkeptBy Aahead Aagainst Asum AsumBy Aterm AtermBy) → va_S A s.heap H locs → lv_has ls 3 [(0, .ref h), (1, .int (x0))] → W p l e R s m args below meth c H locs cells slots Q (F0 m 0 ls ([])) := by
  intro Akept Aagainst Asum AsumBy AtermBy H locs ls hw hP hD hS hl
  delta wp_X8_tests at hw
  refine lv_aload_n hx hb dX8_tests_0 rfl (lv_at hl 0 rfl) ?_
  refine lv_iload_n hx hb dX8_tests_1 rfl (lv_at hl 1 rfl) ?_
  refine kc_v (wc := (wW_X8_sums ak ad h am Fthrown Ftaped Fsize Fplace Fbegin Ftoken Fword Ftold Fwrong Fcode Fat Fway Fnext FisEnd FisFallen Fwritten Fmade Fstate FhandNext FhandSteps FhandWritten FmarkAt Asum AsumBy Aterm AtermBy)) (wr := [((am 22), .inl (ak 0, 7, .inl (Akept))), ((am 23), .inl (ak 0, 7, .inl (AkeptBy))), ((am 24), .inl (ak 0, 7, .inl (Aahead))), ((am 25), .inl (ak 0, 7, .inl (Aagainst)))]) hP hD hS hA [0, 5, 6, 7, 8] [1, 2, 3, 4] rfl rfl (by decide) (by decide) (va_runV (As := [.int (x0)]) (rest := []) ⟨hx, hb, hml, hown, hts⟩ (c_X8_sums l D ak ad _ h am Fthrown Ftaped Fsize Fplace Fbegin Ftoken Fword Ftold Fwrong Fcode Fat Fway Fnext FisEnd FisFallen Fwritten Fmade Fstate FhandNext FhandSteps FhandWritten FmarkAt Asum AsumBy Aterm AtermBy x0 _ hw) (cwV 1 hts gX8_tests_X8_sums rfl rfl rfl (by decide +kernel) ⟨(Nat.le_trans (Nat.le_of_ble_eq_true rfl) hRf), (Nat.le_trans (Nat.le_of_ble_eq_true rfl) hRl)⟩) (kc_preV (As := [.int (x0)]) (wc := (wW_X8_sums ak ad h am Fthrown Ftaped Fsize Fplace Fbegin Ftoken Fword Ftold Fwrong Fcode Fat Fway Fnext FisEnd FisFallen Fwritten Fmade Fstate FhandNext FhandSteps FhandWritten FmarkAt Asum AsumBy Aterm AtermBy)) hE hT hP hD hS hA [0, 5, 6, 7, 8] (by decide) rfl rfl 0 7 rfl rfl rfl) rfl rfl hl.1 rfl (lv_room (Nat.le_of_ble_eq_true rfl)) dX8_tests_2 ⟨hRc.1, hRc.2⟩) (fun u_1 H locs hw hP hD hS => ?_)
  obtain ⟨Asum_2, AtermBy_3⟩ := u_1
  try dsimp -zeta only at hw
  have hP : va_P D vwCl (wW_X8_tests ak ad h am Fthrown Ftaped Fsize Fplace Fbegin Ftoken Fword Ftold Fwrong Fcode Fat Fway Fnext FisEnd FisFallen Fwritten Fmade Fstate FhandNext FhandSteps FhandWritten FmarkAt Akept AkeptBy Aahead Aagainst Asum_2 AsumBy Aterm AtermBy_3) H := hP.sub [4, 0, 1, 2, 3, 5, 6, 7, 8] rfl
  have hD : va_D A (wW_X8_tests ak ad h am Fthrown Ftaped Fsize Fplace Fbegin Ftoken Fword Ftold Fwrong Fcode Fat Fway Fnext FisEnd FisFallen Fwritten Fmade Fstate FhandNext FhandSteps FhandWritten FmarkAt Akept AkeptBy Aahead Aagainst Asum_2 AsumBy Aterm AtermBy_3) := hD.sub [4, 0, 1, 2, 3, 5, 6, 7, 8] (by decide) rfl
  refine lv_aload_n hx hb dX8_tests_5 rfl (lv_at hl 0 rfl) ?_
  refine va_get (D := D) (ci := 7) (v := .ref (am 26)) (C := RX8) (T := TX8) (N := 69) hx hb hts (fun w h => wm_c (wc_X8 w h)) hown hE.1 hP 0 rfl rfl 36 (by decide) (hts (.fieldLink RX8 90 "WornLinesModel" "sum" "[I") (wm_c hw_69)) (fun _ h9 => h9) rfl dX8_tests_6 ?_
  refine lv_iload_n hx hb dX8_tests_9 rfl (lv_at hl 1 rfl) ?_
  obtain ⟨h_5, hw⟩ := hw
  refine va_iald hx hb hE.1 hP 5 0 rfl rfl (h_5) dX8_tests_10 ?_
  refine lv_istore_n (lv' := [(2, .int (Asum_2 (x0).toNatClampNeg)), (0, .ref h), (1, .int (x0))]) hx hb dX8_tests_11 rfl hl (by decide) rfl (fun ls hl => ?_)
  refine lv_aload_n hx hb dX8_tests_12 rfl (lv_at hl 1 rfl) ?_
  refine va_get (D := D) (ci := 7) (v := .ref (am 25)) (C := RX8) (T := TX8) (N := 69) hx hb hts (fun w h => wm_c (wc_X8 w h)) hown hE.1 hP 0 rfl rfl 35 (by decide) (hts (.fieldLink RX8 87 "WornLinesModel" "against" "[I") (wm_c hw_68)) (fun _ h9 => h9) rfl dX8_tests_13 ?_
  refine lv_iload_n hx hb dX8_tests_16 rfl (lv_at hl 2 rfl) ?_
  obtain ⟨h_6, hw⟩ := hw
  refine va_iald hx hb hE.1 hP 4 0 rfl rfl (h_6) dX8_tests_17 ?_
  refine lv_bipush (v := 24) hx hb dX8_tests_18 (by decide) ?_
  refine lv_icmp_ne (tgt := 44) hx hb dX8_tests_20 (by decide) (fun c_7 => ?_) (fun c_7 => ?_)
  · replace hw := hw.1 c_7
    exact kj_X8_tests_44 hx hb hown hts hml hE hT hA hRf hRl hRc h am Fthrown Ftaped Fsize Fplace Fbegin Ftoken Fword Ftold Fwrong Fcode Fat Fway Fnext FisEnd FisFallen Fwritten Fmade Fstate FhandNext FhandSteps FhandWritten FmarkAt AkeptBy Aahead Aterm x0  Φ  kR165 Akept Aagainst Asum_2 AsumBy AtermBy_3 (Asum_2 (x0).toNatClampNeg) _ _ _ hw hP hD hS (lv_sub hl [1, 2, 0] rfl)
  · replace hw := hw.2 c_7
    refine lv_aload_n hx hb dX8_tests_23 rfl (lv_at hl 1 rfl) ?_
    refine va_get (D := D) (ci := 7) (v := .ref (am 24)) (C := RX8) (T := TX8) (N := 69) hx hb hts (fun w h => wm_c (wc_X8 w h)) hown hE.1 hP 0 rfl rfl 34 (by decide) (hts (.fieldLink RX8 84 "WornLinesModel" "ahead" "[I") (wm_c hw_74)) (fun _ h9 => h9) rfl dX8_tests_24 ?_
    refine lv_iload_n hx hb dX8_tests_27 rfl (lv_at hl 2 rfl) ?_
    obtain ⟨h_27, hw⟩ := hw
    refine va_iald hx hb hE.1 hP 3 0 rfl rfl (h_27) dX8_tests_28 ?_
    refine lv_aload_n hx hb dX8_tests_29 rfl (lv_at hl 1 rfl) ?_
    refine va_get (D := D) (ci := 7) (v := .ref (am 26)) (C := RX8) (T := TX8) (N := 69) hx hb hts (fun w h => wm_c (wc_X8 w h)) hown hE.1 hP 0 rfl rfl 36 (by decide) (hts (.fieldLink RX8 90 "WornLinesModel" "sum" "[I") (wm_c hw_69)) (fun _ h9 => h9) rfl dX8_tests_30 ?_
    refine lv_iload_n hx hb dX8_tests_33 rfl (lv_at hl 2 rfl) ?_
    obtain ⟨h_28, hw⟩ := hw
    refine va_iald hx hb hE.1 hP 5 0 rfl rfl (h_28) dX8_tests_34 ?_
    refine lv_icmp_ge (tgt := 42) hx hb dX8_tests_35 (by decide) (fun c_29 => ?_) (fun c_29 => ?_)
    · replace hw := hw.1 c_29
      refine lv_iconst (v := 0) hx hb dX8_tests_42 (by decide) ?_
      refine lv_istore_n (lv' := [(2, .int (0)), (0, .ref h), (1, .int (x0))]) hx hb dX8_tests_43 rfl hl (by decide) rfl (fun ls hl => ?_)
      exact kj_X8_tests_44 hx hb hown hts hml hE hT hA hRf hRl hRc h am Fthrown Ftaped Fsize Fplace Fbegin Ftoken Fword Ftold Fwrong Fcode Fat Fway Fnext FisEnd FisFallen Fwritten Fmade Fstate FhandNext FhandSteps FhandWritten FmarkAt AkeptBy Aahead Aterm x0  Φ  kR165 Akept Aagainst Asum_2 AsumBy AtermBy_3 0 _ _ _ hw hP hD hS (lv_sub hl [1, 2, 0] rfl)
    · replace hw := hw.2 c_29
      refine lv_iconst (v := 1) hx hb dX8_tests_38 (by decide) ?_
      refine lv_goto (tgt := 43) hx hb dX8_tests_39 (by decide) ?_
      refine lv_istore_n (lv' := [(2, .int (1)), (0, .ref h), (1, .int (x0))]) hx hb dX8_tests_43 rfl hl (by decide) rfl (fun ls hl => ?_)
      exact kj_X8_tests_44 hx hb hown hts hml hE hT hA hRf hRl hRc h am Fthrown Ftaped Fsize Fplace Fbegin Ftoken Fword Ftold Fwrong Fcode Fat Fway Fnext FisEnd FisFallen Fwritten Fmade Fstate FhandNext FhandSteps FhandWritten FmarkAt AkeptBy Aahead Aterm x0  Φ  kR165 Akept Aagainst Asum_2 AsumBy AtermBy_3 1 _ _ _ hw hP hD hS (lv_sub hl [1, 2, 0] rfl)
set_option maxHeartbeats 4000000 in
set_option maxRecDepth 100000 in
theorem c_X8_tests (l : Launch) (D : va_G) (ak : Nat → ClassId) (ad : Nat → Nat) (sz : Nat) (h : Nat) (am : Nat → Nat) (Fthrown : Int32) (Ftaped : Int32) (Fsize : Int32) (Fplace : Int32) (Fbegin : Int32) (Ftoken : Int32) (Fword : Int64) (Ftold : Int32) (Fwrong : Int32) (Fcode : Int32) (Fat : Int32) (Fway : Int32) (Fnext : Int32) (FisEnd : Int32) (FisFallen : Int32) (Fwritten : Int32) (Fmade : Int32) (Fstate : Int32) (FhandNext : Int32) (FhandSteps : Int32) (FhandWritten : Int32) (FmarkAt : Int32) (Akept : Nat → Int32) (AkeptBy : Nat → Int32) (Aahead : Nat → Int32) (Aagainst : Nat → Int32) (Asum : Nat → Int32) (AsumBy : Nat → Int32) (Aterm : Nat → Int32) (AtermBy : Nat → Int32) (x0 : Int32) (Φ : (Nat → Int32) → (Nat → Int32) → (Nat → Int32) → (Nat → Int32) → (Nat → Int32) → Prop) (hf : wp_X8_tests AkeptBy Aahead Aterm x0 Akept Aagainst Asum AsumBy AtermBy Φ) : Met l yX8_tests wsX8_tests ({ frames := 1, cells := 0, slots := 0, locals := 21 }) (cPre D ak ad [.ref h, .int (x0)] ((wW_X8_tests ak ad h am Fthrown Ftaped Fsize Fplace Fbegin Ftoken Fword Ftold Fwrong Fcode Fat Fway Fnext FisEnd FisFallen Fwritten Fmade Fstate FhandNext FhandSteps FhandWritten FmarkAt Akept AkeptBy Aahead Aagainst Asum AsumBy Aterm AtermBy)) sz) (cV D (S := (Nat → Int32) × (Nat → Int32) × (Nat → Int32) × (Nat → Int32) × (Nat → Int32)) (fun (u : (Nat → Int32) × (Nat → Int32) × (Nat → Int32) × (Nat → Int32) × (Nat → Int32)) => Φ u.1 u.2.1 u.2.2.1 u.2.2.2.1 u.2.2.2.2) (fun u => (wW_X8_tests ak ad h am Fthrown Ftaped Fsize Fplace Fbegin Ftoken Fword Ftold Fwrong Fcode Fat Fway Fnext FisEnd FisFallen Fwritten Fmade Fstate FhandNext FhandSteps FhandWritten FmarkAt u.1 AkeptBy Aahead u.2.1 u.2.2.1 u.2.2.2.1 Aterm u.2.2.2.2)) ((wW_X8_tests ak ad h am Fthrown Ftaped Fsize Fplace Fbegin Ftoken Fword Ftold Fwrong Fcode Fat Fway Fnext FisEnd FisFallen Fwritten Fmade Fstate FhandNext FhandSteps FhandWritten FmarkAt Akept AkeptBy Aahead Aagainst Asum AsumBy Aterm AtermBy)) sz) 0 0 (va_A ((wW_X8_tests ak ad h am Fthrown Ftaped Fsize Fplace Fbegin Ftoken Fword Ftold Fwrong Fcode Fat Fway Fnext FisEnd FisFallen Fwritten Fmade Fstate FhandNext FhandSteps FhandWritten FmarkAt Akept AkeptBy Aahead Aagainst Asum AsumBy Aterm AtermBy)) sz) := by
  refine Met.ofW (cc := cX8_tests) (maxL := 3) (ret := none) (by decide) rfl ?_
  intro p e s m args below meth c s₁ B hml hv
  obtain ⟨rfl, hsz, hP, hE, hD0, hT⟩ := hv
  have hx := B.exec
  have hb := B.bytes
  have hr := B.returns
  have hts := atoms_spec (ws := wsX8_tests) B.pre
  have hown : s.vm.findClass RX8 = some m.cls := findClass_of_methodNamed B.named
  have hlocks := B.notSynchronized
  subst hsz
  have hD := hD0.self (sz := s.heap.size)
  generalize hAe : va_A ((wW_X8_tests ak ad h am Fthrown Ftaped Fsize Fplace Fbegin Ftoken Fword Ftold Fwrong Fcode Fat Fway Fnext FisEnd FisFallen Fwritten Fmade Fstate FhandNext FhandSteps FhandWritten FmarkAt Akept AkeptBy Aahead Aagainst Asum AsumBy Aterm AtermBy)) s.heap.size = A at hD hT ⊢
  have hA : ∀ q : Nat, s.heap.size ≤ q → A q := fun q h => by rw [← hAe]; exact Or.inr h
  have hS : va_S A s.heap s.heap [] := va_S.rf
  have hl := lv_entry ([.ref h, .int (x0)]) (n := 3) (Nat.le_of_ble_eq_true rfl)
  rw [lg_entry_eq]
  generalize (lg_sl ([.ref h, .int (x0)]) ++ List.replicate (3 - (lg_sl ([.ref h, .int (x0)])).length) Slot.unset).toArray = ls at hl ⊢
  have hl : lv_has ls 3 [(0, .ref h), (1, .int (x0))] := hl
  exact kj_X8_tests_e hx hb hown hts hml hE hT hA (Nat.le_of_ble_eq_true rfl) (Nat.le_of_ble_eq_true rfl) ⟨Nat.le_of_ble_eq_true rfl, Nat.le_of_ble_eq_true rfl⟩ h am Fthrown Ftaped Fsize Fplace Fbegin Ftoken Fword Ftold Fwrong Fcode Fat Fway Fnext FisEnd FisFallen Fwritten Fmade Fstate FhandNext FhandSteps FhandWritten FmarkAt AkeptBy Aahead Aterm x0 Φ (fun Akept Aagainst Asum AsumBy AtermBy H locs ls hw hP hD hS => W.vret hx hb hr (fun t ht hW => ⟨⟨(Akept, Aagainst, Asum, AsumBy, AtermBy), rfl, hw, by rw [ht]; exact hP, by rw [hAe]; exact hD⟩, by rw [hAe]; exact hS.F ht⟩) hS.2.2 dX8_tests_165) Akept Aagainst Asum AsumBy AtermBy _ _ _ hf hP hD hS hl

def wW_X8_lineOf (ak : Nat → ClassId) (ad : Nat → Nat) (h : Nat) (am : Nat → Nat) (Fthrown : Int32) (Ftaped : Int32) (Fsize : Int32) (Fplace : Int32) (Fbegin : Int32) (Ftoken : Int32) (Fword : Int64) (Ftold : Int32) (Fwrong : Int32) (Fcode : Int32) (Fat : Int32) (Fway : Int32) (Fnext : Int32) (FisEnd : Int32) (FisFallen : Int32) (Fwritten : Int32) (Fmade : Int32) (Fstate : Int32) (FhandNext : Int32) (FhandSteps : Int32) (FhandWritten : Int32) (FmarkAt : Int32) (Alines : Nat → Int32) : va_W := [(h, .inr (7, mob am (Fthrown) (Ftaped) (Fsize) (Fplace) (Fbegin) (Ftoken) (Fword) (Ftold) (Fwrong) (Fcode) (Fat) (Fway) (Fnext) (FisEnd) (FisFallen) (Fwritten) (Fmade) (Fstate) (FhandNext) (FhandSteps) (FhandWritten) (FmarkAt))), ((am 4), .inl (ak 0, 6, .inl (Alines)))]
def wp_X8_lineOf (Fat : Int32) (Alines : Nat → Int32) (x0 : Int32)  (Φ : Int32 → Prop) : Prop := vp_in Fat 6 ∧ ¬ (Alines (Fat).toNatClampNeg) = 0 ∧ (0 ≤ (x0 - x0 / (Alines (Fat).toNatClampNeg) * (Alines (Fat).toNatClampNeg)) → Φ (x0 - x0 / (Alines (Fat).toNatClampNeg) * (Alines (Fat).toNatClampNeg)) ) ∧ (¬ 0 ≤ (x0 - x0 / (Alines (Fat).toNatClampNeg) * (Alines (Fat).toNatClampNeg)) → Φ ((x0 - x0 / (Alines (Fat).toNatClampNeg) * (Alines (Fat).toNatClampNeg)) + (Alines (Fat).toNatClampNeg)) )
set_option maxHeartbeats 4000000 in
set_option maxRecDepth 100000 in
theorem kj_X8_lineOf_e {p : Program} {l : Launch} {e : Env} {R : Room} {s : State} {m : MethodId} {args : Array Value} {below : List Frame} {meth : Method} {c : Code} {cells slots : Nat} {Q : State → Prop} {A : Nat → Prop} {D : va_G} {ak : Nat → ClassId} {ad : Nat → Nat} (hx : p.tables.exec = Jvm.exec) (hb : c.code = cX8_lineOf) (hown : s.vm.findClass RX8 = some m.cls) (hts : ∀ w ∈ wsX8_lineOf, w.before args s = true) (hml : c.maxLocals = 4) (hE : EV D ak s) (hT : ST D ak ad A s s.heap) (hA : ∀ q, s.heap.size ≤ q → A q) (h : Nat) (am : Nat → Nat) (Fthrown : Int32) (Ftaped : Int32) (Fsize : Int32) (Fplace : Int32) (Fbegin : Int32) (Ftoken : Int32) (Fword : Int64) (Ftold : Int32) (Fwrong : Int32) (Fcode : Int32) (Fat : Int32) (Fway : Int32) (Fnext : Int32) (FisEnd : Int32) (FisFallen : Int32) (Fwritten : Int32) (Fmade : Int32) (Fstate : Int32) (FhandNext : Int32) (FhandSteps : Int32) (FhandWritten : Int32) (FmarkAt : Int32) (Alines : Nat → Int32) (x0 : Int32)  (Φ : Int32 → Prop)
    (kR25 : ∀ (r : Int32)  (H : Heap) (locs : List Loc) (ls : Array Slot), Φ r  → va_P D vwCl (wW_X8_lineOf ak ad h am Fthrown Ftaped Fsize Fplace Fbegin Ftoken Fword Ftold Fwrong Fcode Fat Fway Fnext FisEnd FisFallen Fwritten Fmade Fstate FhandNext FhandSteps FhandWritten FmarkAt Alines) H → va_D A (wW_X8_lineOf ak ad h am Fthrown Ftaped Fsize Fplace Fbegin Ftoken Fword Ftold Fwrong Fcode Fat Fway Fnext FisEnd FisFallen Fwritten Fmade Fstate FhandNext FhandSteps FhandWritten FmarkAt Alines) → va_S A s.heap H locs → W p l e R s m args below meth c H locs cells slots Q (F0 m 25 ls [.int r]))
    : ∀  (H : Heap) (locs : List Loc) (ls : Array Slot), wp_X8_lineOf Fat Alines x0  Φ → va_P D vwCl (wW_X8_lineOf ak ad h am Fthrown Ftaped Fsize Fplace Fbegin Ftoken Fword Ftold Fwrong Fcode Fat Fway Fnext FisEnd FisFallen Fwritten Fmade Fstate FhandNext FhandSteps FhandWritten FmarkAt Alines) H → va_D A (wW_X8_lineOf ak ad h am Fthrown Ftaped Fsize Fplace Fbegin Ftoken Fword Ftold Fwrong Fcode Fat Fway Fnext FisEnd FisFallen Fwritten Fmade Fstate FhandNext FhandSteps FhandWritten FmarkAt Alines) → va_S A s.heap H locs → lv_has ls 4 [(0, .ref h), (1, .int (x0))] → W p l e R s m args below meth c H locs cells slots Q (F0 m 0 ls ([])) := by
  intro  H locs ls hw hP hD hS hl
  delta wp_X8_lineOf at hw
  refine lv_aload_n hx hb dX8_lineOf_0 rfl (lv_at hl 0 rfl) ?_
  refine va_get (D := D) (ci := 7) (v := .ref (am 4)) (C := RX8) (T := TX8) (N := 69) hx hb hts (fun w h => wm_c (wc_X8 w h)) hown hE.1 hP 0 rfl rfl 13 (by decide) (hts (.fieldLink RX8 22 "WornLinesModel" "lines" "[I") (wm_c hw_75)) (fun _ h9 => h9) rfl dX8_lineOf_1 ?_
  refine lv_aload_n hx hb dX8_lineOf_4 rfl (lv_at hl 0 rfl) ?_
  refine va_get (D := D) (ci := 7) (v := .int (Fat)) (C := RX8) (T := TX8) (N := 69) hx hb hts (fun w h => wm_c (wc_X8 w h)) hown hE.1 hP 0 rfl rfl 42 (by decide) (hts (.fieldLink RX8 352 "WornLinesModel" "at" "I") (wm_c hw_76)) (fun _ h9 => h9) rfl dX8_lineOf_5 ?_
  obtain ⟨h_1, hw⟩ := hw
  refine va_iald hx hb hE.1 hP 1 0 rfl rfl (h_1) dX8_lineOf_8 ?_
  refine lv_istore_n (lv' := [(2, .int (Alines (Fat).toNatClampNeg)), (0, .ref h), (1, .int (x0))]) hx hb dX8_lineOf_9 rfl hl (by decide) rfl (fun ls hl => ?_)
  refine lv_iload_n hx hb dX8_lineOf_10 rfl (lv_at hl 2 rfl) ?_
  refine lv_iload_n hx hb dX8_lineOf_11 rfl (lv_at hl 0 rfl) ?_
  obtain ⟨h_2, hw⟩ := hw
  refine lv_irem hx hb dX8_lineOf_12 (h_2) ?_
  refine lv_istore_n (lv' := [(3, .int (x0 - x0 / (Alines (Fat).toNatClampNeg) * (Alines (Fat).toNatClampNeg))), (2, .int (Alines (Fat).toNatClampNeg)), (0, .ref h), (1, .int (x0))]) hx hb dX8_lineOf_13 rfl hl (by decide) rfl (fun ls hl => ?_)
  refine lv_iload_n hx hb dX8_lineOf_14 rfl (lv_at hl 0 rfl) ?_
  refine lv_if_ge (tgt := 24) hx hb dX8_lineOf_15 (by decide) (fun c_3 => ?_) (fun c_3 => ?_)
  · replace hw := hw.1 c_3
    refine lv_iload_n hx hb dX8_lineOf_24 rfl (lv_at hl 0 rfl) ?_
    exact kR25 (x0 - x0 / (Alines (Fat).toNatClampNeg) * (Alines (Fat).toNatClampNeg))  _ _ _ hw hP hD hS
  · replace hw := hw.2 c_3
    refine lv_iload_n hx hb dX8_lineOf_18 rfl (lv_at hl 0 rfl) ?_
    refine lv_iload_n hx hb dX8_lineOf_19 rfl (lv_at hl 1 rfl) ?_
    refine lv_iadd hx hb dX8_lineOf_20 ?_
    refine lv_goto (tgt := 25) hx hb dX8_lineOf_21 (by decide) ?_
    exact kR25 ((x0 - x0 / (Alines (Fat).toNatClampNeg) * (Alines (Fat).toNatClampNeg)) + (Alines (Fat).toNatClampNeg))  _ _ _ hw hP hD hS
set_option maxHeartbeats 4000000 in
set_option maxRecDepth 100000 in
theorem c_X8_lineOf (l : Launch) (D : va_G) (ak : Nat → ClassId) (ad : Nat → Nat) (sz : Nat) (h : Nat) (am : Nat → Nat) (Fthrown : Int32) (Ftaped : Int32) (Fsize : Int32) (Fplace : Int32) (Fbegin : Int32) (Ftoken : Int32) (Fword : Int64) (Ftold : Int32) (Fwrong : Int32) (Fcode : Int32) (Fat : Int32) (Fway : Int32) (Fnext : Int32) (FisEnd : Int32) (FisFallen : Int32) (Fwritten : Int32) (Fmade : Int32) (Fstate : Int32) (FhandNext : Int32) (FhandSteps : Int32) (FhandWritten : Int32) (FmarkAt : Int32) (Alines : Nat → Int32) (x0 : Int32) (Φ : Int32 → Prop) (hf : wp_X8_lineOf Fat Alines x0 Φ) : Met l yX8_lineOf wsX8_lineOf ({ frames := 0, cells := 0, slots := 0, locals := 0 }) (cPre D ak ad [.ref h, .int (x0)] ((wW_X8_lineOf ak ad h am Fthrown Ftaped Fsize Fplace Fbegin Ftoken Fword Ftold Fwrong Fcode Fat Fway Fnext FisEnd FisFallen Fwritten Fmade Fstate FhandNext FhandSteps FhandWritten FmarkAt Alines)) sz) (cI D (S := Unit) (fun (r : Int32) (u : Unit) => Φ r ) (fun u => (wW_X8_lineOf ak ad h am Fthrown Ftaped Fsize Fplace Fbegin Ftoken Fword Ftold Fwrong Fcode Fat Fway Fnext FisEnd FisFallen Fwritten Fmade Fstate FhandNext FhandSteps FhandWritten FmarkAt Alines)) ((wW_X8_lineOf ak ad h am Fthrown Ftaped Fsize Fplace Fbegin Ftoken Fword Ftold Fwrong Fcode Fat Fway Fnext FisEnd FisFallen Fwritten Fmade Fstate FhandNext FhandSteps FhandWritten FmarkAt Alines)) sz) 0 0 (va_A ((wW_X8_lineOf ak ad h am Fthrown Ftaped Fsize Fplace Fbegin Ftoken Fword Ftold Fwrong Fcode Fat Fway Fnext FisEnd FisFallen Fwritten Fmade Fstate FhandNext FhandSteps FhandWritten FmarkAt Alines)) sz) := by
  refine Met.ofW (cc := cX8_lineOf) (maxL := 4) (ret := (some .int)) (by decide) rfl ?_
  intro p e s m args below meth c s₁ B hml hv
  obtain ⟨rfl, hsz, hP, hE, hD0, hT⟩ := hv
  have hx := B.exec
  have hb := B.bytes
  have hr := B.returns
  have hts := atoms_spec (ws := wsX8_lineOf) B.pre
  have hown : s.vm.findClass RX8 = some m.cls := findClass_of_methodNamed B.named
  have hlocks := B.notSynchronized
  subst hsz
  have hD := hD0.self (sz := s.heap.size)
  generalize hAe : va_A ((wW_X8_lineOf ak ad h am Fthrown Ftaped Fsize Fplace Fbegin Ftoken Fword Ftold Fwrong Fcode Fat Fway Fnext FisEnd FisFallen Fwritten Fmade Fstate FhandNext FhandSteps FhandWritten FmarkAt Alines)) s.heap.size = A at hD hT ⊢
  have hA : ∀ q : Nat, s.heap.size ≤ q → A q := fun q h => by rw [← hAe]; exact Or.inr h
  have hS : va_S A s.heap s.heap [] := va_S.rf
  have hl := lv_entry ([.ref h, .int (x0)]) (n := 4) (Nat.le_of_ble_eq_true rfl)
  rw [lg_entry_eq]
  generalize (lg_sl ([.ref h, .int (x0)]) ++ List.replicate (4 - (lg_sl ([.ref h, .int (x0)])).length) Slot.unset).toArray = ls at hl ⊢
  have hl : lv_has ls 4 [(0, .ref h), (1, .int (x0))] := hl
  exact kj_X8_lineOf_e hx hb hown hts hml hE hT hA h am Fthrown Ftaped Fsize Fplace Fbegin Ftoken Fword Ftold Fwrong Fcode Fat Fway Fnext FisEnd FisFallen Fwritten Fmade Fstate FhandNext FhandSteps FhandWritten FmarkAt Alines x0 Φ (fun r  H locs ls hw hP hD hS => W.iret (v := r) hx hb hr (fun t ht hW => ⟨⟨r, (), rfl, hw, by rw [ht]; exact hP, by rw [hAe]; exact hD⟩, by rw [hAe]; exact hS.F ht⟩) hS.2.2 dX8_lineOf_25)  _ _ _ hf hP hD hS hl

def wW_X8_wornness (ak : Nat → ClassId) (ad : Nat → Nat) (h : Nat) (am : Nat → Nat) (Fthrown : Int32) (Ftaped : Int32) (Fsize : Int32) (Fplace : Int32) (Fbegin : Int32) (Ftoken : Int32) (Fword : Int64) (Ftold : Int32) (Fwrong : Int32) (Fcode : Int32) (Fat : Int32) (Fway : Int32) (Fnext : Int32) (FisEnd : Int32) (FisFallen : Int32) (Fwritten : Int32) (Fmade : Int32) (Fstate : Int32) (FhandNext : Int32) (FhandSteps : Int32) (FhandWritten : Int32) (FmarkAt : Int32) (Alines : Nat → Int32) (Awear : Nat → Int32) : va_W := [(h, .inr (7, mob am (Fthrown) (Ftaped) (Fsize) (Fplace) (Fbegin) (Ftoken) (Fword) (Ftold) (Fwrong) (Fcode) (Fat) (Fway) (Fnext) (FisEnd) (FisFallen) (Fwritten) (Fmade) (Fstate) (FhandNext) (FhandSteps) (FhandWritten) (FmarkAt))), ((am 4), .inl (ak 0, 6, .inl (Alines))), ((am 33), .inl (ak 0, 16, .inl (Awear)))]
def wp_X8_wornness (Fat : Int32) (Fway : Int32) (Alines : Nat → Int32) (Awear : Nat → Int32) (x0 : Int32)  (Φ : Int32 → Prop) : Prop := (¬ Fway = 2 → wp_X8_lineOf Fat Alines x0 (fun r_3 => vp_in r_3 16 ∧ Φ (Awear (r_3).toNatClampNeg) )) ∧ (Fway = 2 → Φ 0 )
set_option maxHeartbeats 4000000 in
set_option maxRecDepth 100000 in
theorem kj_X8_wornness_e {p : Program} {l : Launch} {e : Env} {R : Room} {s : State} {m : MethodId} {args : Array Value} {below : List Frame} {meth : Method} {c : Code} {cells slots : Nat} {Q : State → Prop} {A : Nat → Prop} {D : va_G} {ak : Nat → ClassId} {ad : Nat → Nat} (hx : p.tables.exec = Jvm.exec) (hb : c.code = cX8_wornness) (hown : s.vm.findClass RX8 = some m.cls) (hts : ∀ w ∈ wsX8_wornness, w.before args s = true) (hml : c.maxLocals = 2) (hE : EV D ak s) (hT : ST D ak ad A s s.heap) (hA : ∀ q, s.heap.size ≤ q → A q) (hRf : 1 ≤ R.frames) (hRl : 23 ≤ R.locals) (hRc : cells ≤ R.cells ∧ slots ≤ R.slots) (h : Nat) (am : Nat → Nat) (Fthrown : Int32) (Ftaped : Int32) (Fsize : Int32) (Fplace : Int32) (Fbegin : Int32) (Ftoken : Int32) (Fword : Int64) (Ftold : Int32) (Fwrong : Int32) (Fcode : Int32) (Fat : Int32) (Fway : Int32) (Fnext : Int32) (FisEnd : Int32) (FisFallen : Int32) (Fwritten : Int32) (Fmade : Int32) (Fstate : Int32) (FhandNext : Int32) (FhandSteps : Int32) (FhandWritten : Int32) (FmarkAt : Int32) (Alines : Nat → Int32) (Awear : Nat → Int32) (x0 : Int32)  (Φ : Int32 → Prop)
    (kR22 : ∀ (r : Int32)  (H : Heap) (locs : List Loc) (ls : Array Slot), Φ r  → va_P D vwCl (wW_X8_wornness ak ad h am Fthrown Ftaped Fsize Fplace Fbegin Ftoken Fword Ftold Fwrong Fcode Fat Fway Fnext FisEnd FisFallen Fwritten Fmade Fstate FhandNext FhandSteps FhandWritten FmarkAt Alines Awear) H → va_D A (wW_X8_wornness ak ad h am Fthrown Ftaped Fsize Fplace Fbegin Ftoken Fword Ftold Fwrong Fcode Fat Fway Fnext FisEnd FisFallen Fwritten Fmade Fstate FhandNext FhandSteps FhandWritten FmarkAt Alines Awear) → va_S A s.heap H locs → W p l e R s m args below meth c H locs cells slots Q (F0 m 22 ls [.int r]))
    : ∀  (H : Heap) (locs : List Loc) (ls : Array Slot), wp_X8_wornness Fat Fway Alines Awear x0  Φ → va_P D vwCl (wW_X8_wornness ak ad h am Fthrown Ftaped Fsize Fplace Fbegin Ftoken Fword Ftold Fwrong Fcode Fat Fway Fnext FisEnd FisFallen Fwritten Fmade Fstate FhandNext FhandSteps FhandWritten FmarkAt Alines Awear) H → va_D A (wW_X8_wornness ak ad h am Fthrown Ftaped Fsize Fplace Fbegin Ftoken Fword Ftold Fwrong Fcode Fat Fway Fnext FisEnd FisFallen Fwritten Fmade Fstate FhandNext FhandSteps FhandWritten FmarkAt Alines Awear) → va_S A s.heap H locs → lv_has ls 2 [(0, .ref h), (1, .int (x0))] → W p l e R s m args below meth c H locs cells slots Q (F0 m 0 ls ([])) := by
  intro  H locs ls hw hP hD hS hl
  delta wp_X8_wornness at hw
  refine lv_aload_n hx hb dX8_wornness_0 rfl (lv_at hl 0 rfl) ?_
  refine va_get (D := D) (ci := 7) (v := .int (Fway)) (C := RX8) (T := TX8) (N := 69) hx hb hts (fun w h => wm_c (wc_X8 w h)) hown hE.1 hP 0 rfl rfl 43 (by decide) (hts (.fieldLink RX8 355 "WornLinesModel" "way" "I") (wm_c hw_77)) (fun _ h9 => h9) rfl dX8_wornness_1 ?_
  refine lv_iconst (v := 2) hx hb dX8_wornness_4 (by decide) ?_
  refine lv_icmp_ne (tgt := 12) hx hb dX8_wornness_5 (by decide) (fun c_1 => ?_) (fun c_1 => ?_)
  · replace hw := hw.1 c_1
    refine lv_aload_n hx hb dX8_wornness_12 rfl (lv_at hl 0 rfl) ?_
    refine va_get (D := D) (ci := 7) (v := .ref (am 33)) (C := RX8) (T := TX8) (N := 69) hx hb hts (fun w h => wm_c (wc_X8 w h)) hown hE.1 hP 0 rfl rfl 48 (by decide) (hts (.fieldLink RX8 111 "WornLinesModel" "wear" "[I") (wm_c hw_78)) (fun _ h9 => h9) rfl dX8_wornness_13 ?_
    refine lv_aload_n hx hb dX8_wornness_16 rfl (lv_at hl 0 rfl) ?_
    refine lv_iload_n hx hb dX8_wornness_17 rfl (lv_at hl 1 rfl) ?_
    refine kc_i (wc := (wW_X8_lineOf ak ad h am Fthrown Ftaped Fsize Fplace Fbegin Ftoken Fword Ftold Fwrong Fcode Fat Fway Fnext FisEnd FisFallen Fwritten Fmade Fstate FhandNext FhandSteps FhandWritten FmarkAt Alines)) (wr := [((am 33), .inl (ak 0, 16, .inl (Awear)))]) hP hD hS hA [0, 1] [2] rfl rfl (by decide) (by decide) (va_runV (As := [.int (x0)]) (rest := [.ref (am 33)]) ⟨hx, hb, hml, hown, hts⟩ (c_X8_lineOf l D ak ad _ h am Fthrown Ftaped Fsize Fplace Fbegin Ftoken Fword Ftold Fwrong Fcode Fat Fway Fnext FisEnd FisFallen Fwritten Fmade Fstate FhandNext FhandSteps FhandWritten FmarkAt Alines x0 _ hw) (cwV 1 hts gX8_wornness_X8_lineOf rfl rfl rfl (by decide +kernel) ⟨(Nat.le_trans (Nat.le_of_ble_eq_true rfl) hRf), (Nat.le_trans (Nat.le_of_ble_eq_true rfl) hRl)⟩) (kc_preV (As := [.int (x0)]) (wc := (wW_X8_lineOf ak ad h am Fthrown Ftaped Fsize Fplace Fbegin Ftoken Fword Ftold Fwrong Fcode Fat Fway Fnext FisEnd FisFallen Fwritten Fmade Fstate FhandNext FhandSteps FhandWritten FmarkAt Alines)) hE hT hP hD hS hA [0, 1] (by decide) rfl rfl 0 7 rfl rfl rfl) rfl rfl hl.1 rfl (lv_room (Nat.le_of_ble_eq_true rfl)) dX8_wornness_18 ⟨hRc.1, hRc.2⟩) (fun r_3 u_2 H locs hw hP hD hS => ?_)
    try dsimp -zeta only at hw
    have hP : va_P D vwCl (wW_X8_wornness ak ad h am Fthrown Ftaped Fsize Fplace Fbegin Ftoken Fword Ftold Fwrong Fcode Fat Fway Fnext FisEnd FisFallen Fwritten Fmade Fstate FhandNext FhandSteps FhandWritten FmarkAt Alines Awear) H := hP.sub [1, 2, 0] rfl
    have hD : va_D A (wW_X8_wornness ak ad h am Fthrown Ftaped Fsize Fplace Fbegin Ftoken Fword Ftold Fwrong Fcode Fat Fway Fnext FisEnd FisFallen Fwritten Fmade Fstate FhandNext FhandSteps FhandWritten FmarkAt Alines Awear) := hD.sub [1, 2, 0] (by decide) rfl
    obtain ⟨h_4, hw⟩ := hw
    refine va_iald hx hb hE.1 hP 2 0 rfl rfl (h_4) dX8_wornness_21 ?_
    exact kR22 (Awear (r_3).toNatClampNeg)  _ _ _ hw hP hD hS
  · replace hw := hw.2 c_1
    refine lv_iconst (v := 0) hx hb dX8_wornness_8 (by decide) ?_
    refine lv_goto (tgt := 22) hx hb dX8_wornness_9 (by decide) ?_
    exact kR22 0  _ _ _ hw hP hD hS
set_option maxHeartbeats 4000000 in
set_option maxRecDepth 100000 in
theorem c_X8_wornness (l : Launch) (D : va_G) (ak : Nat → ClassId) (ad : Nat → Nat) (sz : Nat) (h : Nat) (am : Nat → Nat) (Fthrown : Int32) (Ftaped : Int32) (Fsize : Int32) (Fplace : Int32) (Fbegin : Int32) (Ftoken : Int32) (Fword : Int64) (Ftold : Int32) (Fwrong : Int32) (Fcode : Int32) (Fat : Int32) (Fway : Int32) (Fnext : Int32) (FisEnd : Int32) (FisFallen : Int32) (Fwritten : Int32) (Fmade : Int32) (Fstate : Int32) (FhandNext : Int32) (FhandSteps : Int32) (FhandWritten : Int32) (FmarkAt : Int32) (Alines : Nat → Int32) (Awear : Nat → Int32) (x0 : Int32) (Φ : Int32 → Prop) (hf : wp_X8_wornness Fat Fway Alines Awear x0 Φ) : Met l yX8_wornness wsX8_wornness ({ frames := 1, cells := 0, slots := 0, locals := 23 }) (cPre D ak ad [.ref h, .int (x0)] ((wW_X8_wornness ak ad h am Fthrown Ftaped Fsize Fplace Fbegin Ftoken Fword Ftold Fwrong Fcode Fat Fway Fnext FisEnd FisFallen Fwritten Fmade Fstate FhandNext FhandSteps FhandWritten FmarkAt Alines Awear)) sz) (cI D (S := Unit) (fun (r : Int32) (u : Unit) => Φ r ) (fun u => (wW_X8_wornness ak ad h am Fthrown Ftaped Fsize Fplace Fbegin Ftoken Fword Ftold Fwrong Fcode Fat Fway Fnext FisEnd FisFallen Fwritten Fmade Fstate FhandNext FhandSteps FhandWritten FmarkAt Alines Awear)) ((wW_X8_wornness ak ad h am Fthrown Ftaped Fsize Fplace Fbegin Ftoken Fword Ftold Fwrong Fcode Fat Fway Fnext FisEnd FisFallen Fwritten Fmade Fstate FhandNext FhandSteps FhandWritten FmarkAt Alines Awear)) sz) 0 0 (va_A ((wW_X8_wornness ak ad h am Fthrown Ftaped Fsize Fplace Fbegin Ftoken Fword Ftold Fwrong Fcode Fat Fway Fnext FisEnd FisFallen Fwritten Fmade Fstate FhandNext FhandSteps FhandWritten FmarkAt Alines Awear)) sz) := by
  refine Met.ofW (cc := cX8_wornness) (maxL := 2) (ret := (some .int)) (by decide) rfl ?_
  intro p e s m args below meth c s₁ B hml hv
  obtain ⟨rfl, hsz, hP, hE, hD0, hT⟩ := hv
  have hx := B.exec
  have hb := B.bytes
  have hr := B.returns
  have hts := atoms_spec (ws := wsX8_wornness) B.pre
  have hown : s.vm.findClass RX8 = some m.cls := findClass_of_methodNamed B.named
  have hlocks := B.notSynchronized
  subst hsz
  have hD := hD0.self (sz := s.heap.size)
  generalize hAe : va_A ((wW_X8_wornness ak ad h am Fthrown Ftaped Fsize Fplace Fbegin Ftoken Fword Ftold Fwrong Fcode Fat Fway Fnext FisEnd FisFallen Fwritten Fmade Fstate FhandNext FhandSteps FhandWritten FmarkAt Alines Awear)) s.heap.size = A at hD hT ⊢
  have hA : ∀ q : Nat, s.heap.size ≤ q → A q := fun q h => by rw [← hAe]; exact Or.inr h
  have hS : va_S A s.heap s.heap [] := va_S.rf
  have hl := lv_entry ([.ref h, .int (x0)]) (n := 2) (Nat.le_of_ble_eq_true rfl)
  rw [lg_entry_eq]
  generalize (lg_sl ([.ref h, .int (x0)]) ++ List.replicate (2 - (lg_sl ([.ref h, .int (x0)])).length) Slot.unset).toArray = ls at hl ⊢
  have hl : lv_has ls 2 [(0, .ref h), (1, .int (x0))] := hl
  exact kj_X8_wornness_e hx hb hown hts hml hE hT hA (Nat.le_of_ble_eq_true rfl) (Nat.le_of_ble_eq_true rfl) ⟨Nat.le_of_ble_eq_true rfl, Nat.le_of_ble_eq_true rfl⟩ h am Fthrown Ftaped Fsize Fplace Fbegin Ftoken Fword Ftold Fwrong Fcode Fat Fway Fnext FisEnd FisFallen Fwritten Fmade Fstate FhandNext FhandSteps FhandWritten FmarkAt Alines Awear x0 Φ (fun r  H locs ls hw hP hD hS => W.iret (v := r) hx hb hr (fun t ht hW => ⟨⟨r, (), rfl, hw, by rw [ht]; exact hP, by rw [hAe]; exact hD⟩, by rw [hAe]; exact hS.F ht⟩) hS.2.2 dX8_wornness_22)  _ _ _ hf hP hD hS hl
