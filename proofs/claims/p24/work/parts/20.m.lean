theorem dX8_programme_30 : decode cX8_programme 30 = .ok (.iload_n 1, 1) := by decide +kernel
theorem dX8_programme_31 : decode cX8_programme 31 = .ok (.bipush 16, 2) := by decide +kernel
theorem dX8_programme_33 : decode cX8_programme 33 = .ok (.if_icmp .ge 16, 3) := by decide +kernel
theorem dX8_programme_49 : decode cX8_programme 49 = .ok (.iconst 0, 1) := by decide +kernel
theorem dX8_programme_36 : decode cX8_programme 36 = .ok (.aload_n 0, 1) := by decide +kernel
theorem dX8_programme_37 : decode cX8_programme 37 = .ok (.getfield 126, 3) := by decide +kernel
theorem dX8_programme_40 : decode cX8_programme 40 = .ok (.iload_n 1, 1) := by decide +kernel
theorem dX8_programme_41 : decode cX8_programme 41 = .ok (.iconst 0, 1) := by decide +kernel
theorem dX8_programme_42 : decode cX8_programme 42 = .ok (.iastore, 1) := by decide +kernel
theorem dX8_programme_43 : decode cX8_programme 43 = .ok (.iinc 1 1, 3) := by decide +kernel
theorem dX8_programme_46 : decode cX8_programme 46 = .ok (.goto (-16), 3) := by decide +kernel
theorem dX8_programme_0 : decode cX8_programme 0 = .ok (.aload_n 0, 1) := by decide +kernel
theorem dX8_programme_1 : decode cX8_programme 1 = .ok (.iconst 0, 1) := by decide +kernel
theorem dX8_programme_2 : decode cX8_programme 2 = .ok (.putfield 153, 3) := by decide +kernel
theorem dX8_programme_5 : decode cX8_programme 5 = .ok (.aload_n 0, 1) := by decide +kernel
set_option maxRecDepth 20000 in
theorem ggX8_programme_X8_readsAll : GoodIn wsX8_programme wsX8_readsAll := gup gc_X8_readsAll
set_option maxRecDepth 20000 in
theorem gX8_programme_X8_readsAll : GoodIn wsX8_programme (wsV RX8 319 RX8 yX8_readsAll wsX8_readsAll) := gup (glV hw_152 hw_153 hw_154 hw_15 gc_X8_readsAll)
theorem dX8_programme_6 : decode cX8_programme 6 = .ok (.invokevirtual 319, 3) := by decide +kernel
theorem dX8_programme_9 : decode cX8_programme 9 = .ok (.ifCond .ne 8, 3) := by decide +kernel
theorem dX8_programme_17 : decode cX8_programme 17 = .ok (.aload_n 0, 1) := by decide +kernel
theorem dX8_programme_18 : decode cX8_programme 18 = .ok (.iconst 1, 1) := by decide +kernel
theorem dX8_programme_19 : decode cX8_programme 19 = .ok (.iconst 0, 1) := by decide +kernel
set_option maxRecDepth 20000 in
theorem ggX8_programme_X8_lays : GoodIn wsX8_programme wsX8_lays := gup gc_X8_lays
set_option maxRecDepth 20000 in
theorem gX8_programme_X8_lays : GoodIn wsX8_programme (wsV RX8 322 RX8 yX8_lays wsX8_lays) := gup (glV hw_155 hw_156 hw_157 hw_15 gc_X8_lays)
theorem dX8_programme_20 : decode cX8_programme 20 = .ok (.invokevirtual 322, 3) := by decide +kernel
theorem dX8_programme_23 : decode cX8_programme 23 = .ok (.aload_n 0, 1) := by decide +kernel
theorem dX8_programme_24 : decode cX8_programme 24 = .ok (.iconst 0, 1) := by decide +kernel
theorem dX8_programme_25 : decode cX8_programme 25 = .ok (.putfield 326, 3) := by decide +kernel
theorem dX8_programme_28 : decode cX8_programme 28 = .ok (.iconst 0, 1) := by decide +kernel
theorem dX8_programme_29 : decode cX8_programme 29 = .ok (.istore_n 1, 1) := by decide +kernel
theorem dX8_programme_12 : decode cX8_programme 12 = .ok (.aload_n 0, 1) := by decide +kernel
theorem dX8_programme_13 : decode cX8_programme 13 = .ok (.getfield 189, 3) := by decide +kernel
theorem dX8_programme_16 : decode cX8_programme 16 = .ok (.ireturn, 1) := by decide +kernel
theorem dX8_programme_50 : decode cX8_programme 50 = .ok (.ireturn, 1) := by decide +kernel
theorem dX8_isLine_0 : decode cX8_isLine 0 = .ok (.iload_n 1, 1) := by decide +kernel
theorem dX8_isLine_1 : decode cX8_isLine 1 = .ok (.ifCond .lt 17, 3) := by decide +kernel
theorem dX8_isLine_18 : decode cX8_isLine 18 = .ok (.iconst 0, 1) := by decide +kernel
theorem dX8_isLine_4 : decode cX8_isLine 4 = .ok (.iload_n 1, 1) := by decide +kernel
theorem dX8_isLine_5 : decode cX8_isLine 5 = .ok (.aload_n 0, 1) := by decide +kernel
theorem dX8_isLine_6 : decode cX8_isLine 6 = .ok (.getfield 22, 3) := by decide +kernel
theorem dX8_isLine_9 : decode cX8_isLine 9 = .ok (.iconst 0, 1) := by decide +kernel
theorem dX8_isLine_10 : decode cX8_isLine 10 = .ok (.iaload, 1) := by decide +kernel
theorem dX8_isLine_11 : decode cX8_isLine 11 = .ok (.if_icmp .ge 7, 3) := by decide +kernel
theorem dX8_isLine_14 : decode cX8_isLine 14 = .ok (.iconst 1, 1) := by decide +kernel
theorem dX8_isLine_15 : decode cX8_isLine 15 = .ok (.goto 4, 3) := by decide +kernel
theorem dX8_isLine_19 : decode cX8_isLine 19 = .ok (.ireturn, 1) := by decide +kernel
theorem dX8_isStuff_0 : decode cX8_isStuff 0 = .ok (.iload_n 1, 1) := by decide +kernel
theorem dX8_isStuff_1 : decode cX8_isStuff 1 = .ok (.ifCond .lt 17, 3) := by decide +kernel
theorem dX8_isStuff_18 : decode cX8_isStuff 18 = .ok (.iconst 0, 1) := by decide +kernel
theorem dX8_isStuff_4 : decode cX8_isStuff 4 = .ok (.iload_n 1, 1) := by decide +kernel
theorem dX8_isStuff_5 : decode cX8_isStuff 5 = .ok (.aload_n 0, 1) := by decide +kernel
theorem dX8_isStuff_6 : decode cX8_isStuff 6 = .ok (.getfield 13, 3) := by decide +kernel
theorem dX8_isStuff_9 : decode cX8_isStuff 9 = .ok (.iconst 0, 1) := by decide +kernel
theorem dX8_isStuff_10 : decode cX8_isStuff 10 = .ok (.iaload, 1) := by decide +kernel
theorem dX8_isStuff_11 : decode cX8_isStuff 11 = .ok (.if_icmp .ge 7, 3) := by decide +kernel
theorem dX8_isStuff_14 : decode cX8_isStuff 14 = .ok (.iconst 1, 1) := by decide +kernel
theorem dX8_isStuff_15 : decode cX8_isStuff 15 = .ok (.goto 4, 3) := by decide +kernel
theorem dX8_isStuff_19 : decode cX8_isStuff 19 = .ok (.ireturn, 1) := by decide +kernel
theorem dX8_isCell_0 : decode cX8_isCell 0 = .ok (.iload_n 1, 1) := by decide +kernel
theorem dX8_isCell_1 : decode cX8_isCell 1 = .ok (.ifCond .lt 17, 3) := by decide +kernel
theorem dX8_isCell_18 : decode cX8_isCell 18 = .ok (.iconst 0, 1) := by decide +kernel
theorem dX8_isCell_4 : decode cX8_isCell 4 = .ok (.iload_n 1, 1) := by decide +kernel
theorem dX8_isCell_5 : decode cX8_isCell 5 = .ok (.aload_n 0, 1) := by decide +kernel
theorem dX8_isCell_6 : decode cX8_isCell 6 = .ok (.getfield 16, 3) := by decide +kernel
theorem dX8_isCell_9 : decode cX8_isCell 9 = .ok (.iconst 0, 1) := by decide +kernel
theorem dX8_isCell_10 : decode cX8_isCell 10 = .ok (.iaload, 1) := by decide +kernel
theorem dX8_isCell_11 : decode cX8_isCell 11 = .ok (.if_icmp .ge 7, 3) := by decide +kernel
theorem dX8_isCell_14 : decode cX8_isCell 14 = .ok (.iconst 1, 1) := by decide +kernel
theorem dX8_isCell_15 : decode cX8_isCell 15 = .ok (.goto 4, 3) := by decide +kernel
theorem dX8_isCell_19 : decode cX8_isCell 19 = .ok (.ireturn, 1) := by decide +kernel
theorem dX8_stuff_0 : decode cX8_stuff 0 = .ok (.aload_n 0, 1) := by decide +kernel
theorem dX8_stuff_1 : decode cX8_stuff 1 = .ok (.iconst 0, 1) := by decide +kernel
theorem dX8_stuff_2 : decode cX8_stuff 2 = .ok (.putfield 153, 3) := by decide +kernel
theorem dX8_stuff_5 : decode cX8_stuff 5 = .ok (.aload_n 0, 1) := by decide +kernel
theorem dX8_stuff_6 : decode cX8_stuff 6 = .ok (.iload_n 1, 1) := by decide +kernel
set_option maxRecDepth 20000 in
theorem ggX8_stuff_X8_isStuff : GoodIn wsX8_stuff wsX8_isStuff := gup gc_X8_isStuff
set_option maxRecDepth 20000 in
theorem gX8_stuff_X8_isStuff : GoodIn wsX8_stuff (wsV RX8 329 RX8 yX8_isStuff wsX8_isStuff) := gup (glV hw_158 hw_159 hw_160 hw_15 gc_X8_isStuff)
theorem dX8_stuff_7 : decode cX8_stuff 7 = .ok (.invokevirtual 329, 3) := by decide +kernel
theorem dX8_stuff_10 : decode cX8_stuff 10 = .ok (.ifCond .eq 12, 3) := by decide +kernel
theorem dX8_stuff_22 : decode cX8_stuff 22 = .ok (.iconst (-1), 1) := by decide +kernel
theorem dX8_stuff_23 : decode cX8_stuff 23 = .ok (.goto 22, 3) := by decide +kernel
theorem dX8_stuff_13 : decode cX8_stuff 13 = .ok (.iload_n 2, 1) := by decide +kernel
theorem dX8_stuff_14 : decode cX8_stuff 14 = .ok (.iconst 0, 1) := by decide +kernel
theorem dX8_stuff_15 : decode cX8_stuff 15 = .ok (.iconst 1, 1) := by decide +kernel
set_option maxRecDepth 20000 in
theorem ggX8_stuff_X8_within : GoodIn wsX8_stuff wsX8_within := gup gc_X8_within
set_option maxRecDepth 20000 in
theorem gX8_stuff_X8_within : GoodIn wsX8_stuff (va_wsS RX8 271 yX8_within wsX8_within) := gup (glS hw_99 hw_100 hw_15 gc_X8_within)
theorem dX8_stuff_16 : decode cX8_stuff 16 = .ok (.invokestatic 271, 3) := by decide +kernel
theorem dX8_stuff_19 : decode cX8_stuff 19 = .ok (.ifCond .ne 7, 3) := by decide +kernel
theorem dX8_stuff_26 : decode cX8_stuff 26 = .ok (.iload_n 2, 1) := by decide +kernel
theorem dX8_stuff_27 : decode cX8_stuff 27 = .ok (.ifCond .ne 12, 3) := by decide +kernel
theorem dX8_stuff_39 : decode cX8_stuff 39 = .ok (.aload_n 0, 1) := by decide +kernel
theorem dX8_stuff_40 : decode cX8_stuff 40 = .ok (.getfield 35, 3) := by decide +kernel
theorem dX8_stuff_43 : decode cX8_stuff 43 = .ok (.iload_n 1, 1) := by decide +kernel
theorem dX8_stuff_44 : decode cX8_stuff 44 = .ok (.iaload, 1) := by decide +kernel
theorem dX8_stuff_30 : decode cX8_stuff 30 = .ok (.aload_n 0, 1) := by decide +kernel
theorem dX8_stuff_31 : decode cX8_stuff 31 = .ok (.getfield 32, 3) := by decide +kernel
theorem dX8_stuff_34 : decode cX8_stuff 34 = .ok (.iload_n 1, 1) := by decide +kernel
theorem dX8_stuff_35 : decode cX8_stuff 35 = .ok (.iaload, 1) := by decide +kernel
theorem dX8_stuff_36 : decode cX8_stuff 36 = .ok (.goto 9, 3) := by decide +kernel
theorem dX8_stuff_45 : decode cX8_stuff 45 = .ok (.ireturn, 1) := by decide +kernel
theorem dX8_bearsOf_0 : decode cX8_bearsOf 0 = .ok (.aload_n 0, 1) := by decide +kernel
theorem dX8_bearsOf_1 : decode cX8_bearsOf 1 = .ok (.getfield 32, 3) := by decide +kernel
theorem dX8_bearsOf_4 : decode cX8_bearsOf 4 = .ok (.aload_n 0, 1) := by decide +kernel
theorem dX8_bearsOf_5 : decode cX8_bearsOf 5 = .ok (.getfield 56, 3) := by decide +kernel
theorem dX8_bearsOf_8 : decode cX8_bearsOf 8 = .ok (.iload_n 1, 1) := by decide +kernel
theorem dX8_bearsOf_9 : decode cX8_bearsOf 9 = .ok (.iaload, 1) := by decide +kernel
theorem dX8_bearsOf_10 : decode cX8_bearsOf 10 = .ok (.iaload, 1) := by decide +kernel
theorem dX8_bearsOf_11 : decode cX8_bearsOf 11 = .ok (.aload_n 0, 1) := by decide +kernel
theorem dX8_bearsOf_12 : decode cX8_bearsOf 12 = .ok (.getfield 59, 3) := by decide +kernel
theorem dX8_bearsOf_15 : decode cX8_bearsOf 15 = .ok (.iload_n 1, 1) := by decide +kernel
theorem dX8_bearsOf_16 : decode cX8_bearsOf 16 = .ok (.iaload, 1) := by decide +kernel
theorem dX8_bearsOf_17 : decode cX8_bearsOf 17 = .ok (.imul, 1) := by decide +kernel
theorem dX8_bearsOf_18 : decode cX8_bearsOf 18 = .ok (.ireturn, 1) := by decide +kernel
theorem dX8_line_0 : decode cX8_line 0 = .ok (.aload_n 0, 1) := by decide +kernel
theorem dX8_line_1 : decode cX8_line 1 = .ok (.iconst 0, 1) := by decide +kernel
theorem dX8_line_2 : decode cX8_line 2 = .ok (.putfield 153, 3) := by decide +kernel
theorem dX8_line_5 : decode cX8_line 5 = .ok (.aload_n 0, 1) := by decide +kernel
theorem dX8_line_6 : decode cX8_line 6 = .ok (.iload_n 1, 1) := by decide +kernel
set_option maxRecDepth 20000 in
theorem ggX8_line_X8_isLine : GoodIn wsX8_line wsX8_isLine := gup gc_X8_isLine
set_option maxRecDepth 20000 in
theorem gX8_line_X8_isLine : GoodIn wsX8_line (wsV RX8 332 RX8 yX8_isLine wsX8_isLine) := gup (glV hw_161 hw_162 hw_163 hw_15 gc_X8_isLine)
theorem dX8_line_7 : decode cX8_line 7 = .ok (.invokevirtual 332, 3) := by decide +kernel
theorem dX8_line_10 : decode cX8_line 10 = .ok (.ifCond .eq 12, 3) := by decide +kernel
theorem dX8_line_22 : decode cX8_line 22 = .ok (.iconst (-1), 1) := by decide +kernel
theorem dX8_line_13 : decode cX8_line 13 = .ok (.iload_n 2, 1) := by decide +kernel
theorem dX8_line_14 : decode cX8_line 14 = .ok (.iconst 0, 1) := by decide +kernel
theorem dX8_line_15 : decode cX8_line 15 = .ok (.iconst 4, 1) := by decide +kernel
set_option maxRecDepth 20000 in
theorem ggX8_line_X8_within : GoodIn wsX8_line wsX8_within := gup gc_X8_within
set_option maxRecDepth 20000 in
theorem gX8_line_X8_within : GoodIn wsX8_line (va_wsS RX8 271 yX8_within wsX8_within) := gup (glS hw_99 hw_100 hw_15 gc_X8_within)
theorem dX8_line_16 : decode cX8_line 16 = .ok (.invokestatic 271, 3) := by decide +kernel
theorem dX8_line_19 : decode cX8_line 19 = .ok (.ifCond .ne 5, 3) := by decide +kernel
theorem dX8_line_24 : decode cX8_line 24 = .ok (.iload_n 2, 1) := by decide +kernel
theorem dX8_line_25 : decode cX8_line 25 = .ok (.ifCond .ne 12, 3) := by decide +kernel
theorem dX8_line_37 : decode cX8_line 37 = .ok (.iload_n 2, 1) := by decide +kernel
theorem dX8_line_38 : decode cX8_line 38 = .ok (.iconst 1, 1) := by decide +kernel
theorem dX8_line_39 : decode cX8_line 39 = .ok (.if_icmp .ne 12, 3) := by decide +kernel
theorem dX8_line_51 : decode cX8_line 51 = .ok (.iload_n 2, 1) := by decide +kernel
theorem dX8_line_52 : decode cX8_line 52 = .ok (.iconst 2, 1) := by decide +kernel
theorem dX8_line_53 : decode cX8_line 53 = .ok (.if_icmp .ne 12, 3) := by decide +kernel
theorem dX8_line_65 : decode cX8_line 65 = .ok (.iload_n 2, 1) := by decide +kernel
theorem dX8_line_66 : decode cX8_line 66 = .ok (.iconst 3, 1) := by decide +kernel
theorem dX8_line_67 : decode cX8_line 67 = .ok (.if_icmp .ne 11, 3) := by decide +kernel
theorem dX8_line_78 : decode cX8_line 78 = .ok (.aload_n 0, 1) := by decide +kernel
theorem dX8_line_79 : decode cX8_line 79 = .ok (.getfield 126, 3) := by decide +kernel
theorem dX8_line_82 : decode cX8_line 82 = .ok (.iload_n 1, 1) := by decide +kernel
theorem dX8_line_83 : decode cX8_line 83 = .ok (.iaload, 1) := by decide +kernel
theorem dX8_line_70 : decode cX8_line 70 = .ok (.aload_n 0, 1) := by decide +kernel
theorem dX8_line_71 : decode cX8_line 71 = .ok (.iload_n 1, 1) := by decide +kernel
set_option maxRecDepth 20000 in
theorem ggX8_line_X8_bearsOf : GoodIn wsX8_line wsX8_bearsOf := gup gc_X8_bearsOf
set_option maxRecDepth 20000 in
theorem gX8_line_X8_bearsOf : GoodIn wsX8_line (wsV RX8 335 RX8 yX8_bearsOf wsX8_bearsOf) := gup (glV hw_164 hw_165 hw_166 hw_15 gc_X8_bearsOf)
theorem dX8_line_72 : decode cX8_line 72 = .ok (.invokevirtual 335, 3) := by decide +kernel
theorem dX8_line_75 : decode cX8_line 75 = .ok (.goto 9, 3) := by decide +kernel
theorem dX8_line_56 : decode cX8_line 56 = .ok (.aload_n 0, 1) := by decide +kernel
theorem dX8_line_57 : decode cX8_line 57 = .ok (.getfield 59, 3) := by decide +kernel
theorem dX8_line_60 : decode cX8_line 60 = .ok (.iload_n 1, 1) := by decide +kernel
theorem dX8_line_61 : decode cX8_line 61 = .ok (.iaload, 1) := by decide +kernel
theorem dX8_line_62 : decode cX8_line 62 = .ok (.goto 22, 3) := by decide +kernel
theorem dX8_line_42 : decode cX8_line 42 = .ok (.aload_n 0, 1) := by decide +kernel
theorem dX8_line_43 : decode cX8_line 43 = .ok (.getfield 56, 3) := by decide +kernel
theorem dX8_line_46 : decode cX8_line 46 = .ok (.iload_n 1, 1) := by decide +kernel
theorem dX8_line_47 : decode cX8_line 47 = .ok (.iaload, 1) := by decide +kernel
theorem dX8_line_48 : decode cX8_line 48 = .ok (.goto 36, 3) := by decide +kernel
theorem dX8_line_28 : decode cX8_line 28 = .ok (.aload_n 0, 1) := by decide +kernel
theorem dX8_line_29 : decode cX8_line 29 = .ok (.getfield 50, 3) := by decide +kernel
theorem dX8_line_32 : decode cX8_line 32 = .ok (.iload_n 1, 1) := by decide +kernel
theorem dX8_line_33 : decode cX8_line 33 = .ok (.iaload, 1) := by decide +kernel
theorem dX8_line_34 : decode cX8_line 34 = .ok (.goto 50, 3) := by decide +kernel
theorem dX8_line_23 : decode cX8_line 23 = .ok (.ireturn, 1) := by decide +kernel
theorem dX8_line_84 : decode cX8_line 84 = .ok (.ireturn, 1) := by decide +kernel
theorem dX8_lay_0 : decode cX8_lay 0 = .ok (.aload_n 0, 1) := by decide +kernel
theorem dX8_lay_1 : decode cX8_lay 1 = .ok (.iconst 0, 1) := by decide +kernel
theorem dX8_lay_2 : decode cX8_lay 2 = .ok (.putfield 153, 3) := by decide +kernel
theorem dX8_lay_5 : decode cX8_lay 5 = .ok (.aload_n 0, 1) := by decide +kernel
theorem dX8_lay_6 : decode cX8_lay 6 = .ok (.iload_n 1, 1) := by decide +kernel
set_option maxRecDepth 20000 in
theorem ggX8_lay_X8_isLine : GoodIn wsX8_lay wsX8_isLine := gup gc_X8_isLine
set_option maxRecDepth 20000 in
theorem gX8_lay_X8_isLine : GoodIn wsX8_lay (wsV RX8 332 RX8 yX8_isLine wsX8_isLine) := gup (glV hw_161 hw_162 hw_163 hw_15 gc_X8_isLine)
theorem dX8_lay_7 : decode cX8_lay 7 = .ok (.invokevirtual 332, 3) := by decide +kernel
theorem dX8_lay_10 : decode cX8_lay 10 = .ok (.ifCond .eq 20, 3) := by decide +kernel
theorem dX8_lay_30 : decode cX8_lay 30 = .ok (.iconst 0, 1) := by decide +kernel
theorem dX8_lay_13 : decode cX8_lay 13 = .ok (.aload_n 0, 1) := by decide +kernel
theorem dX8_lay_14 : decode cX8_lay 14 = .ok (.iload_n 2, 1) := by decide +kernel
set_option maxRecDepth 20000 in
theorem ggX8_lay_X8_isStuff : GoodIn wsX8_lay wsX8_isStuff := gup gc_X8_isStuff
set_option maxRecDepth 20000 in
theorem gX8_lay_X8_isStuff : GoodIn wsX8_lay (wsV RX8 329 RX8 yX8_isStuff wsX8_isStuff) := gup (glV hw_158 hw_159 hw_160 hw_15 gc_X8_isStuff)
theorem dX8_lay_15 : decode cX8_lay 15 = .ok (.invokevirtual 329, 3) := by decide +kernel
theorem dX8_lay_18 : decode cX8_lay 18 = .ok (.ifCond .eq 12, 3) := by decide +kernel
theorem dX8_lay_21 : decode cX8_lay 21 = .ok (.iload_n 3, 1) := by decide +kernel
theorem dX8_lay_22 : decode cX8_lay 22 = .ok (.iconst 1, 1) := by decide +kernel
theorem dX8_lay_23 : decode cX8_lay 23 = .ok (.iconst 4, 1) := by decide +kernel
set_option maxRecDepth 20000 in
theorem ggX8_lay_X8_within : GoodIn wsX8_lay wsX8_within := gup gc_X8_within
set_option maxRecDepth 20000 in
theorem gX8_lay_X8_within : GoodIn wsX8_lay (va_wsS RX8 271 yX8_within wsX8_within) := gup (glS hw_99 hw_100 hw_15 gc_X8_within)
theorem dX8_lay_24 : decode cX8_lay 24 = .ok (.invokestatic 271, 3) := by decide +kernel
theorem dX8_lay_27 : decode cX8_lay 27 = .ok (.ifCond .ne 5, 3) := by decide +kernel
theorem dX8_lay_32 : decode cX8_lay 32 = .ok (.aload_n 0, 1) := by decide +kernel
theorem dX8_lay_33 : decode cX8_lay 33 = .ok (.getfield 56, 3) := by decide +kernel
theorem dX8_lay_36 : decode cX8_lay 36 = .ok (.iload_n 1, 1) := by decide +kernel
theorem dX8_lay_37 : decode cX8_lay 37 = .ok (.iload_n 2, 1) := by decide +kernel
theorem dX8_lay_38 : decode cX8_lay 38 = .ok (.iastore, 1) := by decide +kernel
theorem dX8_lay_39 : decode cX8_lay 39 = .ok (.aload_n 0, 1) := by decide +kernel
theorem dX8_lay_40 : decode cX8_lay 40 = .ok (.getfield 59, 3) := by decide +kernel
theorem dX8_lay_43 : decode cX8_lay 43 = .ok (.iload_n 1, 1) := by decide +kernel
theorem dX8_lay_44 : decode cX8_lay 44 = .ok (.iload_n 3, 1) := by decide +kernel
theorem dX8_lay_45 : decode cX8_lay 45 = .ok (.iastore, 1) := by decide +kernel
theorem dX8_lay_46 : decode cX8_lay 46 = .ok (.aload_n 0, 1) := by decide +kernel
theorem dX8_lay_47 : decode cX8_lay 47 = .ok (.getfield 126, 3) := by decide +kernel
theorem dX8_lay_50 : decode cX8_lay 50 = .ok (.iload_n 1, 1) := by decide +kernel
theorem dX8_lay_51 : decode cX8_lay 51 = .ok (.iconst 0, 1) := by decide +kernel
theorem dX8_lay_52 : decode cX8_lay 52 = .ok (.iastore, 1) := by decide +kernel
theorem dX8_lay_53 : decode cX8_lay 53 = .ok (.iconst 1, 1) := by decide +kernel
theorem dX8_lay_31 : decode cX8_lay 31 = .ok (.ireturn, 1) := by decide +kernel
theorem dX8_lay_54 : decode cX8_lay 54 = .ok (.ireturn, 1) := by decide +kernel
theorem dX8_cost_9 : decode cX8_cost 9 = .ok (.iload_n 2, 1) := by decide +kernel
theorem dX8_cost_10 : decode cX8_cost 10 = .ok (.aload_n 0, 1) := by decide +kernel
theorem dX8_cost_11 : decode cX8_cost 11 = .ok (.getfield 22, 3) := by decide +kernel
theorem dX8_cost_14 : decode cX8_cost 14 = .ok (.iconst 0, 1) := by decide +kernel
theorem dX8_cost_15 : decode cX8_cost 15 = .ok (.iaload, 1) := by decide +kernel
theorem dX8_cost_16 : decode cX8_cost 16 = .ok (.if_icmp .ge 30, 3) := by decide +kernel
theorem dX8_cost_46 : decode cX8_cost 46 = .ok (.iload_n 1, 1) := by decide +kernel
theorem dX8_cost_19 : decode cX8_cost 19 = .ok (.iload_n 1, 1) := by decide +kernel
theorem dX8_cost_20 : decode cX8_cost 20 = .ok (.aload_n 0, 1) := by decide +kernel
theorem dX8_cost_21 : decode cX8_cost 21 = .ok (.getfield 35, 3) := by decide +kernel
theorem dX8_cost_24 : decode cX8_cost 24 = .ok (.aload_n 0, 1) := by decide +kernel
theorem dX8_cost_25 : decode cX8_cost 25 = .ok (.getfield 56, 3) := by decide +kernel
theorem dX8_cost_28 : decode cX8_cost 28 = .ok (.iload_n 2, 1) := by decide +kernel
theorem dX8_cost_29 : decode cX8_cost 29 = .ok (.iaload, 1) := by decide +kernel
theorem dX8_cost_30 : decode cX8_cost 30 = .ok (.iaload, 1) := by decide +kernel
theorem dX8_cost_31 : decode cX8_cost 31 = .ok (.aload_n 0, 1) := by decide +kernel
theorem dX8_cost_32 : decode cX8_cost 32 = .ok (.getfield 59, 3) := by decide +kernel
theorem dX8_cost_35 : decode cX8_cost 35 = .ok (.iload_n 2, 1) := by decide +kernel
theorem dX8_cost_36 : decode cX8_cost 36 = .ok (.iaload, 1) := by decide +kernel
theorem dX8_cost_37 : decode cX8_cost 37 = .ok (.imul, 1) := by decide +kernel
theorem dX8_cost_38 : decode cX8_cost 38 = .ok (.iadd, 1) := by decide +kernel
theorem dX8_cost_39 : decode cX8_cost 39 = .ok (.istore_n 1, 1) := by decide +kernel
theorem dX8_cost_40 : decode cX8_cost 40 = .ok (.iinc 2 1, 3) := by decide +kernel
theorem dX8_cost_43 : decode cX8_cost 43 = .ok (.goto (-34), 3) := by decide +kernel
theorem dX8_cost_0 : decode cX8_cost 0 = .ok (.aload_n 0, 1) := by decide +kernel
theorem dX8_cost_1 : decode cX8_cost 1 = .ok (.iconst 0, 1) := by decide +kernel
theorem dX8_cost_2 : decode cX8_cost 2 = .ok (.putfield 153, 3) := by decide +kernel
theorem dX8_cost_5 : decode cX8_cost 5 = .ok (.iconst 0, 1) := by decide +kernel
theorem dX8_cost_6 : decode cX8_cost 6 = .ok (.istore_n 1, 1) := by decide +kernel
theorem dX8_cost_7 : decode cX8_cost 7 = .ok (.iconst 0, 1) := by decide +kernel
theorem dX8_cost_8 : decode cX8_cost 8 = .ok (.istore_n 2, 1) := by decide +kernel
theorem dX8_cost_47 : decode cX8_cost 47 = .ok (.ireturn, 1) := by decide +kernel
theorem dX8_manyOf_0 : decode cX8_manyOf 0 = .ok (.iload_n 2, 1) := by decide +kernel
theorem dX8_manyOf_1 : decode cX8_manyOf 1 = .ok (.aload_n 0, 1) := by decide +kernel
theorem dX8_manyOf_2 : decode cX8_manyOf 2 = .ok (.getfield 19, 3) := by decide +kernel
theorem dX8_manyOf_5 : decode cX8_manyOf 5 = .ok (.iload_n 1, 1) := by decide +kernel
theorem dX8_manyOf_6 : decode cX8_manyOf 6 = .ok (.iaload, 1) := by decide +kernel
theorem dX8_manyOf_7 : decode cX8_manyOf 7 = .ok (.if_icmp .ge 29, 3) := by decide +kernel
theorem dX8_manyOf_36 : decode cX8_manyOf 36 = .ok (.iconst 1, 1) := by decide +kernel
theorem dX8_manyOf_10 : decode cX8_manyOf 10 = .ok (.aload_n 0, 1) := by decide +kernel
theorem dX8_manyOf_11 : decode cX8_manyOf 11 = .ok (.getfield 47, 3) := by decide +kernel
theorem dX8_manyOf_14 : decode cX8_manyOf 14 = .ok (.iconst 2, 1) := by decide +kernel
theorem dX8_manyOf_15 : decode cX8_manyOf 15 = .ok (.iload_n 1, 1) := by decide +kernel
theorem dX8_manyOf_16 : decode cX8_manyOf 16 = .ok (.imul, 1) := by decide +kernel
theorem dX8_manyOf_17 : decode cX8_manyOf 17 = .ok (.iload_n 2, 1) := by decide +kernel
theorem dX8_manyOf_18 : decode cX8_manyOf 18 = .ok (.iadd, 1) := by decide +kernel
theorem dX8_manyOf_19 : decode cX8_manyOf 19 = .ok (.iaload, 1) := by decide +kernel
theorem dX8_manyOf_20 : decode cX8_manyOf 20 = .ok (.aload_n 0, 1) := by decide +kernel
theorem dX8_manyOf_21 : decode cX8_manyOf 21 = .ok (.getfield 44, 3) := by decide +kernel
theorem dX8_manyOf_24 : decode cX8_manyOf 24 = .ok (.iconst 2, 1) := by decide +kernel
theorem dX8_manyOf_25 : decode cX8_manyOf 25 = .ok (.iload_n 1, 1) := by decide +kernel
theorem dX8_manyOf_26 : decode cX8_manyOf 26 = .ok (.imul, 1) := by decide +kernel
theorem dX8_manyOf_27 : decode cX8_manyOf 27 = .ok (.iload_n 2, 1) := by decide +kernel
theorem dX8_manyOf_28 : decode cX8_manyOf 28 = .ok (.iadd, 1) := by decide +kernel
theorem dX8_manyOf_29 : decode cX8_manyOf 29 = .ok (.iaload, 1) := by decide +kernel
theorem dX8_manyOf_30 : decode cX8_manyOf 30 = .ok (.isub, 1) := by decide +kernel
theorem dX8_manyOf_31 : decode cX8_manyOf 31 = .ok (.iconst 1, 1) := by decide +kernel
theorem dX8_manyOf_32 : decode cX8_manyOf 32 = .ok (.iadd, 1) := by decide +kernel
theorem dX8_manyOf_33 : decode cX8_manyOf 33 = .ok (.goto 4, 3) := by decide +kernel
theorem dX8_manyOf_37 : decode cX8_manyOf 37 = .ok (.ireturn, 1) := by decide +kernel
theorem dX8_inputsOf_0 : decode cX8_inputsOf 0 = .ok (.aload_n 0, 1) := by decide +kernel
theorem dX8_inputsOf_1 : decode cX8_inputsOf 1 = .ok (.iload_n 1, 1) := by decide +kernel
theorem dX8_inputsOf_2 : decode cX8_inputsOf 2 = .ok (.iconst 0, 1) := by decide +kernel
set_option maxRecDepth 20000 in
theorem ggX8_inputsOf_X8_manyOf : GoodIn wsX8_inputsOf wsX8_manyOf := gup gc_X8_manyOf
set_option maxRecDepth 20000 in
theorem gX8_inputsOf_X8_manyOf : GoodIn wsX8_inputsOf (wsV RX8 338 RX8 yX8_manyOf wsX8_manyOf) := gup (glV hw_167 hw_168 hw_169 hw_15 gc_X8_manyOf)
theorem dX8_inputsOf_3 : decode cX8_inputsOf 3 = .ok (.invokevirtual 338, 3) := by decide +kernel
theorem dX8_inputsOf_6 : decode cX8_inputsOf 6 = .ok (.aload_n 0, 1) := by decide +kernel
theorem dX8_inputsOf_7 : decode cX8_inputsOf 7 = .ok (.iload_n 1, 1) := by decide +kernel
theorem dX8_inputsOf_8 : decode cX8_inputsOf 8 = .ok (.iconst 1, 1) := by decide +kernel
theorem dX8_inputsOf_9 : decode cX8_inputsOf 9 = .ok (.invokevirtual 338, 3) := by decide +kernel
theorem dX8_inputsOf_12 : decode cX8_inputsOf 12 = .ok (.imul, 1) := by decide +kernel
theorem dX8_inputsOf_13 : decode cX8_inputsOf 13 = .ok (.ireturn, 1) := by decide +kernel
theorem dX8_inputs_0 : decode cX8_inputs 0 = .ok (.aload_n 0, 1) := by decide +kernel
theorem dX8_inputs_1 : decode cX8_inputs 1 = .ok (.iconst 0, 1) := by decide +kernel
theorem dX8_inputs_2 : decode cX8_inputs 2 = .ok (.putfield 153, 3) := by decide +kernel
theorem dX8_inputs_5 : decode cX8_inputs 5 = .ok (.aload_n 0, 1) := by decide +kernel
theorem dX8_inputs_6 : decode cX8_inputs 6 = .ok (.iconst 0, 1) := by decide +kernel
set_option maxRecDepth 20000 in
theorem ggX8_inputs_X8_inputsOf : GoodIn wsX8_inputs wsX8_inputsOf := gup gc_X8_inputsOf
set_option maxRecDepth 20000 in
theorem gX8_inputs_X8_inputsOf : GoodIn wsX8_inputs (wsV RX8 342 RX8 yX8_inputsOf wsX8_inputsOf) := gup (glV hw_170 hw_171 hw_172 hw_15 gc_X8_inputsOf)
theorem dX8_inputs_7 : decode cX8_inputs 7 = .ok (.invokevirtual 342, 3) := by decide +kernel
theorem dX8_inputs_10 : decode cX8_inputs 10 = .ok (.ireturn, 1) := by decide +kernel
theorem dX8_beginsWith_3 : decode cX8_beginsWith 3 = .ok (.iload 4, 2) := by decide +kernel
theorem dX8_beginsWith_5 : decode cX8_beginsWith 5 = .ok (.aload_n 0, 1) := by decide +kernel
theorem dX8_beginsWith_6 : decode cX8_beginsWith 6 = .ok (.getfield 19, 3) := by decide +kernel
theorem dX8_beginsWith_9 : decode cX8_beginsWith 9 = .ok (.iload_n 1, 1) := by decide +kernel
theorem dX8_beginsWith_10 : decode cX8_beginsWith 10 = .ok (.iaload, 1) := by decide +kernel
theorem dX8_beginsWith_11 : decode cX8_beginsWith 11 = .ok (.if_icmp .ge 70, 3) := by decide +kernel
theorem dX8_beginsWith_81 : decode cX8_beginsWith 81 = .ok (.aload_n 0, 1) := by decide +kernel
theorem dX8_beginsWith_82 : decode cX8_beginsWith 82 = .ok (.getfield 38, 3) := by decide +kernel
theorem dX8_beginsWith_85 : decode cX8_beginsWith 85 = .ok (.bipush 6, 2) := by decide +kernel
theorem dX8_beginsWith_87 : decode cX8_beginsWith 87 = .ok (.iload_n 1, 1) := by decide +kernel
theorem dX8_beginsWith_88 : decode cX8_beginsWith 88 = .ok (.imul, 1) := by decide +kernel
theorem dX8_beginsWith_89 : decode cX8_beginsWith 89 = .ok (.iload_n 3, 1) := by decide +kernel
theorem dX8_beginsWith_90 : decode cX8_beginsWith 90 = .ok (.iadd, 1) := by decide +kernel
theorem dX8_beginsWith_91 : decode cX8_beginsWith 91 = .ok (.iaload, 1) := by decide +kernel
theorem dX8_beginsWith_14 : decode cX8_beginsWith 14 = .ok (.aload_n 0, 1) := by decide +kernel
theorem dX8_beginsWith_15 : decode cX8_beginsWith 15 = .ok (.getfield 41, 3) := by decide +kernel
theorem dX8_beginsWith_18 : decode cX8_beginsWith 18 = .ok (.iconst 2, 1) := by decide +kernel
theorem dX8_beginsWith_19 : decode cX8_beginsWith 19 = .ok (.iload_n 1, 1) := by decide +kernel
theorem dX8_beginsWith_20 : decode cX8_beginsWith 20 = .ok (.imul, 1) := by decide +kernel
theorem dX8_beginsWith_21 : decode cX8_beginsWith 21 = .ok (.iload 4, 2) := by decide +kernel
theorem dX8_beginsWith_23 : decode cX8_beginsWith 23 = .ok (.iadd, 1) := by decide +kernel
theorem dX8_beginsWith_24 : decode cX8_beginsWith 24 = .ok (.iaload, 1) := by decide +kernel
theorem dX8_beginsWith_25 : decode cX8_beginsWith 25 = .ok (.iload_n 3, 1) := by decide +kernel
theorem dX8_beginsWith_26 : decode cX8_beginsWith 26 = .ok (.if_icmp .ne 49, 3) := by decide +kernel
theorem dX8_beginsWith_75 : decode cX8_beginsWith 75 = .ok (.iinc 4 1, 3) := by decide +kernel
theorem dX8_beginsWith_78 : decode cX8_beginsWith 78 = .ok (.goto (-75), 3) := by decide +kernel
theorem dX8_beginsWith_29 : decode cX8_beginsWith 29 = .ok (.aload_n 0, 1) := by decide +kernel
theorem dX8_beginsWith_30 : decode cX8_beginsWith 30 = .ok (.getfield 44, 3) := by decide +kernel
theorem dX8_beginsWith_33 : decode cX8_beginsWith 33 = .ok (.iconst 2, 1) := by decide +kernel
theorem dX8_beginsWith_34 : decode cX8_beginsWith 34 = .ok (.iload_n 1, 1) := by decide +kernel
theorem dX8_beginsWith_35 : decode cX8_beginsWith 35 = .ok (.imul, 1) := by decide +kernel
theorem dX8_beginsWith_36 : decode cX8_beginsWith 36 = .ok (.iload 4, 2) := by decide +kernel
theorem dX8_beginsWith_38 : decode cX8_beginsWith 38 = .ok (.iadd, 1) := by decide +kernel
theorem dX8_beginsWith_39 : decode cX8_beginsWith 39 = .ok (.iaload, 1) := by decide +kernel
theorem dX8_beginsWith_40 : decode cX8_beginsWith 40 = .ok (.iload 4, 2) := by decide +kernel
theorem dX8_beginsWith_42 : decode cX8_beginsWith 42 = .ok (.aload_n 0, 1) := by decide +kernel
theorem dX8_beginsWith_43 : decode cX8_beginsWith 43 = .ok (.getfield 19, 3) := by decide +kernel
theorem dX8_beginsWith_46 : decode cX8_beginsWith 46 = .ok (.iload_n 1, 1) := by decide +kernel
theorem dX8_beginsWith_47 : decode cX8_beginsWith 47 = .ok (.iaload, 1) := by decide +kernel
theorem dX8_beginsWith_48 : decode cX8_beginsWith 48 = .ok (.iconst 1, 1) := by decide +kernel
theorem dX8_beginsWith_49 : decode cX8_beginsWith 49 = .ok (.isub, 1) := by decide +kernel
theorem dX8_beginsWith_50 : decode cX8_beginsWith 50 = .ok (.if_icmp .ne 15, 3) := by decide +kernel
theorem dX8_beginsWith_65 : decode cX8_beginsWith 65 = .ok (.iload_n 2, 1) := by decide +kernel
theorem dX8_beginsWith_66 : decode cX8_beginsWith 66 = .ok (.aload_n 0, 1) := by decide +kernel
theorem dX8_beginsWith_67 : decode cX8_beginsWith 67 = .ok (.iload_n 1, 1) := by decide +kernel
theorem dX8_beginsWith_68 : decode cX8_beginsWith 68 = .ok (.iconst 1, 1) := by decide +kernel
set_option maxRecDepth 20000 in
theorem ggX8_beginsWith_X8_manyOf : GoodIn wsX8_beginsWith wsX8_manyOf := gup gc_X8_manyOf
set_option maxRecDepth 20000 in
theorem gX8_beginsWith_X8_manyOf : GoodIn wsX8_beginsWith (wsV RX8 338 RX8 yX8_manyOf wsX8_manyOf) := gup (glV hw_167 hw_168 hw_169 hw_15 gc_X8_manyOf)
theorem dX8_beginsWith_69 : decode cX8_beginsWith 69 = .ok (.invokevirtual 338, 3) := by decide +kernel
theorem dX8_beginsWith_72 : decode cX8_beginsWith 72 = .ok (.idiv, 1) := by decide +kernel
theorem dX8_beginsWith_73 : decode cX8_beginsWith 73 = .ok (.iadd, 1) := by decide +kernel
theorem dX8_beginsWith_53 : decode cX8_beginsWith 53 = .ok (.iload_n 2, 1) := by decide +kernel
theorem dX8_beginsWith_54 : decode cX8_beginsWith 54 = .ok (.aload_n 0, 1) := by decide +kernel
theorem dX8_beginsWith_55 : decode cX8_beginsWith 55 = .ok (.iload_n 1, 1) := by decide +kernel
theorem dX8_beginsWith_56 : decode cX8_beginsWith 56 = .ok (.iload 4, 2) := by decide +kernel
theorem dX8_beginsWith_58 : decode cX8_beginsWith 58 = .ok (.invokevirtual 338, 3) := by decide +kernel
theorem dX8_beginsWith_61 : decode cX8_beginsWith 61 = .ok (.irem, 1) := by decide +kernel
theorem dX8_beginsWith_62 : decode cX8_beginsWith 62 = .ok (.goto 11, 3) := by decide +kernel
theorem dX8_beginsWith_0 : decode cX8_beginsWith 0 = .ok (.iconst 0, 1) := by decide +kernel
theorem dX8_beginsWith_1 : decode cX8_beginsWith 1 = .ok (.istore 4, 2) := by decide +kernel
theorem dX8_beginsWith_74 : decode cX8_beginsWith 74 = .ok (.ireturn, 1) := by decide +kernel
theorem dX8_beginsWith_92 : decode cX8_beginsWith 92 = .ok (.ireturn, 1) := by decide +kernel
theorem dX8_input_0 : decode cX8_input 0 = .ok (.aload_n 0, 1) := by decide +kernel
theorem dX8_input_1 : decode cX8_input 1 = .ok (.iconst 0, 1) := by decide +kernel
theorem dX8_input_2 : decode cX8_input 2 = .ok (.putfield 153, 3) := by decide +kernel
theorem dX8_input_5 : decode cX8_input 5 = .ok (.iload_n 1, 1) := by decide +kernel
theorem dX8_input_6 : decode cX8_input 6 = .ok (.ifCond .lt 30, 3) := by decide +kernel
theorem dX8_input_36 : decode cX8_input 36 = .ok (.iconst (-1), 1) := by decide +kernel
theorem dX8_input_9 : decode cX8_input 9 = .ok (.iload_n 1, 1) := by decide +kernel
theorem dX8_input_10 : decode cX8_input 10 = .ok (.aload_n 0, 1) := by decide +kernel
theorem dX8_input_11 : decode cX8_input 11 = .ok (.iconst 0, 1) := by decide +kernel
set_option maxRecDepth 20000 in
theorem ggX8_input_X8_inputsOf : GoodIn wsX8_input wsX8_inputsOf := gup gc_X8_inputsOf
set_option maxRecDepth 20000 in
theorem gX8_input_X8_inputsOf : GoodIn wsX8_input (wsV RX8 342 RX8 yX8_inputsOf wsX8_inputsOf) := gup (glV hw_170 hw_171 hw_172 hw_15 gc_X8_inputsOf)
theorem dX8_input_12 : decode cX8_input 12 = .ok (.invokevirtual 342, 3) := by decide +kernel
theorem dX8_input_15 : decode cX8_input 15 = .ok (.if_icmp .ge 21, 3) := by decide +kernel
theorem dX8_input_18 : decode cX8_input 18 = .ok (.aload_n 0, 1) := by decide +kernel
theorem dX8_input_19 : decode cX8_input 19 = .ok (.iload_n 2, 1) := by decide +kernel
set_option maxRecDepth 20000 in
theorem ggX8_input_X8_isCell : GoodIn wsX8_input wsX8_isCell := gup gc_X8_isCell
set_option maxRecDepth 20000 in
theorem gX8_input_X8_isCell : GoodIn wsX8_input (wsV RX8 345 RX8 yX8_isCell wsX8_isCell) := gup (glV hw_173 hw_174 hw_175 hw_15 gc_X8_isCell)
theorem dX8_input_20 : decode cX8_input 20 = .ok (.invokevirtual 345, 3) := by decide +kernel
theorem dX8_input_23 : decode cX8_input 23 = .ok (.ifCond .eq 13, 3) := by decide +kernel
theorem dX8_input_26 : decode cX8_input 26 = .ok (.aload_n 0, 1) := by decide +kernel
theorem dX8_input_27 : decode cX8_input 27 = .ok (.iconst 0, 1) := by decide +kernel
theorem dX8_input_28 : decode cX8_input 28 = .ok (.iload_n 1, 1) := by decide +kernel
theorem dX8_input_29 : decode cX8_input 29 = .ok (.iload_n 2, 1) := by decide +kernel
set_option maxRecDepth 20000 in
theorem ggX8_input_X8_beginsWith : GoodIn wsX8_input wsX8_beginsWith := gup gc_X8_beginsWith
set_option maxRecDepth 20000 in
theorem gX8_input_X8_beginsWith : GoodIn wsX8_input (wsV RX8 348 RX8 yX8_beginsWith wsX8_beginsWith) := gup (glV hw_176 hw_177 hw_178 hw_15 gc_X8_beginsWith)
theorem dX8_input_30 : decode cX8_input 30 = .ok (.invokevirtual 348, 3) := by decide +kernel
theorem dX8_input_33 : decode cX8_input 33 = .ok (.goto 4, 3) := by decide +kernel
theorem dX8_input_37 : decode cX8_input 37 = .ok (.ireturn, 1) := by decide +kernel
def wW_X8_programme (ak : Nat → ClassId) (ad : Nat → Nat) (h : Nat) (am : Nat → Nat) (Fthrown : Int32) (Ftaped : Int32) (Fsize : Int32) (Fplace : Int32) (Fbegin : Int32) (Ftoken : Int32) (Fword : Int64) (Ftold : Int32) (Fwrong : Int32) (Fcode : Int32) (Fat : Int32) (Fway : Int32) (Fnext : Int32) (FisEnd : Int32) (FisFallen : Int32) (Fwritten : Int32) (Fmade : Int32) (Fstate : Int32) (FhandNext : Int32) (FhandSteps : Int32) (FhandWritten : Int32) (FmarkAt : Int32) (Atape : Nat → Int32) (Astuffs : Nat → Int32) (Acells : Nat → Int32) (Ainputs : Nat → Int32) (Alines : Nat → Int32) (AstuffName : Nat → Int64) (AcellName : Nat → Int64) (Abears : Nat → Int32) (Acosts : Nat → Int32) (AcellAt : Nat → Int32) (AinputCell : Nat → Int32) (AinputLeast : Nat → Int32) (AinputMost : Nat → Int32) (Aact : Nat → Int32) (AactCell : Nat → Int32) (AlineStuff : Nat → Int32) (Atwins : Nat → Int32) (AlineFrom : Nat → Int32) (AlineTo : Nat → Int32) (Acodes : Nat → Int32) (Aopened : Nat → Int32) (Acompared : Nat → Int32) (Aworn : Nat → Int32) : va_W := [(h, .inr (7, mob am (Fthrown) (Ftaped) (Fsize) (Fplace) (Fbegin) (Ftoken) (Fword) (Ftold) (Fwrong) (Fcode) (Fat) (Fway) (Fnext) (FisEnd) (FisFallen) (Fwritten) (Fmade) (Fstate) (FhandNext) (FhandSteps) (FhandWritten) (FmarkAt))), ((am 0), .inl (ak 0, 1000, .inl (Atape))), ((am 1), .inl (ak 0, 6, .inl (Astuffs))), ((am 2), .inl (ak 0, 6, .inl (Acells))), ((am 3), .inl (ak 0, 6, .inl (Ainputs))), ((am 4), .inl (ak 0, 6, .inl (Alines))), ((am 5), .inl (ak 1, 4, .inr (.inl (AstuffName)))), ((am 6), .inl (ak 1, 6, .inr (.inl (AcellName)))), ((am 7), .inl (ak 0, 24, .inl (Abears))), ((am 8), .inl (ak 0, 24, .inl (Acosts))), ((am 9), .inl (ak 0, 36, .inl (AcellAt))), ((am 10), .inl (ak 0, 12, .inl (AinputCell))), ((am 11), .inl (ak 0, 12, .inl (AinputLeast))), ((am 12), .inl (ak 0, 12, .inl (AinputMost))), ((am 13), .inl (ak 0, 96, .inl (Aact))), ((am 14), .inl (ak 0, 96, .inl (AactCell))), ((am 15), .inl (ak 0, 96, .inl (AlineStuff))), ((am 16), .inl (ak 0, 96, .inl (Atwins))), ((am 17), .inl (ak 0, 192, .inl (AlineFrom))), ((am 18), .inl (ak 0, 192, .inl (AlineTo))), ((am 19), .inl (ak 0, 6000, .inl (Acodes))), ((am 20), .inl (ak 0, 7, .inl (Aopened))), ((am 21), .inl (ak 3, 7, .inl (Acompared))), ((am 38), .inl (ak 0, 16, .inl (Aworn)))]
def lb_X8_programme_30 (Atape : Nat → Int32)  (Φ : Int32 → Int32 → Int32 → Int32 → Int32 → Int32 → Int32 → Int64 → Int32 → Int32 → Int32 → Int32 → (Nat → Int32) → (Nat → Int32) → (Nat → Int32) → (Nat → Int32) → (Nat → Int64) → (Nat → Int64) → (Nat → Int32) → (Nat → Int32) → (Nat → Int32) → (Nat → Int32) → (Nat → Int32) → (Nat → Int32) → (Nat → Int32) → (Nat → Int32) → (Nat → Int32) → (Nat → Int32) → (Nat → Int32) → (Nat → Int32) → (Nat → Int32) → (Nat → Int32) → (Nat → Int32) → (Nat → Int32) → Prop) (back : Int32 → Int32 → Int32 → Int32 → Int32 → Int32 → Int64 → Int32 → Int32 → Int32 → Int32 → (Nat → Int32) → (Nat → Int32) → (Nat → Int32) → (Nat → Int32) → (Nat → Int64) → (Nat → Int64) → (Nat → Int32) → (Nat → Int32) → (Nat → Int32) → (Nat → Int32) → (Nat → Int32) → (Nat → Int32) → (Nat → Int32) → (Nat → Int32) → (Nat → Int32) → (Nat → Int32) → (Nat → Int32) → (Nat → Int32) → (Nat → Int32) → (Nat → Int32) → (Nat → Int32) → (Nat → Int32) → Int32 → Prop) (Fthrown : Int32) (Ftaped : Int32) (Fsize : Int32) (Fplace : Int32) (Fbegin : Int32) (Ftoken : Int32) (Fword : Int64) (Ftold : Int32) (Fwrong : Int32) (Fcode : Int32) (Fstate : Int32) (Astuffs : Nat → Int32) (Acells : Nat → Int32) (Ainputs : Nat → Int32) (Alines : Nat → Int32) (AstuffName : Nat → Int64) (AcellName : Nat → Int64) (Abears : Nat → Int32) (Acosts : Nat → Int32) (AcellAt : Nat → Int32) (AinputCell : Nat → Int32) (AinputLeast : Nat → Int32) (AinputMost : Nat → Int32) (Aact : Nat → Int32) (AactCell : Nat → Int32) (AlineStuff : Nat → Int32) (Atwins : Nat → Int32) (AlineFrom : Nat → Int32) (AlineTo : Nat → Int32) (Acodes : Nat → Int32) (Aopened : Nat → Int32) (Acompared : Nat → Int32) (Aworn : Nat → Int32) (l1 : Int32) : Prop := (16 ≤ l1 → Φ 0 Fthrown Ftaped Fsize Fplace Fbegin Ftoken Fword Ftold Fwrong Fcode Fstate Astuffs Acells Ainputs Alines AstuffName AcellName Abears Acosts AcellAt AinputCell AinputLeast AinputMost Aact AactCell AlineStuff Atwins AlineFrom AlineTo Acodes Aopened Acompared Aworn) ∧ (¬ 16 ≤ l1 → vp_in l1 16 ∧ back Fthrown Ftaped Fsize Fplace Fbegin Ftoken Fword Ftold Fwrong Fcode Fstate Astuffs Acells Ainputs Alines AstuffName AcellName Abears Acosts AcellAt AinputCell AinputLeast AinputMost Aact AactCell AlineStuff Atwins AlineFrom AlineTo Acodes Aopened Acompared (upd Aworn (l1).toNatClampNeg 0) (l1 + 1))
def lf_X8_programme_30 (Atape : Nat → Int32)  (Φ : Int32 → Int32 → Int32 → Int32 → Int32 → Int32 → Int32 → Int64 → Int32 → Int32 → Int32 → Int32 → (Nat → Int32) → (Nat → Int32) → (Nat → Int32) → (Nat → Int32) → (Nat → Int64) → (Nat → Int64) → (Nat → Int32) → (Nat → Int32) → (Nat → Int32) → (Nat → Int32) → (Nat → Int32) → (Nat → Int32) → (Nat → Int32) → (Nat → Int32) → (Nat → Int32) → (Nat → Int32) → (Nat → Int32) → (Nat → Int32) → (Nat → Int32) → (Nat → Int32) → (Nat → Int32) → (Nat → Int32) → Prop) : Nat → Int32 → Int32 → Int32 → Int32 → Int32 → Int32 → Int64 → Int32 → Int32 → Int32 → Int32 → (Nat → Int32) → (Nat → Int32) → (Nat → Int32) → (Nat → Int32) → (Nat → Int64) → (Nat → Int64) → (Nat → Int32) → (Nat → Int32) → (Nat → Int32) → (Nat → Int32) → (Nat → Int32) → (Nat → Int32) → (Nat → Int32) → (Nat → Int32) → (Nat → Int32) → (Nat → Int32) → (Nat → Int32) → (Nat → Int32) → (Nat → Int32) → (Nat → Int32) → (Nat → Int32) → (Nat → Int32) → Int32 → Prop
  | 0, _, _, _, _, _, _, _, _, _, _, _, _, _, _, _, _, _, _, _, _, _, _, _, _, _, _, _, _, _, _, _, _, _, _ => False
  | n_ + 1, Fthrown, Ftaped, Fsize, Fplace, Fbegin, Ftoken, Fword, Ftold, Fwrong, Fcode, Fstate, Astuffs, Acells, Ainputs, Alines, AstuffName, AcellName, Abears, Acosts, AcellAt, AinputCell, AinputLeast, AinputMost, Aact, AactCell, AlineStuff, Atwins, AlineFrom, AlineTo, Acodes, Aopened, Acompared, Aworn, l1 => lb_X8_programme_30 Atape  Φ (lf_X8_programme_30 Atape  Φ n_) Fthrown Ftaped Fsize Fplace Fbegin Ftoken Fword Ftold Fwrong Fcode Fstate Astuffs Acells Ainputs Alines AstuffName AcellName Abears Acosts AcellAt AinputCell AinputLeast AinputMost Aact AactCell AlineStuff Atwins AlineFrom AlineTo Acodes Aopened Acompared Aworn l1
theorem li_X8_programme_30 (Atape : Nat → Int32)  (Φ : Int32 → Int32 → Int32 → Int32 → Int32 → Int32 → Int32 → Int64 → Int32 → Int32 → Int32 → Int32 → (Nat → Int32) → (Nat → Int32) → (Nat → Int32) → (Nat → Int32) → (Nat → Int64) → (Nat → Int64) → (Nat → Int32) → (Nat → Int32) → (Nat → Int32) → (Nat → Int32) → (Nat → Int32) → (Nat → Int32) → (Nat → Int32) → (Nat → Int32) → (Nat → Int32) → (Nat → Int32) → (Nat → Int32) → (Nat → Int32) → (Nat → Int32) → (Nat → Int32) → (Nat → Int32) → (Nat → Int32) → Prop) (Inv : Int32 → Int32 → Int32 → Int32 → Int32 → Int32 → Int64 → Int32 → Int32 → Int32 → Int32 → (Nat → Int32) → (Nat → Int32) → (Nat → Int32) → (Nat → Int32) → (Nat → Int64) → (Nat → Int64) → (Nat → Int32) → (Nat → Int32) → (Nat → Int32) → (Nat → Int32) → (Nat → Int32) → (Nat → Int32) → (Nat → Int32) → (Nat → Int32) → (Nat → Int32) → (Nat → Int32) → (Nat → Int32) → (Nat → Int32) → (Nat → Int32) → (Nat → Int32) → (Nat → Int32) → (Nat → Int32) → Int32 → Prop) (mu : Int32 → Int32 → Int32 → Int32 → Int32 → Int32 → Int64 → Int32 → Int32 → Int32 → Int32 → (Nat → Int32) → (Nat → Int32) → (Nat → Int32) → (Nat → Int32) → (Nat → Int64) → (Nat → Int64) → (Nat → Int32) → (Nat → Int32) → (Nat → Int32) → (Nat → Int32) → (Nat → Int32) → (Nat → Int32) → (Nat → Int32) → (Nat → Int32) → (Nat → Int32) → (Nat → Int32) → (Nat → Int32) → (Nat → Int32) → (Nat → Int32) → (Nat → Int32) → (Nat → Int32) → (Nat → Int32) → Int32 → Nat) (hs : ∀ (back : Int32 → Int32 → Int32 → Int32 → Int32 → Int32 → Int64 → Int32 → Int32 → Int32 → Int32 → (Nat → Int32) → (Nat → Int32) → (Nat → Int32) → (Nat → Int32) → (Nat → Int64) → (Nat → Int64) → (Nat → Int32) → (Nat → Int32) → (Nat → Int32) → (Nat → Int32) → (Nat → Int32) → (Nat → Int32) → (Nat → Int32) → (Nat → Int32) → (Nat → Int32) → (Nat → Int32) → (Nat → Int32) → (Nat → Int32) → (Nat → Int32) → (Nat → Int32) → (Nat → Int32) → (Nat → Int32) → Int32 → Prop) (Fthrown : Int32) (Ftaped : Int32) (Fsize : Int32) (Fplace : Int32) (Fbegin : Int32) (Ftoken : Int32) (Fword : Int64) (Ftold : Int32) (Fwrong : Int32) (Fcode : Int32) (Fstate : Int32) (Astuffs : Nat → Int32) (Acells : Nat → Int32) (Ainputs : Nat → Int32) (Alines : Nat → Int32) (AstuffName : Nat → Int64) (AcellName : Nat → Int64) (Abears : Nat → Int32) (Acosts : Nat → Int32) (AcellAt : Nat → Int32) (AinputCell : Nat → Int32) (AinputLeast : Nat → Int32) (AinputMost : Nat → Int32) (Aact : Nat → Int32) (AactCell : Nat → Int32) (AlineStuff : Nat → Int32) (Atwins : Nat → Int32) (AlineFrom : Nat → Int32) (AlineTo : Nat → Int32) (Acodes : Nat → Int32) (Aopened : Nat → Int32) (Acompared : Nat → Int32) (Aworn : Nat → Int32) (l1 : Int32), Inv Fthrown Ftaped Fsize Fplace Fbegin Ftoken Fword Ftold Fwrong Fcode Fstate Astuffs Acells Ainputs Alines AstuffName AcellName Abears Acosts AcellAt AinputCell AinputLeast AinputMost Aact AactCell AlineStuff Atwins AlineFrom AlineTo Acodes Aopened Acompared Aworn l1 → (∀ (Fthrown' : Int32) (Ftaped' : Int32) (Fsize' : Int32) (Fplace' : Int32) (Fbegin' : Int32) (Ftoken' : Int32) (Fword' : Int64) (Ftold' : Int32) (Fwrong' : Int32) (Fcode' : Int32) (Fstate' : Int32) (Astuffs' : Nat → Int32) (Acells' : Nat → Int32) (Ainputs' : Nat → Int32) (Alines' : Nat → Int32) (AstuffName' : Nat → Int64) (AcellName' : Nat → Int64) (Abears' : Nat → Int32) (Acosts' : Nat → Int32) (AcellAt' : Nat → Int32) (AinputCell' : Nat → Int32) (AinputLeast' : Nat → Int32) (AinputMost' : Nat → Int32) (Aact' : Nat → Int32) (AactCell' : Nat → Int32) (AlineStuff' : Nat → Int32) (Atwins' : Nat → Int32) (AlineFrom' : Nat → Int32) (AlineTo' : Nat → Int32) (Acodes' : Nat → Int32) (Aopened' : Nat → Int32) (Acompared' : Nat → Int32) (Aworn' : Nat → Int32) (l1' : Int32), Inv Fthrown' Ftaped' Fsize' Fplace' Fbegin' Ftoken' Fword' Ftold' Fwrong' Fcode' Fstate' Astuffs' Acells' Ainputs' Alines' AstuffName' AcellName' Abears' Acosts' AcellAt' AinputCell' AinputLeast' AinputMost' Aact' AactCell' AlineStuff' Atwins' AlineFrom' AlineTo' Acodes' Aopened' Acompared' Aworn' l1' → mu Fthrown' Ftaped' Fsize' Fplace' Fbegin' Ftoken' Fword' Ftold' Fwrong' Fcode' Fstate' Astuffs' Acells' Ainputs' Alines' AstuffName' AcellName' Abears' Acosts' AcellAt' AinputCell' AinputLeast' AinputMost' Aact' AactCell' AlineStuff' Atwins' AlineFrom' AlineTo' Acodes' Aopened' Acompared' Aworn' l1' < mu Fthrown Ftaped Fsize Fplace Fbegin Ftoken Fword Ftold Fwrong Fcode Fstate Astuffs Acells Ainputs Alines AstuffName AcellName Abears Acosts AcellAt AinputCell AinputLeast AinputMost Aact AactCell AlineStuff Atwins AlineFrom AlineTo Acodes Aopened Acompared Aworn l1 → back Fthrown' Ftaped' Fsize' Fplace' Fbegin' Ftoken' Fword' Ftold' Fwrong' Fcode' Fstate' Astuffs' Acells' Ainputs' Alines' AstuffName' AcellName' Abears' Acosts' AcellAt' AinputCell' AinputLeast' AinputMost' Aact' AactCell' AlineStuff' Atwins' AlineFrom' AlineTo' Acodes' Aopened' Acompared' Aworn' l1') → lb_X8_programme_30 Atape  Φ back Fthrown Ftaped Fsize Fplace Fbegin Ftoken Fword Ftold Fwrong Fcode Fstate Astuffs Acells Ainputs Alines AstuffName AcellName Abears Acosts AcellAt AinputCell AinputLeast AinputMost Aact AactCell AlineStuff Atwins AlineFrom AlineTo Acodes Aopened Acompared Aworn l1) : ∀ (n_ : Nat) (Fthrown : Int32) (Ftaped : Int32) (Fsize : Int32) (Fplace : Int32) (Fbegin : Int32) (Ftoken : Int32) (Fword : Int64) (Ftold : Int32) (Fwrong : Int32) (Fcode : Int32) (Fstate : Int32) (Astuffs : Nat → Int32) (Acells : Nat → Int32) (Ainputs : Nat → Int32) (Alines : Nat → Int32) (AstuffName : Nat → Int64) (AcellName : Nat → Int64) (Abears : Nat → Int32) (Acosts : Nat → Int32) (AcellAt : Nat → Int32) (AinputCell : Nat → Int32) (AinputLeast : Nat → Int32) (AinputMost : Nat → Int32) (Aact : Nat → Int32) (AactCell : Nat → Int32) (AlineStuff : Nat → Int32) (Atwins : Nat → Int32) (AlineFrom : Nat → Int32) (AlineTo : Nat → Int32) (Acodes : Nat → Int32) (Aopened : Nat → Int32) (Acompared : Nat → Int32) (Aworn : Nat → Int32) (l1 : Int32), Inv Fthrown Ftaped Fsize Fplace Fbegin Ftoken Fword Ftold Fwrong Fcode Fstate Astuffs Acells Ainputs Alines AstuffName AcellName Abears Acosts AcellAt AinputCell AinputLeast AinputMost Aact AactCell AlineStuff Atwins AlineFrom AlineTo Acodes Aopened Acompared Aworn l1 → mu Fthrown Ftaped Fsize Fplace Fbegin Ftoken Fword Ftold Fwrong Fcode Fstate Astuffs Acells Ainputs Alines AstuffName AcellName Abears Acosts AcellAt AinputCell AinputLeast AinputMost Aact AactCell AlineStuff Atwins AlineFrom AlineTo Acodes Aopened Acompared Aworn l1 < n_ → lf_X8_programme_30 Atape  Φ n_ Fthrown Ftaped Fsize Fplace Fbegin Ftoken Fword Ftold Fwrong Fcode Fstate Astuffs Acells Ainputs Alines AstuffName AcellName Abears Acosts AcellAt AinputCell AinputLeast AinputMost Aact AactCell AlineStuff Atwins AlineFrom AlineTo Acodes Aopened Acompared Aworn l1 := by
  intro n_
  induction n_ with
  | zero => intro Fthrown Ftaped Fsize Fplace Fbegin Ftoken Fword Ftold Fwrong Fcode Fstate Astuffs Acells Ainputs Alines AstuffName AcellName Abears Acosts AcellAt AinputCell AinputLeast AinputMost Aact AactCell AlineStuff Atwins AlineFrom AlineTo Acodes Aopened Acompared Aworn l1 _ h; exact absurd h (Nat.not_lt_zero _)
  | succ n_ ih => intro Fthrown Ftaped Fsize Fplace Fbegin Ftoken Fword Ftold Fwrong Fcode Fstate Astuffs Acells Ainputs Alines AstuffName AcellName Abears Acosts AcellAt AinputCell AinputLeast AinputMost Aact AactCell AlineStuff Atwins AlineFrom AlineTo Acodes Aopened Acompared Aworn l1 hI hm; exact hs _ Fthrown Ftaped Fsize Fplace Fbegin Ftoken Fword Ftold Fwrong Fcode Fstate Astuffs Acells Ainputs Alines AstuffName AcellName Abears Acosts AcellAt AinputCell AinputLeast AinputMost Aact AactCell AlineStuff Atwins AlineFrom AlineTo Acodes Aopened Acompared Aworn l1 hI (fun Fthrown' Ftaped' Fsize' Fplace' Fbegin' Ftoken' Fword' Ftold' Fwrong' Fcode' Fstate' Astuffs' Acells' Ainputs' Alines' AstuffName' AcellName' Abears' Acosts' AcellAt' AinputCell' AinputLeast' AinputMost' Aact' AactCell' AlineStuff' Atwins' AlineFrom' AlineTo' Acodes' Aopened' Acompared' Aworn' l1' h1 h2 => ih Fthrown' Ftaped' Fsize' Fplace' Fbegin' Ftoken' Fword' Ftold' Fwrong' Fcode' Fstate' Astuffs' Acells' Ainputs' Alines' AstuffName' AcellName' Abears' Acosts' AcellAt' AinputCell' AinputLeast' AinputMost' Aact' AactCell' AlineStuff' Atwins' AlineFrom' AlineTo' Acodes' Aopened' Acompared' Aworn' l1' h1 (by omega))
set_option maxHeartbeats 4000000 in
set_option maxRecDepth 100000 in
theorem lp_X8_programme_30 {p : Program} {l : Launch} {e : Env} {R : Room} {s : State} {m : MethodId} {args : Array Value} {below : List Frame} {meth : Method} {c : Code} {cells slots : Nat} {Q : State → Prop} {A : Nat → Prop} {D : va_G} {ak : Nat → ClassId} {ad : Nat → Nat} (hx : p.tables.exec = Jvm.exec) (hb : c.code = cX8_programme) (hown : s.vm.findClass RX8 = some m.cls) (hts : ∀ w ∈ wsX8_programme, w.before args s = true) (hml : c.maxLocals = 2) (hE : EV D ak s) (hT : ST D ak ad A s s.heap) (hA : ∀ q, s.heap.size ≤ q → A q) (hRf : 6 ≤ R.frames) (hRl : 132 ≤ R.locals) (hRc : cells ≤ R.cells ∧ slots ≤ R.slots) (h : Nat) (am : Nat → Nat) (Fat : Int32) (Fway : Int32) (Fnext : Int32) (FisEnd : Int32) (FisFallen : Int32) (Fwritten : Int32) (Fmade : Int32) (FhandNext : Int32) (FhandSteps : Int32) (FhandWritten : Int32) (FmarkAt : Int32) (Atape : Nat → Int32)  (Φ : Int32 → Int32 → Int32 → Int32 → Int32 → Int32 → Int32 → Int64 → Int32 → Int32 → Int32 → Int32 → (Nat → Int32) → (Nat → Int32) → (Nat → Int32) → (Nat → Int32) → (Nat → Int64) → (Nat → Int64) → (Nat → Int32) → (Nat → Int32) → (Nat → Int32) → (Nat → Int32) → (Nat → Int32) → (Nat → Int32) → (Nat → Int32) → (Nat → Int32) → (Nat → Int32) → (Nat → Int32) → (Nat → Int32) → (Nat → Int32) → (Nat → Int32) → (Nat → Int32) → (Nat → Int32) → (Nat → Int32) → Prop)
    (kR16 : ∀ (r : Int32) (Fthrown : Int32) (Ftaped : Int32) (Fsize : Int32) (Fplace : Int32) (Fbegin : Int32) (Ftoken : Int32) (Fword : Int64) (Ftold : Int32) (Fwrong : Int32) (Fcode : Int32) (Fstate : Int32) (Astuffs : Nat → Int32) (Acells : Nat → Int32) (Ainputs : Nat → Int32) (Alines : Nat → Int32) (AstuffName : Nat → Int64) (AcellName : Nat → Int64) (Abears : Nat → Int32) (Acosts : Nat → Int32) (AcellAt : Nat → Int32) (AinputCell : Nat → Int32) (AinputLeast : Nat → Int32) (AinputMost : Nat → Int32) (Aact : Nat → Int32) (AactCell : Nat → Int32) (AlineStuff : Nat → Int32) (Atwins : Nat → Int32) (AlineFrom : Nat → Int32) (AlineTo : Nat → Int32) (Acodes : Nat → Int32) (Aopened : Nat → Int32) (Acompared : Nat → Int32) (Aworn : Nat → Int32) (H : Heap) (locs : List Loc) (ls : Array Slot), Φ r Fthrown Ftaped Fsize Fplace Fbegin Ftoken Fword Ftold Fwrong Fcode Fstate Astuffs Acells Ainputs Alines AstuffName AcellName Abears Acosts AcellAt AinputCell AinputLeast AinputMost Aact AactCell AlineStuff Atwins AlineFrom AlineTo Acodes Aopened Acompared Aworn → va_P D vwCl (wW_X8_programme ak ad h am Fthrown Ftaped Fsize Fplace Fbegin Ftoken Fword Ftold Fwrong Fcode Fat Fway Fnext FisEnd FisFallen Fwritten Fmade Fstate FhandNext FhandSteps FhandWritten FmarkAt Atape Astuffs Acells Ainputs Alines AstuffName AcellName Abears Acosts AcellAt AinputCell AinputLeast AinputMost Aact AactCell AlineStuff Atwins AlineFrom AlineTo Acodes Aopened Acompared Aworn) H → va_D A (wW_X8_programme ak ad h am Fthrown Ftaped Fsize Fplace Fbegin Ftoken Fword Ftold Fwrong Fcode Fat Fway Fnext FisEnd FisFallen Fwritten Fmade Fstate FhandNext FhandSteps FhandWritten FmarkAt Atape Astuffs Acells Ainputs Alines AstuffName AcellName Abears Acosts AcellAt AinputCell AinputLeast AinputMost Aact AactCell AlineStuff Atwins AlineFrom AlineTo Acodes Aopened Acompared Aworn) → va_S A s.heap H locs → W p l e R s m args below meth c H locs cells slots Q (F0 m 16 ls [.int r]))
    (kR50 : ∀ (r : Int32) (Fthrown : Int32) (Ftaped : Int32) (Fsize : Int32) (Fplace : Int32) (Fbegin : Int32) (Ftoken : Int32) (Fword : Int64) (Ftold : Int32) (Fwrong : Int32) (Fcode : Int32) (Fstate : Int32) (Astuffs : Nat → Int32) (Acells : Nat → Int32) (Ainputs : Nat → Int32) (Alines : Nat → Int32) (AstuffName : Nat → Int64) (AcellName : Nat → Int64) (Abears : Nat → Int32) (Acosts : Nat → Int32) (AcellAt : Nat → Int32) (AinputCell : Nat → Int32) (AinputLeast : Nat → Int32) (AinputMost : Nat → Int32) (Aact : Nat → Int32) (AactCell : Nat → Int32) (AlineStuff : Nat → Int32) (Atwins : Nat → Int32) (AlineFrom : Nat → Int32) (AlineTo : Nat → Int32) (Acodes : Nat → Int32) (Aopened : Nat → Int32) (Acompared : Nat → Int32) (Aworn : Nat → Int32) (H : Heap) (locs : List Loc) (ls : Array Slot), Φ r Fthrown Ftaped Fsize Fplace Fbegin Ftoken Fword Ftold Fwrong Fcode Fstate Astuffs Acells Ainputs Alines AstuffName AcellName Abears Acosts AcellAt AinputCell AinputLeast AinputMost Aact AactCell AlineStuff Atwins AlineFrom AlineTo Acodes Aopened Acompared Aworn → va_P D vwCl (wW_X8_programme ak ad h am Fthrown Ftaped Fsize Fplace Fbegin Ftoken Fword Ftold Fwrong Fcode Fat Fway Fnext FisEnd FisFallen Fwritten Fmade Fstate FhandNext FhandSteps FhandWritten FmarkAt Atape Astuffs Acells Ainputs Alines AstuffName AcellName Abears Acosts AcellAt AinputCell AinputLeast AinputMost Aact AactCell AlineStuff Atwins AlineFrom AlineTo Acodes Aopened Acompared Aworn) H → va_D A (wW_X8_programme ak ad h am Fthrown Ftaped Fsize Fplace Fbegin Ftoken Fword Ftold Fwrong Fcode Fat Fway Fnext FisEnd FisFallen Fwritten Fmade Fstate FhandNext FhandSteps FhandWritten FmarkAt Atape Astuffs Acells Ainputs Alines AstuffName AcellName Abears Acosts AcellAt AinputCell AinputLeast AinputMost Aact AactCell AlineStuff Atwins AlineFrom AlineTo Acodes Aopened Acompared Aworn) → va_S A s.heap H locs → W p l e R s m args below meth c H locs cells slots Q (F0 m 50 ls [.int r]))
    : ∀ (n_ : Nat) (Fthrown : Int32) (Ftaped : Int32) (Fsize : Int32) (Fplace : Int32) (Fbegin : Int32) (Ftoken : Int32) (Fword : Int64) (Ftold : Int32) (Fwrong : Int32) (Fcode : Int32) (Fstate : Int32) (Astuffs : Nat → Int32) (Acells : Nat → Int32) (Ainputs : Nat → Int32) (Alines : Nat → Int32) (AstuffName : Nat → Int64) (AcellName : Nat → Int64) (Abears : Nat → Int32) (Acosts : Nat → Int32) (AcellAt : Nat → Int32) (AinputCell : Nat → Int32) (AinputLeast : Nat → Int32) (AinputMost : Nat → Int32) (Aact : Nat → Int32) (AactCell : Nat → Int32) (AlineStuff : Nat → Int32) (Atwins : Nat → Int32) (AlineFrom : Nat → Int32) (AlineTo : Nat → Int32) (Acodes : Nat → Int32) (Aopened : Nat → Int32) (Acompared : Nat → Int32) (Aworn : Nat → Int32) (l1 : Int32) (H : Heap) (locs : List Loc) (ls : Array Slot), lf_X8_programme_30 Atape  Φ n_ Fthrown Ftaped Fsize Fplace Fbegin Ftoken Fword Ftold Fwrong Fcode Fstate Astuffs Acells Ainputs Alines AstuffName AcellName Abears Acosts AcellAt AinputCell AinputLeast AinputMost Aact AactCell AlineStuff Atwins AlineFrom AlineTo Acodes Aopened Acompared Aworn l1 → va_P D vwCl (wW_X8_programme ak ad h am Fthrown Ftaped Fsize Fplace Fbegin Ftoken Fword Ftold Fwrong Fcode Fat Fway Fnext FisEnd FisFallen Fwritten Fmade Fstate FhandNext FhandSteps FhandWritten FmarkAt Atape Astuffs Acells Ainputs Alines AstuffName AcellName Abears Acosts AcellAt AinputCell AinputLeast AinputMost Aact AactCell AlineStuff Atwins AlineFrom AlineTo Acodes Aopened Acompared Aworn) H → va_D A (wW_X8_programme ak ad h am Fthrown Ftaped Fsize Fplace Fbegin Ftoken Fword Ftold Fwrong Fcode Fat Fway Fnext FisEnd FisFallen Fwritten Fmade Fstate FhandNext FhandSteps FhandWritten FmarkAt Atape Astuffs Acells Ainputs Alines AstuffName AcellName Abears Acosts AcellAt AinputCell AinputLeast AinputMost Aact AactCell AlineStuff Atwins AlineFrom AlineTo Acodes Aopened Acompared Aworn) → va_S A s.heap H locs → lv_has ls 2 [(0, .ref h), (1, .int (l1))] → W p l e R s m args below meth c H locs cells slots Q (F0 m 30 ls ([])) := by
  intro n_
  induction n_ with
  | zero =>
    intro Fthrown Ftaped Fsize Fplace Fbegin Ftoken Fword Ftold Fwrong Fcode Fstate Astuffs Acells Ainputs Alines AstuffName AcellName Abears Acosts AcellAt AinputCell AinputLeast AinputMost Aact AactCell AlineStuff Atwins AlineFrom AlineTo Acodes Aopened Acompared Aworn l1 H locs ls hw
    exact hw.elim
  | succ n_ ih =>
    intro Fthrown Ftaped Fsize Fplace Fbegin Ftoken Fword Ftold Fwrong Fcode Fstate Astuffs Acells Ainputs Alines AstuffName AcellName Abears Acosts AcellAt AinputCell AinputLeast AinputMost Aact AactCell AlineStuff Atwins AlineFrom AlineTo Acodes Aopened Acompared Aworn l1 H locs ls hw hP hD hS hl
    have hw : lb_X8_programme_30 Atape  Φ (lf_X8_programme_30 Atape  Φ n_) Fthrown Ftaped Fsize Fplace Fbegin Ftoken Fword Ftold Fwrong Fcode Fstate Astuffs Acells Ainputs Alines AstuffName AcellName Abears Acosts AcellAt AinputCell AinputLeast AinputMost Aact AactCell AlineStuff Atwins AlineFrom AlineTo Acodes Aopened Acompared Aworn l1 := hw
    delta lb_X8_programme_30 at hw
    refine lv_iload_n hx hb dX8_programme_30 rfl (lv_at hl 1 rfl) ?_
    refine lv_bipush (v := 16) hx hb dX8_programme_31 (by decide) ?_
    refine lv_icmp_ge (tgt := 49) hx hb dX8_programme_33 (by decide) (fun c_53 => ?_) (fun c_53 => ?_)
    · replace hw := hw.1 c_53
      refine lv_iconst (v := 0) hx hb dX8_programme_49 (by decide) ?_
      exact kR50 0 Fthrown Ftaped Fsize Fplace Fbegin Ftoken Fword Ftold Fwrong Fcode Fstate Astuffs Acells Ainputs Alines AstuffName AcellName Abears Acosts AcellAt AinputCell AinputLeast AinputMost Aact AactCell AlineStuff Atwins AlineFrom AlineTo Acodes Aopened Acompared Aworn _ _ _ hw hP hD hS
    · replace hw := hw.2 c_53
      refine lv_aload_n hx hb dX8_programme_36 rfl (lv_at hl 0 rfl) ?_
      refine vt_get (D := D) (ci := 7) (v := .ref (am 38)) (C := RX8) (T := TX8) (N := 69) hx hb hts (fun w h => wm_c (wc_X8 w h)) hown hE.1 hP 0 rfl rfl 59 (by decide) tX8_59 (hts (.fieldLink RX8 126 "WornLinesModel" "worn" "[I") (wm_c hw_150)) (fun _ h9 => h9) rfl dX8_programme_37 ?_
      refine lv_iload_n hx hb dX8_programme_40 rfl (lv_at hl 1 rfl) ?_
      refine lv_iconst (v := 0) hx hb dX8_programme_41 (by decide) ?_
      obtain ⟨h_54, hw⟩ := hw
      refine va_iast hx hb hE.1 hP hD hS 23 0 rfl rfl (h_54) dX8_programme_42 (fun H locs hP hD hS => ?_)
      have hP : va_P D vwCl (wW_X8_programme ak ad h am Fthrown Ftaped Fsize Fplace Fbegin Ftoken Fword Ftold Fwrong Fcode Fat Fway Fnext FisEnd FisFallen Fwritten Fmade Fstate FhandNext FhandSteps FhandWritten FmarkAt Atape Astuffs Acells Ainputs Alines AstuffName AcellName Abears Acosts AcellAt AinputCell AinputLeast AinputMost Aact AactCell AlineStuff Atwins AlineFrom AlineTo Acodes Aopened Acompared (upd Aworn (l1).toNatClampNeg 0)) H := hP
      have hD : va_D A (wW_X8_programme ak ad h am Fthrown Ftaped Fsize Fplace Fbegin Ftoken Fword Ftold Fwrong Fcode Fat Fway Fnext FisEnd FisFallen Fwritten Fmade Fstate FhandNext FhandSteps FhandWritten FmarkAt Atape Astuffs Acells Ainputs Alines AstuffName AcellName Abears Acosts AcellAt AinputCell AinputLeast AinputMost Aact AactCell AlineStuff Atwins AlineFrom AlineTo Acodes Aopened Acompared (upd Aworn (l1).toNatClampNeg 0)) := hD
      refine lv_iinc (v := (l1 + 1)) (lv' := [(1, .int (l1 + 1)), (0, .ref h)]) hx hb dX8_programme_43 hl (k := 1) rfl (rfl) (by decide) rfl (fun ls hl => ?_)
      refine lv_goto (tgt := 30) hx hb dX8_programme_46 (by decide) ?_
      exact ih Fthrown Ftaped Fsize Fplace Fbegin Ftoken Fword Ftold Fwrong Fcode Fstate Astuffs Acells Ainputs Alines AstuffName AcellName Abears Acosts AcellAt AinputCell AinputLeast AinputMost Aact AactCell AlineStuff Atwins AlineFrom AlineTo Acodes Aopened Acompared (upd Aworn (l1).toNatClampNeg 0) (l1 + 1) _ _ _ hw hP hD hS (lv_sub hl [1, 0] rfl)

def wp_X8_programme (Atape : Nat → Int32) (Fthrown : Int32) (Ftaped : Int32) (Fsize : Int32) (Fplace : Int32) (Fbegin : Int32) (Ftoken : Int32) (Fword : Int64) (Ftold : Int32) (Fwrong : Int32) (Fcode : Int32) (Fstate : Int32) (Astuffs : Nat → Int32) (Acells : Nat → Int32) (Ainputs : Nat → Int32) (Alines : Nat → Int32) (AstuffName : Nat → Int64) (AcellName : Nat → Int64) (Abears : Nat → Int32) (Acosts : Nat → Int32) (AcellAt : Nat → Int32) (AinputCell : Nat → Int32) (AinputLeast : Nat → Int32) (AinputMost : Nat → Int32) (Aact : Nat → Int32) (AactCell : Nat → Int32) (AlineStuff : Nat → Int32) (Atwins : Nat → Int32) (AlineFrom : Nat → Int32) (AlineTo : Nat → Int32) (Acodes : Nat → Int32) (Aopened : Nat → Int32) (Acompared : Nat → Int32) (Aworn : Nat → Int32) (Φ : Int32 → Int32 → Int32 → Int32 → Int32 → Int32 → Int32 → Int64 → Int32 → Int32 → Int32 → Int32 → (Nat → Int32) → (Nat → Int32) → (Nat → Int32) → (Nat → Int32) → (Nat → Int64) → (Nat → Int64) → (Nat → Int32) → (Nat → Int32) → (Nat → Int32) → (Nat → Int32) → (Nat → Int32) → (Nat → Int32) → (Nat → Int32) → (Nat → Int32) → (Nat → Int32) → (Nat → Int32) → (Nat → Int32) → (Nat → Int32) → (Nat → Int32) → (Nat → Int32) → (Nat → Int32) → (Nat → Int32) → Prop) : Prop := wp_X8_readsAll Atape Ftaped Fsize Fplace Fbegin Ftoken Fword Ftold Fwrong Fcode Astuffs Acells Ainputs Alines AstuffName AcellName Abears Acosts AcellAt AinputCell AinputLeast AinputMost Aact AactCell AlineStuff Atwins AlineFrom AlineTo Acodes Aopened Acompared (fun r_32 Ftaped_2 Fsize_3 Fplace_4 Fbegin_5 Ftoken_6 Fword_7 Ftold_8 Fwrong_9 Fcode_10 Astuffs_11 Acells_12 Ainputs_13 Alines_14 AstuffName_15 AcellName_16 Abears_17 Acosts_18 AcellAt_19 AinputCell_20 AinputLeast_21 AinputMost_22 Aact_23 AactCell_24 AlineStuff_25 Atwins_26 AlineFrom_27 AlineTo_28 Acodes_29 Aopened_30 Acompared_31 => (¬ r_32 = 0 → wp_X8_lays 1 0 Astuffs_11 Acells_12 Ainputs_13 Alines_14 Abears_17 Acosts_18 AcellAt_19 AinputCell_20 AinputLeast_21 AinputMost_22 Aact_23 AactCell_24 AlineStuff_25 Atwins_26 AlineFrom_27 AlineTo_28 Acodes_29 (fun Astuffs_35 Acells_36 Ainputs_37 Alines_38 Abears_39 Acosts_40 AcellAt_41 AinputCell_42 AinputLeast_43 AinputMost_44 Aact_45 AactCell_46 AlineStuff_47 Atwins_48 AlineFrom_49 AlineTo_50 Acodes_51 => (∃ n_, lf_X8_programme_30 Atape  Φ n_ 0 Ftaped_2 Fsize_3 Fplace_4 Fbegin_5 Ftoken_6 Fword_7 Ftold_8 Fwrong_9 Fcode_10 0 Astuffs_35 Acells_36 Ainputs_37 Alines_38 AstuffName_15 AcellName_16 Abears_39 Acosts_40 AcellAt_41 AinputCell_42 AinputLeast_43 AinputMost_44 Aact_45 AactCell_46 AlineStuff_47 Atwins_48 AlineFrom_49 AlineTo_50 Acodes_51 Aopened_30 Acompared_31 Aworn 0))) ∧ (r_32 = 0 → Φ Fwrong_9 0 Ftaped_2 Fsize_3 Fplace_4 Fbegin_5 Ftoken_6 Fword_7 Ftold_8 Fwrong_9 Fcode_10 Fstate Astuffs_11 Acells_12 Ainputs_13 Alines_14 AstuffName_15 AcellName_16 Abears_17 Acosts_18 AcellAt_19 AinputCell_20 AinputLeast_21 AinputMost_22 Aact_23 AactCell_24 AlineStuff_25 Atwins_26 AlineFrom_27 AlineTo_28 Acodes_29 Aopened_30 Acompared_31 Aworn))
set_option maxHeartbeats 4000000 in
set_option maxRecDepth 100000 in
theorem kj_X8_programme_e {p : Program} {l : Launch} {e : Env} {R : Room} {s : State} {m : MethodId} {args : Array Value} {below : List Frame} {meth : Method} {c : Code} {cells slots : Nat} {Q : State → Prop} {A : Nat → Prop} {D : va_G} {ak : Nat → ClassId} {ad : Nat → Nat} (hx : p.tables.exec = Jvm.exec) (hb : c.code = cX8_programme) (hown : s.vm.findClass RX8 = some m.cls) (hts : ∀ w ∈ wsX8_programme, w.before args s = true) (hml : c.maxLocals = 2) (hE : EV D ak s) (hT : ST D ak ad A s s.heap) (hA : ∀ q, s.heap.size ≤ q → A q) (hRf : 6 ≤ R.frames) (hRl : 132 ≤ R.locals) (hRc : cells ≤ R.cells ∧ slots ≤ R.slots) (h : Nat) (am : Nat → Nat) (Fat : Int32) (Fway : Int32) (Fnext : Int32) (FisEnd : Int32) (FisFallen : Int32) (Fwritten : Int32) (Fmade : Int32) (FhandNext : Int32) (FhandSteps : Int32) (FhandWritten : Int32) (FmarkAt : Int32) (Atape : Nat → Int32)  (Φ : Int32 → Int32 → Int32 → Int32 → Int32 → Int32 → Int32 → Int64 → Int32 → Int32 → Int32 → Int32 → (Nat → Int32) → (Nat → Int32) → (Nat → Int32) → (Nat → Int32) → (Nat → Int64) → (Nat → Int64) → (Nat → Int32) → (Nat → Int32) → (Nat → Int32) → (Nat → Int32) → (Nat → Int32) → (Nat → Int32) → (Nat → Int32) → (Nat → Int32) → (Nat → Int32) → (Nat → Int32) → (Nat → Int32) → (Nat → Int32) → (Nat → Int32) → (Nat → Int32) → (Nat → Int32) → (Nat → Int32) → Prop)
    (kR16 : ∀ (r : Int32) (Fthrown : Int32) (Ftaped : Int32) (Fsize : Int32) (Fplace : Int32) (Fbegin : Int32) (Ftoken : Int32) (Fword : Int64) (Ftold : Int32) (Fwrong : Int32) (Fcode : Int32) (Fstate : Int32) (Astuffs : Nat → Int32) (Acells : Nat → Int32) (Ainputs : Nat → Int32) (Alines : Nat → Int32) (AstuffName : Nat → Int64) (AcellName : Nat → Int64) (Abears : Nat → Int32) (Acosts : Nat → Int32) (AcellAt : Nat → Int32) (AinputCell : Nat → Int32) (AinputLeast : Nat → Int32) (AinputMost : Nat → Int32) (Aact : Nat → Int32) (AactCell : Nat → Int32) (AlineStuff : Nat → Int32) (Atwins : Nat → Int32) (AlineFrom : Nat → Int32) (AlineTo : Nat → Int32) (Acodes : Nat → Int32) (Aopened : Nat → Int32) (Acompared : Nat → Int32) (Aworn : Nat → Int32) (H : Heap) (locs : List Loc) (ls : Array Slot), Φ r Fthrown Ftaped Fsize Fplace Fbegin Ftoken Fword Ftold Fwrong Fcode Fstate Astuffs Acells Ainputs Alines AstuffName AcellName Abears Acosts AcellAt AinputCell AinputLeast AinputMost Aact AactCell AlineStuff Atwins AlineFrom AlineTo Acodes Aopened Acompared Aworn → va_P D vwCl (wW_X8_programme ak ad h am Fthrown Ftaped Fsize Fplace Fbegin Ftoken Fword Ftold Fwrong Fcode Fat Fway Fnext FisEnd FisFallen Fwritten Fmade Fstate FhandNext FhandSteps FhandWritten FmarkAt Atape Astuffs Acells Ainputs Alines AstuffName AcellName Abears Acosts AcellAt AinputCell AinputLeast AinputMost Aact AactCell AlineStuff Atwins AlineFrom AlineTo Acodes Aopened Acompared Aworn) H → va_D A (wW_X8_programme ak ad h am Fthrown Ftaped Fsize Fplace Fbegin Ftoken Fword Ftold Fwrong Fcode Fat Fway Fnext FisEnd FisFallen Fwritten Fmade Fstate FhandNext FhandSteps FhandWritten FmarkAt Atape Astuffs Acells Ainputs Alines AstuffName AcellName Abears Acosts AcellAt AinputCell AinputLeast AinputMost Aact AactCell AlineStuff Atwins AlineFrom AlineTo Acodes Aopened Acompared Aworn) → va_S A s.heap H locs → W p l e R s m args below meth c H locs cells slots Q (F0 m 16 ls [.int r]))
    (kR50 : ∀ (r : Int32) (Fthrown : Int32) (Ftaped : Int32) (Fsize : Int32) (Fplace : Int32) (Fbegin : Int32) (Ftoken : Int32) (Fword : Int64) (Ftold : Int32) (Fwrong : Int32) (Fcode : Int32) (Fstate : Int32) (Astuffs : Nat → Int32) (Acells : Nat → Int32) (Ainputs : Nat → Int32) (Alines : Nat → Int32) (AstuffName : Nat → Int64) (AcellName : Nat → Int64) (Abears : Nat → Int32) (Acosts : Nat → Int32) (AcellAt : Nat → Int32) (AinputCell : Nat → Int32) (AinputLeast : Nat → Int32) (AinputMost : Nat → Int32) (Aact : Nat → Int32) (AactCell : Nat → Int32) (AlineStuff : Nat → Int32) (Atwins : Nat → Int32) (AlineFrom : Nat → Int32) (AlineTo : Nat → Int32) (Acodes : Nat → Int32) (Aopened : Nat → Int32) (Acompared : Nat → Int32) (Aworn : Nat → Int32) (H : Heap) (locs : List Loc) (ls : Array Slot), Φ r Fthrown Ftaped Fsize Fplace Fbegin Ftoken Fword Ftold Fwrong Fcode Fstate Astuffs Acells Ainputs Alines AstuffName AcellName Abears Acosts AcellAt AinputCell AinputLeast AinputMost Aact AactCell AlineStuff Atwins AlineFrom AlineTo Acodes Aopened Acompared Aworn → va_P D vwCl (wW_X8_programme ak ad h am Fthrown Ftaped Fsize Fplace Fbegin Ftoken Fword Ftold Fwrong Fcode Fat Fway Fnext FisEnd FisFallen Fwritten Fmade Fstate FhandNext FhandSteps FhandWritten FmarkAt Atape Astuffs Acells Ainputs Alines AstuffName AcellName Abears Acosts AcellAt AinputCell AinputLeast AinputMost Aact AactCell AlineStuff Atwins AlineFrom AlineTo Acodes Aopened Acompared Aworn) H → va_D A (wW_X8_programme ak ad h am Fthrown Ftaped Fsize Fplace Fbegin Ftoken Fword Ftold Fwrong Fcode Fat Fway Fnext FisEnd FisFallen Fwritten Fmade Fstate FhandNext FhandSteps FhandWritten FmarkAt Atape Astuffs Acells Ainputs Alines AstuffName AcellName Abears Acosts AcellAt AinputCell AinputLeast AinputMost Aact AactCell AlineStuff Atwins AlineFrom AlineTo Acodes Aopened Acompared Aworn) → va_S A s.heap H locs → W p l e R s m args below meth c H locs cells slots Q (F0 m 50 ls [.int r]))
    : ∀ (Fthrown : Int32) (Ftaped : Int32) (Fsize : Int32) (Fplace : Int32) (Fbegin : Int32) (Ftoken : Int32) (Fword : Int64) (Ftold : Int32) (Fwrong : Int32) (Fcode : Int32) (Fstate : Int32) (Astuffs : Nat → Int32) (Acells : Nat → Int32) (Ainputs : Nat → Int32) (Alines : Nat → Int32) (AstuffName : Nat → Int64) (AcellName : Nat → Int64) (Abears : Nat → Int32) (Acosts : Nat → Int32) (AcellAt : Nat → Int32) (AinputCell : Nat → Int32) (AinputLeast : Nat → Int32) (AinputMost : Nat → Int32) (Aact : Nat → Int32) (AactCell : Nat → Int32) (AlineStuff : Nat → Int32) (Atwins : Nat → Int32) (AlineFrom : Nat → Int32) (AlineTo : Nat → Int32) (Acodes : Nat → Int32) (Aopened : Nat → Int32) (Acompared : Nat → Int32) (Aworn : Nat → Int32) (H : Heap) (locs : List Loc) (ls : Array Slot), wp_X8_programme Atape Fthrown Ftaped Fsize Fplace Fbegin Ftoken Fword Ftold Fwrong Fcode Fstate Astuffs Acells Ainputs Alines AstuffName AcellName Abears Acosts AcellAt AinputCell AinputLeast AinputMost Aact AactCell AlineStuff Atwins AlineFrom AlineTo Acodes Aopened Acompared Aworn Φ → va_P D vwCl (wW_X8_programme ak ad h am Fthrown Ftaped Fsize Fplace Fbegin Ftoken Fword Ftold Fwrong Fcode Fat Fway Fnext FisEnd FisFallen Fwritten Fmade Fstate FhandNext FhandSteps FhandWritten FmarkAt Atape Astuffs Acells Ainputs Alines AstuffName AcellName Abears Acosts AcellAt AinputCell AinputLeast AinputMost Aact AactCell AlineStuff Atwins AlineFrom AlineTo Acodes Aopened Acompared Aworn) H → va_D A (wW_X8_programme ak ad h am Fthrown Ftaped Fsize Fplace Fbegin Ftoken Fword Ftold Fwrong Fcode Fat Fway Fnext FisEnd FisFallen Fwritten Fmade Fstate FhandNext FhandSteps FhandWritten FmarkAt Atape Astuffs Acells Ainputs Alines AstuffName AcellName Abears Acosts AcellAt AinputCell AinputLeast AinputMost Aact AactCell AlineStuff Atwins AlineFrom AlineTo Acodes Aopened Acompared Aworn) → va_S A s.heap H locs → lv_has ls 2 [(0, .ref h)] → W p l e R s m args below meth c H locs cells slots Q (F0 m 0 ls ([])) := by
  intro Fthrown Ftaped Fsize Fplace Fbegin Ftoken Fword Ftold Fwrong Fcode Fstate Astuffs Acells Ainputs Alines AstuffName AcellName Abears Acosts AcellAt AinputCell AinputLeast AinputMost Aact AactCell AlineStuff Atwins AlineFrom AlineTo Acodes Aopened Acompared Aworn H locs ls hw hP hD hS hl
  delta wp_X8_programme at hw
  refine lv_aload_n hx hb dX8_programme_0 rfl (lv_at hl 0 rfl) ?_
  refine lv_iconst (v := 0) hx hb dX8_programme_1 (by decide) ?_
  refine vt_put (D := D) (ci := 7) (v := .int (0)) (ty := .int) (C := RX8) (T := TX8) (N := 69) hx hb hts (fun w h => wm_c (wc_X8 w h)) tyX8 tyX8_ok nmX8 hown hE.1 hP hD hS 0 rfl rfl 0 (by decide) tX8_0 (hts (.fieldLink RX8 153 "WornLinesModel" "thrown" "I") (wm_c hw_3)) (fun _ h9 => h9) rfl pf_0 (rfl) rfl (Nat.le_of_ble_eq_true rfl) dX8_programme_2 (fun H locs hP hD hS => ?_)
  have hP : va_P D vwCl (wW_X8_programme ak ad h am 0 Ftaped Fsize Fplace Fbegin Ftoken Fword Ftold Fwrong Fcode Fat Fway Fnext FisEnd FisFallen Fwritten Fmade Fstate FhandNext FhandSteps FhandWritten FmarkAt Atape Astuffs Acells Ainputs Alines AstuffName AcellName Abears Acosts AcellAt AinputCell AinputLeast AinputMost Aact AactCell AlineStuff Atwins AlineFrom AlineTo Acodes Aopened Acompared Aworn) H := hP
  have hD : va_D A (wW_X8_programme ak ad h am 0 Ftaped Fsize Fplace Fbegin Ftoken Fword Ftold Fwrong Fcode Fat Fway Fnext FisEnd FisFallen Fwritten Fmade Fstate FhandNext FhandSteps FhandWritten FmarkAt Atape Astuffs Acells Ainputs Alines AstuffName AcellName Abears Acosts AcellAt AinputCell AinputLeast AinputMost Aact AactCell AlineStuff Atwins AlineFrom AlineTo Acodes Aopened Acompared Aworn) := hD
  refine lv_aload_n hx hb dX8_programme_5 rfl (lv_at hl 0 rfl) ?_
  refine kc_i (wc := (wW_X8_readsAll ak ad h am 0 Ftaped Fsize Fplace Fbegin Ftoken Fword Ftold Fwrong Fcode Fat Fway Fnext FisEnd FisFallen Fwritten Fmade Fstate FhandNext FhandSteps FhandWritten FmarkAt Atape Astuffs Acells Ainputs Alines AstuffName AcellName Abears Acosts AcellAt AinputCell AinputLeast AinputMost Aact AactCell AlineStuff Atwins AlineFrom AlineTo Acodes Aopened Acompared)) (wr := [((am 38), .inl (ak 0, 16, .inl (Aworn)))]) hP hD hS hA [0, 1, 2, 3, 4, 5, 6, 7, 8, 9, 10, 11, 12, 13, 14, 15, 16, 17, 18, 19, 20, 21, 22] [23] rfl rfl (by decide) (by decide) (va_runV (As := []) (rest := []) ⟨hx, hb, hml, hown, hts⟩ (c_X8_readsAll l D ak ad _ h am 0 Ftaped Fsize Fplace Fbegin Ftoken Fword Ftold Fwrong Fcode Fat Fway Fnext FisEnd FisFallen Fwritten Fmade Fstate FhandNext FhandSteps FhandWritten FmarkAt Atape Astuffs Acells Ainputs Alines AstuffName AcellName Abears Acosts AcellAt AinputCell AinputLeast AinputMost Aact AactCell AlineStuff Atwins AlineFrom AlineTo Acodes Aopened Acompared _ hw) (cwV 0 hts gX8_programme_X8_readsAll rfl rfl rfl hv_X8_readsAll ⟨(Nat.le_trans (Nat.le_of_ble_eq_true rfl) hRf), (Nat.le_trans (Nat.le_of_ble_eq_true rfl) hRl)⟩) (kc_preV (As := []) (wc := (wW_X8_readsAll ak ad h am 0 Ftaped Fsize Fplace Fbegin Ftoken Fword Ftold Fwrong Fcode Fat Fway Fnext FisEnd FisFallen Fwritten Fmade Fstate FhandNext FhandSteps FhandWritten FmarkAt Atape Astuffs Acells Ainputs Alines AstuffName AcellName Abears Acosts AcellAt AinputCell AinputLeast AinputMost Aact AactCell AlineStuff Atwins AlineFrom AlineTo Acodes Aopened Acompared)) hE hT hP hD hS hA [0, 1, 2, 3, 4, 5, 6, 7, 8, 9, 10, 11, 12, 13, 14, 15, 16, 17, 18, 19, 20, 21, 22] (by decide) rfl rfl 0 7 rfl rfl rfl) rfl rfl hl.1 rfl (lv_room (Nat.le_of_ble_eq_true rfl)) dX8_programme_6 ⟨hRc.1, hRc.2⟩) (fun r_32 u_1 H locs hw hP hD hS => ?_)
  obtain ⟨Ftaped_2, Fsize_3, Fplace_4, Fbegin_5, Ftoken_6, Fword_7, Ftold_8, Fwrong_9, Fcode_10, Astuffs_11, Acells_12, Ainputs_13, Alines_14, AstuffName_15, AcellName_16, Abears_17, Acosts_18, AcellAt_19, AinputCell_20, AinputLeast_21, AinputMost_22, Aact_23, AactCell_24, AlineStuff_25, Atwins_26, AlineFrom_27, AlineTo_28, Acodes_29, Aopened_30, Acompared_31⟩ := u_1
  try dsimp -zeta only at hw
  have hP : va_P D vwCl (wW_X8_programme ak ad h am 0 Ftaped_2 Fsize_3 Fplace_4 Fbegin_5 Ftoken_6 Fword_7 Ftold_8 Fwrong_9 Fcode_10 Fat Fway Fnext FisEnd FisFallen Fwritten Fmade Fstate FhandNext FhandSteps FhandWritten FmarkAt Atape Astuffs_11 Acells_12 Ainputs_13 Alines_14 AstuffName_15 AcellName_16 Abears_17 Acosts_18 AcellAt_19 AinputCell_20 AinputLeast_21 AinputMost_22 Aact_23 AactCell_24 AlineStuff_25 Atwins_26 AlineFrom_27 AlineTo_28 Acodes_29 Aopened_30 Acompared_31 Aworn) H := hP.sub [1, 2, 3, 4, 5, 6, 7, 8, 9, 10, 11, 12, 13, 14, 15, 16, 17, 18, 19, 20, 21, 22, 23, 0] rfl
  have hD : va_D A (wW_X8_programme ak ad h am 0 Ftaped_2 Fsize_3 Fplace_4 Fbegin_5 Ftoken_6 Fword_7 Ftold_8 Fwrong_9 Fcode_10 Fat Fway Fnext FisEnd FisFallen Fwritten Fmade Fstate FhandNext FhandSteps FhandWritten FmarkAt Atape Astuffs_11 Acells_12 Ainputs_13 Alines_14 AstuffName_15 AcellName_16 Abears_17 Acosts_18 AcellAt_19 AinputCell_20 AinputLeast_21 AinputMost_22 Aact_23 AactCell_24 AlineStuff_25 Atwins_26 AlineFrom_27 AlineTo_28 Acodes_29 Aopened_30 Acompared_31 Aworn) := hD.sub [1, 2, 3, 4, 5, 6, 7, 8, 9, 10, 11, 12, 13, 14, 15, 16, 17, 18, 19, 20, 21, 22, 23, 0] (by decide) rfl
  refine lv_if_ne (tgt := 17) hx hb dX8_programme_9 (by decide) (fun c_33 => ?_) (fun c_33 => ?_)
  · replace hw := hw.1 c_33
    refine lv_aload_n hx hb dX8_programme_17 rfl (lv_at hl 0 rfl) ?_
    refine lv_iconst (v := 1) hx hb dX8_programme_18 (by decide) ?_
    refine lv_iconst (v := 0) hx hb dX8_programme_19 (by decide) ?_
    refine kc_v (wc := (wW_X8_lays ak ad h am 0 Ftaped_2 Fsize_3 Fplace_4 Fbegin_5 Ftoken_6 Fword_7 Ftold_8 Fwrong_9 Fcode_10 Fat Fway Fnext FisEnd FisFallen Fwritten Fmade Fstate FhandNext FhandSteps FhandWritten FmarkAt Astuffs_11 Acells_12 Ainputs_13 Alines_14 Abears_17 Acosts_18 AcellAt_19 AinputCell_20 AinputLeast_21 AinputMost_22 Aact_23 AactCell_24 AlineStuff_25 Atwins_26 AlineFrom_27 AlineTo_28 Acodes_29)) (wr := [((am 0), .inl (ak 0, 1000, .inl (Atape))), ((am 5), .inl (ak 1, 4, .inr (.inl (AstuffName_15)))), ((am 6), .inl (ak 1, 6, .inr (.inl (AcellName_16)))), ((am 20), .inl (ak 0, 7, .inl (Aopened_30))), ((am 21), .inl (ak 3, 7, .inl (Acompared_31))), ((am 38), .inl (ak 0, 16, .inl (Aworn)))]) hP hD hS hA [0, 2, 3, 4, 5, 8, 9, 10, 11, 12, 13, 14, 15, 16, 17, 18, 19, 20] [1, 6, 7, 21, 22, 23] rfl rfl (by decide) (by decide) (va_runV (As := [.int (1), .int (0)]) (rest := []) ⟨hx, hb, hml, hown, hts⟩ (c_X8_lays l D ak ad _ h am 0 Ftaped_2 Fsize_3 Fplace_4 Fbegin_5 Ftoken_6 Fword_7 Ftold_8 Fwrong_9 Fcode_10 Fat Fway Fnext FisEnd FisFallen Fwritten Fmade Fstate FhandNext FhandSteps FhandWritten FmarkAt Astuffs_11 Acells_12 Ainputs_13 Alines_14 Abears_17 Acosts_18 AcellAt_19 AinputCell_20 AinputLeast_21 AinputMost_22 Aact_23 AactCell_24 AlineStuff_25 Atwins_26 AlineFrom_27 AlineTo_28 Acodes_29 1 0 _ hw) (cwV 2 hts gX8_programme_X8_lays rfl rfl rfl hv_X8_lays ⟨(Nat.le_trans (Nat.le_of_ble_eq_true rfl) hRf), (Nat.le_trans (Nat.le_of_ble_eq_true rfl) hRl)⟩) (kc_preV (As := [.int (1), .int (0)]) (wc := (wW_X8_lays ak ad h am 0 Ftaped_2 Fsize_3 Fplace_4 Fbegin_5 Ftoken_6 Fword_7 Ftold_8 Fwrong_9 Fcode_10 Fat Fway Fnext FisEnd FisFallen Fwritten Fmade Fstate FhandNext FhandSteps FhandWritten FmarkAt Astuffs_11 Acells_12 Ainputs_13 Alines_14 Abears_17 Acosts_18 AcellAt_19 AinputCell_20 AinputLeast_21 AinputMost_22 Aact_23 AactCell_24 AlineStuff_25 Atwins_26 AlineFrom_27 AlineTo_28 Acodes_29)) hE hT hP hD hS hA [0, 2, 3, 4, 5, 8, 9, 10, 11, 12, 13, 14, 15, 16, 17, 18, 19, 20] (by decide) rfl rfl 0 7 rfl rfl rfl) rfl rfl hl.1 rfl (lv_room (Nat.le_of_ble_eq_true rfl)) dX8_programme_20 ⟨hRc.1, hRc.2⟩) (fun u_34 H locs hw hP hD hS => ?_)
    obtain ⟨Astuffs_35, Acells_36, Ainputs_37, Alines_38, Abears_39, Acosts_40, AcellAt_41, AinputCell_42, AinputLeast_43, AinputMost_44, Aact_45, AactCell_46, AlineStuff_47, Atwins_48, AlineFrom_49, AlineTo_50, Acodes_51⟩ := u_34
    try dsimp -zeta only at hw
    have hP : va_P D vwCl (wW_X8_programme ak ad h am 0 Ftaped_2 Fsize_3 Fplace_4 Fbegin_5 Ftoken_6 Fword_7 Ftold_8 Fwrong_9 Fcode_10 Fat Fway Fnext FisEnd FisFallen Fwritten Fmade Fstate FhandNext FhandSteps FhandWritten FmarkAt Atape Astuffs_35 Acells_36 Ainputs_37 Alines_38 AstuffName_15 AcellName_16 Abears_39 Acosts_40 AcellAt_41 AinputCell_42 AinputLeast_43 AinputMost_44 Aact_45 AactCell_46 AlineStuff_47 Atwins_48 AlineFrom_49 AlineTo_50 Acodes_51 Aopened_30 Acompared_31 Aworn) H := hP.sub [6, 0, 7, 8, 9, 10, 1, 2, 11, 12, 13, 14, 15, 16, 17, 18, 19, 20, 21, 22, 23, 3, 4, 5] rfl
    have hD : va_D A (wW_X8_programme ak ad h am 0 Ftaped_2 Fsize_3 Fplace_4 Fbegin_5 Ftoken_6 Fword_7 Ftold_8 Fwrong_9 Fcode_10 Fat Fway Fnext FisEnd FisFallen Fwritten Fmade Fstate FhandNext FhandSteps FhandWritten FmarkAt Atape Astuffs_35 Acells_36 Ainputs_37 Alines_38 AstuffName_15 AcellName_16 Abears_39 Acosts_40 AcellAt_41 AinputCell_42 AinputLeast_43 AinputMost_44 Aact_45 AactCell_46 AlineStuff_47 Atwins_48 AlineFrom_49 AlineTo_50 Acodes_51 Aopened_30 Acompared_31 Aworn) := hD.sub [6, 0, 7, 8, 9, 10, 1, 2, 11, 12, 13, 14, 15, 16, 17, 18, 19, 20, 21, 22, 23, 3, 4, 5] (by decide) rfl
    refine lv_aload_n hx hb dX8_programme_23 rfl (lv_at hl 0 rfl) ?_
    refine lv_iconst (v := 0) hx hb dX8_programme_24 (by decide) ?_
    refine vt_put (D := D) (ci := 7) (v := .int (0)) (ty := .int) (C := RX8) (T := TX8) (N := 69) hx hb hts (fun w h => wm_c (wc_X8 w h)) tyX8 tyX8_ok nmX8 hown hE.1 hP hD hS 0 rfl rfl 54 (by decide) tX8_54 (hts (.fieldLink RX8 326 "WornLinesModel" "state" "I") (wm_c hw_151)) (fun _ h9 => h9) rfl pf_0 (rfl) rfl (Nat.le_of_ble_eq_true rfl) dX8_programme_25 (fun H locs hP hD hS => ?_)
    have hP : va_P D vwCl (wW_X8_programme ak ad h am 0 Ftaped_2 Fsize_3 Fplace_4 Fbegin_5 Ftoken_6 Fword_7 Ftold_8 Fwrong_9 Fcode_10 Fat Fway Fnext FisEnd FisFallen Fwritten Fmade 0 FhandNext FhandSteps FhandWritten FmarkAt Atape Astuffs_35 Acells_36 Ainputs_37 Alines_38 AstuffName_15 AcellName_16 Abears_39 Acosts_40 AcellAt_41 AinputCell_42 AinputLeast_43 AinputMost_44 Aact_45 AactCell_46 AlineStuff_47 Atwins_48 AlineFrom_49 AlineTo_50 Acodes_51 Aopened_30 Acompared_31 Aworn) H := hP
    have hD : va_D A (wW_X8_programme ak ad h am 0 Ftaped_2 Fsize_3 Fplace_4 Fbegin_5 Ftoken_6 Fword_7 Ftold_8 Fwrong_9 Fcode_10 Fat Fway Fnext FisEnd FisFallen Fwritten Fmade 0 FhandNext FhandSteps FhandWritten FmarkAt Atape Astuffs_35 Acells_36 Ainputs_37 Alines_38 AstuffName_15 AcellName_16 Abears_39 Acosts_40 AcellAt_41 AinputCell_42 AinputLeast_43 AinputMost_44 Aact_45 AactCell_46 AlineStuff_47 Atwins_48 AlineFrom_49 AlineTo_50 Acodes_51 Aopened_30 Acompared_31 Aworn) := hD
    refine lv_iconst (v := 0) hx hb dX8_programme_28 (by decide) ?_
    refine lv_istore_n (lv' := [(1, .int (0)), (0, .ref h)]) hx hb dX8_programme_29 rfl hl (by decide) rfl (fun ls hl => ?_)
    obtain ⟨n1_, hw⟩ := hw
    exact lp_X8_programme_30 hx hb hown hts hml hE hT hA hRf hRl hRc h am Fat Fway Fnext FisEnd FisFallen Fwritten Fmade FhandNext FhandSteps FhandWritten FmarkAt Atape  Φ  kR16 kR50 n1_ 0 Ftaped_2 Fsize_3 Fplace_4 Fbegin_5 Ftoken_6 Fword_7 Ftold_8 Fwrong_9 Fcode_10 0 Astuffs_35 Acells_36 Ainputs_37 Alines_38 AstuffName_15 AcellName_16 Abears_39 Acosts_40 AcellAt_41 AinputCell_42 AinputLeast_43 AinputMost_44 Aact_45 AactCell_46 AlineStuff_47 Atwins_48 AlineFrom_49 AlineTo_50 Acodes_51 Aopened_30 Acompared_31 Aworn 0 _ _ _ hw hP hD hS (lv_sub hl [1, 0] rfl)
  · replace hw := hw.2 c_33
    refine lv_aload_n hx hb dX8_programme_12 rfl (lv_at hl 0 rfl) ?_
    refine vt_get (D := D) (ci := 7) (v := .int (Fwrong_9)) (C := RX8) (T := TX8) (N := 69) hx hb hts (fun w h => wm_c (wc_X8 w h)) hown hE.1 hP 0 rfl rfl 9 (by decide) tX8_9 (hts (.fieldLink RX8 189 "WornLinesModel" "wrong" "I") (wm_c hw_16)) (fun _ h9 => h9) rfl dX8_programme_13 ?_
    exact kR16 Fwrong_9 0 Ftaped_2 Fsize_3 Fplace_4 Fbegin_5 Ftoken_6 Fword_7 Ftold_8 Fwrong_9 Fcode_10 Fstate Astuffs_11 Acells_12 Ainputs_13 Alines_14 AstuffName_15 AcellName_16 Abears_17 Acosts_18 AcellAt_19 AinputCell_20 AinputLeast_21 AinputMost_22 Aact_23 AactCell_24 AlineStuff_25 Atwins_26 AlineFrom_27 AlineTo_28 Acodes_29 Aopened_30 Acompared_31 Aworn _ _ _ hw hP hD hS
set_option maxHeartbeats 4000000 in
set_option maxRecDepth 100000 in
theorem c_X8_programme (l : Launch) (D : va_G) (ak : Nat → ClassId) (ad : Nat → Nat) (sz : Nat) (h : Nat) (am : Nat → Nat) (Fthrown : Int32) (Ftaped : Int32) (Fsize : Int32) (Fplace : Int32) (Fbegin : Int32) (Ftoken : Int32) (Fword : Int64) (Ftold : Int32) (Fwrong : Int32) (Fcode : Int32) (Fat : Int32) (Fway : Int32) (Fnext : Int32) (FisEnd : Int32) (FisFallen : Int32) (Fwritten : Int32) (Fmade : Int32) (Fstate : Int32) (FhandNext : Int32) (FhandSteps : Int32) (FhandWritten : Int32) (FmarkAt : Int32) (Atape : Nat → Int32) (Astuffs : Nat → Int32) (Acells : Nat → Int32) (Ainputs : Nat → Int32) (Alines : Nat → Int32) (AstuffName : Nat → Int64) (AcellName : Nat → Int64) (Abears : Nat → Int32) (Acosts : Nat → Int32) (AcellAt : Nat → Int32) (AinputCell : Nat → Int32) (AinputLeast : Nat → Int32) (AinputMost : Nat → Int32) (Aact : Nat → Int32) (AactCell : Nat → Int32) (AlineStuff : Nat → Int32) (Atwins : Nat → Int32) (AlineFrom : Nat → Int32) (AlineTo : Nat → Int32) (Acodes : Nat → Int32) (Aopened : Nat → Int32) (Acompared : Nat → Int32) (Aworn : Nat → Int32) (Φ : Int32 → Int32 → Int32 → Int32 → Int32 → Int32 → Int32 → Int64 → Int32 → Int32 → Int32 → Int32 → (Nat → Int32) → (Nat → Int32) → (Nat → Int32) → (Nat → Int32) → (Nat → Int64) → (Nat → Int64) → (Nat → Int32) → (Nat → Int32) → (Nat → Int32) → (Nat → Int32) → (Nat → Int32) → (Nat → Int32) → (Nat → Int32) → (Nat → Int32) → (Nat → Int32) → (Nat → Int32) → (Nat → Int32) → (Nat → Int32) → (Nat → Int32) → (Nat → Int32) → (Nat → Int32) → (Nat → Int32) → Prop) (hf : wp_X8_programme Atape Fthrown Ftaped Fsize Fplace Fbegin Ftoken Fword Ftold Fwrong Fcode Fstate Astuffs Acells Ainputs Alines AstuffName AcellName Abears Acosts AcellAt AinputCell AinputLeast AinputMost Aact AactCell AlineStuff Atwins AlineFrom AlineTo Acodes Aopened Acompared Aworn Φ) : Met l yX8_programme wsX8_programme ({ frames := 6, cells := 0, slots := 0, locals := 132 }) (cPre D ak ad [.ref h] ((wW_X8_programme ak ad h am Fthrown Ftaped Fsize Fplace Fbegin Ftoken Fword Ftold Fwrong Fcode Fat Fway Fnext FisEnd FisFallen Fwritten Fmade Fstate FhandNext FhandSteps FhandWritten FmarkAt Atape Astuffs Acells Ainputs Alines AstuffName AcellName Abears Acosts AcellAt AinputCell AinputLeast AinputMost Aact AactCell AlineStuff Atwins AlineFrom AlineTo Acodes Aopened Acompared Aworn)) sz) (cI D (S := (Int32) × (Int32) × (Int32) × (Int32) × (Int32) × (Int32) × (Int64) × (Int32) × (Int32) × (Int32) × (Int32) × (Nat → Int32) × (Nat → Int32) × (Nat → Int32) × (Nat → Int32) × (Nat → Int64) × (Nat → Int64) × (Nat → Int32) × (Nat → Int32) × (Nat → Int32) × (Nat → Int32) × (Nat → Int32) × (Nat → Int32) × (Nat → Int32) × (Nat → Int32) × (Nat → Int32) × (Nat → Int32) × (Nat → Int32) × (Nat → Int32) × (Nat → Int32) × (Nat → Int32) × (Nat → Int32) × (Nat → Int32)) (fun (r : Int32) (u : (Int32) × (Int32) × (Int32) × (Int32) × (Int32) × (Int32) × (Int64) × (Int32) × (Int32) × (Int32) × (Int32) × (Nat → Int32) × (Nat → Int32) × (Nat → Int32) × (Nat → Int32) × (Nat → Int64) × (Nat → Int64) × (Nat → Int32) × (Nat → Int32) × (Nat → Int32) × (Nat → Int32) × (Nat → Int32) × (Nat → Int32) × (Nat → Int32) × (Nat → Int32) × (Nat → Int32) × (Nat → Int32) × (Nat → Int32) × (Nat → Int32) × (Nat → Int32) × (Nat → Int32) × (Nat → Int32) × (Nat → Int32)) => Φ r u.1 u.2.1 u.2.2.1 u.2.2.2.1 u.2.2.2.2.1 u.2.2.2.2.2.1 u.2.2.2.2.2.2.1 u.2.2.2.2.2.2.2.1 u.2.2.2.2.2.2.2.2.1 u.2.2.2.2.2.2.2.2.2.1 u.2.2.2.2.2.2.2.2.2.2.1 u.2.2.2.2.2.2.2.2.2.2.2.1 u.2.2.2.2.2.2.2.2.2.2.2.2.1 u.2.2.2.2.2.2.2.2.2.2.2.2.2.1 u.2.2.2.2.2.2.2.2.2.2.2.2.2.2.1 u.2.2.2.2.2.2.2.2.2.2.2.2.2.2.2.1 u.2.2.2.2.2.2.2.2.2.2.2.2.2.2.2.2.1 u.2.2.2.2.2.2.2.2.2.2.2.2.2.2.2.2.2.1 u.2.2.2.2.2.2.2.2.2.2.2.2.2.2.2.2.2.2.1 u.2.2.2.2.2.2.2.2.2.2.2.2.2.2.2.2.2.2.2.1 u.2.2.2.2.2.2.2.2.2.2.2.2.2.2.2.2.2.2.2.2.1 u.2.2.2.2.2.2.2.2.2.2.2.2.2.2.2.2.2.2.2.2.2.1 u.2.2.2.2.2.2.2.2.2.2.2.2.2.2.2.2.2.2.2.2.2.2.1 u.2.2.2.2.2.2.2.2.2.2.2.2.2.2.2.2.2.2.2.2.2.2.2.1 u.2.2.2.2.2.2.2.2.2.2.2.2.2.2.2.2.2.2.2.2.2.2.2.2.1 u.2.2.2.2.2.2.2.2.2.2.2.2.2.2.2.2.2.2.2.2.2.2.2.2.2.1 u.2.2.2.2.2.2.2.2.2.2.2.2.2.2.2.2.2.2.2.2.2.2.2.2.2.2.1 u.2.2.2.2.2.2.2.2.2.2.2.2.2.2.2.2.2.2.2.2.2.2.2.2.2.2.2.1 u.2.2.2.2.2.2.2.2.2.2.2.2.2.2.2.2.2.2.2.2.2.2.2.2.2.2.2.2.1 u.2.2.2.2.2.2.2.2.2.2.2.2.2.2.2.2.2.2.2.2.2.2.2.2.2.2.2.2.2.1 u.2.2.2.2.2.2.2.2.2.2.2.2.2.2.2.2.2.2.2.2.2.2.2.2.2.2.2.2.2.2.1 u.2.2.2.2.2.2.2.2.2.2.2.2.2.2.2.2.2.2.2.2.2.2.2.2.2.2.2.2.2.2.2.1 u.2.2.2.2.2.2.2.2.2.2.2.2.2.2.2.2.2.2.2.2.2.2.2.2.2.2.2.2.2.2.2.2) (fun u => (wW_X8_programme ak ad h am u.1 u.2.1 u.2.2.1 u.2.2.2.1 u.2.2.2.2.1 u.2.2.2.2.2.1 u.2.2.2.2.2.2.1 u.2.2.2.2.2.2.2.1 u.2.2.2.2.2.2.2.2.1 u.2.2.2.2.2.2.2.2.2.1 Fat Fway Fnext FisEnd FisFallen Fwritten Fmade u.2.2.2.2.2.2.2.2.2.2.1 FhandNext FhandSteps FhandWritten FmarkAt Atape u.2.2.2.2.2.2.2.2.2.2.2.1 u.2.2.2.2.2.2.2.2.2.2.2.2.1 u.2.2.2.2.2.2.2.2.2.2.2.2.2.1 u.2.2.2.2.2.2.2.2.2.2.2.2.2.2.1 u.2.2.2.2.2.2.2.2.2.2.2.2.2.2.2.1 u.2.2.2.2.2.2.2.2.2.2.2.2.2.2.2.2.1 u.2.2.2.2.2.2.2.2.2.2.2.2.2.2.2.2.2.1 u.2.2.2.2.2.2.2.2.2.2.2.2.2.2.2.2.2.2.1 u.2.2.2.2.2.2.2.2.2.2.2.2.2.2.2.2.2.2.2.1 u.2.2.2.2.2.2.2.2.2.2.2.2.2.2.2.2.2.2.2.2.1 u.2.2.2.2.2.2.2.2.2.2.2.2.2.2.2.2.2.2.2.2.2.1 u.2.2.2.2.2.2.2.2.2.2.2.2.2.2.2.2.2.2.2.2.2.2.1 u.2.2.2.2.2.2.2.2.2.2.2.2.2.2.2.2.2.2.2.2.2.2.2.1 u.2.2.2.2.2.2.2.2.2.2.2.2.2.2.2.2.2.2.2.2.2.2.2.2.1 u.2.2.2.2.2.2.2.2.2.2.2.2.2.2.2.2.2.2.2.2.2.2.2.2.2.1 u.2.2.2.2.2.2.2.2.2.2.2.2.2.2.2.2.2.2.2.2.2.2.2.2.2.2.1 u.2.2.2.2.2.2.2.2.2.2.2.2.2.2.2.2.2.2.2.2.2.2.2.2.2.2.2.1 u.2.2.2.2.2.2.2.2.2.2.2.2.2.2.2.2.2.2.2.2.2.2.2.2.2.2.2.2.1 u.2.2.2.2.2.2.2.2.2.2.2.2.2.2.2.2.2.2.2.2.2.2.2.2.2.2.2.2.2.1 u.2.2.2.2.2.2.2.2.2.2.2.2.2.2.2.2.2.2.2.2.2.2.2.2.2.2.2.2.2.2.1 u.2.2.2.2.2.2.2.2.2.2.2.2.2.2.2.2.2.2.2.2.2.2.2.2.2.2.2.2.2.2.2.1 u.2.2.2.2.2.2.2.2.2.2.2.2.2.2.2.2.2.2.2.2.2.2.2.2.2.2.2.2.2.2.2.2)) ((wW_X8_programme ak ad h am Fthrown Ftaped Fsize Fplace Fbegin Ftoken Fword Ftold Fwrong Fcode Fat Fway Fnext FisEnd FisFallen Fwritten Fmade Fstate FhandNext FhandSteps FhandWritten FmarkAt Atape Astuffs Acells Ainputs Alines AstuffName AcellName Abears Acosts AcellAt AinputCell AinputLeast AinputMost Aact AactCell AlineStuff Atwins AlineFrom AlineTo Acodes Aopened Acompared Aworn)) sz) 0 0 (va_A ((wW_X8_programme ak ad h am Fthrown Ftaped Fsize Fplace Fbegin Ftoken Fword Ftold Fwrong Fcode Fat Fway Fnext FisEnd FisFallen Fwritten Fmade Fstate FhandNext FhandSteps FhandWritten FmarkAt Atape Astuffs Acells Ainputs Alines AstuffName AcellName Abears Acosts AcellAt AinputCell AinputLeast AinputMost Aact AactCell AlineStuff Atwins AlineFrom AlineTo Acodes Aopened Acompared Aworn)) sz) := by
  refine Met.ofW (cc := cX8_programme) (maxL := 2) (ret := (some .int)) (by decide) rfl ?_
  intro p e s m args below meth c s₁ B hml hv
  obtain ⟨rfl, hsz, hP, hE, hD0, hT⟩ := hv
  have hx := B.exec
  have hb := B.bytes
  have hr := B.returns
  have hts := atoms_spec (ws := wsX8_programme) B.pre
  have hown : s.vm.findClass RX8 = some m.cls := findClass_of_methodNamed B.named
  have hlocks := B.notSynchronized
  subst hsz
  have hD := hD0.self (sz := s.heap.size)
  generalize hAe : va_A ((wW_X8_programme ak ad h am Fthrown Ftaped Fsize Fplace Fbegin Ftoken Fword Ftold Fwrong Fcode Fat Fway Fnext FisEnd FisFallen Fwritten Fmade Fstate FhandNext FhandSteps FhandWritten FmarkAt Atape Astuffs Acells Ainputs Alines AstuffName AcellName Abears Acosts AcellAt AinputCell AinputLeast AinputMost Aact AactCell AlineStuff Atwins AlineFrom AlineTo Acodes Aopened Acompared Aworn)) s.heap.size = A at hD hT ⊢
  have hA : ∀ q : Nat, s.heap.size ≤ q → A q := fun q h => by rw [← hAe]; exact Or.inr h
  have hS : va_S A s.heap s.heap [] := va_S.rf
  have hl := lv_entry ([.ref h]) (n := 2) (Nat.le_of_ble_eq_true rfl)
  rw [lg_entry_eq]
  generalize (lg_sl ([.ref h]) ++ List.replicate (2 - (lg_sl ([.ref h])).length) Slot.unset).toArray = ls at hl ⊢
  have hl : lv_has ls 2 [(0, .ref h)] := hl
  exact kj_X8_programme_e hx hb hown hts hml hE hT hA (Nat.le_of_ble_eq_true rfl) (Nat.le_of_ble_eq_true rfl) ⟨Nat.le_of_ble_eq_true rfl, Nat.le_of_ble_eq_true rfl⟩ h am Fat Fway Fnext FisEnd FisFallen Fwritten Fmade FhandNext FhandSteps FhandWritten FmarkAt Atape Φ (fun r Fthrown Ftaped Fsize Fplace Fbegin Ftoken Fword Ftold Fwrong Fcode Fstate Astuffs Acells Ainputs Alines AstuffName AcellName Abears Acosts AcellAt AinputCell AinputLeast AinputMost Aact AactCell AlineStuff Atwins AlineFrom AlineTo Acodes Aopened Acompared Aworn H locs ls hw hP hD hS => W.iret (v := r) hx hb hr (fun t ht hW => ⟨⟨r, (Fthrown, Ftaped, Fsize, Fplace, Fbegin, Ftoken, Fword, Ftold, Fwrong, Fcode, Fstate, Astuffs, Acells, Ainputs, Alines, AstuffName, AcellName, Abears, Acosts, AcellAt, AinputCell, AinputLeast, AinputMost, Aact, AactCell, AlineStuff, Atwins, AlineFrom, AlineTo, Acodes, Aopened, Acompared, Aworn), rfl, hw, by rw [ht]; exact hP, by rw [hAe]; exact hD⟩, by rw [hAe]; exact hS.F ht⟩) hS.2.2 dX8_programme_16) (fun r Fthrown Ftaped Fsize Fplace Fbegin Ftoken Fword Ftold Fwrong Fcode Fstate Astuffs Acells Ainputs Alines AstuffName AcellName Abears Acosts AcellAt AinputCell AinputLeast AinputMost Aact AactCell AlineStuff Atwins AlineFrom AlineTo Acodes Aopened Acompared Aworn H locs ls hw hP hD hS => W.iret (v := r) hx hb hr (fun t ht hW => ⟨⟨r, (Fthrown, Ftaped, Fsize, Fplace, Fbegin, Ftoken, Fword, Ftold, Fwrong, Fcode, Fstate, Astuffs, Acells, Ainputs, Alines, AstuffName, AcellName, Abears, Acosts, AcellAt, AinputCell, AinputLeast, AinputMost, Aact, AactCell, AlineStuff, Atwins, AlineFrom, AlineTo, Acodes, Aopened, Acompared, Aworn), rfl, hw, by rw [ht]; exact hP, by rw [hAe]; exact hD⟩, by rw [hAe]; exact hS.F ht⟩) hS.2.2 dX8_programme_50) Fthrown Ftaped Fsize Fplace Fbegin Ftoken Fword Ftold Fwrong Fcode Fstate Astuffs Acells Ainputs Alines AstuffName AcellName Abears Acosts AcellAt AinputCell AinputLeast AinputMost Aact AactCell AlineStuff Atwins AlineFrom AlineTo Acodes Aopened Acompared Aworn _ _ _ hf hP hD hS hl

def wW_X8_isLine (ak : Nat → ClassId) (ad : Nat → Nat) (h : Nat) (am : Nat → Nat) (Fthrown : Int32) (Ftaped : Int32) (Fsize : Int32) (Fplace : Int32) (Fbegin : Int32) (Ftoken : Int32) (Fword : Int64) (Ftold : Int32) (Fwrong : Int32) (Fcode : Int32) (Fat : Int32) (Fway : Int32) (Fnext : Int32) (FisEnd : Int32) (FisFallen : Int32) (Fwritten : Int32) (Fmade : Int32) (Fstate : Int32) (FhandNext : Int32) (FhandSteps : Int32) (FhandWritten : Int32) (FmarkAt : Int32) (Alines : Nat → Int32) : va_W := [(h, .inr (7, mob am (Fthrown) (Ftaped) (Fsize) (Fplace) (Fbegin) (Ftoken) (Fword) (Ftold) (Fwrong) (Fcode) (Fat) (Fway) (Fnext) (FisEnd) (FisFallen) (Fwritten) (Fmade) (Fstate) (FhandNext) (FhandSteps) (FhandWritten) (FmarkAt))), ((am 4), .inl (ak 0, 6, .inl (Alines)))]
def wp_X8_isLine (Alines : Nat → Int32) (x0 : Int32)  (Φ : Int32 → Prop) : Prop := (x0 < 0 → Φ 0 ) ∧ (¬ x0 < 0 → ((Alines 0) ≤ x0 → Φ 0 ) ∧ (¬ (Alines 0) ≤ x0 → Φ 1 ))
set_option maxHeartbeats 4000000 in
set_option maxRecDepth 100000 in
theorem kj_X8_isLine_e {p : Program} {l : Launch} {e : Env} {R : Room} {s : State} {m : MethodId} {args : Array Value} {below : List Frame} {meth : Method} {c : Code} {cells slots : Nat} {Q : State → Prop} {A : Nat → Prop} {D : va_G} {ak : Nat → ClassId} {ad : Nat → Nat} (hx : p.tables.exec = Jvm.exec) (hb : c.code = cX8_isLine) (hown : s.vm.findClass RX8 = some m.cls) (hts : ∀ w ∈ wsX8_isLine, w.before args s = true) (hml : c.maxLocals = 2) (hE : EV D ak s) (hT : ST D ak ad A s s.heap) (hA : ∀ q, s.heap.size ≤ q → A q) (h : Nat) (am : Nat → Nat) (Fthrown : Int32) (Ftaped : Int32) (Fsize : Int32) (Fplace : Int32) (Fbegin : Int32) (Ftoken : Int32) (Fword : Int64) (Ftold : Int32) (Fwrong : Int32) (Fcode : Int32) (Fat : Int32) (Fway : Int32) (Fnext : Int32) (FisEnd : Int32) (FisFallen : Int32) (Fwritten : Int32) (Fmade : Int32) (Fstate : Int32) (FhandNext : Int32) (FhandSteps : Int32) (FhandWritten : Int32) (FmarkAt : Int32) (Alines : Nat → Int32) (x0 : Int32)  (Φ : Int32 → Prop)
    (kR19 : ∀ (r : Int32)  (H : Heap) (locs : List Loc) (ls : Array Slot), (r = 0 ∨ r = 1) → Φ r  → va_P D vwCl (wW_X8_isLine ak ad h am Fthrown Ftaped Fsize Fplace Fbegin Ftoken Fword Ftold Fwrong Fcode Fat Fway Fnext FisEnd FisFallen Fwritten Fmade Fstate FhandNext FhandSteps FhandWritten FmarkAt Alines) H → va_D A (wW_X8_isLine ak ad h am Fthrown Ftaped Fsize Fplace Fbegin Ftoken Fword Ftold Fwrong Fcode Fat Fway Fnext FisEnd FisFallen Fwritten Fmade Fstate FhandNext FhandSteps FhandWritten FmarkAt Alines) → va_S A s.heap H locs → W p l e R s m args below meth c H locs cells slots Q (F0 m 19 ls [.int r]))
    : ∀  (H : Heap) (locs : List Loc) (ls : Array Slot), wp_X8_isLine Alines x0  Φ → va_P D vwCl (wW_X8_isLine ak ad h am Fthrown Ftaped Fsize Fplace Fbegin Ftoken Fword Ftold Fwrong Fcode Fat Fway Fnext FisEnd FisFallen Fwritten Fmade Fstate FhandNext FhandSteps FhandWritten FmarkAt Alines) H → va_D A (wW_X8_isLine ak ad h am Fthrown Ftaped Fsize Fplace Fbegin Ftoken Fword Ftold Fwrong Fcode Fat Fway Fnext FisEnd FisFallen Fwritten Fmade Fstate FhandNext FhandSteps FhandWritten FmarkAt Alines) → va_S A s.heap H locs → lv_has ls 2 [(0, .ref h), (1, .int (x0))] → W p l e R s m args below meth c H locs cells slots Q (F0 m 0 ls ([])) := by
  intro  H locs ls hw hP hD hS hl
  delta wp_X8_isLine at hw
  refine lv_iload_n hx hb dX8_isLine_0 rfl (lv_at hl 1 rfl) ?_
  refine lv_if_lt (tgt := 18) hx hb dX8_isLine_1 (by decide) (fun c_1 => ?_) (fun c_1 => ?_)
  · replace hw := hw.1 c_1
    refine lv_iconst (v := 0) hx hb dX8_isLine_18 (by decide) ?_
    exact kR19 0  _ _ _ (Or.inl rfl) hw hP hD hS
  · replace hw := hw.2 c_1
    refine lv_iload_n hx hb dX8_isLine_4 rfl (lv_at hl 1 rfl) ?_
    refine lv_aload_n hx hb dX8_isLine_5 rfl (lv_at hl 0 rfl) ?_
    refine vt_get (D := D) (ci := 7) (v := .ref (am 4)) (C := RX8) (T := TX8) (N := 69) hx hb hts (fun w h => wm_c (wc_X8 w h)) hown hE.1 hP 0 rfl rfl 13 (by decide) tX8_13 (hts (.fieldLink RX8 22 "WornLinesModel" "lines" "[I") (wm_c hw_75)) (fun _ h9 => h9) rfl dX8_isLine_6 ?_
    refine lv_iconst (v := 0) hx hb dX8_isLine_9 (by decide) ?_
    refine va_iald hx hb hE.1 hP 1 0 rfl rfl (by unfold vp_in; decide) dX8_isLine_10 ?_
    refine W.eq (g2 := F0 m 11 ls (.int (Alines 0) :: .int (x0) :: [])) rfl ?_
    refine lv_icmp_ge (tgt := 18) hx hb dX8_isLine_11 (by decide) (fun c_2 => ?_) (fun c_2 => ?_)
    · replace hw := hw.1 c_2
      refine lv_iconst (v := 0) hx hb dX8_isLine_18 (by decide) ?_
      exact kR19 0  _ _ _ (Or.inl rfl) hw hP hD hS
    · replace hw := hw.2 c_2
      refine lv_iconst (v := 1) hx hb dX8_isLine_14 (by decide) ?_
      refine lv_goto (tgt := 19) hx hb dX8_isLine_15 (by decide) ?_
      exact kR19 1  _ _ _ (Or.inr rfl) hw hP hD hS
set_option maxHeartbeats 4000000 in
set_option maxRecDepth 100000 in
theorem c_X8_isLine (l : Launch) (D : va_G) (ak : Nat → ClassId) (ad : Nat → Nat) (sz : Nat) (h : Nat) (am : Nat → Nat) (Fthrown : Int32) (Ftaped : Int32) (Fsize : Int32) (Fplace : Int32) (Fbegin : Int32) (Ftoken : Int32) (Fword : Int64) (Ftold : Int32) (Fwrong : Int32) (Fcode : Int32) (Fat : Int32) (Fway : Int32) (Fnext : Int32) (FisEnd : Int32) (FisFallen : Int32) (Fwritten : Int32) (Fmade : Int32) (Fstate : Int32) (FhandNext : Int32) (FhandSteps : Int32) (FhandWritten : Int32) (FmarkAt : Int32) (Alines : Nat → Int32) (x0 : Int32) (Φ : Int32 → Prop) (hf : wp_X8_isLine Alines x0 Φ) : Met l yX8_isLine wsX8_isLine ({ frames := 0, cells := 0, slots := 0, locals := 0 }) (cPre D ak ad [.ref h, .int (x0)] ((wW_X8_isLine ak ad h am Fthrown Ftaped Fsize Fplace Fbegin Ftoken Fword Ftold Fwrong Fcode Fat Fway Fnext FisEnd FisFallen Fwritten Fmade Fstate FhandNext FhandSteps FhandWritten FmarkAt Alines)) sz) (cI D (S := Unit) (fun (r : Int32) (u : Unit) => Φ r ) (fun u => (wW_X8_isLine ak ad h am Fthrown Ftaped Fsize Fplace Fbegin Ftoken Fword Ftold Fwrong Fcode Fat Fway Fnext FisEnd FisFallen Fwritten Fmade Fstate FhandNext FhandSteps FhandWritten FmarkAt Alines)) ((wW_X8_isLine ak ad h am Fthrown Ftaped Fsize Fplace Fbegin Ftoken Fword Ftold Fwrong Fcode Fat Fway Fnext FisEnd FisFallen Fwritten Fmade Fstate FhandNext FhandSteps FhandWritten FmarkAt Alines)) sz) 0 0 (va_A ((wW_X8_isLine ak ad h am Fthrown Ftaped Fsize Fplace Fbegin Ftoken Fword Ftold Fwrong Fcode Fat Fway Fnext FisEnd FisFallen Fwritten Fmade Fstate FhandNext FhandSteps FhandWritten FmarkAt Alines)) sz) := by
  refine Met.ofW (cc := cX8_isLine) (maxL := 2) (ret := (some .boolean)) (by decide) rfl ?_
  intro p e s m args below meth c s₁ B hml hv
  obtain ⟨rfl, hsz, hP, hE, hD0, hT⟩ := hv
  have hx := B.exec
  have hb := B.bytes
  have hr := B.returns
  have hts := atoms_spec (ws := wsX8_isLine) B.pre
  have hown : s.vm.findClass RX8 = some m.cls := findClass_of_methodNamed B.named
  have hlocks := B.notSynchronized
  subst hsz
  have hD := hD0.self (sz := s.heap.size)
  generalize hAe : va_A ((wW_X8_isLine ak ad h am Fthrown Ftaped Fsize Fplace Fbegin Ftoken Fword Ftold Fwrong Fcode Fat Fway Fnext FisEnd FisFallen Fwritten Fmade Fstate FhandNext FhandSteps FhandWritten FmarkAt Alines)) s.heap.size = A at hD hT ⊢
  have hA : ∀ q : Nat, s.heap.size ≤ q → A q := fun q h => by rw [← hAe]; exact Or.inr h
  have hS : va_S A s.heap s.heap [] := va_S.rf
  have hl := lv_entry ([.ref h, .int (x0)]) (n := 2) (Nat.le_of_ble_eq_true rfl)
  rw [lg_entry_eq]
  generalize (lg_sl ([.ref h, .int (x0)]) ++ List.replicate (2 - (lg_sl ([.ref h, .int (x0)])).length) Slot.unset).toArray = ls at hl ⊢
  have hl : lv_has ls 2 [(0, .ref h), (1, .int (x0))] := hl
  exact kj_X8_isLine_e hx hb hown hts hml hE hT hA h am Fthrown Ftaped Fsize Fplace Fbegin Ftoken Fword Ftold Fwrong Fcode Fat Fway Fnext FisEnd FisFallen Fwritten Fmade Fstate FhandNext FhandSteps FhandWritten FmarkAt Alines x0 Φ (fun r  H locs ls hz hw hP hD hS => W.zret (v := r) hx hb hr (bl_zn hz) (fun t ht hW => ⟨⟨r, (), rfl, hw, by rw [ht]; exact hP, by rw [hAe]; exact hD⟩, by rw [hAe]; exact hS.F ht⟩) hS.2.2 dX8_isLine_19)  _ _ _ hf hP hD hS hl

def wW_X8_isStuff (ak : Nat → ClassId) (ad : Nat → Nat) (h : Nat) (am : Nat → Nat) (Fthrown : Int32) (Ftaped : Int32) (Fsize : Int32) (Fplace : Int32) (Fbegin : Int32) (Ftoken : Int32) (Fword : Int64) (Ftold : Int32) (Fwrong : Int32) (Fcode : Int32) (Fat : Int32) (Fway : Int32) (Fnext : Int32) (FisEnd : Int32) (FisFallen : Int32) (Fwritten : Int32) (Fmade : Int32) (Fstate : Int32) (FhandNext : Int32) (FhandSteps : Int32) (FhandWritten : Int32) (FmarkAt : Int32) (Astuffs : Nat → Int32) : va_W := [(h, .inr (7, mob am (Fthrown) (Ftaped) (Fsize) (Fplace) (Fbegin) (Ftoken) (Fword) (Ftold) (Fwrong) (Fcode) (Fat) (Fway) (Fnext) (FisEnd) (FisFallen) (Fwritten) (Fmade) (Fstate) (FhandNext) (FhandSteps) (FhandWritten) (FmarkAt))), ((am 1), .inl (ak 0, 6, .inl (Astuffs)))]
def wp_X8_isStuff (Astuffs : Nat → Int32) (x0 : Int32)  (Φ : Int32 → Prop) : Prop := (x0 < 0 → Φ 0 ) ∧ (¬ x0 < 0 → ((Astuffs 0) ≤ x0 → Φ 0 ) ∧ (¬ (Astuffs 0) ≤ x0 → Φ 1 ))
set_option maxHeartbeats 4000000 in
set_option maxRecDepth 100000 in
theorem kj_X8_isStuff_e {p : Program} {l : Launch} {e : Env} {R : Room} {s : State} {m : MethodId} {args : Array Value} {below : List Frame} {meth : Method} {c : Code} {cells slots : Nat} {Q : State → Prop} {A : Nat → Prop} {D : va_G} {ak : Nat → ClassId} {ad : Nat → Nat} (hx : p.tables.exec = Jvm.exec) (hb : c.code = cX8_isStuff) (hown : s.vm.findClass RX8 = some m.cls) (hts : ∀ w ∈ wsX8_isStuff, w.before args s = true) (hml : c.maxLocals = 2) (hE : EV D ak s) (hT : ST D ak ad A s s.heap) (hA : ∀ q, s.heap.size ≤ q → A q) (h : Nat) (am : Nat → Nat) (Fthrown : Int32) (Ftaped : Int32) (Fsize : Int32) (Fplace : Int32) (Fbegin : Int32) (Ftoken : Int32) (Fword : Int64) (Ftold : Int32) (Fwrong : Int32) (Fcode : Int32) (Fat : Int32) (Fway : Int32) (Fnext : Int32) (FisEnd : Int32) (FisFallen : Int32) (Fwritten : Int32) (Fmade : Int32) (Fstate : Int32) (FhandNext : Int32) (FhandSteps : Int32) (FhandWritten : Int32) (FmarkAt : Int32) (Astuffs : Nat → Int32) (x0 : Int32)  (Φ : Int32 → Prop)
    (kR19 : ∀ (r : Int32)  (H : Heap) (locs : List Loc) (ls : Array Slot), (r = 0 ∨ r = 1) → Φ r  → va_P D vwCl (wW_X8_isStuff ak ad h am Fthrown Ftaped Fsize Fplace Fbegin Ftoken Fword Ftold Fwrong Fcode Fat Fway Fnext FisEnd FisFallen Fwritten Fmade Fstate FhandNext FhandSteps FhandWritten FmarkAt Astuffs) H → va_D A (wW_X8_isStuff ak ad h am Fthrown Ftaped Fsize Fplace Fbegin Ftoken Fword Ftold Fwrong Fcode Fat Fway Fnext FisEnd FisFallen Fwritten Fmade Fstate FhandNext FhandSteps FhandWritten FmarkAt Astuffs) → va_S A s.heap H locs → W p l e R s m args below meth c H locs cells slots Q (F0 m 19 ls [.int r]))
    : ∀  (H : Heap) (locs : List Loc) (ls : Array Slot), wp_X8_isStuff Astuffs x0  Φ → va_P D vwCl (wW_X8_isStuff ak ad h am Fthrown Ftaped Fsize Fplace Fbegin Ftoken Fword Ftold Fwrong Fcode Fat Fway Fnext FisEnd FisFallen Fwritten Fmade Fstate FhandNext FhandSteps FhandWritten FmarkAt Astuffs) H → va_D A (wW_X8_isStuff ak ad h am Fthrown Ftaped Fsize Fplace Fbegin Ftoken Fword Ftold Fwrong Fcode Fat Fway Fnext FisEnd FisFallen Fwritten Fmade Fstate FhandNext FhandSteps FhandWritten FmarkAt Astuffs) → va_S A s.heap H locs → lv_has ls 2 [(0, .ref h), (1, .int (x0))] → W p l e R s m args below meth c H locs cells slots Q (F0 m 0 ls ([])) := by
  intro  H locs ls hw hP hD hS hl
  delta wp_X8_isStuff at hw
  refine lv_iload_n hx hb dX8_isStuff_0 rfl (lv_at hl 1 rfl) ?_
  refine lv_if_lt (tgt := 18) hx hb dX8_isStuff_1 (by decide) (fun c_1 => ?_) (fun c_1 => ?_)
  · replace hw := hw.1 c_1
    refine lv_iconst (v := 0) hx hb dX8_isStuff_18 (by decide) ?_
    exact kR19 0  _ _ _ (Or.inl rfl) hw hP hD hS
  · replace hw := hw.2 c_1
    refine lv_iload_n hx hb dX8_isStuff_4 rfl (lv_at hl 1 rfl) ?_
    refine lv_aload_n hx hb dX8_isStuff_5 rfl (lv_at hl 0 rfl) ?_
    refine vt_get (D := D) (ci := 7) (v := .ref (am 1)) (C := RX8) (T := TX8) (N := 69) hx hb hts (fun w h => wm_c (wc_X8 w h)) hown hE.1 hP 0 rfl rfl 10 (by decide) tX8_10 (hts (.fieldLink RX8 13 "WornLinesModel" "stuffs" "[I") (wm_c hw_40)) (fun _ h9 => h9) rfl dX8_isStuff_6 ?_
    refine lv_iconst (v := 0) hx hb dX8_isStuff_9 (by decide) ?_
    refine va_iald hx hb hE.1 hP 1 0 rfl rfl (by unfold vp_in; decide) dX8_isStuff_10 ?_
    refine W.eq (g2 := F0 m 11 ls (.int (Astuffs 0) :: .int (x0) :: [])) rfl ?_
    refine lv_icmp_ge (tgt := 18) hx hb dX8_isStuff_11 (by decide) (fun c_2 => ?_) (fun c_2 => ?_)
    · replace hw := hw.1 c_2
      refine lv_iconst (v := 0) hx hb dX8_isStuff_18 (by decide) ?_
      exact kR19 0  _ _ _ (Or.inl rfl) hw hP hD hS
    · replace hw := hw.2 c_2
      refine lv_iconst (v := 1) hx hb dX8_isStuff_14 (by decide) ?_
      refine lv_goto (tgt := 19) hx hb dX8_isStuff_15 (by decide) ?_
      exact kR19 1  _ _ _ (Or.inr rfl) hw hP hD hS
set_option maxHeartbeats 4000000 in
set_option maxRecDepth 100000 in
theorem c_X8_isStuff (l : Launch) (D : va_G) (ak : Nat → ClassId) (ad : Nat → Nat) (sz : Nat) (h : Nat) (am : Nat → Nat) (Fthrown : Int32) (Ftaped : Int32) (Fsize : Int32) (Fplace : Int32) (Fbegin : Int32) (Ftoken : Int32) (Fword : Int64) (Ftold : Int32) (Fwrong : Int32) (Fcode : Int32) (Fat : Int32) (Fway : Int32) (Fnext : Int32) (FisEnd : Int32) (FisFallen : Int32) (Fwritten : Int32) (Fmade : Int32) (Fstate : Int32) (FhandNext : Int32) (FhandSteps : Int32) (FhandWritten : Int32) (FmarkAt : Int32) (Astuffs : Nat → Int32) (x0 : Int32) (Φ : Int32 → Prop) (hf : wp_X8_isStuff Astuffs x0 Φ) : Met l yX8_isStuff wsX8_isStuff ({ frames := 0, cells := 0, slots := 0, locals := 0 }) (cPre D ak ad [.ref h, .int (x0)] ((wW_X8_isStuff ak ad h am Fthrown Ftaped Fsize Fplace Fbegin Ftoken Fword Ftold Fwrong Fcode Fat Fway Fnext FisEnd FisFallen Fwritten Fmade Fstate FhandNext FhandSteps FhandWritten FmarkAt Astuffs)) sz) (cI D (S := Unit) (fun (r : Int32) (u : Unit) => Φ r ) (fun u => (wW_X8_isStuff ak ad h am Fthrown Ftaped Fsize Fplace Fbegin Ftoken Fword Ftold Fwrong Fcode Fat Fway Fnext FisEnd FisFallen Fwritten Fmade Fstate FhandNext FhandSteps FhandWritten FmarkAt Astuffs)) ((wW_X8_isStuff ak ad h am Fthrown Ftaped Fsize Fplace Fbegin Ftoken Fword Ftold Fwrong Fcode Fat Fway Fnext FisEnd FisFallen Fwritten Fmade Fstate FhandNext FhandSteps FhandWritten FmarkAt Astuffs)) sz) 0 0 (va_A ((wW_X8_isStuff ak ad h am Fthrown Ftaped Fsize Fplace Fbegin Ftoken Fword Ftold Fwrong Fcode Fat Fway Fnext FisEnd FisFallen Fwritten Fmade Fstate FhandNext FhandSteps FhandWritten FmarkAt Astuffs)) sz) := by
  refine Met.ofW (cc := cX8_isStuff) (maxL := 2) (ret := (some .boolean)) (by decide) rfl ?_
  intro p e s m args below meth c s₁ B hml hv
  obtain ⟨rfl, hsz, hP, hE, hD0, hT⟩ := hv
  have hx := B.exec
  have hb := B.bytes
  have hr := B.returns
  have hts := atoms_spec (ws := wsX8_isStuff) B.pre
  have hown : s.vm.findClass RX8 = some m.cls := findClass_of_methodNamed B.named
  have hlocks := B.notSynchronized
  subst hsz
  have hD := hD0.self (sz := s.heap.size)
  generalize hAe : va_A ((wW_X8_isStuff ak ad h am Fthrown Ftaped Fsize Fplace Fbegin Ftoken Fword Ftold Fwrong Fcode Fat Fway Fnext FisEnd FisFallen Fwritten Fmade Fstate FhandNext FhandSteps FhandWritten FmarkAt Astuffs)) s.heap.size = A at hD hT ⊢
  have hA : ∀ q : Nat, s.heap.size ≤ q → A q := fun q h => by rw [← hAe]; exact Or.inr h
  have hS : va_S A s.heap s.heap [] := va_S.rf
  have hl := lv_entry ([.ref h, .int (x0)]) (n := 2) (Nat.le_of_ble_eq_true rfl)
  rw [lg_entry_eq]
  generalize (lg_sl ([.ref h, .int (x0)]) ++ List.replicate (2 - (lg_sl ([.ref h, .int (x0)])).length) Slot.unset).toArray = ls at hl ⊢
  have hl : lv_has ls 2 [(0, .ref h), (1, .int (x0))] := hl
  exact kj_X8_isStuff_e hx hb hown hts hml hE hT hA h am Fthrown Ftaped Fsize Fplace Fbegin Ftoken Fword Ftold Fwrong Fcode Fat Fway Fnext FisEnd FisFallen Fwritten Fmade Fstate FhandNext FhandSteps FhandWritten FmarkAt Astuffs x0 Φ (fun r  H locs ls hz hw hP hD hS => W.zret (v := r) hx hb hr (bl_zn hz) (fun t ht hW => ⟨⟨r, (), rfl, hw, by rw [ht]; exact hP, by rw [hAe]; exact hD⟩, by rw [hAe]; exact hS.F ht⟩) hS.2.2 dX8_isStuff_19)  _ _ _ hf hP hD hS hl

def wW_X8_isCell (ak : Nat → ClassId) (ad : Nat → Nat) (h : Nat) (am : Nat → Nat) (Fthrown : Int32) (Ftaped : Int32) (Fsize : Int32) (Fplace : Int32) (Fbegin : Int32) (Ftoken : Int32) (Fword : Int64) (Ftold : Int32) (Fwrong : Int32) (Fcode : Int32) (Fat : Int32) (Fway : Int32) (Fnext : Int32) (FisEnd : Int32) (FisFallen : Int32) (Fwritten : Int32) (Fmade : Int32) (Fstate : Int32) (FhandNext : Int32) (FhandSteps : Int32) (FhandWritten : Int32) (FmarkAt : Int32) (Acells : Nat → Int32) : va_W := [(h, .inr (7, mob am (Fthrown) (Ftaped) (Fsize) (Fplace) (Fbegin) (Ftoken) (Fword) (Ftold) (Fwrong) (Fcode) (Fat) (Fway) (Fnext) (FisEnd) (FisFallen) (Fwritten) (Fmade) (Fstate) (FhandNext) (FhandSteps) (FhandWritten) (FmarkAt))), ((am 2), .inl (ak 0, 6, .inl (Acells)))]
def wp_X8_isCell (Acells : Nat → Int32) (x0 : Int32)  (Φ : Int32 → Prop) : Prop := (x0 < 0 → Φ 0 ) ∧ (¬ x0 < 0 → ((Acells 0) ≤ x0 → Φ 0 ) ∧ (¬ (Acells 0) ≤ x0 → Φ 1 ))
set_option maxHeartbeats 4000000 in
set_option maxRecDepth 100000 in
theorem kj_X8_isCell_e {p : Program} {l : Launch} {e : Env} {R : Room} {s : State} {m : MethodId} {args : Array Value} {below : List Frame} {meth : Method} {c : Code} {cells slots : Nat} {Q : State → Prop} {A : Nat → Prop} {D : va_G} {ak : Nat → ClassId} {ad : Nat → Nat} (hx : p.tables.exec = Jvm.exec) (hb : c.code = cX8_isCell) (hown : s.vm.findClass RX8 = some m.cls) (hts : ∀ w ∈ wsX8_isCell, w.before args s = true) (hml : c.maxLocals = 2) (hE : EV D ak s) (hT : ST D ak ad A s s.heap) (hA : ∀ q, s.heap.size ≤ q → A q) (h : Nat) (am : Nat → Nat) (Fthrown : Int32) (Ftaped : Int32) (Fsize : Int32) (Fplace : Int32) (Fbegin : Int32) (Ftoken : Int32) (Fword : Int64) (Ftold : Int32) (Fwrong : Int32) (Fcode : Int32) (Fat : Int32) (Fway : Int32) (Fnext : Int32) (FisEnd : Int32) (FisFallen : Int32) (Fwritten : Int32) (Fmade : Int32) (Fstate : Int32) (FhandNext : Int32) (FhandSteps : Int32) (FhandWritten : Int32) (FmarkAt : Int32) (Acells : Nat → Int32) (x0 : Int32)  (Φ : Int32 → Prop)
    (kR19 : ∀ (r : Int32)  (H : Heap) (locs : List Loc) (ls : Array Slot), (r = 0 ∨ r = 1) → Φ r  → va_P D vwCl (wW_X8_isCell ak ad h am Fthrown Ftaped Fsize Fplace Fbegin Ftoken Fword Ftold Fwrong Fcode Fat Fway Fnext FisEnd FisFallen Fwritten Fmade Fstate FhandNext FhandSteps FhandWritten FmarkAt Acells) H → va_D A (wW_X8_isCell ak ad h am Fthrown Ftaped Fsize Fplace Fbegin Ftoken Fword Ftold Fwrong Fcode Fat Fway Fnext FisEnd FisFallen Fwritten Fmade Fstate FhandNext FhandSteps FhandWritten FmarkAt Acells) → va_S A s.heap H locs → W p l e R s m args below meth c H locs cells slots Q (F0 m 19 ls [.int r]))
    : ∀  (H : Heap) (locs : List Loc) (ls : Array Slot), wp_X8_isCell Acells x0  Φ → va_P D vwCl (wW_X8_isCell ak ad h am Fthrown Ftaped Fsize Fplace Fbegin Ftoken Fword Ftold Fwrong Fcode Fat Fway Fnext FisEnd FisFallen Fwritten Fmade Fstate FhandNext FhandSteps FhandWritten FmarkAt Acells) H → va_D A (wW_X8_isCell ak ad h am Fthrown Ftaped Fsize Fplace Fbegin Ftoken Fword Ftold Fwrong Fcode Fat Fway Fnext FisEnd FisFallen Fwritten Fmade Fstate FhandNext FhandSteps FhandWritten FmarkAt Acells) → va_S A s.heap H locs → lv_has ls 2 [(0, .ref h), (1, .int (x0))] → W p l e R s m args below meth c H locs cells slots Q (F0 m 0 ls ([])) := by
  intro  H locs ls hw hP hD hS hl
  delta wp_X8_isCell at hw
  refine lv_iload_n hx hb dX8_isCell_0 rfl (lv_at hl 1 rfl) ?_
  refine lv_if_lt (tgt := 18) hx hb dX8_isCell_1 (by decide) (fun c_1 => ?_) (fun c_1 => ?_)
  · replace hw := hw.1 c_1
    refine lv_iconst (v := 0) hx hb dX8_isCell_18 (by decide) ?_
    exact kR19 0  _ _ _ (Or.inl rfl) hw hP hD hS
  · replace hw := hw.2 c_1
    refine lv_iload_n hx hb dX8_isCell_4 rfl (lv_at hl 1 rfl) ?_
    refine lv_aload_n hx hb dX8_isCell_5 rfl (lv_at hl 0 rfl) ?_
    refine vt_get (D := D) (ci := 7) (v := .ref (am 2)) (C := RX8) (T := TX8) (N := 69) hx hb hts (fun w h => wm_c (wc_X8 w h)) hown hE.1 hP 0 rfl rfl 11 (by decide) tX8_11 (hts (.fieldLink RX8 16 "WornLinesModel" "cells" "[I") (wm_c hw_38)) (fun _ h9 => h9) rfl dX8_isCell_6 ?_
    refine lv_iconst (v := 0) hx hb dX8_isCell_9 (by decide) ?_
    refine va_iald hx hb hE.1 hP 1 0 rfl rfl (by unfold vp_in; decide) dX8_isCell_10 ?_
    refine W.eq (g2 := F0 m 11 ls (.int (Acells 0) :: .int (x0) :: [])) rfl ?_
    refine lv_icmp_ge (tgt := 18) hx hb dX8_isCell_11 (by decide) (fun c_2 => ?_) (fun c_2 => ?_)
    · replace hw := hw.1 c_2
      refine lv_iconst (v := 0) hx hb dX8_isCell_18 (by decide) ?_
      exact kR19 0  _ _ _ (Or.inl rfl) hw hP hD hS
    · replace hw := hw.2 c_2
      refine lv_iconst (v := 1) hx hb dX8_isCell_14 (by decide) ?_
      refine lv_goto (tgt := 19) hx hb dX8_isCell_15 (by decide) ?_
      exact kR19 1  _ _ _ (Or.inr rfl) hw hP hD hS
set_option maxHeartbeats 4000000 in
set_option maxRecDepth 100000 in
theorem c_X8_isCell (l : Launch) (D : va_G) (ak : Nat → ClassId) (ad : Nat → Nat) (sz : Nat) (h : Nat) (am : Nat → Nat) (Fthrown : Int32) (Ftaped : Int32) (Fsize : Int32) (Fplace : Int32) (Fbegin : Int32) (Ftoken : Int32) (Fword : Int64) (Ftold : Int32) (Fwrong : Int32) (Fcode : Int32) (Fat : Int32) (Fway : Int32) (Fnext : Int32) (FisEnd : Int32) (FisFallen : Int32) (Fwritten : Int32) (Fmade : Int32) (Fstate : Int32) (FhandNext : Int32) (FhandSteps : Int32) (FhandWritten : Int32) (FmarkAt : Int32) (Acells : Nat → Int32) (x0 : Int32) (Φ : Int32 → Prop) (hf : wp_X8_isCell Acells x0 Φ) : Met l yX8_isCell wsX8_isCell ({ frames := 0, cells := 0, slots := 0, locals := 0 }) (cPre D ak ad [.ref h, .int (x0)] ((wW_X8_isCell ak ad h am Fthrown Ftaped Fsize Fplace Fbegin Ftoken Fword Ftold Fwrong Fcode Fat Fway Fnext FisEnd FisFallen Fwritten Fmade Fstate FhandNext FhandSteps FhandWritten FmarkAt Acells)) sz) (cI D (S := Unit) (fun (r : Int32) (u : Unit) => Φ r ) (fun u => (wW_X8_isCell ak ad h am Fthrown Ftaped Fsize Fplace Fbegin Ftoken Fword Ftold Fwrong Fcode Fat Fway Fnext FisEnd FisFallen Fwritten Fmade Fstate FhandNext FhandSteps FhandWritten FmarkAt Acells)) ((wW_X8_isCell ak ad h am Fthrown Ftaped Fsize Fplace Fbegin Ftoken Fword Ftold Fwrong Fcode Fat Fway Fnext FisEnd FisFallen Fwritten Fmade Fstate FhandNext FhandSteps FhandWritten FmarkAt Acells)) sz) 0 0 (va_A ((wW_X8_isCell ak ad h am Fthrown Ftaped Fsize Fplace Fbegin Ftoken Fword Ftold Fwrong Fcode Fat Fway Fnext FisEnd FisFallen Fwritten Fmade Fstate FhandNext FhandSteps FhandWritten FmarkAt Acells)) sz) := by
  refine Met.ofW (cc := cX8_isCell) (maxL := 2) (ret := (some .boolean)) (by decide) rfl ?_
  intro p e s m args below meth c s₁ B hml hv
  obtain ⟨rfl, hsz, hP, hE, hD0, hT⟩ := hv
  have hx := B.exec
  have hb := B.bytes
  have hr := B.returns
  have hts := atoms_spec (ws := wsX8_isCell) B.pre
  have hown : s.vm.findClass RX8 = some m.cls := findClass_of_methodNamed B.named
  have hlocks := B.notSynchronized
  subst hsz
  have hD := hD0.self (sz := s.heap.size)
  generalize hAe : va_A ((wW_X8_isCell ak ad h am Fthrown Ftaped Fsize Fplace Fbegin Ftoken Fword Ftold Fwrong Fcode Fat Fway Fnext FisEnd FisFallen Fwritten Fmade Fstate FhandNext FhandSteps FhandWritten FmarkAt Acells)) s.heap.size = A at hD hT ⊢
  have hA : ∀ q : Nat, s.heap.size ≤ q → A q := fun q h => by rw [← hAe]; exact Or.inr h
  have hS : va_S A s.heap s.heap [] := va_S.rf
  have hl := lv_entry ([.ref h, .int (x0)]) (n := 2) (Nat.le_of_ble_eq_true rfl)
  rw [lg_entry_eq]
  generalize (lg_sl ([.ref h, .int (x0)]) ++ List.replicate (2 - (lg_sl ([.ref h, .int (x0)])).length) Slot.unset).toArray = ls at hl ⊢
  have hl : lv_has ls 2 [(0, .ref h), (1, .int (x0))] := hl
  exact kj_X8_isCell_e hx hb hown hts hml hE hT hA h am Fthrown Ftaped Fsize Fplace Fbegin Ftoken Fword Ftold Fwrong Fcode Fat Fway Fnext FisEnd FisFallen Fwritten Fmade Fstate FhandNext FhandSteps FhandWritten FmarkAt Acells x0 Φ (fun r  H locs ls hz hw hP hD hS => W.zret (v := r) hx hb hr (bl_zn hz) (fun t ht hW => ⟨⟨r, (), rfl, hw, by rw [ht]; exact hP, by rw [hAe]; exact hD⟩, by rw [hAe]; exact hS.F ht⟩) hS.2.2 dX8_isCell_19)  _ _ _ hf hP hD hS hl

def wW_X8_stuff (ak : Nat → ClassId) (ad : Nat → Nat) (h : Nat) (am : Nat → Nat) (Fthrown : Int32) (Ftaped : Int32) (Fsize : Int32) (Fplace : Int32) (Fbegin : Int32) (Ftoken : Int32) (Fword : Int64) (Ftold : Int32) (Fwrong : Int32) (Fcode : Int32) (Fat : Int32) (Fway : Int32) (Fnext : Int32) (FisEnd : Int32) (FisFallen : Int32) (Fwritten : Int32) (Fmade : Int32) (Fstate : Int32) (FhandNext : Int32) (FhandSteps : Int32) (FhandWritten : Int32) (FmarkAt : Int32) (Astuffs : Nat → Int32) (Abears : Nat → Int32) (Acosts : Nat → Int32) : va_W := [(h, .inr (7, mob am (Fthrown) (Ftaped) (Fsize) (Fplace) (Fbegin) (Ftoken) (Fword) (Ftold) (Fwrong) (Fcode) (Fat) (Fway) (Fnext) (FisEnd) (FisFallen) (Fwritten) (Fmade) (Fstate) (FhandNext) (FhandSteps) (FhandWritten) (FmarkAt))), ((am 1), .inl (ak 0, 6, .inl (Astuffs))), ((am 7), .inl (ak 0, 24, .inl (Abears))), ((am 8), .inl (ak 0, 24, .inl (Acosts)))]
def wp_X8_stuff (Astuffs : Nat → Int32) (Abears : Nat → Int32) (Acosts : Nat → Int32) (x0 : Int32) (x1 : Int32) (Fthrown : Int32) (Φ : Int32 → Int32 → Prop) : Prop := wp_X8_isStuff Astuffs x0 (fun r_2 => (r_2 = 0 → Φ (-1) 0) ∧ (¬ r_2 = 0 → wp_X8_within x1 0 1 (fun r_5 => (¬ r_5 = 0 → (¬ x1 = 0 → vp_in x0 24 ∧ Φ (Acosts (x0).toNatClampNeg) 0) ∧ (x1 = 0 → vp_in x0 24 ∧ Φ (Abears (x0).toNatClampNeg) 0)) ∧ (r_5 = 0 → Φ (-1) 0))))
set_option maxHeartbeats 4000000 in
set_option maxRecDepth 100000 in
theorem kj_X8_stuff_e {p : Program} {l : Launch} {e : Env} {R : Room} {s : State} {m : MethodId} {args : Array Value} {below : List Frame} {meth : Method} {c : Code} {cells slots : Nat} {Q : State → Prop} {A : Nat → Prop} {D : va_G} {ak : Nat → ClassId} {ad : Nat → Nat} (hx : p.tables.exec = Jvm.exec) (hb : c.code = cX8_stuff) (hown : s.vm.findClass RX8 = some m.cls) (hts : ∀ w ∈ wsX8_stuff, w.before args s = true) (hml : c.maxLocals = 3) (hE : EV D ak s) (hT : ST D ak ad A s s.heap) (hA : ∀ q, s.heap.size ≤ q → A q) (hRf : 1 ≤ R.frames) (hRl : 22 ≤ R.locals) (hRc : cells ≤ R.cells ∧ slots ≤ R.slots) (h : Nat) (am : Nat → Nat) (Ftaped : Int32) (Fsize : Int32) (Fplace : Int32) (Fbegin : Int32) (Ftoken : Int32) (Fword : Int64) (Ftold : Int32) (Fwrong : Int32) (Fcode : Int32) (Fat : Int32) (Fway : Int32) (Fnext : Int32) (FisEnd : Int32) (FisFallen : Int32) (Fwritten : Int32) (Fmade : Int32) (Fstate : Int32) (FhandNext : Int32) (FhandSteps : Int32) (FhandWritten : Int32) (FmarkAt : Int32) (Astuffs : Nat → Int32) (Abears : Nat → Int32) (Acosts : Nat → Int32) (x0 : Int32) (x1 : Int32)  (Φ : Int32 → Int32 → Prop)
    (kR45 : ∀ (r : Int32) (Fthrown : Int32) (H : Heap) (locs : List Loc) (ls : Array Slot), Φ r Fthrown → va_P D vwCl (wW_X8_stuff ak ad h am Fthrown Ftaped Fsize Fplace Fbegin Ftoken Fword Ftold Fwrong Fcode Fat Fway Fnext FisEnd FisFallen Fwritten Fmade Fstate FhandNext FhandSteps FhandWritten FmarkAt Astuffs Abears Acosts) H → va_D A (wW_X8_stuff ak ad h am Fthrown Ftaped Fsize Fplace Fbegin Ftoken Fword Ftold Fwrong Fcode Fat Fway Fnext FisEnd FisFallen Fwritten Fmade Fstate FhandNext FhandSteps FhandWritten FmarkAt Astuffs Abears Acosts) → va_S A s.heap H locs → W p l e R s m args below meth c H locs cells slots Q (F0 m 45 ls [.int r]))
    : ∀ (Fthrown : Int32) (H : Heap) (locs : List Loc) (ls : Array Slot), wp_X8_stuff Astuffs Abears Acosts x0 x1 Fthrown Φ → va_P D vwCl (wW_X8_stuff ak ad h am Fthrown Ftaped Fsize Fplace Fbegin Ftoken Fword Ftold Fwrong Fcode Fat Fway Fnext FisEnd FisFallen Fwritten Fmade Fstate FhandNext FhandSteps FhandWritten FmarkAt Astuffs Abears Acosts) H → va_D A (wW_X8_stuff ak ad h am Fthrown Ftaped Fsize Fplace Fbegin Ftoken Fword Ftold Fwrong Fcode Fat Fway Fnext FisEnd FisFallen Fwritten Fmade Fstate FhandNext FhandSteps FhandWritten FmarkAt Astuffs Abears Acosts) → va_S A s.heap H locs → lv_has ls 3 [(0, .ref h), (1, .int (x0)), (2, .int (x1))] → W p l e R s m args below meth c H locs cells slots Q (F0 m 0 ls ([])) := by
  intro Fthrown H locs ls hw hP hD hS hl
  delta wp_X8_stuff at hw
  refine lv_aload_n hx hb dX8_stuff_0 rfl (lv_at hl 0 rfl) ?_
  refine lv_iconst (v := 0) hx hb dX8_stuff_1 (by decide) ?_
  refine vt_put (D := D) (ci := 7) (v := .int (0)) (ty := .int) (C := RX8) (T := TX8) (N := 69) hx hb hts (fun w h => wm_c (wc_X8 w h)) tyX8 tyX8_ok nmX8 hown hE.1 hP hD hS 0 rfl rfl 0 (by decide) tX8_0 (hts (.fieldLink RX8 153 "WornLinesModel" "thrown" "I") (wm_c hw_3)) (fun _ h9 => h9) rfl pf_0 (rfl) rfl (Nat.le_of_ble_eq_true rfl) dX8_stuff_2 (fun H locs hP hD hS => ?_)
  have hP : va_P D vwCl (wW_X8_stuff ak ad h am 0 Ftaped Fsize Fplace Fbegin Ftoken Fword Ftold Fwrong Fcode Fat Fway Fnext FisEnd FisFallen Fwritten Fmade Fstate FhandNext FhandSteps FhandWritten FmarkAt Astuffs Abears Acosts) H := hP
  have hD : va_D A (wW_X8_stuff ak ad h am 0 Ftaped Fsize Fplace Fbegin Ftoken Fword Ftold Fwrong Fcode Fat Fway Fnext FisEnd FisFallen Fwritten Fmade Fstate FhandNext FhandSteps FhandWritten FmarkAt Astuffs Abears Acosts) := hD
  refine lv_aload_n hx hb dX8_stuff_5 rfl (lv_at hl 0 rfl) ?_
  refine lv_iload_n hx hb dX8_stuff_6 rfl (lv_at hl 1 rfl) ?_
  refine kc_i (wc := (wW_X8_isStuff ak ad h am 0 Ftaped Fsize Fplace Fbegin Ftoken Fword Ftold Fwrong Fcode Fat Fway Fnext FisEnd FisFallen Fwritten Fmade Fstate FhandNext FhandSteps FhandWritten FmarkAt Astuffs)) (wr := [((am 7), .inl (ak 0, 24, .inl (Abears))), ((am 8), .inl (ak 0, 24, .inl (Acosts)))]) hP hD hS hA [0, 1] [2, 3] rfl rfl (by decide) (by decide) (va_runV (As := [.int (x0)]) (rest := []) ⟨hx, hb, hml, hown, hts⟩ (c_X8_isStuff l D ak ad _ h am 0 Ftaped Fsize Fplace Fbegin Ftoken Fword Ftold Fwrong Fcode Fat Fway Fnext FisEnd FisFallen Fwritten Fmade Fstate FhandNext FhandSteps FhandWritten FmarkAt Astuffs x0 _ hw) (cwV 1 hts gX8_stuff_X8_isStuff rfl rfl rfl hv_X8_isStuff ⟨(Nat.le_trans (Nat.le_of_ble_eq_true rfl) hRf), (Nat.le_trans (Nat.le_of_ble_eq_true rfl) hRl)⟩) (kc_preV (As := [.int (x0)]) (wc := (wW_X8_isStuff ak ad h am 0 Ftaped Fsize Fplace Fbegin Ftoken Fword Ftold Fwrong Fcode Fat Fway Fnext FisEnd FisFallen Fwritten Fmade Fstate FhandNext FhandSteps FhandWritten FmarkAt Astuffs)) hE hT hP hD hS hA [0, 1] (by decide) rfl rfl 0 7 rfl rfl rfl) rfl rfl hl.1 rfl (lv_room (Nat.le_of_ble_eq_true rfl)) dX8_stuff_7 ⟨hRc.1, hRc.2⟩) (fun r_2 u_1 H locs hw hP hD hS => ?_)
  try dsimp -zeta only at hw
  have hP : va_P D vwCl (wW_X8_stuff ak ad h am 0 Ftaped Fsize Fplace Fbegin Ftoken Fword Ftold Fwrong Fcode Fat Fway Fnext FisEnd FisFallen Fwritten Fmade Fstate FhandNext FhandSteps FhandWritten FmarkAt Astuffs Abears Acosts) H := hP.sub [2, 3, 0, 1] rfl
  have hD : va_D A (wW_X8_stuff ak ad h am 0 Ftaped Fsize Fplace Fbegin Ftoken Fword Ftold Fwrong Fcode Fat Fway Fnext FisEnd FisFallen Fwritten Fmade Fstate FhandNext FhandSteps FhandWritten FmarkAt Astuffs Abears Acosts) := hD.sub [2, 3, 0, 1] (by decide) rfl
  refine lv_if_eq (tgt := 22) hx hb dX8_stuff_10 (by decide) (fun c_3 => ?_) (fun c_3 => ?_)
  · replace hw := hw.1 c_3
    refine lv_iconst (v := (-1)) hx hb dX8_stuff_22 (by decide) ?_
    refine lv_goto (tgt := 45) hx hb dX8_stuff_23 (by decide) ?_
    exact kR45 (-1) 0 _ _ _ hw hP hD hS
  · replace hw := hw.2 c_3
    refine lv_iload_n hx hb dX8_stuff_13 rfl (lv_at hl 2 rfl) ?_
    refine lv_iconst (v := 0) hx hb dX8_stuff_14 (by decide) ?_
    refine lv_iconst (v := 1) hx hb dX8_stuff_15 (by decide) ?_
    refine kc_i (wc := []) (wr := [(h, .inr (7, mob am (0) (Ftaped) (Fsize) (Fplace) (Fbegin) (Ftoken) (Fword) (Ftold) (Fwrong) (Fcode) (Fat) (Fway) (Fnext) (FisEnd) (FisFallen) (Fwritten) (Fmade) (Fstate) (FhandNext) (FhandSteps) (FhandWritten) (FmarkAt))), ((am 1), .inl (ak 0, 6, .inl (Astuffs))), ((am 7), .inl (ak 0, 24, .inl (Abears))), ((am 8), .inl (ak 0, 24, .inl (Acosts)))]) hP hD hS hA [] [0, 1, 2, 3] rfl rfl (by decide) (by decide) (va_runS (As := [.int (x1), .int (0), .int (1)]) (rest := []) ⟨hx, hb, hml, hown, hts⟩ (c_X8_within l D ak ad _ x1 0 1 _ hw) (va_cwS 3 hts gX8_stuff_X8_within rfl rfl rfl hz_X8_within ⟨(Nat.le_trans (Nat.le_of_ble_eq_true rfl) hRf), (Nat.le_trans (Nat.le_of_ble_eq_true rfl) hRl)⟩) (kc_pre (As := [.int (x1), .int (0), .int (1)]) (wc := []) hE hT hP hD hS hA [] (by decide) rfl rfl) rfl rfl hl.1 rfl (lv_room (Nat.le_of_ble_eq_true rfl)) dX8_stuff_16 ⟨hRc.1, hRc.2⟩) (fun r_5 u_4 H locs hw hP hD hS => ?_)
    try dsimp -zeta only at hw
    have hP : va_P D vwCl (wW_X8_stuff ak ad h am 0 Ftaped Fsize Fplace Fbegin Ftoken Fword Ftold Fwrong Fcode Fat Fway Fnext FisEnd FisFallen Fwritten Fmade Fstate FhandNext FhandSteps FhandWritten FmarkAt Astuffs Abears Acosts) H := hP.sub [0, 1, 2, 3] rfl
    have hD : va_D A (wW_X8_stuff ak ad h am 0 Ftaped Fsize Fplace Fbegin Ftoken Fword Ftold Fwrong Fcode Fat Fway Fnext FisEnd FisFallen Fwritten Fmade Fstate FhandNext FhandSteps FhandWritten FmarkAt Astuffs Abears Acosts) := hD.sub [0, 1, 2, 3] (by decide) rfl
    refine lv_if_ne (tgt := 26) hx hb dX8_stuff_19 (by decide) (fun c_6 => ?_) (fun c_6 => ?_)
    · replace hw := hw.1 c_6
      refine lv_iload_n hx hb dX8_stuff_26 rfl (lv_at hl 2 rfl) ?_
      refine lv_if_ne (tgt := 39) hx hb dX8_stuff_27 (by decide) (fun c_7 => ?_) (fun c_7 => ?_)
      · replace hw := hw.1 c_7
        refine lv_aload_n hx hb dX8_stuff_39 rfl (lv_at hl 0 rfl) ?_
        refine vt_get (D := D) (ci := 7) (v := .ref (am 8)) (C := RX8) (T := TX8) (N := 69) hx hb hts (fun w h => wm_c (wc_X8 w h)) hown hE.1 hP 0 rfl rfl 17 (by decide) tX8_17 (hts (.fieldLink RX8 35 "WornLinesModel" "costs" "[I") (wm_c hw_97)) (fun _ h9 => h9) rfl dX8_stuff_40 ?_
        refine lv_iload_n hx hb dX8_stuff_43 rfl (lv_at hl 1 rfl) ?_
        obtain ⟨h_8, hw⟩ := hw
        refine va_iald hx hb hE.1 hP 3 0 rfl rfl (h_8) dX8_stuff_44 ?_
        exact kR45 (Acosts (x0).toNatClampNeg) 0 _ _ _ hw hP hD hS
      · replace hw := hw.2 c_7
        refine lv_aload_n hx hb dX8_stuff_30 rfl (lv_at hl 0 rfl) ?_
        refine vt_get (D := D) (ci := 7) (v := .ref (am 7)) (C := RX8) (T := TX8) (N := 69) hx hb hts (fun w h => wm_c (wc_X8 w h)) hown hE.1 hP 0 rfl rfl 16 (by decide) tX8_16 (hts (.fieldLink RX8 32 "WornLinesModel" "bears" "[I") (wm_c hw_96)) (fun _ h9 => h9) rfl dX8_stuff_31 ?_
        refine lv_iload_n hx hb dX8_stuff_34 rfl (lv_at hl 1 rfl) ?_
        obtain ⟨h_9, hw⟩ := hw
        refine va_iald hx hb hE.1 hP 2 0 rfl rfl (h_9) dX8_stuff_35 ?_
        refine lv_goto (tgt := 45) hx hb dX8_stuff_36 (by decide) ?_
        exact kR45 (Abears (x0).toNatClampNeg) 0 _ _ _ hw hP hD hS
    · replace hw := hw.2 c_6
      refine lv_iconst (v := (-1)) hx hb dX8_stuff_22 (by decide) ?_
      refine lv_goto (tgt := 45) hx hb dX8_stuff_23 (by decide) ?_
      exact kR45 (-1) 0 _ _ _ hw hP hD hS
set_option maxHeartbeats 4000000 in
set_option maxRecDepth 100000 in
theorem c_X8_stuff (l : Launch) (D : va_G) (ak : Nat → ClassId) (ad : Nat → Nat) (sz : Nat) (h : Nat) (am : Nat → Nat) (Fthrown : Int32) (Ftaped : Int32) (Fsize : Int32) (Fplace : Int32) (Fbegin : Int32) (Ftoken : Int32) (Fword : Int64) (Ftold : Int32) (Fwrong : Int32) (Fcode : Int32) (Fat : Int32) (Fway : Int32) (Fnext : Int32) (FisEnd : Int32) (FisFallen : Int32) (Fwritten : Int32) (Fmade : Int32) (Fstate : Int32) (FhandNext : Int32) (FhandSteps : Int32) (FhandWritten : Int32) (FmarkAt : Int32) (Astuffs : Nat → Int32) (Abears : Nat → Int32) (Acosts : Nat → Int32) (x0 : Int32) (x1 : Int32) (Φ : Int32 → Int32 → Prop) (hf : wp_X8_stuff Astuffs Abears Acosts x0 x1 Fthrown Φ) : Met l yX8_stuff wsX8_stuff ({ frames := 1, cells := 0, slots := 0, locals := 22 }) (cPre D ak ad [.ref h, .int (x0), .int (x1)] ((wW_X8_stuff ak ad h am Fthrown Ftaped Fsize Fplace Fbegin Ftoken Fword Ftold Fwrong Fcode Fat Fway Fnext FisEnd FisFallen Fwritten Fmade Fstate FhandNext FhandSteps FhandWritten FmarkAt Astuffs Abears Acosts)) sz) (cI D (S := (Int32)) (fun (r : Int32) (u : (Int32)) => Φ r u) (fun u => (wW_X8_stuff ak ad h am u Ftaped Fsize Fplace Fbegin Ftoken Fword Ftold Fwrong Fcode Fat Fway Fnext FisEnd FisFallen Fwritten Fmade Fstate FhandNext FhandSteps FhandWritten FmarkAt Astuffs Abears Acosts)) ((wW_X8_stuff ak ad h am Fthrown Ftaped Fsize Fplace Fbegin Ftoken Fword Ftold Fwrong Fcode Fat Fway Fnext FisEnd FisFallen Fwritten Fmade Fstate FhandNext FhandSteps FhandWritten FmarkAt Astuffs Abears Acosts)) sz) 0 0 (va_A ((wW_X8_stuff ak ad h am Fthrown Ftaped Fsize Fplace Fbegin Ftoken Fword Ftold Fwrong Fcode Fat Fway Fnext FisEnd FisFallen Fwritten Fmade Fstate FhandNext FhandSteps FhandWritten FmarkAt Astuffs Abears Acosts)) sz) := by
  refine Met.ofW (cc := cX8_stuff) (maxL := 3) (ret := (some .int)) (by decide) rfl ?_
  intro p e s m args below meth c s₁ B hml hv
  obtain ⟨rfl, hsz, hP, hE, hD0, hT⟩ := hv
  have hx := B.exec
  have hb := B.bytes
  have hr := B.returns
  have hts := atoms_spec (ws := wsX8_stuff) B.pre
  have hown : s.vm.findClass RX8 = some m.cls := findClass_of_methodNamed B.named
  have hlocks := B.notSynchronized
  subst hsz
  have hD := hD0.self (sz := s.heap.size)
  generalize hAe : va_A ((wW_X8_stuff ak ad h am Fthrown Ftaped Fsize Fplace Fbegin Ftoken Fword Ftold Fwrong Fcode Fat Fway Fnext FisEnd FisFallen Fwritten Fmade Fstate FhandNext FhandSteps FhandWritten FmarkAt Astuffs Abears Acosts)) s.heap.size = A at hD hT ⊢
  have hA : ∀ q : Nat, s.heap.size ≤ q → A q := fun q h => by rw [← hAe]; exact Or.inr h
  have hS : va_S A s.heap s.heap [] := va_S.rf
  have hl := lv_entry ([.ref h, .int (x0), .int (x1)]) (n := 3) (Nat.le_of_ble_eq_true rfl)
  rw [lg_entry_eq]
  generalize (lg_sl ([.ref h, .int (x0), .int (x1)]) ++ List.replicate (3 - (lg_sl ([.ref h, .int (x0), .int (x1)])).length) Slot.unset).toArray = ls at hl ⊢
  have hl : lv_has ls 3 [(0, .ref h), (1, .int (x0)), (2, .int (x1))] := hl
  exact kj_X8_stuff_e hx hb hown hts hml hE hT hA (Nat.le_of_ble_eq_true rfl) (Nat.le_of_ble_eq_true rfl) ⟨Nat.le_of_ble_eq_true rfl, Nat.le_of_ble_eq_true rfl⟩ h am Ftaped Fsize Fplace Fbegin Ftoken Fword Ftold Fwrong Fcode Fat Fway Fnext FisEnd FisFallen Fwritten Fmade Fstate FhandNext FhandSteps FhandWritten FmarkAt Astuffs Abears Acosts x0 x1 Φ (fun r Fthrown H locs ls hw hP hD hS => W.iret (v := r) hx hb hr (fun t ht hW => ⟨⟨r, Fthrown, rfl, hw, by rw [ht]; exact hP, by rw [hAe]; exact hD⟩, by rw [hAe]; exact hS.F ht⟩) hS.2.2 dX8_stuff_45) Fthrown _ _ _ hf hP hD hS hl

def wW_X8_bearsOf (ak : Nat → ClassId) (ad : Nat → Nat) (h : Nat) (am : Nat → Nat) (Fthrown : Int32) (Ftaped : Int32) (Fsize : Int32) (Fplace : Int32) (Fbegin : Int32) (Ftoken : Int32) (Fword : Int64) (Ftold : Int32) (Fwrong : Int32) (Fcode : Int32) (Fat : Int32) (Fway : Int32) (Fnext : Int32) (FisEnd : Int32) (FisFallen : Int32) (Fwritten : Int32) (Fmade : Int32) (Fstate : Int32) (FhandNext : Int32) (FhandSteps : Int32) (FhandWritten : Int32) (FmarkAt : Int32) (Abears : Nat → Int32) (AlineStuff : Nat → Int32) (Atwins : Nat → Int32) : va_W := [(h, .inr (7, mob am (Fthrown) (Ftaped) (Fsize) (Fplace) (Fbegin) (Ftoken) (Fword) (Ftold) (Fwrong) (Fcode) (Fat) (Fway) (Fnext) (FisEnd) (FisFallen) (Fwritten) (Fmade) (Fstate) (FhandNext) (FhandSteps) (FhandWritten) (FmarkAt))), ((am 7), .inl (ak 0, 24, .inl (Abears))), ((am 15), .inl (ak 0, 96, .inl (AlineStuff))), ((am 16), .inl (ak 0, 96, .inl (Atwins)))]
def wp_X8_bearsOf (Abears : Nat → Int32) (AlineStuff : Nat → Int32) (Atwins : Nat → Int32) (x0 : Int32)  (Φ : Int32 → Prop) : Prop := vp_in x0 96 ∧ vp_in (AlineStuff (x0).toNatClampNeg) 24 ∧ vp_in x0 96 ∧ Φ ((Abears (AlineStuff (x0).toNatClampNeg).toNatClampNeg) * (Atwins (x0).toNatClampNeg)) 
set_option maxHeartbeats 4000000 in
set_option maxRecDepth 100000 in
theorem kj_X8_bearsOf_e {p : Program} {l : Launch} {e : Env} {R : Room} {s : State} {m : MethodId} {args : Array Value} {below : List Frame} {meth : Method} {c : Code} {cells slots : Nat} {Q : State → Prop} {A : Nat → Prop} {D : va_G} {ak : Nat → ClassId} {ad : Nat → Nat} (hx : p.tables.exec = Jvm.exec) (hb : c.code = cX8_bearsOf) (hown : s.vm.findClass RX8 = some m.cls) (hts : ∀ w ∈ wsX8_bearsOf, w.before args s = true) (hml : c.maxLocals = 2) (hE : EV D ak s) (hT : ST D ak ad A s s.heap) (hA : ∀ q, s.heap.size ≤ q → A q) (h : Nat) (am : Nat → Nat) (Fthrown : Int32) (Ftaped : Int32) (Fsize : Int32) (Fplace : Int32) (Fbegin : Int32) (Ftoken : Int32) (Fword : Int64) (Ftold : Int32) (Fwrong : Int32) (Fcode : Int32) (Fat : Int32) (Fway : Int32) (Fnext : Int32) (FisEnd : Int32) (FisFallen : Int32) (Fwritten : Int32) (Fmade : Int32) (Fstate : Int32) (FhandNext : Int32) (FhandSteps : Int32) (FhandWritten : Int32) (FmarkAt : Int32) (Abears : Nat → Int32) (AlineStuff : Nat → Int32) (Atwins : Nat → Int32) (x0 : Int32)  (Φ : Int32 → Prop)
    (kR18 : ∀ (r : Int32)  (H : Heap) (locs : List Loc) (ls : Array Slot), Φ r  → va_P D vwCl (wW_X8_bearsOf ak ad h am Fthrown Ftaped Fsize Fplace Fbegin Ftoken Fword Ftold Fwrong Fcode Fat Fway Fnext FisEnd FisFallen Fwritten Fmade Fstate FhandNext FhandSteps FhandWritten FmarkAt Abears AlineStuff Atwins) H → va_D A (wW_X8_bearsOf ak ad h am Fthrown Ftaped Fsize Fplace Fbegin Ftoken Fword Ftold Fwrong Fcode Fat Fway Fnext FisEnd FisFallen Fwritten Fmade Fstate FhandNext FhandSteps FhandWritten FmarkAt Abears AlineStuff Atwins) → va_S A s.heap H locs → W p l e R s m args below meth c H locs cells slots Q (F0 m 18 ls [.int r]))
    : ∀  (H : Heap) (locs : List Loc) (ls : Array Slot), wp_X8_bearsOf Abears AlineStuff Atwins x0  Φ → va_P D vwCl (wW_X8_bearsOf ak ad h am Fthrown Ftaped Fsize Fplace Fbegin Ftoken Fword Ftold Fwrong Fcode Fat Fway Fnext FisEnd FisFallen Fwritten Fmade Fstate FhandNext FhandSteps FhandWritten FmarkAt Abears AlineStuff Atwins) H → va_D A (wW_X8_bearsOf ak ad h am Fthrown Ftaped Fsize Fplace Fbegin Ftoken Fword Ftold Fwrong Fcode Fat Fway Fnext FisEnd FisFallen Fwritten Fmade Fstate FhandNext FhandSteps FhandWritten FmarkAt Abears AlineStuff Atwins) → va_S A s.heap H locs → lv_has ls 2 [(0, .ref h), (1, .int (x0))] → W p l e R s m args below meth c H locs cells slots Q (F0 m 0 ls ([])) := by
  intro  H locs ls hw hP hD hS hl
  delta wp_X8_bearsOf at hw
  refine lv_aload_n hx hb dX8_bearsOf_0 rfl (lv_at hl 0 rfl) ?_
  refine vt_get (D := D) (ci := 7) (v := .ref (am 7)) (C := RX8) (T := TX8) (N := 69) hx hb hts (fun w h => wm_c (wc_X8 w h)) hown hE.1 hP 0 rfl rfl 16 (by decide) tX8_16 (hts (.fieldLink RX8 32 "WornLinesModel" "bears" "[I") (wm_c hw_96)) (fun _ h9 => h9) rfl dX8_bearsOf_1 ?_
  refine lv_aload_n hx hb dX8_bearsOf_4 rfl (lv_at hl 0 rfl) ?_
  refine vt_get (D := D) (ci := 7) (v := .ref (am 15)) (C := RX8) (T := TX8) (N := 69) hx hb hts (fun w h => wm_c (wc_X8 w h)) hown hE.1 hP 0 rfl rfl 24 (by decide) tX8_24 (hts (.fieldLink RX8 56 "WornLinesModel" "lineStuff" "[I") (wm_c hw_122)) (fun _ h9 => h9) rfl dX8_bearsOf_5 ?_
  refine lv_iload_n hx hb dX8_bearsOf_8 rfl (lv_at hl 1 rfl) ?_
  obtain ⟨h_1, hw⟩ := hw
  refine va_iald hx hb hE.1 hP 2 0 rfl rfl (h_1) dX8_bearsOf_9 ?_
  obtain ⟨h_2, hw⟩ := hw
  refine va_iald hx hb hE.1 hP 1 0 rfl rfl (h_2) dX8_bearsOf_10 ?_
  refine lv_aload_n hx hb dX8_bearsOf_11 rfl (lv_at hl 0 rfl) ?_
  refine vt_get (D := D) (ci := 7) (v := .ref (am 16)) (C := RX8) (T := TX8) (N := 69) hx hb hts (fun w h => wm_c (wc_X8 w h)) hown hE.1 hP 0 rfl rfl 25 (by decide) tX8_25 (hts (.fieldLink RX8 59 "WornLinesModel" "twins" "[I") (wm_c hw_123)) (fun _ h9 => h9) rfl dX8_bearsOf_12 ?_
  refine lv_iload_n hx hb dX8_bearsOf_15 rfl (lv_at hl 1 rfl) ?_
  obtain ⟨h_3, hw⟩ := hw
  refine va_iald hx hb hE.1 hP 3 0 rfl rfl (h_3) dX8_bearsOf_16 ?_
  refine lv_imul hx hb dX8_bearsOf_17 ?_
  exact kR18 ((Abears (AlineStuff (x0).toNatClampNeg).toNatClampNeg) * (Atwins (x0).toNatClampNeg))  _ _ _ hw hP hD hS
set_option maxHeartbeats 4000000 in
set_option maxRecDepth 100000 in
theorem c_X8_bearsOf (l : Launch) (D : va_G) (ak : Nat → ClassId) (ad : Nat → Nat) (sz : Nat) (h : Nat) (am : Nat → Nat) (Fthrown : Int32) (Ftaped : Int32) (Fsize : Int32) (Fplace : Int32) (Fbegin : Int32) (Ftoken : Int32) (Fword : Int64) (Ftold : Int32) (Fwrong : Int32) (Fcode : Int32) (Fat : Int32) (Fway : Int32) (Fnext : Int32) (FisEnd : Int32) (FisFallen : Int32) (Fwritten : Int32) (Fmade : Int32) (Fstate : Int32) (FhandNext : Int32) (FhandSteps : Int32) (FhandWritten : Int32) (FmarkAt : Int32) (Abears : Nat → Int32) (AlineStuff : Nat → Int32) (Atwins : Nat → Int32) (x0 : Int32) (Φ : Int32 → Prop) (hf : wp_X8_bearsOf Abears AlineStuff Atwins x0 Φ) : Met l yX8_bearsOf wsX8_bearsOf ({ frames := 0, cells := 0, slots := 0, locals := 0 }) (cPre D ak ad [.ref h, .int (x0)] ((wW_X8_bearsOf ak ad h am Fthrown Ftaped Fsize Fplace Fbegin Ftoken Fword Ftold Fwrong Fcode Fat Fway Fnext FisEnd FisFallen Fwritten Fmade Fstate FhandNext FhandSteps FhandWritten FmarkAt Abears AlineStuff Atwins)) sz) (cI D (S := Unit) (fun (r : Int32) (u : Unit) => Φ r ) (fun u => (wW_X8_bearsOf ak ad h am Fthrown Ftaped Fsize Fplace Fbegin Ftoken Fword Ftold Fwrong Fcode Fat Fway Fnext FisEnd FisFallen Fwritten Fmade Fstate FhandNext FhandSteps FhandWritten FmarkAt Abears AlineStuff Atwins)) ((wW_X8_bearsOf ak ad h am Fthrown Ftaped Fsize Fplace Fbegin Ftoken Fword Ftold Fwrong Fcode Fat Fway Fnext FisEnd FisFallen Fwritten Fmade Fstate FhandNext FhandSteps FhandWritten FmarkAt Abears AlineStuff Atwins)) sz) 0 0 (va_A ((wW_X8_bearsOf ak ad h am Fthrown Ftaped Fsize Fplace Fbegin Ftoken Fword Ftold Fwrong Fcode Fat Fway Fnext FisEnd FisFallen Fwritten Fmade Fstate FhandNext FhandSteps FhandWritten FmarkAt Abears AlineStuff Atwins)) sz) := by
  refine Met.ofW (cc := cX8_bearsOf) (maxL := 2) (ret := (some .int)) (by decide) rfl ?_
  intro p e s m args below meth c s₁ B hml hv
  obtain ⟨rfl, hsz, hP, hE, hD0, hT⟩ := hv
  have hx := B.exec
  have hb := B.bytes
  have hr := B.returns
  have hts := atoms_spec (ws := wsX8_bearsOf) B.pre
  have hown : s.vm.findClass RX8 = some m.cls := findClass_of_methodNamed B.named
  have hlocks := B.notSynchronized
  subst hsz
  have hD := hD0.self (sz := s.heap.size)
  generalize hAe : va_A ((wW_X8_bearsOf ak ad h am Fthrown Ftaped Fsize Fplace Fbegin Ftoken Fword Ftold Fwrong Fcode Fat Fway Fnext FisEnd FisFallen Fwritten Fmade Fstate FhandNext FhandSteps FhandWritten FmarkAt Abears AlineStuff Atwins)) s.heap.size = A at hD hT ⊢
  have hA : ∀ q : Nat, s.heap.size ≤ q → A q := fun q h => by rw [← hAe]; exact Or.inr h
  have hS : va_S A s.heap s.heap [] := va_S.rf
  have hl := lv_entry ([.ref h, .int (x0)]) (n := 2) (Nat.le_of_ble_eq_true rfl)
  rw [lg_entry_eq]
  generalize (lg_sl ([.ref h, .int (x0)]) ++ List.replicate (2 - (lg_sl ([.ref h, .int (x0)])).length) Slot.unset).toArray = ls at hl ⊢
  have hl : lv_has ls 2 [(0, .ref h), (1, .int (x0))] := hl
  exact kj_X8_bearsOf_e hx hb hown hts hml hE hT hA h am Fthrown Ftaped Fsize Fplace Fbegin Ftoken Fword Ftold Fwrong Fcode Fat Fway Fnext FisEnd FisFallen Fwritten Fmade Fstate FhandNext FhandSteps FhandWritten FmarkAt Abears AlineStuff Atwins x0 Φ (fun r  H locs ls hw hP hD hS => W.iret (v := r) hx hb hr (fun t ht hW => ⟨⟨r, (), rfl, hw, by rw [ht]; exact hP, by rw [hAe]; exact hD⟩, by rw [hAe]; exact hS.F ht⟩) hS.2.2 dX8_bearsOf_18)  _ _ _ hf hP hD hS hl

def wW_X8_line (ak : Nat → ClassId) (ad : Nat → Nat) (h : Nat) (am : Nat → Nat) (Fthrown : Int32) (Ftaped : Int32) (Fsize : Int32) (Fplace : Int32) (Fbegin : Int32) (Ftoken : Int32) (Fword : Int64) (Ftold : Int32) (Fwrong : Int32) (Fcode : Int32) (Fat : Int32) (Fway : Int32) (Fnext : Int32) (FisEnd : Int32) (FisFallen : Int32) (Fwritten : Int32) (Fmade : Int32) (Fstate : Int32) (FhandNext : Int32) (FhandSteps : Int32) (FhandWritten : Int32) (FmarkAt : Int32) (Alines : Nat → Int32) (Abears : Nat → Int32) (Aact : Nat → Int32) (AlineStuff : Nat → Int32) (Atwins : Nat → Int32) (Aworn : Nat → Int32) : va_W := [(h, .inr (7, mob am (Fthrown) (Ftaped) (Fsize) (Fplace) (Fbegin) (Ftoken) (Fword) (Ftold) (Fwrong) (Fcode) (Fat) (Fway) (Fnext) (FisEnd) (FisFallen) (Fwritten) (Fmade) (Fstate) (FhandNext) (FhandSteps) (FhandWritten) (FmarkAt))), ((am 4), .inl (ak 0, 6, .inl (Alines))), ((am 7), .inl (ak 0, 24, .inl (Abears))), ((am 13), .inl (ak 0, 96, .inl (Aact))), ((am 15), .inl (ak 0, 96, .inl (AlineStuff))), ((am 16), .inl (ak 0, 96, .inl (Atwins))), ((am 38), .inl (ak 0, 16, .inl (Aworn)))]
def wp_X8_line (Alines : Nat → Int32) (Abears : Nat → Int32) (Aact : Nat → Int32) (AlineStuff : Nat → Int32) (Atwins : Nat → Int32) (Aworn : Nat → Int32) (x0 : Int32) (x1 : Int32) (Fthrown : Int32) (Φ : Int32 → Int32 → Prop) : Prop := wp_X8_isLine Alines x0 (fun r_2 => (r_2 = 0 → Φ (-1) 0) ∧ (¬ r_2 = 0 → wp_X8_within x1 0 4 (fun r_5 => (¬ r_5 = 0 → (¬ x1 = 0 → (¬ x1 = 1 → (¬ x1 = 2 → (¬ x1 = 3 → vp_in x0 16 ∧ Φ (Aworn (x0).toNatClampNeg) 0) ∧ (x1 = 3 → wp_X8_bearsOf Abears AlineStuff Atwins x0 (fun r_13 => Φ r_13 0))) ∧ (x1 = 2 → vp_in x0 96 ∧ Φ (Atwins (x0).toNatClampNeg) 0)) ∧ (x1 = 1 → vp_in x0 96 ∧ Φ (AlineStuff (x0).toNatClampNeg) 0)) ∧ (x1 = 0 → vp_in x0 96 ∧ Φ (Aact (x0).toNatClampNeg) 0)) ∧ (r_5 = 0 → Φ (-1) 0))))
set_option maxHeartbeats 4000000 in
set_option maxRecDepth 100000 in
theorem kj_X8_line_e {p : Program} {l : Launch} {e : Env} {R : Room} {s : State} {m : MethodId} {args : Array Value} {below : List Frame} {meth : Method} {c : Code} {cells slots : Nat} {Q : State → Prop} {A : Nat → Prop} {D : va_G} {ak : Nat → ClassId} {ad : Nat → Nat} (hx : p.tables.exec = Jvm.exec) (hb : c.code = cX8_line) (hown : s.vm.findClass RX8 = some m.cls) (hts : ∀ w ∈ wsX8_line, w.before args s = true) (hml : c.maxLocals = 3) (hE : EV D ak s) (hT : ST D ak ad A s s.heap) (hA : ∀ q, s.heap.size ≤ q → A q) (hRf : 1 ≤ R.frames) (hRl : 22 ≤ R.locals) (hRc : cells ≤ R.cells ∧ slots ≤ R.slots) (h : Nat) (am : Nat → Nat) (Ftaped : Int32) (Fsize : Int32) (Fplace : Int32) (Fbegin : Int32) (Ftoken : Int32) (Fword : Int64) (Ftold : Int32) (Fwrong : Int32) (Fcode : Int32) (Fat : Int32) (Fway : Int32) (Fnext : Int32) (FisEnd : Int32) (FisFallen : Int32) (Fwritten : Int32) (Fmade : Int32) (Fstate : Int32) (FhandNext : Int32) (FhandSteps : Int32) (FhandWritten : Int32) (FmarkAt : Int32) (Alines : Nat → Int32) (Abears : Nat → Int32) (Aact : Nat → Int32) (AlineStuff : Nat → Int32) (Atwins : Nat → Int32) (Aworn : Nat → Int32) (x0 : Int32) (x1 : Int32)  (Φ : Int32 → Int32 → Prop)
    (kR23 : ∀ (r : Int32) (Fthrown : Int32) (H : Heap) (locs : List Loc) (ls : Array Slot), Φ r Fthrown → va_P D vwCl (wW_X8_line ak ad h am Fthrown Ftaped Fsize Fplace Fbegin Ftoken Fword Ftold Fwrong Fcode Fat Fway Fnext FisEnd FisFallen Fwritten Fmade Fstate FhandNext FhandSteps FhandWritten FmarkAt Alines Abears Aact AlineStuff Atwins Aworn) H → va_D A (wW_X8_line ak ad h am Fthrown Ftaped Fsize Fplace Fbegin Ftoken Fword Ftold Fwrong Fcode Fat Fway Fnext FisEnd FisFallen Fwritten Fmade Fstate FhandNext FhandSteps FhandWritten FmarkAt Alines Abears Aact AlineStuff Atwins Aworn) → va_S A s.heap H locs → W p l e R s m args below meth c H locs cells slots Q (F0 m 23 ls [.int r]))
    (kR84 : ∀ (r : Int32) (Fthrown : Int32) (H : Heap) (locs : List Loc) (ls : Array Slot), Φ r Fthrown → va_P D vwCl (wW_X8_line ak ad h am Fthrown Ftaped Fsize Fplace Fbegin Ftoken Fword Ftold Fwrong Fcode Fat Fway Fnext FisEnd FisFallen Fwritten Fmade Fstate FhandNext FhandSteps FhandWritten FmarkAt Alines Abears Aact AlineStuff Atwins Aworn) H → va_D A (wW_X8_line ak ad h am Fthrown Ftaped Fsize Fplace Fbegin Ftoken Fword Ftold Fwrong Fcode Fat Fway Fnext FisEnd FisFallen Fwritten Fmade Fstate FhandNext FhandSteps FhandWritten FmarkAt Alines Abears Aact AlineStuff Atwins Aworn) → va_S A s.heap H locs → W p l e R s m args below meth c H locs cells slots Q (F0 m 84 ls [.int r]))
    : ∀ (Fthrown : Int32) (H : Heap) (locs : List Loc) (ls : Array Slot), wp_X8_line Alines Abears Aact AlineStuff Atwins Aworn x0 x1 Fthrown Φ → va_P D vwCl (wW_X8_line ak ad h am Fthrown Ftaped Fsize Fplace Fbegin Ftoken Fword Ftold Fwrong Fcode Fat Fway Fnext FisEnd FisFallen Fwritten Fmade Fstate FhandNext FhandSteps FhandWritten FmarkAt Alines Abears Aact AlineStuff Atwins Aworn) H → va_D A (wW_X8_line ak ad h am Fthrown Ftaped Fsize Fplace Fbegin Ftoken Fword Ftold Fwrong Fcode Fat Fway Fnext FisEnd FisFallen Fwritten Fmade Fstate FhandNext FhandSteps FhandWritten FmarkAt Alines Abears Aact AlineStuff Atwins Aworn) → va_S A s.heap H locs → lv_has ls 3 [(0, .ref h), (1, .int (x0)), (2, .int (x1))] → W p l e R s m args below meth c H locs cells slots Q (F0 m 0 ls ([])) := by
  intro Fthrown H locs ls hw hP hD hS hl
  delta wp_X8_line at hw
  refine lv_aload_n hx hb dX8_line_0 rfl (lv_at hl 0 rfl) ?_
  refine lv_iconst (v := 0) hx hb dX8_line_1 (by decide) ?_
  refine vt_put (D := D) (ci := 7) (v := .int (0)) (ty := .int) (C := RX8) (T := TX8) (N := 69) hx hb hts (fun w h => wm_c (wc_X8 w h)) tyX8 tyX8_ok nmX8 hown hE.1 hP hD hS 0 rfl rfl 0 (by decide) tX8_0 (hts (.fieldLink RX8 153 "WornLinesModel" "thrown" "I") (wm_c hw_3)) (fun _ h9 => h9) rfl pf_0 (rfl) rfl (Nat.le_of_ble_eq_true rfl) dX8_line_2 (fun H locs hP hD hS => ?_)
  have hP : va_P D vwCl (wW_X8_line ak ad h am 0 Ftaped Fsize Fplace Fbegin Ftoken Fword Ftold Fwrong Fcode Fat Fway Fnext FisEnd FisFallen Fwritten Fmade Fstate FhandNext FhandSteps FhandWritten FmarkAt Alines Abears Aact AlineStuff Atwins Aworn) H := hP
  have hD : va_D A (wW_X8_line ak ad h am 0 Ftaped Fsize Fplace Fbegin Ftoken Fword Ftold Fwrong Fcode Fat Fway Fnext FisEnd FisFallen Fwritten Fmade Fstate FhandNext FhandSteps FhandWritten FmarkAt Alines Abears Aact AlineStuff Atwins Aworn) := hD
  refine lv_aload_n hx hb dX8_line_5 rfl (lv_at hl 0 rfl) ?_
  refine lv_iload_n hx hb dX8_line_6 rfl (lv_at hl 1 rfl) ?_
  refine kc_i (wc := (wW_X8_isLine ak ad h am 0 Ftaped Fsize Fplace Fbegin Ftoken Fword Ftold Fwrong Fcode Fat Fway Fnext FisEnd FisFallen Fwritten Fmade Fstate FhandNext FhandSteps FhandWritten FmarkAt Alines)) (wr := [((am 7), .inl (ak 0, 24, .inl (Abears))), ((am 13), .inl (ak 0, 96, .inl (Aact))), ((am 15), .inl (ak 0, 96, .inl (AlineStuff))), ((am 16), .inl (ak 0, 96, .inl (Atwins))), ((am 38), .inl (ak 0, 16, .inl (Aworn)))]) hP hD hS hA [0, 1] [2, 3, 4, 5, 6] rfl rfl (by decide) (by decide) (va_runV (As := [.int (x0)]) (rest := []) ⟨hx, hb, hml, hown, hts⟩ (c_X8_isLine l D ak ad _ h am 0 Ftaped Fsize Fplace Fbegin Ftoken Fword Ftold Fwrong Fcode Fat Fway Fnext FisEnd FisFallen Fwritten Fmade Fstate FhandNext FhandSteps FhandWritten FmarkAt Alines x0 _ hw) (cwV 1 hts gX8_line_X8_isLine rfl rfl rfl hv_X8_isLine ⟨(Nat.le_trans (Nat.le_of_ble_eq_true rfl) hRf), (Nat.le_trans (Nat.le_of_ble_eq_true rfl) hRl)⟩) (kc_preV (As := [.int (x0)]) (wc := (wW_X8_isLine ak ad h am 0 Ftaped Fsize Fplace Fbegin Ftoken Fword Ftold Fwrong Fcode Fat Fway Fnext FisEnd FisFallen Fwritten Fmade Fstate FhandNext FhandSteps FhandWritten FmarkAt Alines)) hE hT hP hD hS hA [0, 1] (by decide) rfl rfl 0 7 rfl rfl rfl) rfl rfl hl.1 rfl (lv_room (Nat.le_of_ble_eq_true rfl)) dX8_line_7 ⟨hRc.1, hRc.2⟩) (fun r_2 u_1 H locs hw hP hD hS => ?_)
  try dsimp -zeta only at hw
  have hP : va_P D vwCl (wW_X8_line ak ad h am 0 Ftaped Fsize Fplace Fbegin Ftoken Fword Ftold Fwrong Fcode Fat Fway Fnext FisEnd FisFallen Fwritten Fmade Fstate FhandNext FhandSteps FhandWritten FmarkAt Alines Abears Aact AlineStuff Atwins Aworn) H := hP.sub [5, 6, 0, 1, 2, 3, 4] rfl
  have hD : va_D A (wW_X8_line ak ad h am 0 Ftaped Fsize Fplace Fbegin Ftoken Fword Ftold Fwrong Fcode Fat Fway Fnext FisEnd FisFallen Fwritten Fmade Fstate FhandNext FhandSteps FhandWritten FmarkAt Alines Abears Aact AlineStuff Atwins Aworn) := hD.sub [5, 6, 0, 1, 2, 3, 4] (by decide) rfl
  refine lv_if_eq (tgt := 22) hx hb dX8_line_10 (by decide) (fun c_3 => ?_) (fun c_3 => ?_)
  · replace hw := hw.1 c_3
    refine lv_iconst (v := (-1)) hx hb dX8_line_22 (by decide) ?_
    exact kR23 (-1) 0 _ _ _ hw hP hD hS
  · replace hw := hw.2 c_3
    refine lv_iload_n hx hb dX8_line_13 rfl (lv_at hl 2 rfl) ?_
    refine lv_iconst (v := 0) hx hb dX8_line_14 (by decide) ?_
    refine lv_iconst (v := 4) hx hb dX8_line_15 (by decide) ?_
    refine kc_i (wc := []) (wr := [(h, .inr (7, mob am (0) (Ftaped) (Fsize) (Fplace) (Fbegin) (Ftoken) (Fword) (Ftold) (Fwrong) (Fcode) (Fat) (Fway) (Fnext) (FisEnd) (FisFallen) (Fwritten) (Fmade) (Fstate) (FhandNext) (FhandSteps) (FhandWritten) (FmarkAt))), ((am 4), .inl (ak 0, 6, .inl (Alines))), ((am 7), .inl (ak 0, 24, .inl (Abears))), ((am 13), .inl (ak 0, 96, .inl (Aact))), ((am 15), .inl (ak 0, 96, .inl (AlineStuff))), ((am 16), .inl (ak 0, 96, .inl (Atwins))), ((am 38), .inl (ak 0, 16, .inl (Aworn)))]) hP hD hS hA [] [0, 1, 2, 3, 4, 5, 6] rfl rfl (by decide) (by decide) (va_runS (As := [.int (x1), .int (0), .int (4)]) (rest := []) ⟨hx, hb, hml, hown, hts⟩ (c_X8_within l D ak ad _ x1 0 4 _ hw) (va_cwS 3 hts gX8_line_X8_within rfl rfl rfl hz_X8_within ⟨(Nat.le_trans (Nat.le_of_ble_eq_true rfl) hRf), (Nat.le_trans (Nat.le_of_ble_eq_true rfl) hRl)⟩) (kc_pre (As := [.int (x1), .int (0), .int (4)]) (wc := []) hE hT hP hD hS hA [] (by decide) rfl rfl) rfl rfl hl.1 rfl (lv_room (Nat.le_of_ble_eq_true rfl)) dX8_line_16 ⟨hRc.1, hRc.2⟩) (fun r_5 u_4 H locs hw hP hD hS => ?_)
    try dsimp -zeta only at hw
    have hP : va_P D vwCl (wW_X8_line ak ad h am 0 Ftaped Fsize Fplace Fbegin Ftoken Fword Ftold Fwrong Fcode Fat Fway Fnext FisEnd FisFallen Fwritten Fmade Fstate FhandNext FhandSteps FhandWritten FmarkAt Alines Abears Aact AlineStuff Atwins Aworn) H := hP.sub [0, 1, 2, 3, 4, 5, 6] rfl
    have hD : va_D A (wW_X8_line ak ad h am 0 Ftaped Fsize Fplace Fbegin Ftoken Fword Ftold Fwrong Fcode Fat Fway Fnext FisEnd FisFallen Fwritten Fmade Fstate FhandNext FhandSteps FhandWritten FmarkAt Alines Abears Aact AlineStuff Atwins Aworn) := hD.sub [0, 1, 2, 3, 4, 5, 6] (by decide) rfl
    refine lv_if_ne (tgt := 24) hx hb dX8_line_19 (by decide) (fun c_6 => ?_) (fun c_6 => ?_)
    · replace hw := hw.1 c_6
      refine lv_iload_n hx hb dX8_line_24 rfl (lv_at hl 2 rfl) ?_
      refine lv_if_ne (tgt := 37) hx hb dX8_line_25 (by decide) (fun c_7 => ?_) (fun c_7 => ?_)
      · replace hw := hw.1 c_7
        refine lv_iload_n hx hb dX8_line_37 rfl (lv_at hl 2 rfl) ?_
        refine lv_iconst (v := 1) hx hb dX8_line_38 (by decide) ?_
        refine lv_icmp_ne (tgt := 51) hx hb dX8_line_39 (by decide) (fun c_8 => ?_) (fun c_8 => ?_)
        · replace hw := hw.1 c_8
          refine lv_iload_n hx hb dX8_line_51 rfl (lv_at hl 2 rfl) ?_
          refine lv_iconst (v := 2) hx hb dX8_line_52 (by decide) ?_
          refine lv_icmp_ne (tgt := 65) hx hb dX8_line_53 (by decide) (fun c_9 => ?_) (fun c_9 => ?_)
          · replace hw := hw.1 c_9
            refine lv_iload_n hx hb dX8_line_65 rfl (lv_at hl 2 rfl) ?_
            refine lv_iconst (v := 3) hx hb dX8_line_66 (by decide) ?_
            refine lv_icmp_ne (tgt := 78) hx hb dX8_line_67 (by decide) (fun c_10 => ?_) (fun c_10 => ?_)
            · replace hw := hw.1 c_10
              refine lv_aload_n hx hb dX8_line_78 rfl (lv_at hl 0 rfl) ?_
              refine vt_get (D := D) (ci := 7) (v := .ref (am 38)) (C := RX8) (T := TX8) (N := 69) hx hb hts (fun w h => wm_c (wc_X8 w h)) hown hE.1 hP 0 rfl rfl 59 (by decide) tX8_59 (hts (.fieldLink RX8 126 "WornLinesModel" "worn" "[I") (wm_c hw_150)) (fun _ h9 => h9) rfl dX8_line_79 ?_
              refine lv_iload_n hx hb dX8_line_82 rfl (lv_at hl 1 rfl) ?_
              obtain ⟨h_11, hw⟩ := hw
              refine va_iald hx hb hE.1 hP 6 0 rfl rfl (h_11) dX8_line_83 ?_
              exact kR84 (Aworn (x0).toNatClampNeg) 0 _ _ _ hw hP hD hS
            · replace hw := hw.2 c_10
              refine lv_aload_n hx hb dX8_line_70 rfl (lv_at hl 0 rfl) ?_
              refine lv_iload_n hx hb dX8_line_71 rfl (lv_at hl 1 rfl) ?_
              refine kc_i (wc := (wW_X8_bearsOf ak ad h am 0 Ftaped Fsize Fplace Fbegin Ftoken Fword Ftold Fwrong Fcode Fat Fway Fnext FisEnd FisFallen Fwritten Fmade Fstate FhandNext FhandSteps FhandWritten FmarkAt Abears AlineStuff Atwins)) (wr := [((am 4), .inl (ak 0, 6, .inl (Alines))), ((am 13), .inl (ak 0, 96, .inl (Aact))), ((am 38), .inl (ak 0, 16, .inl (Aworn)))]) hP hD hS hA [0, 2, 4, 5] [1, 3, 6] rfl rfl (by decide) (by decide) (va_runV (As := [.int (x0)]) (rest := []) ⟨hx, hb, hml, hown, hts⟩ (c_X8_bearsOf l D ak ad _ h am 0 Ftaped Fsize Fplace Fbegin Ftoken Fword Ftold Fwrong Fcode Fat Fway Fnext FisEnd FisFallen Fwritten Fmade Fstate FhandNext FhandSteps FhandWritten FmarkAt Abears AlineStuff Atwins x0 _ hw) (cwV 1 hts gX8_line_X8_bearsOf rfl rfl rfl hv_X8_bearsOf ⟨(Nat.le_trans (Nat.le_of_ble_eq_true rfl) hRf), (Nat.le_trans (Nat.le_of_ble_eq_true rfl) hRl)⟩) (kc_preV (As := [.int (x0)]) (wc := (wW_X8_bearsOf ak ad h am 0 Ftaped Fsize Fplace Fbegin Ftoken Fword Ftold Fwrong Fcode Fat Fway Fnext FisEnd FisFallen Fwritten Fmade Fstate FhandNext FhandSteps FhandWritten FmarkAt Abears AlineStuff Atwins)) hE hT hP hD hS hA [0, 2, 4, 5] (by decide) rfl rfl 0 7 rfl rfl rfl) rfl rfl hl.1 rfl (lv_room (Nat.le_of_ble_eq_true rfl)) dX8_line_72 ⟨hRc.1, hRc.2⟩) (fun r_13 u_12 H locs hw hP hD hS => ?_)
              try dsimp -zeta only at hw
              have hP : va_P D vwCl (wW_X8_line ak ad h am 0 Ftaped Fsize Fplace Fbegin Ftoken Fword Ftold Fwrong Fcode Fat Fway Fnext FisEnd FisFallen Fwritten Fmade Fstate FhandNext FhandSteps FhandWritten FmarkAt Alines Abears Aact AlineStuff Atwins Aworn) H := hP.sub [3, 0, 4, 1, 5, 6, 2] rfl
              have hD : va_D A (wW_X8_line ak ad h am 0 Ftaped Fsize Fplace Fbegin Ftoken Fword Ftold Fwrong Fcode Fat Fway Fnext FisEnd FisFallen Fwritten Fmade Fstate FhandNext FhandSteps FhandWritten FmarkAt Alines Abears Aact AlineStuff Atwins Aworn) := hD.sub [3, 0, 4, 1, 5, 6, 2] (by decide) rfl
              refine lv_goto (tgt := 84) hx hb dX8_line_75 (by decide) ?_
              exact kR84 r_13 0 _ _ _ hw hP hD hS
          · replace hw := hw.2 c_9
            refine lv_aload_n hx hb dX8_line_56 rfl (lv_at hl 0 rfl) ?_
            refine vt_get (D := D) (ci := 7) (v := .ref (am 16)) (C := RX8) (T := TX8) (N := 69) hx hb hts (fun w h => wm_c (wc_X8 w h)) hown hE.1 hP 0 rfl rfl 25 (by decide) tX8_25 (hts (.fieldLink RX8 59 "WornLinesModel" "twins" "[I") (wm_c hw_123)) (fun _ h9 => h9) rfl dX8_line_57 ?_
            refine lv_iload_n hx hb dX8_line_60 rfl (lv_at hl 1 rfl) ?_
            obtain ⟨h_14, hw⟩ := hw
            refine va_iald hx hb hE.1 hP 5 0 rfl rfl (h_14) dX8_line_61 ?_
            refine lv_goto (tgt := 84) hx hb dX8_line_62 (by decide) ?_
            exact kR84 (Atwins (x0).toNatClampNeg) 0 _ _ _ hw hP hD hS
        · replace hw := hw.2 c_8
          refine lv_aload_n hx hb dX8_line_42 rfl (lv_at hl 0 rfl) ?_
          refine vt_get (D := D) (ci := 7) (v := .ref (am 15)) (C := RX8) (T := TX8) (N := 69) hx hb hts (fun w h => wm_c (wc_X8 w h)) hown hE.1 hP 0 rfl rfl 24 (by decide) tX8_24 (hts (.fieldLink RX8 56 "WornLinesModel" "lineStuff" "[I") (wm_c hw_122)) (fun _ h9 => h9) rfl dX8_line_43 ?_
          refine lv_iload_n hx hb dX8_line_46 rfl (lv_at hl 1 rfl) ?_
          obtain ⟨h_15, hw⟩ := hw
          refine va_iald hx hb hE.1 hP 4 0 rfl rfl (h_15) dX8_line_47 ?_
          refine lv_goto (tgt := 84) hx hb dX8_line_48 (by decide) ?_
          exact kR84 (AlineStuff (x0).toNatClampNeg) 0 _ _ _ hw hP hD hS
      · replace hw := hw.2 c_7
        refine lv_aload_n hx hb dX8_line_28 rfl (lv_at hl 0 rfl) ?_
        refine vt_get (D := D) (ci := 7) (v := .ref (am 13)) (C := RX8) (T := TX8) (N := 69) hx hb hts (fun w h => wm_c (wc_X8 w h)) hown hE.1 hP 0 rfl rfl 22 (by decide) tX8_22 (hts (.fieldLink RX8 50 "WornLinesModel" "act" "[I") (wm_c hw_121)) (fun _ h9 => h9) rfl dX8_line_29 ?_
        refine lv_iload_n hx hb dX8_line_32 rfl (lv_at hl 1 rfl) ?_
        obtain ⟨h_16, hw⟩ := hw
        refine va_iald hx hb hE.1 hP 3 0 rfl rfl (h_16) dX8_line_33 ?_
        refine lv_goto (tgt := 84) hx hb dX8_line_34 (by decide) ?_
        exact kR84 (Aact (x0).toNatClampNeg) 0 _ _ _ hw hP hD hS
    · replace hw := hw.2 c_6
      refine lv_iconst (v := (-1)) hx hb dX8_line_22 (by decide) ?_
      exact kR23 (-1) 0 _ _ _ hw hP hD hS
set_option maxHeartbeats 4000000 in
set_option maxRecDepth 100000 in
theorem c_X8_line (l : Launch) (D : va_G) (ak : Nat → ClassId) (ad : Nat → Nat) (sz : Nat) (h : Nat) (am : Nat → Nat) (Fthrown : Int32) (Ftaped : Int32) (Fsize : Int32) (Fplace : Int32) (Fbegin : Int32) (Ftoken : Int32) (Fword : Int64) (Ftold : Int32) (Fwrong : Int32) (Fcode : Int32) (Fat : Int32) (Fway : Int32) (Fnext : Int32) (FisEnd : Int32) (FisFallen : Int32) (Fwritten : Int32) (Fmade : Int32) (Fstate : Int32) (FhandNext : Int32) (FhandSteps : Int32) (FhandWritten : Int32) (FmarkAt : Int32) (Alines : Nat → Int32) (Abears : Nat → Int32) (Aact : Nat → Int32) (AlineStuff : Nat → Int32) (Atwins : Nat → Int32) (Aworn : Nat → Int32) (x0 : Int32) (x1 : Int32) (Φ : Int32 → Int32 → Prop) (hf : wp_X8_line Alines Abears Aact AlineStuff Atwins Aworn x0 x1 Fthrown Φ) : Met l yX8_line wsX8_line ({ frames := 1, cells := 0, slots := 0, locals := 22 }) (cPre D ak ad [.ref h, .int (x0), .int (x1)] ((wW_X8_line ak ad h am Fthrown Ftaped Fsize Fplace Fbegin Ftoken Fword Ftold Fwrong Fcode Fat Fway Fnext FisEnd FisFallen Fwritten Fmade Fstate FhandNext FhandSteps FhandWritten FmarkAt Alines Abears Aact AlineStuff Atwins Aworn)) sz) (cI D (S := (Int32)) (fun (r : Int32) (u : (Int32)) => Φ r u) (fun u => (wW_X8_line ak ad h am u Ftaped Fsize Fplace Fbegin Ftoken Fword Ftold Fwrong Fcode Fat Fway Fnext FisEnd FisFallen Fwritten Fmade Fstate FhandNext FhandSteps FhandWritten FmarkAt Alines Abears Aact AlineStuff Atwins Aworn)) ((wW_X8_line ak ad h am Fthrown Ftaped Fsize Fplace Fbegin Ftoken Fword Ftold Fwrong Fcode Fat Fway Fnext FisEnd FisFallen Fwritten Fmade Fstate FhandNext FhandSteps FhandWritten FmarkAt Alines Abears Aact AlineStuff Atwins Aworn)) sz) 0 0 (va_A ((wW_X8_line ak ad h am Fthrown Ftaped Fsize Fplace Fbegin Ftoken Fword Ftold Fwrong Fcode Fat Fway Fnext FisEnd FisFallen Fwritten Fmade Fstate FhandNext FhandSteps FhandWritten FmarkAt Alines Abears Aact AlineStuff Atwins Aworn)) sz) := by
  refine Met.ofW (cc := cX8_line) (maxL := 3) (ret := (some .int)) (by decide) rfl ?_
  intro p e s m args below meth c s₁ B hml hv
  obtain ⟨rfl, hsz, hP, hE, hD0, hT⟩ := hv
  have hx := B.exec
  have hb := B.bytes
  have hr := B.returns
  have hts := atoms_spec (ws := wsX8_line) B.pre
  have hown : s.vm.findClass RX8 = some m.cls := findClass_of_methodNamed B.named
  have hlocks := B.notSynchronized
  subst hsz
  have hD := hD0.self (sz := s.heap.size)
  generalize hAe : va_A ((wW_X8_line ak ad h am Fthrown Ftaped Fsize Fplace Fbegin Ftoken Fword Ftold Fwrong Fcode Fat Fway Fnext FisEnd FisFallen Fwritten Fmade Fstate FhandNext FhandSteps FhandWritten FmarkAt Alines Abears Aact AlineStuff Atwins Aworn)) s.heap.size = A at hD hT ⊢
  have hA : ∀ q : Nat, s.heap.size ≤ q → A q := fun q h => by rw [← hAe]; exact Or.inr h
  have hS : va_S A s.heap s.heap [] := va_S.rf
  have hl := lv_entry ([.ref h, .int (x0), .int (x1)]) (n := 3) (Nat.le_of_ble_eq_true rfl)
  rw [lg_entry_eq]
  generalize (lg_sl ([.ref h, .int (x0), .int (x1)]) ++ List.replicate (3 - (lg_sl ([.ref h, .int (x0), .int (x1)])).length) Slot.unset).toArray = ls at hl ⊢
  have hl : lv_has ls 3 [(0, .ref h), (1, .int (x0)), (2, .int (x1))] := hl
  exact kj_X8_line_e hx hb hown hts hml hE hT hA (Nat.le_of_ble_eq_true rfl) (Nat.le_of_ble_eq_true rfl) ⟨Nat.le_of_ble_eq_true rfl, Nat.le_of_ble_eq_true rfl⟩ h am Ftaped Fsize Fplace Fbegin Ftoken Fword Ftold Fwrong Fcode Fat Fway Fnext FisEnd FisFallen Fwritten Fmade Fstate FhandNext FhandSteps FhandWritten FmarkAt Alines Abears Aact AlineStuff Atwins Aworn x0 x1 Φ (fun r Fthrown H locs ls hw hP hD hS => W.iret (v := r) hx hb hr (fun t ht hW => ⟨⟨r, Fthrown, rfl, hw, by rw [ht]; exact hP, by rw [hAe]; exact hD⟩, by rw [hAe]; exact hS.F ht⟩) hS.2.2 dX8_line_23) (fun r Fthrown H locs ls hw hP hD hS => W.iret (v := r) hx hb hr (fun t ht hW => ⟨⟨r, Fthrown, rfl, hw, by rw [ht]; exact hP, by rw [hAe]; exact hD⟩, by rw [hAe]; exact hS.F ht⟩) hS.2.2 dX8_line_84) Fthrown _ _ _ hf hP hD hS hl

def wW_X8_lay (ak : Nat → ClassId) (ad : Nat → Nat) (h : Nat) (am : Nat → Nat) (Fthrown : Int32) (Ftaped : Int32) (Fsize : Int32) (Fplace : Int32) (Fbegin : Int32) (Ftoken : Int32) (Fword : Int64) (Ftold : Int32) (Fwrong : Int32) (Fcode : Int32) (Fat : Int32) (Fway : Int32) (Fnext : Int32) (FisEnd : Int32) (FisFallen : Int32) (Fwritten : Int32) (Fmade : Int32) (Fstate : Int32) (FhandNext : Int32) (FhandSteps : Int32) (FhandWritten : Int32) (FmarkAt : Int32) (Astuffs : Nat → Int32) (Alines : Nat → Int32) (AlineStuff : Nat → Int32) (Atwins : Nat → Int32) (Aworn : Nat → Int32) : va_W := [(h, .inr (7, mob am (Fthrown) (Ftaped) (Fsize) (Fplace) (Fbegin) (Ftoken) (Fword) (Ftold) (Fwrong) (Fcode) (Fat) (Fway) (Fnext) (FisEnd) (FisFallen) (Fwritten) (Fmade) (Fstate) (FhandNext) (FhandSteps) (FhandWritten) (FmarkAt))), ((am 1), .inl (ak 0, 6, .inl (Astuffs))), ((am 4), .inl (ak 0, 6, .inl (Alines))), ((am 15), .inl (ak 0, 96, .inl (AlineStuff))), ((am 16), .inl (ak 0, 96, .inl (Atwins))), ((am 38), .inl (ak 0, 16, .inl (Aworn)))]
def wp_X8_lay (Astuffs : Nat → Int32) (Alines : Nat → Int32) (x0 : Int32) (x1 : Int32) (x2 : Int32) (Fthrown : Int32) (AlineStuff : Nat → Int32) (Atwins : Nat → Int32) (Aworn : Nat → Int32) (Φ : Int32 → Int32 → (Nat → Int32) → (Nat → Int32) → (Nat → Int32) → Prop) : Prop := wp_X8_isLine Alines x0 (fun r_2 => (r_2 = 0 → Φ 0 0 AlineStuff Atwins Aworn) ∧ (¬ r_2 = 0 → wp_X8_isStuff Astuffs x1 (fun r_5 => (r_5 = 0 → Φ 0 0 AlineStuff Atwins Aworn) ∧ (¬ r_5 = 0 → wp_X8_within x2 1 4 (fun r_8 => (¬ r_8 = 0 → vp_in x0 96 ∧ vp_in x0 96 ∧ vp_in x0 16 ∧ Φ 1 0 (upd AlineStuff (x0).toNatClampNeg x1) (upd Atwins (x0).toNatClampNeg x2) (upd Aworn (x0).toNatClampNeg 0)) ∧ (r_8 = 0 → Φ 0 0 AlineStuff Atwins Aworn))))))
set_option maxHeartbeats 4000000 in
set_option maxRecDepth 100000 in
theorem kj_X8_lay_e {p : Program} {l : Launch} {e : Env} {R : Room} {s : State} {m : MethodId} {args : Array Value} {below : List Frame} {meth : Method} {c : Code} {cells slots : Nat} {Q : State → Prop} {A : Nat → Prop} {D : va_G} {ak : Nat → ClassId} {ad : Nat → Nat} (hx : p.tables.exec = Jvm.exec) (hb : c.code = cX8_lay) (hown : s.vm.findClass RX8 = some m.cls) (hts : ∀ w ∈ wsX8_lay, w.before args s = true) (hml : c.maxLocals = 4) (hE : EV D ak s) (hT : ST D ak ad A s s.heap) (hA : ∀ q, s.heap.size ≤ q → A q) (hRf : 1 ≤ R.frames) (hRl : 22 ≤ R.locals) (hRc : cells ≤ R.cells ∧ slots ≤ R.slots) (h : Nat) (am : Nat → Nat) (Ftaped : Int32) (Fsize : Int32) (Fplace : Int32) (Fbegin : Int32) (Ftoken : Int32) (Fword : Int64) (Ftold : Int32) (Fwrong : Int32) (Fcode : Int32) (Fat : Int32) (Fway : Int32) (Fnext : Int32) (FisEnd : Int32) (FisFallen : Int32) (Fwritten : Int32) (Fmade : Int32) (Fstate : Int32) (FhandNext : Int32) (FhandSteps : Int32) (FhandWritten : Int32) (FmarkAt : Int32) (Astuffs : Nat → Int32) (Alines : Nat → Int32) (x0 : Int32) (x1 : Int32) (x2 : Int32)  (Φ : Int32 → Int32 → (Nat → Int32) → (Nat → Int32) → (Nat → Int32) → Prop)
    (kR31 : ∀ (r : Int32) (Fthrown : Int32) (AlineStuff : Nat → Int32) (Atwins : Nat → Int32) (Aworn : Nat → Int32) (H : Heap) (locs : List Loc) (ls : Array Slot), (r = 0 ∨ r = 1) → Φ r Fthrown AlineStuff Atwins Aworn → va_P D vwCl (wW_X8_lay ak ad h am Fthrown Ftaped Fsize Fplace Fbegin Ftoken Fword Ftold Fwrong Fcode Fat Fway Fnext FisEnd FisFallen Fwritten Fmade Fstate FhandNext FhandSteps FhandWritten FmarkAt Astuffs Alines AlineStuff Atwins Aworn) H → va_D A (wW_X8_lay ak ad h am Fthrown Ftaped Fsize Fplace Fbegin Ftoken Fword Ftold Fwrong Fcode Fat Fway Fnext FisEnd FisFallen Fwritten Fmade Fstate FhandNext FhandSteps FhandWritten FmarkAt Astuffs Alines AlineStuff Atwins Aworn) → va_S A s.heap H locs → W p l e R s m args below meth c H locs cells slots Q (F0 m 31 ls [.int r]))
    (kR54 : ∀ (r : Int32) (Fthrown : Int32) (AlineStuff : Nat → Int32) (Atwins : Nat → Int32) (Aworn : Nat → Int32) (H : Heap) (locs : List Loc) (ls : Array Slot), (r = 0 ∨ r = 1) → Φ r Fthrown AlineStuff Atwins Aworn → va_P D vwCl (wW_X8_lay ak ad h am Fthrown Ftaped Fsize Fplace Fbegin Ftoken Fword Ftold Fwrong Fcode Fat Fway Fnext FisEnd FisFallen Fwritten Fmade Fstate FhandNext FhandSteps FhandWritten FmarkAt Astuffs Alines AlineStuff Atwins Aworn) H → va_D A (wW_X8_lay ak ad h am Fthrown Ftaped Fsize Fplace Fbegin Ftoken Fword Ftold Fwrong Fcode Fat Fway Fnext FisEnd FisFallen Fwritten Fmade Fstate FhandNext FhandSteps FhandWritten FmarkAt Astuffs Alines AlineStuff Atwins Aworn) → va_S A s.heap H locs → W p l e R s m args below meth c H locs cells slots Q (F0 m 54 ls [.int r]))
    : ∀ (Fthrown : Int32) (AlineStuff : Nat → Int32) (Atwins : Nat → Int32) (Aworn : Nat → Int32) (H : Heap) (locs : List Loc) (ls : Array Slot), wp_X8_lay Astuffs Alines x0 x1 x2 Fthrown AlineStuff Atwins Aworn Φ → va_P D vwCl (wW_X8_lay ak ad h am Fthrown Ftaped Fsize Fplace Fbegin Ftoken Fword Ftold Fwrong Fcode Fat Fway Fnext FisEnd FisFallen Fwritten Fmade Fstate FhandNext FhandSteps FhandWritten FmarkAt Astuffs Alines AlineStuff Atwins Aworn) H → va_D A (wW_X8_lay ak ad h am Fthrown Ftaped Fsize Fplace Fbegin Ftoken Fword Ftold Fwrong Fcode Fat Fway Fnext FisEnd FisFallen Fwritten Fmade Fstate FhandNext FhandSteps FhandWritten FmarkAt Astuffs Alines AlineStuff Atwins Aworn) → va_S A s.heap H locs → lv_has ls 4 [(0, .ref h), (1, .int (x0)), (2, .int (x1)), (3, .int (x2))] → W p l e R s m args below meth c H locs cells slots Q (F0 m 0 ls ([])) := by
  intro Fthrown AlineStuff Atwins Aworn H locs ls hw hP hD hS hl
  delta wp_X8_lay at hw
  refine lv_aload_n hx hb dX8_lay_0 rfl (lv_at hl 0 rfl) ?_
  refine lv_iconst (v := 0) hx hb dX8_lay_1 (by decide) ?_
  refine vt_put (D := D) (ci := 7) (v := .int (0)) (ty := .int) (C := RX8) (T := TX8) (N := 69) hx hb hts (fun w h => wm_c (wc_X8 w h)) tyX8 tyX8_ok nmX8 hown hE.1 hP hD hS 0 rfl rfl 0 (by decide) tX8_0 (hts (.fieldLink RX8 153 "WornLinesModel" "thrown" "I") (wm_c hw_3)) (fun _ h9 => h9) rfl pf_0 (rfl) rfl (Nat.le_of_ble_eq_true rfl) dX8_lay_2 (fun H locs hP hD hS => ?_)
  have hP : va_P D vwCl (wW_X8_lay ak ad h am 0 Ftaped Fsize Fplace Fbegin Ftoken Fword Ftold Fwrong Fcode Fat Fway Fnext FisEnd FisFallen Fwritten Fmade Fstate FhandNext FhandSteps FhandWritten FmarkAt Astuffs Alines AlineStuff Atwins Aworn) H := hP
  have hD : va_D A (wW_X8_lay ak ad h am 0 Ftaped Fsize Fplace Fbegin Ftoken Fword Ftold Fwrong Fcode Fat Fway Fnext FisEnd FisFallen Fwritten Fmade Fstate FhandNext FhandSteps FhandWritten FmarkAt Astuffs Alines AlineStuff Atwins Aworn) := hD
  refine lv_aload_n hx hb dX8_lay_5 rfl (lv_at hl 0 rfl) ?_
  refine lv_iload_n hx hb dX8_lay_6 rfl (lv_at hl 1 rfl) ?_
  refine kc_i (wc := (wW_X8_isLine ak ad h am 0 Ftaped Fsize Fplace Fbegin Ftoken Fword Ftold Fwrong Fcode Fat Fway Fnext FisEnd FisFallen Fwritten Fmade Fstate FhandNext FhandSteps FhandWritten FmarkAt Alines)) (wr := [((am 1), .inl (ak 0, 6, .inl (Astuffs))), ((am 15), .inl (ak 0, 96, .inl (AlineStuff))), ((am 16), .inl (ak 0, 96, .inl (Atwins))), ((am 38), .inl (ak 0, 16, .inl (Aworn)))]) hP hD hS hA [0, 2] [1, 3, 4, 5] rfl rfl (by decide) (by decide) (va_runV (As := [.int (x0)]) (rest := []) ⟨hx, hb, hml, hown, hts⟩ (c_X8_isLine l D ak ad _ h am 0 Ftaped Fsize Fplace Fbegin Ftoken Fword Ftold Fwrong Fcode Fat Fway Fnext FisEnd FisFallen Fwritten Fmade Fstate FhandNext FhandSteps FhandWritten FmarkAt Alines x0 _ hw) (cwV 1 hts gX8_lay_X8_isLine rfl rfl rfl hv_X8_isLine ⟨(Nat.le_trans (Nat.le_of_ble_eq_true rfl) hRf), (Nat.le_trans (Nat.le_of_ble_eq_true rfl) hRl)⟩) (kc_preV (As := [.int (x0)]) (wc := (wW_X8_isLine ak ad h am 0 Ftaped Fsize Fplace Fbegin Ftoken Fword Ftold Fwrong Fcode Fat Fway Fnext FisEnd FisFallen Fwritten Fmade Fstate FhandNext FhandSteps FhandWritten FmarkAt Alines)) hE hT hP hD hS hA [0, 2] (by decide) rfl rfl 0 7 rfl rfl rfl) rfl rfl hl.1 rfl (lv_room (Nat.le_of_ble_eq_true rfl)) dX8_lay_7 ⟨hRc.1, hRc.2⟩) (fun r_2 u_1 H locs hw hP hD hS => ?_)
  try dsimp -zeta only at hw
  have hP : va_P D vwCl (wW_X8_lay ak ad h am 0 Ftaped Fsize Fplace Fbegin Ftoken Fword Ftold Fwrong Fcode Fat Fway Fnext FisEnd FisFallen Fwritten Fmade Fstate FhandNext FhandSteps FhandWritten FmarkAt Astuffs Alines AlineStuff Atwins Aworn) H := hP.sub [4, 0, 5, 1, 2, 3] rfl
  have hD : va_D A (wW_X8_lay ak ad h am 0 Ftaped Fsize Fplace Fbegin Ftoken Fword Ftold Fwrong Fcode Fat Fway Fnext FisEnd FisFallen Fwritten Fmade Fstate FhandNext FhandSteps FhandWritten FmarkAt Astuffs Alines AlineStuff Atwins Aworn) := hD.sub [4, 0, 5, 1, 2, 3] (by decide) rfl
  refine lv_if_eq (tgt := 30) hx hb dX8_lay_10 (by decide) (fun c_3 => ?_) (fun c_3 => ?_)
  · replace hw := hw.1 c_3
    refine lv_iconst (v := 0) hx hb dX8_lay_30 (by decide) ?_
    exact kR31 0 0 AlineStuff Atwins Aworn _ _ _ (Or.inl rfl) hw hP hD hS
  · replace hw := hw.2 c_3
    refine lv_aload_n hx hb dX8_lay_13 rfl (lv_at hl 0 rfl) ?_
    refine lv_iload_n hx hb dX8_lay_14 rfl (lv_at hl 2 rfl) ?_
    refine kc_i (wc := (wW_X8_isStuff ak ad h am 0 Ftaped Fsize Fplace Fbegin Ftoken Fword Ftold Fwrong Fcode Fat Fway Fnext FisEnd FisFallen Fwritten Fmade Fstate FhandNext FhandSteps FhandWritten FmarkAt Astuffs)) (wr := [((am 4), .inl (ak 0, 6, .inl (Alines))), ((am 15), .inl (ak 0, 96, .inl (AlineStuff))), ((am 16), .inl (ak 0, 96, .inl (Atwins))), ((am 38), .inl (ak 0, 16, .inl (Aworn)))]) hP hD hS hA [0, 1] [2, 3, 4, 5] rfl rfl (by decide) (by decide) (va_runV (As := [.int (x1)]) (rest := []) ⟨hx, hb, hml, hown, hts⟩ (c_X8_isStuff l D ak ad _ h am 0 Ftaped Fsize Fplace Fbegin Ftoken Fword Ftold Fwrong Fcode Fat Fway Fnext FisEnd FisFallen Fwritten Fmade Fstate FhandNext FhandSteps FhandWritten FmarkAt Astuffs x1 _ hw) (cwV 1 hts gX8_lay_X8_isStuff rfl rfl rfl hv_X8_isStuff ⟨(Nat.le_trans (Nat.le_of_ble_eq_true rfl) hRf), (Nat.le_trans (Nat.le_of_ble_eq_true rfl) hRl)⟩) (kc_preV (As := [.int (x1)]) (wc := (wW_X8_isStuff ak ad h am 0 Ftaped Fsize Fplace Fbegin Ftoken Fword Ftold Fwrong Fcode Fat Fway Fnext FisEnd FisFallen Fwritten Fmade Fstate FhandNext FhandSteps FhandWritten FmarkAt Astuffs)) hE hT hP hD hS hA [0, 1] (by decide) rfl rfl 0 7 rfl rfl rfl) rfl rfl hl.1 rfl (lv_room (Nat.le_of_ble_eq_true rfl)) dX8_lay_15 ⟨hRc.1, hRc.2⟩) (fun r_5 u_4 H locs hw hP hD hS => ?_)
    try dsimp -zeta only at hw
    have hP : va_P D vwCl (wW_X8_lay ak ad h am 0 Ftaped Fsize Fplace Fbegin Ftoken Fword Ftold Fwrong Fcode Fat Fway Fnext FisEnd FisFallen Fwritten Fmade Fstate FhandNext FhandSteps FhandWritten FmarkAt Astuffs Alines AlineStuff Atwins Aworn) H := hP.sub [4, 5, 0, 1, 2, 3] rfl
    have hD : va_D A (wW_X8_lay ak ad h am 0 Ftaped Fsize Fplace Fbegin Ftoken Fword Ftold Fwrong Fcode Fat Fway Fnext FisEnd FisFallen Fwritten Fmade Fstate FhandNext FhandSteps FhandWritten FmarkAt Astuffs Alines AlineStuff Atwins Aworn) := hD.sub [4, 5, 0, 1, 2, 3] (by decide) rfl
    refine lv_if_eq (tgt := 30) hx hb dX8_lay_18 (by decide) (fun c_6 => ?_) (fun c_6 => ?_)
    · replace hw := hw.1 c_6
      refine lv_iconst (v := 0) hx hb dX8_lay_30 (by decide) ?_
      exact kR31 0 0 AlineStuff Atwins Aworn _ _ _ (Or.inl rfl) hw hP hD hS
    · replace hw := hw.2 c_6
      refine lv_iload_n hx hb dX8_lay_21 rfl (lv_at hl 3 rfl) ?_
      refine lv_iconst (v := 1) hx hb dX8_lay_22 (by decide) ?_
      refine lv_iconst (v := 4) hx hb dX8_lay_23 (by decide) ?_
      refine kc_i (wc := []) (wr := [(h, .inr (7, mob am (0) (Ftaped) (Fsize) (Fplace) (Fbegin) (Ftoken) (Fword) (Ftold) (Fwrong) (Fcode) (Fat) (Fway) (Fnext) (FisEnd) (FisFallen) (Fwritten) (Fmade) (Fstate) (FhandNext) (FhandSteps) (FhandWritten) (FmarkAt))), ((am 1), .inl (ak 0, 6, .inl (Astuffs))), ((am 4), .inl (ak 0, 6, .inl (Alines))), ((am 15), .inl (ak 0, 96, .inl (AlineStuff))), ((am 16), .inl (ak 0, 96, .inl (Atwins))), ((am 38), .inl (ak 0, 16, .inl (Aworn)))]) hP hD hS hA [] [0, 1, 2, 3, 4, 5] rfl rfl (by decide) (by decide) (va_runS (As := [.int (x2), .int (1), .int (4)]) (rest := []) ⟨hx, hb, hml, hown, hts⟩ (c_X8_within l D ak ad _ x2 1 4 _ hw) (va_cwS 3 hts gX8_lay_X8_within rfl rfl rfl hz_X8_within ⟨(Nat.le_trans (Nat.le_of_ble_eq_true rfl) hRf), (Nat.le_trans (Nat.le_of_ble_eq_true rfl) hRl)⟩) (kc_pre (As := [.int (x2), .int (1), .int (4)]) (wc := []) hE hT hP hD hS hA [] (by decide) rfl rfl) rfl rfl hl.1 rfl (lv_room (Nat.le_of_ble_eq_true rfl)) dX8_lay_24 ⟨hRc.1, hRc.2⟩) (fun r_8 u_7 H locs hw hP hD hS => ?_)
      try dsimp -zeta only at hw
      have hP : va_P D vwCl (wW_X8_lay ak ad h am 0 Ftaped Fsize Fplace Fbegin Ftoken Fword Ftold Fwrong Fcode Fat Fway Fnext FisEnd FisFallen Fwritten Fmade Fstate FhandNext FhandSteps FhandWritten FmarkAt Astuffs Alines AlineStuff Atwins Aworn) H := hP.sub [0, 1, 2, 3, 4, 5] rfl
      have hD : va_D A (wW_X8_lay ak ad h am 0 Ftaped Fsize Fplace Fbegin Ftoken Fword Ftold Fwrong Fcode Fat Fway Fnext FisEnd FisFallen Fwritten Fmade Fstate FhandNext FhandSteps FhandWritten FmarkAt Astuffs Alines AlineStuff Atwins Aworn) := hD.sub [0, 1, 2, 3, 4, 5] (by decide) rfl
      refine lv_if_ne (tgt := 32) hx hb dX8_lay_27 (by decide) (fun c_9 => ?_) (fun c_9 => ?_)
      · replace hw := hw.1 c_9
        refine lv_aload_n hx hb dX8_lay_32 rfl (lv_at hl 0 rfl) ?_
        refine vt_get (D := D) (ci := 7) (v := .ref (am 15)) (C := RX8) (T := TX8) (N := 69) hx hb hts (fun w h => wm_c (wc_X8 w h)) hown hE.1 hP 0 rfl rfl 24 (by decide) tX8_24 (hts (.fieldLink RX8 56 "WornLinesModel" "lineStuff" "[I") (wm_c hw_122)) (fun _ h9 => h9) rfl dX8_lay_33 ?_
        refine lv_iload_n hx hb dX8_lay_36 rfl (lv_at hl 1 rfl) ?_
        refine lv_iload_n hx hb dX8_lay_37 rfl (lv_at hl 2 rfl) ?_
        obtain ⟨h_10, hw⟩ := hw
        refine va_iast hx hb hE.1 hP hD hS 3 0 rfl rfl (h_10) dX8_lay_38 (fun H locs hP hD hS => ?_)
        have hP : va_P D vwCl (wW_X8_lay ak ad h am 0 Ftaped Fsize Fplace Fbegin Ftoken Fword Ftold Fwrong Fcode Fat Fway Fnext FisEnd FisFallen Fwritten Fmade Fstate FhandNext FhandSteps FhandWritten FmarkAt Astuffs Alines (upd AlineStuff (x0).toNatClampNeg x1) Atwins Aworn) H := hP
        have hD : va_D A (wW_X8_lay ak ad h am 0 Ftaped Fsize Fplace Fbegin Ftoken Fword Ftold Fwrong Fcode Fat Fway Fnext FisEnd FisFallen Fwritten Fmade Fstate FhandNext FhandSteps FhandWritten FmarkAt Astuffs Alines (upd AlineStuff (x0).toNatClampNeg x1) Atwins Aworn) := hD
        refine lv_aload_n hx hb dX8_lay_39 rfl (lv_at hl 0 rfl) ?_
        refine vt_get (D := D) (ci := 7) (v := .ref (am 16)) (C := RX8) (T := TX8) (N := 69) hx hb hts (fun w h => wm_c (wc_X8 w h)) hown hE.1 hP 0 rfl rfl 25 (by decide) tX8_25 (hts (.fieldLink RX8 59 "WornLinesModel" "twins" "[I") (wm_c hw_123)) (fun _ h9 => h9) rfl dX8_lay_40 ?_
        refine lv_iload_n hx hb dX8_lay_43 rfl (lv_at hl 1 rfl) ?_
        refine lv_iload_n hx hb dX8_lay_44 rfl (lv_at hl 3 rfl) ?_
        obtain ⟨h_11, hw⟩ := hw
        refine va_iast hx hb hE.1 hP hD hS 4 0 rfl rfl (h_11) dX8_lay_45 (fun H locs hP hD hS => ?_)
        have hP : va_P D vwCl (wW_X8_lay ak ad h am 0 Ftaped Fsize Fplace Fbegin Ftoken Fword Ftold Fwrong Fcode Fat Fway Fnext FisEnd FisFallen Fwritten Fmade Fstate FhandNext FhandSteps FhandWritten FmarkAt Astuffs Alines (upd AlineStuff (x0).toNatClampNeg x1) (upd Atwins (x0).toNatClampNeg x2) Aworn) H := hP
        have hD : va_D A (wW_X8_lay ak ad h am 0 Ftaped Fsize Fplace Fbegin Ftoken Fword Ftold Fwrong Fcode Fat Fway Fnext FisEnd FisFallen Fwritten Fmade Fstate FhandNext FhandSteps FhandWritten FmarkAt Astuffs Alines (upd AlineStuff (x0).toNatClampNeg x1) (upd Atwins (x0).toNatClampNeg x2) Aworn) := hD
        refine lv_aload_n hx hb dX8_lay_46 rfl (lv_at hl 0 rfl) ?_
        refine vt_get (D := D) (ci := 7) (v := .ref (am 38)) (C := RX8) (T := TX8) (N := 69) hx hb hts (fun w h => wm_c (wc_X8 w h)) hown hE.1 hP 0 rfl rfl 59 (by decide) tX8_59 (hts (.fieldLink RX8 126 "WornLinesModel" "worn" "[I") (wm_c hw_150)) (fun _ h9 => h9) rfl dX8_lay_47 ?_
        refine lv_iload_n hx hb dX8_lay_50 rfl (lv_at hl 1 rfl) ?_
        refine lv_iconst (v := 0) hx hb dX8_lay_51 (by decide) ?_
        obtain ⟨h_12, hw⟩ := hw
        refine va_iast hx hb hE.1 hP hD hS 5 0 rfl rfl (h_12) dX8_lay_52 (fun H locs hP hD hS => ?_)
        have hP : va_P D vwCl (wW_X8_lay ak ad h am 0 Ftaped Fsize Fplace Fbegin Ftoken Fword Ftold Fwrong Fcode Fat Fway Fnext FisEnd FisFallen Fwritten Fmade Fstate FhandNext FhandSteps FhandWritten FmarkAt Astuffs Alines (upd AlineStuff (x0).toNatClampNeg x1) (upd Atwins (x0).toNatClampNeg x2) (upd Aworn (x0).toNatClampNeg 0)) H := hP
        have hD : va_D A (wW_X8_lay ak ad h am 0 Ftaped Fsize Fplace Fbegin Ftoken Fword Ftold Fwrong Fcode Fat Fway Fnext FisEnd FisFallen Fwritten Fmade Fstate FhandNext FhandSteps FhandWritten FmarkAt Astuffs Alines (upd AlineStuff (x0).toNatClampNeg x1) (upd Atwins (x0).toNatClampNeg x2) (upd Aworn (x0).toNatClampNeg 0)) := hD
        refine lv_iconst (v := 1) hx hb dX8_lay_53 (by decide) ?_
        exact kR54 1 0 (upd AlineStuff (x0).toNatClampNeg x1) (upd Atwins (x0).toNatClampNeg x2) (upd Aworn (x0).toNatClampNeg 0) _ _ _ (Or.inr rfl) hw hP hD hS
      · replace hw := hw.2 c_9
        refine lv_iconst (v := 0) hx hb dX8_lay_30 (by decide) ?_
        exact kR31 0 0 AlineStuff Atwins Aworn _ _ _ (Or.inl rfl) hw hP hD hS
set_option maxHeartbeats 4000000 in
set_option maxRecDepth 100000 in
theorem c_X8_lay (l : Launch) (D : va_G) (ak : Nat → ClassId) (ad : Nat → Nat) (sz : Nat) (h : Nat) (am : Nat → Nat) (Fthrown : Int32) (Ftaped : Int32) (Fsize : Int32) (Fplace : Int32) (Fbegin : Int32) (Ftoken : Int32) (Fword : Int64) (Ftold : Int32) (Fwrong : Int32) (Fcode : Int32) (Fat : Int32) (Fway : Int32) (Fnext : Int32) (FisEnd : Int32) (FisFallen : Int32) (Fwritten : Int32) (Fmade : Int32) (Fstate : Int32) (FhandNext : Int32) (FhandSteps : Int32) (FhandWritten : Int32) (FmarkAt : Int32) (Astuffs : Nat → Int32) (Alines : Nat → Int32) (AlineStuff : Nat → Int32) (Atwins : Nat → Int32) (Aworn : Nat → Int32) (x0 : Int32) (x1 : Int32) (x2 : Int32) (Φ : Int32 → Int32 → (Nat → Int32) → (Nat → Int32) → (Nat → Int32) → Prop) (hf : wp_X8_lay Astuffs Alines x0 x1 x2 Fthrown AlineStuff Atwins Aworn Φ) : Met l yX8_lay wsX8_lay ({ frames := 1, cells := 0, slots := 0, locals := 22 }) (cPre D ak ad [.ref h, .int (x0), .int (x1), .int (x2)] ((wW_X8_lay ak ad h am Fthrown Ftaped Fsize Fplace Fbegin Ftoken Fword Ftold Fwrong Fcode Fat Fway Fnext FisEnd FisFallen Fwritten Fmade Fstate FhandNext FhandSteps FhandWritten FmarkAt Astuffs Alines AlineStuff Atwins Aworn)) sz) (cI D (S := (Int32) × (Nat → Int32) × (Nat → Int32) × (Nat → Int32)) (fun (r : Int32) (u : (Int32) × (Nat → Int32) × (Nat → Int32) × (Nat → Int32)) => Φ r u.1 u.2.1 u.2.2.1 u.2.2.2) (fun u => (wW_X8_lay ak ad h am u.1 Ftaped Fsize Fplace Fbegin Ftoken Fword Ftold Fwrong Fcode Fat Fway Fnext FisEnd FisFallen Fwritten Fmade Fstate FhandNext FhandSteps FhandWritten FmarkAt Astuffs Alines u.2.1 u.2.2.1 u.2.2.2)) ((wW_X8_lay ak ad h am Fthrown Ftaped Fsize Fplace Fbegin Ftoken Fword Ftold Fwrong Fcode Fat Fway Fnext FisEnd FisFallen Fwritten Fmade Fstate FhandNext FhandSteps FhandWritten FmarkAt Astuffs Alines AlineStuff Atwins Aworn)) sz) 0 0 (va_A ((wW_X8_lay ak ad h am Fthrown Ftaped Fsize Fplace Fbegin Ftoken Fword Ftold Fwrong Fcode Fat Fway Fnext FisEnd FisFallen Fwritten Fmade Fstate FhandNext FhandSteps FhandWritten FmarkAt Astuffs Alines AlineStuff Atwins Aworn)) sz) := by
  refine Met.ofW (cc := cX8_lay) (maxL := 4) (ret := (some .boolean)) (by decide) rfl ?_
  intro p e s m args below meth c s₁ B hml hv
  obtain ⟨rfl, hsz, hP, hE, hD0, hT⟩ := hv
  have hx := B.exec
  have hb := B.bytes
  have hr := B.returns
  have hts := atoms_spec (ws := wsX8_lay) B.pre
  have hown : s.vm.findClass RX8 = some m.cls := findClass_of_methodNamed B.named
  have hlocks := B.notSynchronized
  subst hsz
  have hD := hD0.self (sz := s.heap.size)
  generalize hAe : va_A ((wW_X8_lay ak ad h am Fthrown Ftaped Fsize Fplace Fbegin Ftoken Fword Ftold Fwrong Fcode Fat Fway Fnext FisEnd FisFallen Fwritten Fmade Fstate FhandNext FhandSteps FhandWritten FmarkAt Astuffs Alines AlineStuff Atwins Aworn)) s.heap.size = A at hD hT ⊢
  have hA : ∀ q : Nat, s.heap.size ≤ q → A q := fun q h => by rw [← hAe]; exact Or.inr h
  have hS : va_S A s.heap s.heap [] := va_S.rf
  have hl := lv_entry ([.ref h, .int (x0), .int (x1), .int (x2)]) (n := 4) (Nat.le_of_ble_eq_true rfl)
  rw [lg_entry_eq]
  generalize (lg_sl ([.ref h, .int (x0), .int (x1), .int (x2)]) ++ List.replicate (4 - (lg_sl ([.ref h, .int (x0), .int (x1), .int (x2)])).length) Slot.unset).toArray = ls at hl ⊢
  have hl : lv_has ls 4 [(0, .ref h), (1, .int (x0)), (2, .int (x1)), (3, .int (x2))] := hl
  exact kj_X8_lay_e hx hb hown hts hml hE hT hA (Nat.le_of_ble_eq_true rfl) (Nat.le_of_ble_eq_true rfl) ⟨Nat.le_of_ble_eq_true rfl, Nat.le_of_ble_eq_true rfl⟩ h am Ftaped Fsize Fplace Fbegin Ftoken Fword Ftold Fwrong Fcode Fat Fway Fnext FisEnd FisFallen Fwritten Fmade Fstate FhandNext FhandSteps FhandWritten FmarkAt Astuffs Alines x0 x1 x2 Φ (fun r Fthrown AlineStuff Atwins Aworn H locs ls hz hw hP hD hS => W.zret (v := r) hx hb hr (bl_zn hz) (fun t ht hW => ⟨⟨r, (Fthrown, AlineStuff, Atwins, Aworn), rfl, hw, by rw [ht]; exact hP, by rw [hAe]; exact hD⟩, by rw [hAe]; exact hS.F ht⟩) hS.2.2 dX8_lay_31) (fun r Fthrown AlineStuff Atwins Aworn H locs ls hz hw hP hD hS => W.zret (v := r) hx hb hr (bl_zn hz) (fun t ht hW => ⟨⟨r, (Fthrown, AlineStuff, Atwins, Aworn), rfl, hw, by rw [ht]; exact hP, by rw [hAe]; exact hD⟩, by rw [hAe]; exact hS.F ht⟩) hS.2.2 dX8_lay_54) Fthrown AlineStuff Atwins Aworn _ _ _ hf hP hD hS hl

def wW_X8_cost (ak : Nat → ClassId) (ad : Nat → Nat) (h : Nat) (am : Nat → Nat) (Fthrown : Int32) (Ftaped : Int32) (Fsize : Int32) (Fplace : Int32) (Fbegin : Int32) (Ftoken : Int32) (Fword : Int64) (Ftold : Int32) (Fwrong : Int32) (Fcode : Int32) (Fat : Int32) (Fway : Int32) (Fnext : Int32) (FisEnd : Int32) (FisFallen : Int32) (Fwritten : Int32) (Fmade : Int32) (Fstate : Int32) (FhandNext : Int32) (FhandSteps : Int32) (FhandWritten : Int32) (FmarkAt : Int32) (Alines : Nat → Int32) (Acosts : Nat → Int32) (AlineStuff : Nat → Int32) (Atwins : Nat → Int32) : va_W := [(h, .inr (7, mob am (Fthrown) (Ftaped) (Fsize) (Fplace) (Fbegin) (Ftoken) (Fword) (Ftold) (Fwrong) (Fcode) (Fat) (Fway) (Fnext) (FisEnd) (FisFallen) (Fwritten) (Fmade) (Fstate) (FhandNext) (FhandSteps) (FhandWritten) (FmarkAt))), ((am 4), .inl (ak 0, 6, .inl (Alines))), ((am 8), .inl (ak 0, 24, .inl (Acosts))), ((am 15), .inl (ak 0, 96, .inl (AlineStuff))), ((am 16), .inl (ak 0, 96, .inl (Atwins)))]
def lb_X8_cost_9 (Alines : Nat → Int32) (Acosts : Nat → Int32) (AlineStuff : Nat → Int32) (Atwins : Nat → Int32)  (Φ : Int32 → Int32 → Prop) (back : Int32 → Int32 → Int32 → Prop) (Fthrown : Int32) (l1 : Int32) (l2 : Int32) : Prop := ((Alines 0) ≤ l2 → Φ l1 Fthrown) ∧ (¬ (Alines 0) ≤ l2 → vp_in l2 96 ∧ vp_in (AlineStuff (l2).toNatClampNeg) 24 ∧ vp_in l2 96 ∧ back Fthrown (l1 + ((Acosts (AlineStuff (l2).toNatClampNeg).toNatClampNeg) * (Atwins (l2).toNatClampNeg))) (l2 + 1))
def lf_X8_cost_9 (Alines : Nat → Int32) (Acosts : Nat → Int32) (AlineStuff : Nat → Int32) (Atwins : Nat → Int32)  (Φ : Int32 → Int32 → Prop) : Nat → Int32 → Int32 → Int32 → Prop
  | 0, _, _, _ => False
  | n_ + 1, Fthrown, l1, l2 => lb_X8_cost_9 Alines Acosts AlineStuff Atwins  Φ (lf_X8_cost_9 Alines Acosts AlineStuff Atwins  Φ n_) Fthrown l1 l2
theorem li_X8_cost_9 (Alines : Nat → Int32) (Acosts : Nat → Int32) (AlineStuff : Nat → Int32) (Atwins : Nat → Int32)  (Φ : Int32 → Int32 → Prop) (Inv : Int32 → Int32 → Int32 → Prop) (mu : Int32 → Int32 → Int32 → Nat) (hs : ∀ (back : Int32 → Int32 → Int32 → Prop) (Fthrown : Int32) (l1 : Int32) (l2 : Int32), Inv Fthrown l1 l2 → (∀ (Fthrown' : Int32) (l1' : Int32) (l2' : Int32), Inv Fthrown' l1' l2' → mu Fthrown' l1' l2' < mu Fthrown l1 l2 → back Fthrown' l1' l2') → lb_X8_cost_9 Alines Acosts AlineStuff Atwins  Φ back Fthrown l1 l2) : ∀ (n_ : Nat) (Fthrown : Int32) (l1 : Int32) (l2 : Int32), Inv Fthrown l1 l2 → mu Fthrown l1 l2 < n_ → lf_X8_cost_9 Alines Acosts AlineStuff Atwins  Φ n_ Fthrown l1 l2 := by
  intro n_
  induction n_ with
  | zero => intro Fthrown l1 l2 _ h; exact absurd h (Nat.not_lt_zero _)
  | succ n_ ih => intro Fthrown l1 l2 hI hm; exact hs _ Fthrown l1 l2 hI (fun Fthrown' l1' l2' h1 h2 => ih Fthrown' l1' l2' h1 (by omega))
set_option maxHeartbeats 4000000 in
set_option maxRecDepth 100000 in
theorem lp_X8_cost_9 {p : Program} {l : Launch} {e : Env} {R : Room} {s : State} {m : MethodId} {args : Array Value} {below : List Frame} {meth : Method} {c : Code} {cells slots : Nat} {Q : State → Prop} {A : Nat → Prop} {D : va_G} {ak : Nat → ClassId} {ad : Nat → Nat} (hx : p.tables.exec = Jvm.exec) (hb : c.code = cX8_cost) (hown : s.vm.findClass RX8 = some m.cls) (hts : ∀ w ∈ wsX8_cost, w.before args s = true) (hml : c.maxLocals = 3) (hE : EV D ak s) (hT : ST D ak ad A s s.heap) (hA : ∀ q, s.heap.size ≤ q → A q) (h : Nat) (am : Nat → Nat) (Ftaped : Int32) (Fsize : Int32) (Fplace : Int32) (Fbegin : Int32) (Ftoken : Int32) (Fword : Int64) (Ftold : Int32) (Fwrong : Int32) (Fcode : Int32) (Fat : Int32) (Fway : Int32) (Fnext : Int32) (FisEnd : Int32) (FisFallen : Int32) (Fwritten : Int32) (Fmade : Int32) (Fstate : Int32) (FhandNext : Int32) (FhandSteps : Int32) (FhandWritten : Int32) (FmarkAt : Int32) (Alines : Nat → Int32) (Acosts : Nat → Int32) (AlineStuff : Nat → Int32) (Atwins : Nat → Int32)  (Φ : Int32 → Int32 → Prop)
    (kR47 : ∀ (r : Int32) (Fthrown : Int32) (H : Heap) (locs : List Loc) (ls : Array Slot), Φ r Fthrown → va_P D vwCl (wW_X8_cost ak ad h am Fthrown Ftaped Fsize Fplace Fbegin Ftoken Fword Ftold Fwrong Fcode Fat Fway Fnext FisEnd FisFallen Fwritten Fmade Fstate FhandNext FhandSteps FhandWritten FmarkAt Alines Acosts AlineStuff Atwins) H → va_D A (wW_X8_cost ak ad h am Fthrown Ftaped Fsize Fplace Fbegin Ftoken Fword Ftold Fwrong Fcode Fat Fway Fnext FisEnd FisFallen Fwritten Fmade Fstate FhandNext FhandSteps FhandWritten FmarkAt Alines Acosts AlineStuff Atwins) → va_S A s.heap H locs → W p l e R s m args below meth c H locs cells slots Q (F0 m 47 ls [.int r]))
    : ∀ (n_ : Nat) (Fthrown : Int32) (l1 : Int32) (l2 : Int32) (H : Heap) (locs : List Loc) (ls : Array Slot), lf_X8_cost_9 Alines Acosts AlineStuff Atwins  Φ n_ Fthrown l1 l2 → va_P D vwCl (wW_X8_cost ak ad h am Fthrown Ftaped Fsize Fplace Fbegin Ftoken Fword Ftold Fwrong Fcode Fat Fway Fnext FisEnd FisFallen Fwritten Fmade Fstate FhandNext FhandSteps FhandWritten FmarkAt Alines Acosts AlineStuff Atwins) H → va_D A (wW_X8_cost ak ad h am Fthrown Ftaped Fsize Fplace Fbegin Ftoken Fword Ftold Fwrong Fcode Fat Fway Fnext FisEnd FisFallen Fwritten Fmade Fstate FhandNext FhandSteps FhandWritten FmarkAt Alines Acosts AlineStuff Atwins) → va_S A s.heap H locs → lv_has ls 3 [(0, .ref h), (1, .int (l1)), (2, .int (l2))] → W p l e R s m args below meth c H locs cells slots Q (F0 m 9 ls ([])) := by
  intro n_
  induction n_ with
  | zero =>
    intro Fthrown l1 l2 H locs ls hw
    exact hw.elim
  | succ n_ ih =>
    intro Fthrown l1 l2 H locs ls hw hP hD hS hl
    have hw : lb_X8_cost_9 Alines Acosts AlineStuff Atwins  Φ (lf_X8_cost_9 Alines Acosts AlineStuff Atwins  Φ n_) Fthrown l1 l2 := hw
    delta lb_X8_cost_9 at hw
    refine lv_iload_n hx hb dX8_cost_9 rfl (lv_at hl 2 rfl) ?_
    refine lv_aload_n hx hb dX8_cost_10 rfl (lv_at hl 0 rfl) ?_
    refine vt_get (D := D) (ci := 7) (v := .ref (am 4)) (C := RX8) (T := TX8) (N := 69) hx hb hts (fun w h => wm_c (wc_X8 w h)) hown hE.1 hP 0 rfl rfl 13 (by decide) tX8_13 (hts (.fieldLink RX8 22 "WornLinesModel" "lines" "[I") (wm_c hw_75)) (fun _ h9 => h9) rfl dX8_cost_11 ?_
    refine lv_iconst (v := 0) hx hb dX8_cost_14 (by decide) ?_
    refine va_iald hx hb hE.1 hP 1 0 rfl rfl (by unfold vp_in; decide) dX8_cost_15 ?_
    refine W.eq (g2 := F0 m 16 ls (.int (Alines 0) :: .int (l2) :: [])) rfl ?_
    refine lv_icmp_ge (tgt := 46) hx hb dX8_cost_16 (by decide) (fun c_1 => ?_) (fun c_1 => ?_)
    · replace hw := hw.1 c_1
      refine lv_iload_n hx hb dX8_cost_46 rfl (lv_at hl 1 rfl) ?_
      exact kR47 l1 Fthrown _ _ _ hw hP hD hS
    · replace hw := hw.2 c_1
      refine lv_iload_n hx hb dX8_cost_19 rfl (lv_at hl 1 rfl) ?_
      refine lv_aload_n hx hb dX8_cost_20 rfl (lv_at hl 0 rfl) ?_
      refine vt_get (D := D) (ci := 7) (v := .ref (am 8)) (C := RX8) (T := TX8) (N := 69) hx hb hts (fun w h => wm_c (wc_X8 w h)) hown hE.1 hP 0 rfl rfl 17 (by decide) tX8_17 (hts (.fieldLink RX8 35 "WornLinesModel" "costs" "[I") (wm_c hw_97)) (fun _ h9 => h9) rfl dX8_cost_21 ?_
      refine lv_aload_n hx hb dX8_cost_24 rfl (lv_at hl 0 rfl) ?_
      refine vt_get (D := D) (ci := 7) (v := .ref (am 15)) (C := RX8) (T := TX8) (N := 69) hx hb hts (fun w h => wm_c (wc_X8 w h)) hown hE.1 hP 0 rfl rfl 24 (by decide) tX8_24 (hts (.fieldLink RX8 56 "WornLinesModel" "lineStuff" "[I") (wm_c hw_122)) (fun _ h9 => h9) rfl dX8_cost_25 ?_
      refine lv_iload_n hx hb dX8_cost_28 rfl (lv_at hl 2 rfl) ?_
      obtain ⟨h_2, hw⟩ := hw
      refine va_iald hx hb hE.1 hP 3 0 rfl rfl (h_2) dX8_cost_29 ?_
      obtain ⟨h_3, hw⟩ := hw
      refine va_iald hx hb hE.1 hP 2 0 rfl rfl (h_3) dX8_cost_30 ?_
      refine lv_aload_n hx hb dX8_cost_31 rfl (lv_at hl 0 rfl) ?_
      refine vt_get (D := D) (ci := 7) (v := .ref (am 16)) (C := RX8) (T := TX8) (N := 69) hx hb hts (fun w h => wm_c (wc_X8 w h)) hown hE.1 hP 0 rfl rfl 25 (by decide) tX8_25 (hts (.fieldLink RX8 59 "WornLinesModel" "twins" "[I") (wm_c hw_123)) (fun _ h9 => h9) rfl dX8_cost_32 ?_
      refine lv_iload_n hx hb dX8_cost_35 rfl (lv_at hl 2 rfl) ?_
      obtain ⟨h_4, hw⟩ := hw
      refine va_iald hx hb hE.1 hP 4 0 rfl rfl (h_4) dX8_cost_36 ?_
      refine lv_imul hx hb dX8_cost_37 ?_
      refine lv_iadd hx hb dX8_cost_38 ?_
      refine lv_istore_n (lv' := [(1, .int (l1 + ((Acosts (AlineStuff (l2).toNatClampNeg).toNatClampNeg) * (Atwins (l2).toNatClampNeg)))), (0, .ref h), (2, .int (l2))]) hx hb dX8_cost_39 rfl hl (by decide) rfl (fun ls hl => ?_)
      refine lv_iinc (v := (l2 + 1)) (lv' := [(2, .int (l2 + 1)), (1, .int (l1 + ((Acosts (AlineStuff (l2).toNatClampNeg).toNatClampNeg) * (Atwins (l2).toNatClampNeg)))), (0, .ref h)]) hx hb dX8_cost_40 hl (k := 2) rfl (rfl) (by decide) rfl (fun ls hl => ?_)
      refine lv_goto (tgt := 9) hx hb dX8_cost_43 (by decide) ?_
      exact ih Fthrown (l1 + ((Acosts (AlineStuff (l2).toNatClampNeg).toNatClampNeg) * (Atwins (l2).toNatClampNeg))) (l2 + 1) _ _ _ hw hP hD hS (lv_sub hl [2, 1, 0] rfl)

def wp_X8_cost (Alines : Nat → Int32) (Acosts : Nat → Int32) (AlineStuff : Nat → Int32) (Atwins : Nat → Int32) (Fthrown : Int32) (Φ : Int32 → Int32 → Prop) : Prop := (∃ n_, lf_X8_cost_9 Alines Acosts AlineStuff Atwins  Φ n_ 0 0 0)
set_option maxHeartbeats 4000000 in
set_option maxRecDepth 100000 in
theorem kj_X8_cost_e {p : Program} {l : Launch} {e : Env} {R : Room} {s : State} {m : MethodId} {args : Array Value} {below : List Frame} {meth : Method} {c : Code} {cells slots : Nat} {Q : State → Prop} {A : Nat → Prop} {D : va_G} {ak : Nat → ClassId} {ad : Nat → Nat} (hx : p.tables.exec = Jvm.exec) (hb : c.code = cX8_cost) (hown : s.vm.findClass RX8 = some m.cls) (hts : ∀ w ∈ wsX8_cost, w.before args s = true) (hml : c.maxLocals = 3) (hE : EV D ak s) (hT : ST D ak ad A s s.heap) (hA : ∀ q, s.heap.size ≤ q → A q) (h : Nat) (am : Nat → Nat) (Ftaped : Int32) (Fsize : Int32) (Fplace : Int32) (Fbegin : Int32) (Ftoken : Int32) (Fword : Int64) (Ftold : Int32) (Fwrong : Int32) (Fcode : Int32) (Fat : Int32) (Fway : Int32) (Fnext : Int32) (FisEnd : Int32) (FisFallen : Int32) (Fwritten : Int32) (Fmade : Int32) (Fstate : Int32) (FhandNext : Int32) (FhandSteps : Int32) (FhandWritten : Int32) (FmarkAt : Int32) (Alines : Nat → Int32) (Acosts : Nat → Int32) (AlineStuff : Nat → Int32) (Atwins : Nat → Int32)  (Φ : Int32 → Int32 → Prop)
    (kR47 : ∀ (r : Int32) (Fthrown : Int32) (H : Heap) (locs : List Loc) (ls : Array Slot), Φ r Fthrown → va_P D vwCl (wW_X8_cost ak ad h am Fthrown Ftaped Fsize Fplace Fbegin Ftoken Fword Ftold Fwrong Fcode Fat Fway Fnext FisEnd FisFallen Fwritten Fmade Fstate FhandNext FhandSteps FhandWritten FmarkAt Alines Acosts AlineStuff Atwins) H → va_D A (wW_X8_cost ak ad h am Fthrown Ftaped Fsize Fplace Fbegin Ftoken Fword Ftold Fwrong Fcode Fat Fway Fnext FisEnd FisFallen Fwritten Fmade Fstate FhandNext FhandSteps FhandWritten FmarkAt Alines Acosts AlineStuff Atwins) → va_S A s.heap H locs → W p l e R s m args below meth c H locs cells slots Q (F0 m 47 ls [.int r]))
    : ∀ (Fthrown : Int32) (H : Heap) (locs : List Loc) (ls : Array Slot), wp_X8_cost Alines Acosts AlineStuff Atwins Fthrown Φ → va_P D vwCl (wW_X8_cost ak ad h am Fthrown Ftaped Fsize Fplace Fbegin Ftoken Fword Ftold Fwrong Fcode Fat Fway Fnext FisEnd FisFallen Fwritten Fmade Fstate FhandNext FhandSteps FhandWritten FmarkAt Alines Acosts AlineStuff Atwins) H → va_D A (wW_X8_cost ak ad h am Fthrown Ftaped Fsize Fplace Fbegin Ftoken Fword Ftold Fwrong Fcode Fat Fway Fnext FisEnd FisFallen Fwritten Fmade Fstate FhandNext FhandSteps FhandWritten FmarkAt Alines Acosts AlineStuff Atwins) → va_S A s.heap H locs → lv_has ls 3 [(0, .ref h)] → W p l e R s m args below meth c H locs cells slots Q (F0 m 0 ls ([])) := by
  intro Fthrown H locs ls hw hP hD hS hl
  delta wp_X8_cost at hw
  refine lv_aload_n hx hb dX8_cost_0 rfl (lv_at hl 0 rfl) ?_
  refine lv_iconst (v := 0) hx hb dX8_cost_1 (by decide) ?_
  refine vt_put (D := D) (ci := 7) (v := .int (0)) (ty := .int) (C := RX8) (T := TX8) (N := 69) hx hb hts (fun w h => wm_c (wc_X8 w h)) tyX8 tyX8_ok nmX8 hown hE.1 hP hD hS 0 rfl rfl 0 (by decide) tX8_0 (hts (.fieldLink RX8 153 "WornLinesModel" "thrown" "I") (wm_c hw_3)) (fun _ h9 => h9) rfl pf_0 (rfl) rfl (Nat.le_of_ble_eq_true rfl) dX8_cost_2 (fun H locs hP hD hS => ?_)
  have hP : va_P D vwCl (wW_X8_cost ak ad h am 0 Ftaped Fsize Fplace Fbegin Ftoken Fword Ftold Fwrong Fcode Fat Fway Fnext FisEnd FisFallen Fwritten Fmade Fstate FhandNext FhandSteps FhandWritten FmarkAt Alines Acosts AlineStuff Atwins) H := hP
  have hD : va_D A (wW_X8_cost ak ad h am 0 Ftaped Fsize Fplace Fbegin Ftoken Fword Ftold Fwrong Fcode Fat Fway Fnext FisEnd FisFallen Fwritten Fmade Fstate FhandNext FhandSteps FhandWritten FmarkAt Alines Acosts AlineStuff Atwins) := hD
  refine lv_iconst (v := 0) hx hb dX8_cost_5 (by decide) ?_
  refine lv_istore_n (lv' := [(1, .int (0)), (0, .ref h)]) hx hb dX8_cost_6 rfl hl (by decide) rfl (fun ls hl => ?_)
  refine lv_iconst (v := 0) hx hb dX8_cost_7 (by decide) ?_
  refine lv_istore_n (lv' := [(2, .int (0)), (1, .int (0)), (0, .ref h)]) hx hb dX8_cost_8 rfl hl (by decide) rfl (fun ls hl => ?_)
  obtain ⟨n1_, hw⟩ := hw
  exact lp_X8_cost_9 hx hb hown hts hml hE hT hA h am Ftaped Fsize Fplace Fbegin Ftoken Fword Ftold Fwrong Fcode Fat Fway Fnext FisEnd FisFallen Fwritten Fmade Fstate FhandNext FhandSteps FhandWritten FmarkAt Alines Acosts AlineStuff Atwins  Φ  kR47 n1_ 0 0 0 _ _ _ hw hP hD hS (lv_sub hl [2, 1, 0] rfl)
set_option maxHeartbeats 4000000 in
set_option maxRecDepth 100000 in
theorem c_X8_cost (l : Launch) (D : va_G) (ak : Nat → ClassId) (ad : Nat → Nat) (sz : Nat) (h : Nat) (am : Nat → Nat) (Fthrown : Int32) (Ftaped : Int32) (Fsize : Int32) (Fplace : Int32) (Fbegin : Int32) (Ftoken : Int32) (Fword : Int64) (Ftold : Int32) (Fwrong : Int32) (Fcode : Int32) (Fat : Int32) (Fway : Int32) (Fnext : Int32) (FisEnd : Int32) (FisFallen : Int32) (Fwritten : Int32) (Fmade : Int32) (Fstate : Int32) (FhandNext : Int32) (FhandSteps : Int32) (FhandWritten : Int32) (FmarkAt : Int32) (Alines : Nat → Int32) (Acosts : Nat → Int32) (AlineStuff : Nat → Int32) (Atwins : Nat → Int32) (Φ : Int32 → Int32 → Prop) (hf : wp_X8_cost Alines Acosts AlineStuff Atwins Fthrown Φ) : Met l yX8_cost wsX8_cost ({ frames := 0, cells := 0, slots := 0, locals := 0 }) (cPre D ak ad [.ref h] ((wW_X8_cost ak ad h am Fthrown Ftaped Fsize Fplace Fbegin Ftoken Fword Ftold Fwrong Fcode Fat Fway Fnext FisEnd FisFallen Fwritten Fmade Fstate FhandNext FhandSteps FhandWritten FmarkAt Alines Acosts AlineStuff Atwins)) sz) (cI D (S := (Int32)) (fun (r : Int32) (u : (Int32)) => Φ r u) (fun u => (wW_X8_cost ak ad h am u Ftaped Fsize Fplace Fbegin Ftoken Fword Ftold Fwrong Fcode Fat Fway Fnext FisEnd FisFallen Fwritten Fmade Fstate FhandNext FhandSteps FhandWritten FmarkAt Alines Acosts AlineStuff Atwins)) ((wW_X8_cost ak ad h am Fthrown Ftaped Fsize Fplace Fbegin Ftoken Fword Ftold Fwrong Fcode Fat Fway Fnext FisEnd FisFallen Fwritten Fmade Fstate FhandNext FhandSteps FhandWritten FmarkAt Alines Acosts AlineStuff Atwins)) sz) 0 0 (va_A ((wW_X8_cost ak ad h am Fthrown Ftaped Fsize Fplace Fbegin Ftoken Fword Ftold Fwrong Fcode Fat Fway Fnext FisEnd FisFallen Fwritten Fmade Fstate FhandNext FhandSteps FhandWritten FmarkAt Alines Acosts AlineStuff Atwins)) sz) := by
  refine Met.ofW (cc := cX8_cost) (maxL := 3) (ret := (some .int)) (by decide) rfl ?_
  intro p e s m args below meth c s₁ B hml hv
  obtain ⟨rfl, hsz, hP, hE, hD0, hT⟩ := hv
  have hx := B.exec
  have hb := B.bytes
  have hr := B.returns
  have hts := atoms_spec (ws := wsX8_cost) B.pre
  have hown : s.vm.findClass RX8 = some m.cls := findClass_of_methodNamed B.named
  have hlocks := B.notSynchronized
  subst hsz
  have hD := hD0.self (sz := s.heap.size)
  generalize hAe : va_A ((wW_X8_cost ak ad h am Fthrown Ftaped Fsize Fplace Fbegin Ftoken Fword Ftold Fwrong Fcode Fat Fway Fnext FisEnd FisFallen Fwritten Fmade Fstate FhandNext FhandSteps FhandWritten FmarkAt Alines Acosts AlineStuff Atwins)) s.heap.size = A at hD hT ⊢
  have hA : ∀ q : Nat, s.heap.size ≤ q → A q := fun q h => by rw [← hAe]; exact Or.inr h
  have hS : va_S A s.heap s.heap [] := va_S.rf
  have hl := lv_entry ([.ref h]) (n := 3) (Nat.le_of_ble_eq_true rfl)
  rw [lg_entry_eq]
  generalize (lg_sl ([.ref h]) ++ List.replicate (3 - (lg_sl ([.ref h])).length) Slot.unset).toArray = ls at hl ⊢
  have hl : lv_has ls 3 [(0, .ref h)] := hl
  exact kj_X8_cost_e hx hb hown hts hml hE hT hA h am Ftaped Fsize Fplace Fbegin Ftoken Fword Ftold Fwrong Fcode Fat Fway Fnext FisEnd FisFallen Fwritten Fmade Fstate FhandNext FhandSteps FhandWritten FmarkAt Alines Acosts AlineStuff Atwins Φ (fun r Fthrown H locs ls hw hP hD hS => W.iret (v := r) hx hb hr (fun t ht hW => ⟨⟨r, Fthrown, rfl, hw, by rw [ht]; exact hP, by rw [hAe]; exact hD⟩, by rw [hAe]; exact hS.F ht⟩) hS.2.2 dX8_cost_47) Fthrown _ _ _ hf hP hD hS hl

def wW_X8_manyOf (ak : Nat → ClassId) (ad : Nat → Nat) (h : Nat) (am : Nat → Nat) (Fthrown : Int32) (Ftaped : Int32) (Fsize : Int32) (Fplace : Int32) (Fbegin : Int32) (Ftoken : Int32) (Fword : Int64) (Ftold : Int32) (Fwrong : Int32) (Fcode : Int32) (Fat : Int32) (Fway : Int32) (Fnext : Int32) (FisEnd : Int32) (FisFallen : Int32) (Fwritten : Int32) (Fmade : Int32) (Fstate : Int32) (FhandNext : Int32) (FhandSteps : Int32) (FhandWritten : Int32) (FmarkAt : Int32) (Ainputs : Nat → Int32) (AinputLeast : Nat → Int32) (AinputMost : Nat → Int32) : va_W := [(h, .inr (7, mob am (Fthrown) (Ftaped) (Fsize) (Fplace) (Fbegin) (Ftoken) (Fword) (Ftold) (Fwrong) (Fcode) (Fat) (Fway) (Fnext) (FisEnd) (FisFallen) (Fwritten) (Fmade) (Fstate) (FhandNext) (FhandSteps) (FhandWritten) (FmarkAt))), ((am 3), .inl (ak 0, 6, .inl (Ainputs))), ((am 11), .inl (ak 0, 12, .inl (AinputLeast))), ((am 12), .inl (ak 0, 12, .inl (AinputMost)))]
def wp_X8_manyOf (Ainputs : Nat → Int32) (AinputLeast : Nat → Int32) (AinputMost : Nat → Int32) (x0 : Int32) (x1 : Int32)  (Φ : Int32 → Prop) : Prop := vp_in x0 6 ∧ ((Ainputs (x0).toNatClampNeg) ≤ x1 → Φ 1 ) ∧ (¬ (Ainputs (x0).toNatClampNeg) ≤ x1 → vp_in ((2 * x0) + x1) 12 ∧ vp_in ((2 * x0) + x1) 12 ∧ Φ (((AinputMost ((2 * x0) + x1).toNatClampNeg) - (AinputLeast ((2 * x0) + x1).toNatClampNeg)) + 1) )
set_option maxHeartbeats 4000000 in
set_option maxRecDepth 100000 in
theorem kj_X8_manyOf_e {p : Program} {l : Launch} {e : Env} {R : Room} {s : State} {m : MethodId} {args : Array Value} {below : List Frame} {meth : Method} {c : Code} {cells slots : Nat} {Q : State → Prop} {A : Nat → Prop} {D : va_G} {ak : Nat → ClassId} {ad : Nat → Nat} (hx : p.tables.exec = Jvm.exec) (hb : c.code = cX8_manyOf) (hown : s.vm.findClass RX8 = some m.cls) (hts : ∀ w ∈ wsX8_manyOf, w.before args s = true) (hml : c.maxLocals = 3) (hE : EV D ak s) (hT : ST D ak ad A s s.heap) (hA : ∀ q, s.heap.size ≤ q → A q) (h : Nat) (am : Nat → Nat) (Fthrown : Int32) (Ftaped : Int32) (Fsize : Int32) (Fplace : Int32) (Fbegin : Int32) (Ftoken : Int32) (Fword : Int64) (Ftold : Int32) (Fwrong : Int32) (Fcode : Int32) (Fat : Int32) (Fway : Int32) (Fnext : Int32) (FisEnd : Int32) (FisFallen : Int32) (Fwritten : Int32) (Fmade : Int32) (Fstate : Int32) (FhandNext : Int32) (FhandSteps : Int32) (FhandWritten : Int32) (FmarkAt : Int32) (Ainputs : Nat → Int32) (AinputLeast : Nat → Int32) (AinputMost : Nat → Int32) (x0 : Int32) (x1 : Int32)  (Φ : Int32 → Prop)
    (kR37 : ∀ (r : Int32)  (H : Heap) (locs : List Loc) (ls : Array Slot), Φ r  → va_P D vwCl (wW_X8_manyOf ak ad h am Fthrown Ftaped Fsize Fplace Fbegin Ftoken Fword Ftold Fwrong Fcode Fat Fway Fnext FisEnd FisFallen Fwritten Fmade Fstate FhandNext FhandSteps FhandWritten FmarkAt Ainputs AinputLeast AinputMost) H → va_D A (wW_X8_manyOf ak ad h am Fthrown Ftaped Fsize Fplace Fbegin Ftoken Fword Ftold Fwrong Fcode Fat Fway Fnext FisEnd FisFallen Fwritten Fmade Fstate FhandNext FhandSteps FhandWritten FmarkAt Ainputs AinputLeast AinputMost) → va_S A s.heap H locs → W p l e R s m args below meth c H locs cells slots Q (F0 m 37 ls [.int r]))
    : ∀  (H : Heap) (locs : List Loc) (ls : Array Slot), wp_X8_manyOf Ainputs AinputLeast AinputMost x0 x1  Φ → va_P D vwCl (wW_X8_manyOf ak ad h am Fthrown Ftaped Fsize Fplace Fbegin Ftoken Fword Ftold Fwrong Fcode Fat Fway Fnext FisEnd FisFallen Fwritten Fmade Fstate FhandNext FhandSteps FhandWritten FmarkAt Ainputs AinputLeast AinputMost) H → va_D A (wW_X8_manyOf ak ad h am Fthrown Ftaped Fsize Fplace Fbegin Ftoken Fword Ftold Fwrong Fcode Fat Fway Fnext FisEnd FisFallen Fwritten Fmade Fstate FhandNext FhandSteps FhandWritten FmarkAt Ainputs AinputLeast AinputMost) → va_S A s.heap H locs → lv_has ls 3 [(0, .ref h), (1, .int (x0)), (2, .int (x1))] → W p l e R s m args below meth c H locs cells slots Q (F0 m 0 ls ([])) := by
  intro  H locs ls hw hP hD hS hl
  delta wp_X8_manyOf at hw
  refine lv_iload_n hx hb dX8_manyOf_0 rfl (lv_at hl 2 rfl) ?_
  refine lv_aload_n hx hb dX8_manyOf_1 rfl (lv_at hl 0 rfl) ?_
  refine vt_get (D := D) (ci := 7) (v := .ref (am 3)) (C := RX8) (T := TX8) (N := 69) hx hb hts (fun w h => wm_c (wc_X8 w h)) hown hE.1 hP 0 rfl rfl 12 (by decide) tX8_12 (hts (.fieldLink RX8 19 "WornLinesModel" "inputs" "[I") (wm_c hw_116)) (fun _ h9 => h9) rfl dX8_manyOf_2 ?_
  refine lv_iload_n hx hb dX8_manyOf_5 rfl (lv_at hl 1 rfl) ?_
  obtain ⟨h_1, hw⟩ := hw
  refine va_iald hx hb hE.1 hP 1 0 rfl rfl (h_1) dX8_manyOf_6 ?_
  refine lv_icmp_ge (tgt := 36) hx hb dX8_manyOf_7 (by decide) (fun c_2 => ?_) (fun c_2 => ?_)
  · replace hw := hw.1 c_2
    refine lv_iconst (v := 1) hx hb dX8_manyOf_36 (by decide) ?_
    exact kR37 1  _ _ _ hw hP hD hS
  · replace hw := hw.2 c_2
    refine lv_aload_n hx hb dX8_manyOf_10 rfl (lv_at hl 0 rfl) ?_
    refine vt_get (D := D) (ci := 7) (v := .ref (am 12)) (C := RX8) (T := TX8) (N := 69) hx hb hts (fun w h => wm_c (wc_X8 w h)) hown hE.1 hP 0 rfl rfl 21 (by decide) tX8_21 (hts (.fieldLink RX8 47 "WornLinesModel" "inputMost" "[I") (wm_c hw_118)) (fun _ h9 => h9) rfl dX8_manyOf_11 ?_
    refine lv_iconst (v := 2) hx hb dX8_manyOf_14 (by decide) ?_
    refine lv_iload_n hx hb dX8_manyOf_15 rfl (lv_at hl 1 rfl) ?_
    refine lv_imul hx hb dX8_manyOf_16 ?_
    refine lv_iload_n hx hb dX8_manyOf_17 rfl (lv_at hl 2 rfl) ?_
    refine lv_iadd hx hb dX8_manyOf_18 ?_
    obtain ⟨h_3, hw⟩ := hw
    refine va_iald hx hb hE.1 hP 3 0 rfl rfl (h_3) dX8_manyOf_19 ?_
    refine lv_aload_n hx hb dX8_manyOf_20 rfl (lv_at hl 0 rfl) ?_
    refine vt_get (D := D) (ci := 7) (v := .ref (am 11)) (C := RX8) (T := TX8) (N := 69) hx hb hts (fun w h => wm_c (wc_X8 w h)) hown hE.1 hP 0 rfl rfl 20 (by decide) tX8_20 (hts (.fieldLink RX8 44 "WornLinesModel" "inputLeast" "[I") (wm_c hw_117)) (fun _ h9 => h9) rfl dX8_manyOf_21 ?_
    refine lv_iconst (v := 2) hx hb dX8_manyOf_24 (by decide) ?_
    refine lv_iload_n hx hb dX8_manyOf_25 rfl (lv_at hl 1 rfl) ?_
    refine lv_imul hx hb dX8_manyOf_26 ?_
    refine lv_iload_n hx hb dX8_manyOf_27 rfl (lv_at hl 2 rfl) ?_
    refine lv_iadd hx hb dX8_manyOf_28 ?_
    obtain ⟨h_4, hw⟩ := hw
    refine va_iald hx hb hE.1 hP 2 0 rfl rfl (h_4) dX8_manyOf_29 ?_
    refine lv_isub hx hb dX8_manyOf_30 ?_
    refine lv_iconst (v := 1) hx hb dX8_manyOf_31 (by decide) ?_
    refine lv_iadd hx hb dX8_manyOf_32 ?_
    refine lv_goto (tgt := 37) hx hb dX8_manyOf_33 (by decide) ?_
    exact kR37 (((AinputMost ((2 * x0) + x1).toNatClampNeg) - (AinputLeast ((2 * x0) + x1).toNatClampNeg)) + 1)  _ _ _ hw hP hD hS
set_option maxHeartbeats 4000000 in
set_option maxRecDepth 100000 in
theorem c_X8_manyOf (l : Launch) (D : va_G) (ak : Nat → ClassId) (ad : Nat → Nat) (sz : Nat) (h : Nat) (am : Nat → Nat) (Fthrown : Int32) (Ftaped : Int32) (Fsize : Int32) (Fplace : Int32) (Fbegin : Int32) (Ftoken : Int32) (Fword : Int64) (Ftold : Int32) (Fwrong : Int32) (Fcode : Int32) (Fat : Int32) (Fway : Int32) (Fnext : Int32) (FisEnd : Int32) (FisFallen : Int32) (Fwritten : Int32) (Fmade : Int32) (Fstate : Int32) (FhandNext : Int32) (FhandSteps : Int32) (FhandWritten : Int32) (FmarkAt : Int32) (Ainputs : Nat → Int32) (AinputLeast : Nat → Int32) (AinputMost : Nat → Int32) (x0 : Int32) (x1 : Int32) (Φ : Int32 → Prop) (hf : wp_X8_manyOf Ainputs AinputLeast AinputMost x0 x1 Φ) : Met l yX8_manyOf wsX8_manyOf ({ frames := 0, cells := 0, slots := 0, locals := 0 }) (cPre D ak ad [.ref h, .int (x0), .int (x1)] ((wW_X8_manyOf ak ad h am Fthrown Ftaped Fsize Fplace Fbegin Ftoken Fword Ftold Fwrong Fcode Fat Fway Fnext FisEnd FisFallen Fwritten Fmade Fstate FhandNext FhandSteps FhandWritten FmarkAt Ainputs AinputLeast AinputMost)) sz) (cI D (S := Unit) (fun (r : Int32) (u : Unit) => Φ r ) (fun u => (wW_X8_manyOf ak ad h am Fthrown Ftaped Fsize Fplace Fbegin Ftoken Fword Ftold Fwrong Fcode Fat Fway Fnext FisEnd FisFallen Fwritten Fmade Fstate FhandNext FhandSteps FhandWritten FmarkAt Ainputs AinputLeast AinputMost)) ((wW_X8_manyOf ak ad h am Fthrown Ftaped Fsize Fplace Fbegin Ftoken Fword Ftold Fwrong Fcode Fat Fway Fnext FisEnd FisFallen Fwritten Fmade Fstate FhandNext FhandSteps FhandWritten FmarkAt Ainputs AinputLeast AinputMost)) sz) 0 0 (va_A ((wW_X8_manyOf ak ad h am Fthrown Ftaped Fsize Fplace Fbegin Ftoken Fword Ftold Fwrong Fcode Fat Fway Fnext FisEnd FisFallen Fwritten Fmade Fstate FhandNext FhandSteps FhandWritten FmarkAt Ainputs AinputLeast AinputMost)) sz) := by
  refine Met.ofW (cc := cX8_manyOf) (maxL := 3) (ret := (some .int)) (by decide) rfl ?_
  intro p e s m args below meth c s₁ B hml hv
  obtain ⟨rfl, hsz, hP, hE, hD0, hT⟩ := hv
  have hx := B.exec
  have hb := B.bytes
  have hr := B.returns
  have hts := atoms_spec (ws := wsX8_manyOf) B.pre
  have hown : s.vm.findClass RX8 = some m.cls := findClass_of_methodNamed B.named
  have hlocks := B.notSynchronized
  subst hsz
  have hD := hD0.self (sz := s.heap.size)
  generalize hAe : va_A ((wW_X8_manyOf ak ad h am Fthrown Ftaped Fsize Fplace Fbegin Ftoken Fword Ftold Fwrong Fcode Fat Fway Fnext FisEnd FisFallen Fwritten Fmade Fstate FhandNext FhandSteps FhandWritten FmarkAt Ainputs AinputLeast AinputMost)) s.heap.size = A at hD hT ⊢
  have hA : ∀ q : Nat, s.heap.size ≤ q → A q := fun q h => by rw [← hAe]; exact Or.inr h
  have hS : va_S A s.heap s.heap [] := va_S.rf
  have hl := lv_entry ([.ref h, .int (x0), .int (x1)]) (n := 3) (Nat.le_of_ble_eq_true rfl)
  rw [lg_entry_eq]
  generalize (lg_sl ([.ref h, .int (x0), .int (x1)]) ++ List.replicate (3 - (lg_sl ([.ref h, .int (x0), .int (x1)])).length) Slot.unset).toArray = ls at hl ⊢
  have hl : lv_has ls 3 [(0, .ref h), (1, .int (x0)), (2, .int (x1))] := hl
  exact kj_X8_manyOf_e hx hb hown hts hml hE hT hA h am Fthrown Ftaped Fsize Fplace Fbegin Ftoken Fword Ftold Fwrong Fcode Fat Fway Fnext FisEnd FisFallen Fwritten Fmade Fstate FhandNext FhandSteps FhandWritten FmarkAt Ainputs AinputLeast AinputMost x0 x1 Φ (fun r  H locs ls hw hP hD hS => W.iret (v := r) hx hb hr (fun t ht hW => ⟨⟨r, (), rfl, hw, by rw [ht]; exact hP, by rw [hAe]; exact hD⟩, by rw [hAe]; exact hS.F ht⟩) hS.2.2 dX8_manyOf_37)  _ _ _ hf hP hD hS hl

def wW_X8_inputsOf (ak : Nat → ClassId) (ad : Nat → Nat) (h : Nat) (am : Nat → Nat) (Fthrown : Int32) (Ftaped : Int32) (Fsize : Int32) (Fplace : Int32) (Fbegin : Int32) (Ftoken : Int32) (Fword : Int64) (Ftold : Int32) (Fwrong : Int32) (Fcode : Int32) (Fat : Int32) (Fway : Int32) (Fnext : Int32) (FisEnd : Int32) (FisFallen : Int32) (Fwritten : Int32) (Fmade : Int32) (Fstate : Int32) (FhandNext : Int32) (FhandSteps : Int32) (FhandWritten : Int32) (FmarkAt : Int32) (Ainputs : Nat → Int32) (AinputLeast : Nat → Int32) (AinputMost : Nat → Int32) : va_W := [(h, .inr (7, mob am (Fthrown) (Ftaped) (Fsize) (Fplace) (Fbegin) (Ftoken) (Fword) (Ftold) (Fwrong) (Fcode) (Fat) (Fway) (Fnext) (FisEnd) (FisFallen) (Fwritten) (Fmade) (Fstate) (FhandNext) (FhandSteps) (FhandWritten) (FmarkAt))), ((am 3), .inl (ak 0, 6, .inl (Ainputs))), ((am 11), .inl (ak 0, 12, .inl (AinputLeast))), ((am 12), .inl (ak 0, 12, .inl (AinputMost)))]
def wp_X8_inputsOf (Ainputs : Nat → Int32) (AinputLeast : Nat → Int32) (AinputMost : Nat → Int32) (x0 : Int32)  (Φ : Int32 → Prop) : Prop := wp_X8_manyOf Ainputs AinputLeast AinputMost x0 0 (fun r_2 => wp_X8_manyOf Ainputs AinputLeast AinputMost x0 1 (fun r_4 => Φ (r_2 * r_4) ))
set_option maxHeartbeats 4000000 in
set_option maxRecDepth 100000 in
theorem kj_X8_inputsOf_e {p : Program} {l : Launch} {e : Env} {R : Room} {s : State} {m : MethodId} {args : Array Value} {below : List Frame} {meth : Method} {c : Code} {cells slots : Nat} {Q : State → Prop} {A : Nat → Prop} {D : va_G} {ak : Nat → ClassId} {ad : Nat → Nat} (hx : p.tables.exec = Jvm.exec) (hb : c.code = cX8_inputsOf) (hown : s.vm.findClass RX8 = some m.cls) (hts : ∀ w ∈ wsX8_inputsOf, w.before args s = true) (hml : c.maxLocals = 2) (hE : EV D ak s) (hT : ST D ak ad A s s.heap) (hA : ∀ q, s.heap.size ≤ q → A q) (hRf : 1 ≤ R.frames) (hRl : 22 ≤ R.locals) (hRc : cells ≤ R.cells ∧ slots ≤ R.slots) (h : Nat) (am : Nat → Nat) (Fthrown : Int32) (Ftaped : Int32) (Fsize : Int32) (Fplace : Int32) (Fbegin : Int32) (Ftoken : Int32) (Fword : Int64) (Ftold : Int32) (Fwrong : Int32) (Fcode : Int32) (Fat : Int32) (Fway : Int32) (Fnext : Int32) (FisEnd : Int32) (FisFallen : Int32) (Fwritten : Int32) (Fmade : Int32) (Fstate : Int32) (FhandNext : Int32) (FhandSteps : Int32) (FhandWritten : Int32) (FmarkAt : Int32) (Ainputs : Nat → Int32) (AinputLeast : Nat → Int32) (AinputMost : Nat → Int32) (x0 : Int32)  (Φ : Int32 → Prop)
    (kR13 : ∀ (r : Int32)  (H : Heap) (locs : List Loc) (ls : Array Slot), Φ r  → va_P D vwCl (wW_X8_inputsOf ak ad h am Fthrown Ftaped Fsize Fplace Fbegin Ftoken Fword Ftold Fwrong Fcode Fat Fway Fnext FisEnd FisFallen Fwritten Fmade Fstate FhandNext FhandSteps FhandWritten FmarkAt Ainputs AinputLeast AinputMost) H → va_D A (wW_X8_inputsOf ak ad h am Fthrown Ftaped Fsize Fplace Fbegin Ftoken Fword Ftold Fwrong Fcode Fat Fway Fnext FisEnd FisFallen Fwritten Fmade Fstate FhandNext FhandSteps FhandWritten FmarkAt Ainputs AinputLeast AinputMost) → va_S A s.heap H locs → W p l e R s m args below meth c H locs cells slots Q (F0 m 13 ls [.int r]))
    : ∀  (H : Heap) (locs : List Loc) (ls : Array Slot), wp_X8_inputsOf Ainputs AinputLeast AinputMost x0  Φ → va_P D vwCl (wW_X8_inputsOf ak ad h am Fthrown Ftaped Fsize Fplace Fbegin Ftoken Fword Ftold Fwrong Fcode Fat Fway Fnext FisEnd FisFallen Fwritten Fmade Fstate FhandNext FhandSteps FhandWritten FmarkAt Ainputs AinputLeast AinputMost) H → va_D A (wW_X8_inputsOf ak ad h am Fthrown Ftaped Fsize Fplace Fbegin Ftoken Fword Ftold Fwrong Fcode Fat Fway Fnext FisEnd FisFallen Fwritten Fmade Fstate FhandNext FhandSteps FhandWritten FmarkAt Ainputs AinputLeast AinputMost) → va_S A s.heap H locs → lv_has ls 2 [(0, .ref h), (1, .int (x0))] → W p l e R s m args below meth c H locs cells slots Q (F0 m 0 ls ([])) := by
  intro  H locs ls hw hP hD hS hl
  delta wp_X8_inputsOf at hw
  refine lv_aload_n hx hb dX8_inputsOf_0 rfl (lv_at hl 0 rfl) ?_
  refine lv_iload_n hx hb dX8_inputsOf_1 rfl (lv_at hl 1 rfl) ?_
  refine lv_iconst (v := 0) hx hb dX8_inputsOf_2 (by decide) ?_
  refine kc_i (wc := (wW_X8_manyOf ak ad h am Fthrown Ftaped Fsize Fplace Fbegin Ftoken Fword Ftold Fwrong Fcode Fat Fway Fnext FisEnd FisFallen Fwritten Fmade Fstate FhandNext FhandSteps FhandWritten FmarkAt Ainputs AinputLeast AinputMost)) (wr := []) hP hD hS hA [0, 1, 2, 3] [] rfl rfl (by decide) (by decide) (va_runV (As := [.int (x0), .int (0)]) (rest := []) ⟨hx, hb, hml, hown, hts⟩ (c_X8_manyOf l D ak ad _ h am Fthrown Ftaped Fsize Fplace Fbegin Ftoken Fword Ftold Fwrong Fcode Fat Fway Fnext FisEnd FisFallen Fwritten Fmade Fstate FhandNext FhandSteps FhandWritten FmarkAt Ainputs AinputLeast AinputMost x0 0 _ hw) (cwV 2 hts gX8_inputsOf_X8_manyOf rfl rfl rfl hv_X8_manyOf ⟨(Nat.le_trans (Nat.le_of_ble_eq_true rfl) hRf), (Nat.le_trans (Nat.le_of_ble_eq_true rfl) hRl)⟩) (kc_preV (As := [.int (x0), .int (0)]) (wc := (wW_X8_manyOf ak ad h am Fthrown Ftaped Fsize Fplace Fbegin Ftoken Fword Ftold Fwrong Fcode Fat Fway Fnext FisEnd FisFallen Fwritten Fmade Fstate FhandNext FhandSteps FhandWritten FmarkAt Ainputs AinputLeast AinputMost)) hE hT hP hD hS hA [0, 1, 2, 3] (by decide) rfl rfl 0 7 rfl rfl rfl) rfl rfl hl.1 rfl (lv_room (Nat.le_of_ble_eq_true rfl)) dX8_inputsOf_3 ⟨hRc.1, hRc.2⟩) (fun r_2 u_1 H locs hw hP hD hS => ?_)
  try dsimp -zeta only at hw
  have hP : va_P D vwCl (wW_X8_inputsOf ak ad h am Fthrown Ftaped Fsize Fplace Fbegin Ftoken Fword Ftold Fwrong Fcode Fat Fway Fnext FisEnd FisFallen Fwritten Fmade Fstate FhandNext FhandSteps FhandWritten FmarkAt Ainputs AinputLeast AinputMost) H := hP.sub [0, 1, 2, 3] rfl
  have hD : va_D A (wW_X8_inputsOf ak ad h am Fthrown Ftaped Fsize Fplace Fbegin Ftoken Fword Ftold Fwrong Fcode Fat Fway Fnext FisEnd FisFallen Fwritten Fmade Fstate FhandNext FhandSteps FhandWritten FmarkAt Ainputs AinputLeast AinputMost) := hD.sub [0, 1, 2, 3] (by decide) rfl
  refine lv_aload_n hx hb dX8_inputsOf_6 rfl (lv_at hl 0 rfl) ?_
  refine lv_iload_n hx hb dX8_inputsOf_7 rfl (lv_at hl 1 rfl) ?_
  refine lv_iconst (v := 1) hx hb dX8_inputsOf_8 (by decide) ?_
  refine kc_i (wc := (wW_X8_manyOf ak ad h am Fthrown Ftaped Fsize Fplace Fbegin Ftoken Fword Ftold Fwrong Fcode Fat Fway Fnext FisEnd FisFallen Fwritten Fmade Fstate FhandNext FhandSteps FhandWritten FmarkAt Ainputs AinputLeast AinputMost)) (wr := []) hP hD hS hA [0, 1, 2, 3] [] rfl rfl (by decide) (by decide) (va_runV (As := [.int (x0), .int (1)]) (rest := [.int (r_2)]) ⟨hx, hb, hml, hown, hts⟩ (c_X8_manyOf l D ak ad _ h am Fthrown Ftaped Fsize Fplace Fbegin Ftoken Fword Ftold Fwrong Fcode Fat Fway Fnext FisEnd FisFallen Fwritten Fmade Fstate FhandNext FhandSteps FhandWritten FmarkAt Ainputs AinputLeast AinputMost x0 1 _ hw) (cwV 2 hts gX8_inputsOf_X8_manyOf rfl rfl rfl hv_X8_manyOf ⟨(Nat.le_trans (Nat.le_of_ble_eq_true rfl) hRf), (Nat.le_trans (Nat.le_of_ble_eq_true rfl) hRl)⟩) (kc_preV (As := [.int (x0), .int (1)]) (wc := (wW_X8_manyOf ak ad h am Fthrown Ftaped Fsize Fplace Fbegin Ftoken Fword Ftold Fwrong Fcode Fat Fway Fnext FisEnd FisFallen Fwritten Fmade Fstate FhandNext FhandSteps FhandWritten FmarkAt Ainputs AinputLeast AinputMost)) hE hT hP hD hS hA [0, 1, 2, 3] (by decide) rfl rfl 0 7 rfl rfl rfl) rfl rfl hl.1 rfl (lv_room (Nat.le_of_ble_eq_true rfl)) dX8_inputsOf_9 ⟨hRc.1, hRc.2⟩) (fun r_4 u_3 H locs hw hP hD hS => ?_)
  try dsimp -zeta only at hw
  have hP : va_P D vwCl (wW_X8_inputsOf ak ad h am Fthrown Ftaped Fsize Fplace Fbegin Ftoken Fword Ftold Fwrong Fcode Fat Fway Fnext FisEnd FisFallen Fwritten Fmade Fstate FhandNext FhandSteps FhandWritten FmarkAt Ainputs AinputLeast AinputMost) H := hP.sub [0, 1, 2, 3] rfl
  have hD : va_D A (wW_X8_inputsOf ak ad h am Fthrown Ftaped Fsize Fplace Fbegin Ftoken Fword Ftold Fwrong Fcode Fat Fway Fnext FisEnd FisFallen Fwritten Fmade Fstate FhandNext FhandSteps FhandWritten FmarkAt Ainputs AinputLeast AinputMost) := hD.sub [0, 1, 2, 3] (by decide) rfl
  refine lv_imul hx hb dX8_inputsOf_12 ?_
  exact kR13 (r_2 * r_4)  _ _ _ hw hP hD hS
set_option maxHeartbeats 4000000 in
set_option maxRecDepth 100000 in
theorem c_X8_inputsOf (l : Launch) (D : va_G) (ak : Nat → ClassId) (ad : Nat → Nat) (sz : Nat) (h : Nat) (am : Nat → Nat) (Fthrown : Int32) (Ftaped : Int32) (Fsize : Int32) (Fplace : Int32) (Fbegin : Int32) (Ftoken : Int32) (Fword : Int64) (Ftold : Int32) (Fwrong : Int32) (Fcode : Int32) (Fat : Int32) (Fway : Int32) (Fnext : Int32) (FisEnd : Int32) (FisFallen : Int32) (Fwritten : Int32) (Fmade : Int32) (Fstate : Int32) (FhandNext : Int32) (FhandSteps : Int32) (FhandWritten : Int32) (FmarkAt : Int32) (Ainputs : Nat → Int32) (AinputLeast : Nat → Int32) (AinputMost : Nat → Int32) (x0 : Int32) (Φ : Int32 → Prop) (hf : wp_X8_inputsOf Ainputs AinputLeast AinputMost x0 Φ) : Met l yX8_inputsOf wsX8_inputsOf ({ frames := 1, cells := 0, slots := 0, locals := 22 }) (cPre D ak ad [.ref h, .int (x0)] ((wW_X8_inputsOf ak ad h am Fthrown Ftaped Fsize Fplace Fbegin Ftoken Fword Ftold Fwrong Fcode Fat Fway Fnext FisEnd FisFallen Fwritten Fmade Fstate FhandNext FhandSteps FhandWritten FmarkAt Ainputs AinputLeast AinputMost)) sz) (cI D (S := Unit) (fun (r : Int32) (u : Unit) => Φ r ) (fun u => (wW_X8_inputsOf ak ad h am Fthrown Ftaped Fsize Fplace Fbegin Ftoken Fword Ftold Fwrong Fcode Fat Fway Fnext FisEnd FisFallen Fwritten Fmade Fstate FhandNext FhandSteps FhandWritten FmarkAt Ainputs AinputLeast AinputMost)) ((wW_X8_inputsOf ak ad h am Fthrown Ftaped Fsize Fplace Fbegin Ftoken Fword Ftold Fwrong Fcode Fat Fway Fnext FisEnd FisFallen Fwritten Fmade Fstate FhandNext FhandSteps FhandWritten FmarkAt Ainputs AinputLeast AinputMost)) sz) 0 0 (va_A ((wW_X8_inputsOf ak ad h am Fthrown Ftaped Fsize Fplace Fbegin Ftoken Fword Ftold Fwrong Fcode Fat Fway Fnext FisEnd FisFallen Fwritten Fmade Fstate FhandNext FhandSteps FhandWritten FmarkAt Ainputs AinputLeast AinputMost)) sz) := by
  refine Met.ofW (cc := cX8_inputsOf) (maxL := 2) (ret := (some .int)) (by decide) rfl ?_
  intro p e s m args below meth c s₁ B hml hv
  obtain ⟨rfl, hsz, hP, hE, hD0, hT⟩ := hv
  have hx := B.exec
  have hb := B.bytes
  have hr := B.returns
  have hts := atoms_spec (ws := wsX8_inputsOf) B.pre
  have hown : s.vm.findClass RX8 = some m.cls := findClass_of_methodNamed B.named
  have hlocks := B.notSynchronized
  subst hsz
  have hD := hD0.self (sz := s.heap.size)
  generalize hAe : va_A ((wW_X8_inputsOf ak ad h am Fthrown Ftaped Fsize Fplace Fbegin Ftoken Fword Ftold Fwrong Fcode Fat Fway Fnext FisEnd FisFallen Fwritten Fmade Fstate FhandNext FhandSteps FhandWritten FmarkAt Ainputs AinputLeast AinputMost)) s.heap.size = A at hD hT ⊢
  have hA : ∀ q : Nat, s.heap.size ≤ q → A q := fun q h => by rw [← hAe]; exact Or.inr h
  have hS : va_S A s.heap s.heap [] := va_S.rf
  have hl := lv_entry ([.ref h, .int (x0)]) (n := 2) (Nat.le_of_ble_eq_true rfl)
  rw [lg_entry_eq]
  generalize (lg_sl ([.ref h, .int (x0)]) ++ List.replicate (2 - (lg_sl ([.ref h, .int (x0)])).length) Slot.unset).toArray = ls at hl ⊢
  have hl : lv_has ls 2 [(0, .ref h), (1, .int (x0))] := hl
  exact kj_X8_inputsOf_e hx hb hown hts hml hE hT hA (Nat.le_of_ble_eq_true rfl) (Nat.le_of_ble_eq_true rfl) ⟨Nat.le_of_ble_eq_true rfl, Nat.le_of_ble_eq_true rfl⟩ h am Fthrown Ftaped Fsize Fplace Fbegin Ftoken Fword Ftold Fwrong Fcode Fat Fway Fnext FisEnd FisFallen Fwritten Fmade Fstate FhandNext FhandSteps FhandWritten FmarkAt Ainputs AinputLeast AinputMost x0 Φ (fun r  H locs ls hw hP hD hS => W.iret (v := r) hx hb hr (fun t ht hW => ⟨⟨r, (), rfl, hw, by rw [ht]; exact hP, by rw [hAe]; exact hD⟩, by rw [hAe]; exact hS.F ht⟩) hS.2.2 dX8_inputsOf_13)  _ _ _ hf hP hD hS hl

def wW_X8_inputs (ak : Nat → ClassId) (ad : Nat → Nat) (h : Nat) (am : Nat → Nat) (Fthrown : Int32) (Ftaped : Int32) (Fsize : Int32) (Fplace : Int32) (Fbegin : Int32) (Ftoken : Int32) (Fword : Int64) (Ftold : Int32) (Fwrong : Int32) (Fcode : Int32) (Fat : Int32) (Fway : Int32) (Fnext : Int32) (FisEnd : Int32) (FisFallen : Int32) (Fwritten : Int32) (Fmade : Int32) (Fstate : Int32) (FhandNext : Int32) (FhandSteps : Int32) (FhandWritten : Int32) (FmarkAt : Int32) (Ainputs : Nat → Int32) (AinputLeast : Nat → Int32) (AinputMost : Nat → Int32) : va_W := [(h, .inr (7, mob am (Fthrown) (Ftaped) (Fsize) (Fplace) (Fbegin) (Ftoken) (Fword) (Ftold) (Fwrong) (Fcode) (Fat) (Fway) (Fnext) (FisEnd) (FisFallen) (Fwritten) (Fmade) (Fstate) (FhandNext) (FhandSteps) (FhandWritten) (FmarkAt))), ((am 3), .inl (ak 0, 6, .inl (Ainputs))), ((am 11), .inl (ak 0, 12, .inl (AinputLeast))), ((am 12), .inl (ak 0, 12, .inl (AinputMost)))]
def wp_X8_inputs (Ainputs : Nat → Int32) (AinputLeast : Nat → Int32) (AinputMost : Nat → Int32) (Fthrown : Int32) (Φ : Int32 → Int32 → Prop) : Prop := wp_X8_inputsOf Ainputs AinputLeast AinputMost 0 (fun r_2 => Φ r_2 0)
set_option maxHeartbeats 4000000 in
set_option maxRecDepth 100000 in
theorem kj_X8_inputs_e {p : Program} {l : Launch} {e : Env} {R : Room} {s : State} {m : MethodId} {args : Array Value} {below : List Frame} {meth : Method} {c : Code} {cells slots : Nat} {Q : State → Prop} {A : Nat → Prop} {D : va_G} {ak : Nat → ClassId} {ad : Nat → Nat} (hx : p.tables.exec = Jvm.exec) (hb : c.code = cX8_inputs) (hown : s.vm.findClass RX8 = some m.cls) (hts : ∀ w ∈ wsX8_inputs, w.before args s = true) (hml : c.maxLocals = 1) (hE : EV D ak s) (hT : ST D ak ad A s s.heap) (hA : ∀ q, s.heap.size ≤ q → A q) (hRf : 2 ≤ R.frames) (hRl : 43 ≤ R.locals) (hRc : cells ≤ R.cells ∧ slots ≤ R.slots) (h : Nat) (am : Nat → Nat) (Ftaped : Int32) (Fsize : Int32) (Fplace : Int32) (Fbegin : Int32) (Ftoken : Int32) (Fword : Int64) (Ftold : Int32) (Fwrong : Int32) (Fcode : Int32) (Fat : Int32) (Fway : Int32) (Fnext : Int32) (FisEnd : Int32) (FisFallen : Int32) (Fwritten : Int32) (Fmade : Int32) (Fstate : Int32) (FhandNext : Int32) (FhandSteps : Int32) (FhandWritten : Int32) (FmarkAt : Int32) (Ainputs : Nat → Int32) (AinputLeast : Nat → Int32) (AinputMost : Nat → Int32)  (Φ : Int32 → Int32 → Prop)
    (kR10 : ∀ (r : Int32) (Fthrown : Int32) (H : Heap) (locs : List Loc) (ls : Array Slot), Φ r Fthrown → va_P D vwCl (wW_X8_inputs ak ad h am Fthrown Ftaped Fsize Fplace Fbegin Ftoken Fword Ftold Fwrong Fcode Fat Fway Fnext FisEnd FisFallen Fwritten Fmade Fstate FhandNext FhandSteps FhandWritten FmarkAt Ainputs AinputLeast AinputMost) H → va_D A (wW_X8_inputs ak ad h am Fthrown Ftaped Fsize Fplace Fbegin Ftoken Fword Ftold Fwrong Fcode Fat Fway Fnext FisEnd FisFallen Fwritten Fmade Fstate FhandNext FhandSteps FhandWritten FmarkAt Ainputs AinputLeast AinputMost) → va_S A s.heap H locs → W p l e R s m args below meth c H locs cells slots Q (F0 m 10 ls [.int r]))
    : ∀ (Fthrown : Int32) (H : Heap) (locs : List Loc) (ls : Array Slot), wp_X8_inputs Ainputs AinputLeast AinputMost Fthrown Φ → va_P D vwCl (wW_X8_inputs ak ad h am Fthrown Ftaped Fsize Fplace Fbegin Ftoken Fword Ftold Fwrong Fcode Fat Fway Fnext FisEnd FisFallen Fwritten Fmade Fstate FhandNext FhandSteps FhandWritten FmarkAt Ainputs AinputLeast AinputMost) H → va_D A (wW_X8_inputs ak ad h am Fthrown Ftaped Fsize Fplace Fbegin Ftoken Fword Ftold Fwrong Fcode Fat Fway Fnext FisEnd FisFallen Fwritten Fmade Fstate FhandNext FhandSteps FhandWritten FmarkAt Ainputs AinputLeast AinputMost) → va_S A s.heap H locs → lv_has ls 1 [(0, .ref h)] → W p l e R s m args below meth c H locs cells slots Q (F0 m 0 ls ([])) := by
  intro Fthrown H locs ls hw hP hD hS hl
  delta wp_X8_inputs at hw
  refine lv_aload_n hx hb dX8_inputs_0 rfl (lv_at hl 0 rfl) ?_
  refine lv_iconst (v := 0) hx hb dX8_inputs_1 (by decide) ?_
  refine vt_put (D := D) (ci := 7) (v := .int (0)) (ty := .int) (C := RX8) (T := TX8) (N := 69) hx hb hts (fun w h => wm_c (wc_X8 w h)) tyX8 tyX8_ok nmX8 hown hE.1 hP hD hS 0 rfl rfl 0 (by decide) tX8_0 (hts (.fieldLink RX8 153 "WornLinesModel" "thrown" "I") (wm_c hw_3)) (fun _ h9 => h9) rfl pf_0 (rfl) rfl (Nat.le_of_ble_eq_true rfl) dX8_inputs_2 (fun H locs hP hD hS => ?_)
  have hP : va_P D vwCl (wW_X8_inputs ak ad h am 0 Ftaped Fsize Fplace Fbegin Ftoken Fword Ftold Fwrong Fcode Fat Fway Fnext FisEnd FisFallen Fwritten Fmade Fstate FhandNext FhandSteps FhandWritten FmarkAt Ainputs AinputLeast AinputMost) H := hP
  have hD : va_D A (wW_X8_inputs ak ad h am 0 Ftaped Fsize Fplace Fbegin Ftoken Fword Ftold Fwrong Fcode Fat Fway Fnext FisEnd FisFallen Fwritten Fmade Fstate FhandNext FhandSteps FhandWritten FmarkAt Ainputs AinputLeast AinputMost) := hD
  refine lv_aload_n hx hb dX8_inputs_5 rfl (lv_at hl 0 rfl) ?_
  refine lv_iconst (v := 0) hx hb dX8_inputs_6 (by decide) ?_
  refine kc_i (wc := (wW_X8_inputsOf ak ad h am 0 Ftaped Fsize Fplace Fbegin Ftoken Fword Ftold Fwrong Fcode Fat Fway Fnext FisEnd FisFallen Fwritten Fmade Fstate FhandNext FhandSteps FhandWritten FmarkAt Ainputs AinputLeast AinputMost)) (wr := []) hP hD hS hA [0, 1, 2, 3] [] rfl rfl (by decide) (by decide) (va_runV (As := [.int (0)]) (rest := []) ⟨hx, hb, hml, hown, hts⟩ (c_X8_inputsOf l D ak ad _ h am 0 Ftaped Fsize Fplace Fbegin Ftoken Fword Ftold Fwrong Fcode Fat Fway Fnext FisEnd FisFallen Fwritten Fmade Fstate FhandNext FhandSteps FhandWritten FmarkAt Ainputs AinputLeast AinputMost 0 _ hw) (cwV 1 hts gX8_inputs_X8_inputsOf rfl rfl rfl hv_X8_inputsOf ⟨(Nat.le_trans (Nat.le_of_ble_eq_true rfl) hRf), (Nat.le_trans (Nat.le_of_ble_eq_true rfl) hRl)⟩) (kc_preV (As := [.int (0)]) (wc := (wW_X8_inputsOf ak ad h am 0 Ftaped Fsize Fplace Fbegin Ftoken Fword Ftold Fwrong Fcode Fat Fway Fnext FisEnd FisFallen Fwritten Fmade Fstate FhandNext FhandSteps FhandWritten FmarkAt Ainputs AinputLeast AinputMost)) hE hT hP hD hS hA [0, 1, 2, 3] (by decide) rfl rfl 0 7 rfl rfl rfl) rfl rfl hl.1 rfl (lv_room (Nat.le_of_ble_eq_true rfl)) dX8_inputs_7 ⟨hRc.1, hRc.2⟩) (fun r_2 u_1 H locs hw hP hD hS => ?_)
  try dsimp -zeta only at hw
  have hP : va_P D vwCl (wW_X8_inputs ak ad h am 0 Ftaped Fsize Fplace Fbegin Ftoken Fword Ftold Fwrong Fcode Fat Fway Fnext FisEnd FisFallen Fwritten Fmade Fstate FhandNext FhandSteps FhandWritten FmarkAt Ainputs AinputLeast AinputMost) H := hP.sub [0, 1, 2, 3] rfl
  have hD : va_D A (wW_X8_inputs ak ad h am 0 Ftaped Fsize Fplace Fbegin Ftoken Fword Ftold Fwrong Fcode Fat Fway Fnext FisEnd FisFallen Fwritten Fmade Fstate FhandNext FhandSteps FhandWritten FmarkAt Ainputs AinputLeast AinputMost) := hD.sub [0, 1, 2, 3] (by decide) rfl
  exact kR10 r_2 0 _ _ _ hw hP hD hS
set_option maxHeartbeats 4000000 in
set_option maxRecDepth 100000 in
theorem c_X8_inputs (l : Launch) (D : va_G) (ak : Nat → ClassId) (ad : Nat → Nat) (sz : Nat) (h : Nat) (am : Nat → Nat) (Fthrown : Int32) (Ftaped : Int32) (Fsize : Int32) (Fplace : Int32) (Fbegin : Int32) (Ftoken : Int32) (Fword : Int64) (Ftold : Int32) (Fwrong : Int32) (Fcode : Int32) (Fat : Int32) (Fway : Int32) (Fnext : Int32) (FisEnd : Int32) (FisFallen : Int32) (Fwritten : Int32) (Fmade : Int32) (Fstate : Int32) (FhandNext : Int32) (FhandSteps : Int32) (FhandWritten : Int32) (FmarkAt : Int32) (Ainputs : Nat → Int32) (AinputLeast : Nat → Int32) (AinputMost : Nat → Int32) (Φ : Int32 → Int32 → Prop) (hf : wp_X8_inputs Ainputs AinputLeast AinputMost Fthrown Φ) : Met l yX8_inputs wsX8_inputs ({ frames := 2, cells := 0, slots := 0, locals := 43 }) (cPre D ak ad [.ref h] ((wW_X8_inputs ak ad h am Fthrown Ftaped Fsize Fplace Fbegin Ftoken Fword Ftold Fwrong Fcode Fat Fway Fnext FisEnd FisFallen Fwritten Fmade Fstate FhandNext FhandSteps FhandWritten FmarkAt Ainputs AinputLeast AinputMost)) sz) (cI D (S := (Int32)) (fun (r : Int32) (u : (Int32)) => Φ r u) (fun u => (wW_X8_inputs ak ad h am u Ftaped Fsize Fplace Fbegin Ftoken Fword Ftold Fwrong Fcode Fat Fway Fnext FisEnd FisFallen Fwritten Fmade Fstate FhandNext FhandSteps FhandWritten FmarkAt Ainputs AinputLeast AinputMost)) ((wW_X8_inputs ak ad h am Fthrown Ftaped Fsize Fplace Fbegin Ftoken Fword Ftold Fwrong Fcode Fat Fway Fnext FisEnd FisFallen Fwritten Fmade Fstate FhandNext FhandSteps FhandWritten FmarkAt Ainputs AinputLeast AinputMost)) sz) 0 0 (va_A ((wW_X8_inputs ak ad h am Fthrown Ftaped Fsize Fplace Fbegin Ftoken Fword Ftold Fwrong Fcode Fat Fway Fnext FisEnd FisFallen Fwritten Fmade Fstate FhandNext FhandSteps FhandWritten FmarkAt Ainputs AinputLeast AinputMost)) sz) := by
  refine Met.ofW (cc := cX8_inputs) (maxL := 1) (ret := (some .int)) (by decide) rfl ?_
  intro p e s m args below meth c s₁ B hml hv
  obtain ⟨rfl, hsz, hP, hE, hD0, hT⟩ := hv
  have hx := B.exec
  have hb := B.bytes
  have hr := B.returns
  have hts := atoms_spec (ws := wsX8_inputs) B.pre
  have hown : s.vm.findClass RX8 = some m.cls := findClass_of_methodNamed B.named
  have hlocks := B.notSynchronized
  subst hsz
  have hD := hD0.self (sz := s.heap.size)
  generalize hAe : va_A ((wW_X8_inputs ak ad h am Fthrown Ftaped Fsize Fplace Fbegin Ftoken Fword Ftold Fwrong Fcode Fat Fway Fnext FisEnd FisFallen Fwritten Fmade Fstate FhandNext FhandSteps FhandWritten FmarkAt Ainputs AinputLeast AinputMost)) s.heap.size = A at hD hT ⊢
  have hA : ∀ q : Nat, s.heap.size ≤ q → A q := fun q h => by rw [← hAe]; exact Or.inr h
  have hS : va_S A s.heap s.heap [] := va_S.rf
  have hl := lv_entry ([.ref h]) (n := 1) (Nat.le_of_ble_eq_true rfl)
  rw [lg_entry_eq]
  generalize (lg_sl ([.ref h]) ++ List.replicate (1 - (lg_sl ([.ref h])).length) Slot.unset).toArray = ls at hl ⊢
  have hl : lv_has ls 1 [(0, .ref h)] := hl
  exact kj_X8_inputs_e hx hb hown hts hml hE hT hA (Nat.le_of_ble_eq_true rfl) (Nat.le_of_ble_eq_true rfl) ⟨Nat.le_of_ble_eq_true rfl, Nat.le_of_ble_eq_true rfl⟩ h am Ftaped Fsize Fplace Fbegin Ftoken Fword Ftold Fwrong Fcode Fat Fway Fnext FisEnd FisFallen Fwritten Fmade Fstate FhandNext FhandSteps FhandWritten FmarkAt Ainputs AinputLeast AinputMost Φ (fun r Fthrown H locs ls hw hP hD hS => W.iret (v := r) hx hb hr (fun t ht hW => ⟨⟨r, Fthrown, rfl, hw, by rw [ht]; exact hP, by rw [hAe]; exact hD⟩, by rw [hAe]; exact hS.F ht⟩) hS.2.2 dX8_inputs_10) Fthrown _ _ _ hf hP hD hS hl

def wW_X8_beginsWith (ak : Nat → ClassId) (ad : Nat → Nat) (h : Nat) (am : Nat → Nat) (Fthrown : Int32) (Ftaped : Int32) (Fsize : Int32) (Fplace : Int32) (Fbegin : Int32) (Ftoken : Int32) (Fword : Int64) (Ftold : Int32) (Fwrong : Int32) (Fcode : Int32) (Fat : Int32) (Fway : Int32) (Fnext : Int32) (FisEnd : Int32) (FisFallen : Int32) (Fwritten : Int32) (Fmade : Int32) (Fstate : Int32) (FhandNext : Int32) (FhandSteps : Int32) (FhandWritten : Int32) (FmarkAt : Int32) (Ainputs : Nat → Int32) (AcellAt : Nat → Int32) (AinputCell : Nat → Int32) (AinputLeast : Nat → Int32) (AinputMost : Nat → Int32) : va_W := [(h, .inr (7, mob am (Fthrown) (Ftaped) (Fsize) (Fplace) (Fbegin) (Ftoken) (Fword) (Ftold) (Fwrong) (Fcode) (Fat) (Fway) (Fnext) (FisEnd) (FisFallen) (Fwritten) (Fmade) (Fstate) (FhandNext) (FhandSteps) (FhandWritten) (FmarkAt))), ((am 3), .inl (ak 0, 6, .inl (Ainputs))), ((am 9), .inl (ak 0, 36, .inl (AcellAt))), ((am 10), .inl (ak 0, 12, .inl (AinputCell))), ((am 11), .inl (ak 0, 12, .inl (AinputLeast))), ((am 12), .inl (ak 0, 12, .inl (AinputMost)))]
def lb_X8_beginsWith_3 (Ainputs : Nat → Int32) (AcellAt : Nat → Int32) (AinputCell : Nat → Int32) (AinputLeast : Nat → Int32) (AinputMost : Nat → Int32) (x0 : Int32) (x1 : Int32) (x2 : Int32)  (Φ : Int32 → Prop) (back : Int32 → Prop) (l4 : Int32) : Prop := vp_in x0 6 ∧ ((Ainputs (x0).toNatClampNeg) ≤ l4 → vp_in ((6 * x0) + x2) 36 ∧ Φ (AcellAt ((6 * x0) + x2).toNatClampNeg) ) ∧ (¬ (Ainputs (x0).toNatClampNeg) ≤ l4 → vp_in ((2 * x0) + l4) 12 ∧ (¬ (AinputCell ((2 * x0) + l4).toNatClampNeg) = x2 → back (l4 + 1)) ∧ ((AinputCell ((2 * x0) + l4).toNatClampNeg) = x2 → vp_in ((2 * x0) + l4) 12 ∧ vp_in x0 6 ∧ (¬ l4 = ((Ainputs (x0).toNatClampNeg) - 1) → wp_X8_manyOf Ainputs AinputLeast AinputMost x0 1 (fun r_10 => ¬ r_10 = 0 ∧ Φ ((AinputLeast ((2 * x0) + l4).toNatClampNeg) + (x1 / r_10)) )) ∧ (l4 = ((Ainputs (x0).toNatClampNeg) - 1) → wp_X8_manyOf Ainputs AinputLeast AinputMost x0 l4 (fun r_13 => ¬ r_13 = 0 ∧ Φ ((AinputLeast ((2 * x0) + l4).toNatClampNeg) + (x1 - x1 / r_13 * r_13)) ))))
def lf_X8_beginsWith_3 (Ainputs : Nat → Int32) (AcellAt : Nat → Int32) (AinputCell : Nat → Int32) (AinputLeast : Nat → Int32) (AinputMost : Nat → Int32) (x0 : Int32) (x1 : Int32) (x2 : Int32)  (Φ : Int32 → Prop) : Nat → Int32 → Prop
  | 0, _ => False
  | n_ + 1, l4 => lb_X8_beginsWith_3 Ainputs AcellAt AinputCell AinputLeast AinputMost x0 x1 x2  Φ (lf_X8_beginsWith_3 Ainputs AcellAt AinputCell AinputLeast AinputMost x0 x1 x2  Φ n_) l4
theorem li_X8_beginsWith_3 (Ainputs : Nat → Int32) (AcellAt : Nat → Int32) (AinputCell : Nat → Int32) (AinputLeast : Nat → Int32) (AinputMost : Nat → Int32) (x0 : Int32) (x1 : Int32) (x2 : Int32)  (Φ : Int32 → Prop) (Inv : Int32 → Prop) (mu : Int32 → Nat) (hs : ∀ (back : Int32 → Prop) (l4 : Int32), Inv l4 → (∀ (l4' : Int32), Inv l4' → mu l4' < mu l4 → back l4') → lb_X8_beginsWith_3 Ainputs AcellAt AinputCell AinputLeast AinputMost x0 x1 x2  Φ back l4) : ∀ (n_ : Nat) (l4 : Int32), Inv l4 → mu l4 < n_ → lf_X8_beginsWith_3 Ainputs AcellAt AinputCell AinputLeast AinputMost x0 x1 x2  Φ n_ l4 := by
  intro n_
  induction n_ with
  | zero => intro l4 _ h; exact absurd h (Nat.not_lt_zero _)
  | succ n_ ih => intro l4 hI hm; exact hs _ l4 hI (fun l4' h1 h2 => ih l4' h1 (by omega))
set_option maxHeartbeats 4000000 in
set_option maxRecDepth 100000 in
theorem lp_X8_beginsWith_3 {p : Program} {l : Launch} {e : Env} {R : Room} {s : State} {m : MethodId} {args : Array Value} {below : List Frame} {meth : Method} {c : Code} {cells slots : Nat} {Q : State → Prop} {A : Nat → Prop} {D : va_G} {ak : Nat → ClassId} {ad : Nat → Nat} (hx : p.tables.exec = Jvm.exec) (hb : c.code = cX8_beginsWith) (hown : s.vm.findClass RX8 = some m.cls) (hts : ∀ w ∈ wsX8_beginsWith, w.before args s = true) (hml : c.maxLocals = 5) (hE : EV D ak s) (hT : ST D ak ad A s s.heap) (hA : ∀ q, s.heap.size ≤ q → A q) (hRf : 1 ≤ R.frames) (hRl : 22 ≤ R.locals) (hRc : cells ≤ R.cells ∧ slots ≤ R.slots) (h : Nat) (am : Nat → Nat) (Fthrown : Int32) (Ftaped : Int32) (Fsize : Int32) (Fplace : Int32) (Fbegin : Int32) (Ftoken : Int32) (Fword : Int64) (Ftold : Int32) (Fwrong : Int32) (Fcode : Int32) (Fat : Int32) (Fway : Int32) (Fnext : Int32) (FisEnd : Int32) (FisFallen : Int32) (Fwritten : Int32) (Fmade : Int32) (Fstate : Int32) (FhandNext : Int32) (FhandSteps : Int32) (FhandWritten : Int32) (FmarkAt : Int32) (Ainputs : Nat → Int32) (AcellAt : Nat → Int32) (AinputCell : Nat → Int32) (AinputLeast : Nat → Int32) (AinputMost : Nat → Int32) (x0 : Int32) (x1 : Int32) (x2 : Int32)  (Φ : Int32 → Prop)
    (kR74 : ∀ (r : Int32)  (H : Heap) (locs : List Loc) (ls : Array Slot), Φ r  → va_P D vwCl (wW_X8_beginsWith ak ad h am Fthrown Ftaped Fsize Fplace Fbegin Ftoken Fword Ftold Fwrong Fcode Fat Fway Fnext FisEnd FisFallen Fwritten Fmade Fstate FhandNext FhandSteps FhandWritten FmarkAt Ainputs AcellAt AinputCell AinputLeast AinputMost) H → va_D A (wW_X8_beginsWith ak ad h am Fthrown Ftaped Fsize Fplace Fbegin Ftoken Fword Ftold Fwrong Fcode Fat Fway Fnext FisEnd FisFallen Fwritten Fmade Fstate FhandNext FhandSteps FhandWritten FmarkAt Ainputs AcellAt AinputCell AinputLeast AinputMost) → va_S A s.heap H locs → W p l e R s m args below meth c H locs cells slots Q (F0 m 74 ls [.int r]))
    (kR92 : ∀ (r : Int32)  (H : Heap) (locs : List Loc) (ls : Array Slot), Φ r  → va_P D vwCl (wW_X8_beginsWith ak ad h am Fthrown Ftaped Fsize Fplace Fbegin Ftoken Fword Ftold Fwrong Fcode Fat Fway Fnext FisEnd FisFallen Fwritten Fmade Fstate FhandNext FhandSteps FhandWritten FmarkAt Ainputs AcellAt AinputCell AinputLeast AinputMost) H → va_D A (wW_X8_beginsWith ak ad h am Fthrown Ftaped Fsize Fplace Fbegin Ftoken Fword Ftold Fwrong Fcode Fat Fway Fnext FisEnd FisFallen Fwritten Fmade Fstate FhandNext FhandSteps FhandWritten FmarkAt Ainputs AcellAt AinputCell AinputLeast AinputMost) → va_S A s.heap H locs → W p l e R s m args below meth c H locs cells slots Q (F0 m 92 ls [.int r]))
    : ∀ (n_ : Nat) (l4 : Int32) (H : Heap) (locs : List Loc) (ls : Array Slot), lf_X8_beginsWith_3 Ainputs AcellAt AinputCell AinputLeast AinputMost x0 x1 x2  Φ n_ l4 → va_P D vwCl (wW_X8_beginsWith ak ad h am Fthrown Ftaped Fsize Fplace Fbegin Ftoken Fword Ftold Fwrong Fcode Fat Fway Fnext FisEnd FisFallen Fwritten Fmade Fstate FhandNext FhandSteps FhandWritten FmarkAt Ainputs AcellAt AinputCell AinputLeast AinputMost) H → va_D A (wW_X8_beginsWith ak ad h am Fthrown Ftaped Fsize Fplace Fbegin Ftoken Fword Ftold Fwrong Fcode Fat Fway Fnext FisEnd FisFallen Fwritten Fmade Fstate FhandNext FhandSteps FhandWritten FmarkAt Ainputs AcellAt AinputCell AinputLeast AinputMost) → va_S A s.heap H locs → lv_has ls 5 [(0, .ref h), (1, .int (x0)), (2, .int (x1)), (3, .int (x2)), (4, .int (l4))] → W p l e R s m args below meth c H locs cells slots Q (F0 m 3 ls ([])) := by
  intro n_
  induction n_ with
  | zero =>
    intro l4 H locs ls hw
    exact hw.elim
  | succ n_ ih =>
    intro l4 H locs ls hw hP hD hS hl
    have hw : lb_X8_beginsWith_3 Ainputs AcellAt AinputCell AinputLeast AinputMost x0 x1 x2  Φ (lf_X8_beginsWith_3 Ainputs AcellAt AinputCell AinputLeast AinputMost x0 x1 x2  Φ n_) l4 := hw
    delta lb_X8_beginsWith_3 at hw
    refine lv_iload hx hb dX8_beginsWith_3 (lv_at hl 4 rfl) ?_
    refine lv_aload_n hx hb dX8_beginsWith_5 rfl (lv_at hl 0 rfl) ?_
    refine vt_get (D := D) (ci := 7) (v := .ref (am 3)) (C := RX8) (T := TX8) (N := 69) hx hb hts (fun w h => wm_c (wc_X8 w h)) hown hE.1 hP 0 rfl rfl 12 (by decide) tX8_12 (hts (.fieldLink RX8 19 "WornLinesModel" "inputs" "[I") (wm_c hw_116)) (fun _ h9 => h9) rfl dX8_beginsWith_6 ?_
    refine lv_iload_n hx hb dX8_beginsWith_9 rfl (lv_at hl 1 rfl) ?_
    obtain ⟨h_1, hw⟩ := hw
    refine va_iald hx hb hE.1 hP 1 0 rfl rfl (h_1) dX8_beginsWith_10 ?_
    refine lv_icmp_ge (tgt := 81) hx hb dX8_beginsWith_11 (by decide) (fun c_2 => ?_) (fun c_2 => ?_)
    · replace hw := hw.1 c_2
      refine lv_aload_n hx hb dX8_beginsWith_81 rfl (lv_at hl 0 rfl) ?_
      refine vt_get (D := D) (ci := 7) (v := .ref (am 9)) (C := RX8) (T := TX8) (N := 69) hx hb hts (fun w h => wm_c (wc_X8 w h)) hown hE.1 hP 0 rfl rfl 18 (by decide) tX8_18 (hts (.fieldLink RX8 38 "WornLinesModel" "cellAt" "[I") (wm_c hw_98)) (fun _ h9 => h9) rfl dX8_beginsWith_82 ?_
      refine lv_bipush (v := 6) hx hb dX8_beginsWith_85 (by decide) ?_
      refine lv_iload_n hx hb dX8_beginsWith_87 rfl (lv_at hl 1 rfl) ?_
      refine lv_imul hx hb dX8_beginsWith_88 ?_
      refine lv_iload_n hx hb dX8_beginsWith_89 rfl (lv_at hl 3 rfl) ?_
      refine lv_iadd hx hb dX8_beginsWith_90 ?_
      obtain ⟨h_3, hw⟩ := hw
      refine va_iald hx hb hE.1 hP 2 0 rfl rfl (h_3) dX8_beginsWith_91 ?_
      exact kR92 (AcellAt ((6 * x0) + x2).toNatClampNeg)  _ _ _ hw hP hD hS
    · replace hw := hw.2 c_2
      refine lv_aload_n hx hb dX8_beginsWith_14 rfl (lv_at hl 0 rfl) ?_
      refine vt_get (D := D) (ci := 7) (v := .ref (am 10)) (C := RX8) (T := TX8) (N := 69) hx hb hts (fun w h => wm_c (wc_X8 w h)) hown hE.1 hP 0 rfl rfl 19 (by decide) tX8_19 (hts (.fieldLink RX8 41 "WornLinesModel" "inputCell" "[I") (wm_c hw_119)) (fun _ h9 => h9) rfl dX8_beginsWith_15 ?_
      refine lv_iconst (v := 2) hx hb dX8_beginsWith_18 (by decide) ?_
      refine lv_iload_n hx hb dX8_beginsWith_19 rfl (lv_at hl 1 rfl) ?_
      refine lv_imul hx hb dX8_beginsWith_20 ?_
      refine lv_iload hx hb dX8_beginsWith_21 (lv_at hl 4 rfl) ?_
      refine lv_iadd hx hb dX8_beginsWith_23 ?_
      obtain ⟨h_4, hw⟩ := hw
      refine va_iald hx hb hE.1 hP 3 0 rfl rfl (h_4) dX8_beginsWith_24 ?_
      refine lv_iload_n hx hb dX8_beginsWith_25 rfl (lv_at hl 3 rfl) ?_
      refine lv_icmp_ne (tgt := 75) hx hb dX8_beginsWith_26 (by decide) (fun c_5 => ?_) (fun c_5 => ?_)
      · replace hw := hw.1 c_5
        refine lv_iinc (v := (l4 + 1)) (lv' := [(4, .int (l4 + 1)), (0, .ref h), (1, .int (x0)), (2, .int (x1)), (3, .int (x2))]) hx hb dX8_beginsWith_75 hl (k := 4) rfl (rfl) (by decide) rfl (fun ls hl => ?_)
        refine lv_goto (tgt := 3) hx hb dX8_beginsWith_78 (by decide) ?_
        exact ih (l4 + 1) _ _ _ hw hP hD hS (lv_sub hl [1, 2, 3, 4, 0] rfl)
      · replace hw := hw.2 c_5
        refine lv_aload_n hx hb dX8_beginsWith_29 rfl (lv_at hl 0 rfl) ?_
        refine vt_get (D := D) (ci := 7) (v := .ref (am 11)) (C := RX8) (T := TX8) (N := 69) hx hb hts (fun w h => wm_c (wc_X8 w h)) hown hE.1 hP 0 rfl rfl 20 (by decide) tX8_20 (hts (.fieldLink RX8 44 "WornLinesModel" "inputLeast" "[I") (wm_c hw_117)) (fun _ h9 => h9) rfl dX8_beginsWith_30 ?_
        refine lv_iconst (v := 2) hx hb dX8_beginsWith_33 (by decide) ?_
        refine lv_iload_n hx hb dX8_beginsWith_34 rfl (lv_at hl 1 rfl) ?_
        refine lv_imul hx hb dX8_beginsWith_35 ?_
        refine lv_iload hx hb dX8_beginsWith_36 (lv_at hl 4 rfl) ?_
        refine lv_iadd hx hb dX8_beginsWith_38 ?_
        obtain ⟨h_6, hw⟩ := hw
        refine va_iald hx hb hE.1 hP 4 0 rfl rfl (h_6) dX8_beginsWith_39 ?_
        refine lv_iload hx hb dX8_beginsWith_40 (lv_at hl 4 rfl) ?_
        refine lv_aload_n hx hb dX8_beginsWith_42 rfl (lv_at hl 0 rfl) ?_
        refine vt_get (D := D) (ci := 7) (v := .ref (am 3)) (C := RX8) (T := TX8) (N := 69) hx hb hts (fun w h => wm_c (wc_X8 w h)) hown hE.1 hP 0 rfl rfl 12 (by decide) tX8_12 (hts (.fieldLink RX8 19 "WornLinesModel" "inputs" "[I") (wm_c hw_116)) (fun _ h9 => h9) rfl dX8_beginsWith_43 ?_
        refine lv_iload_n hx hb dX8_beginsWith_46 rfl (lv_at hl 1 rfl) ?_
        obtain ⟨h_7, hw⟩ := hw
        refine va_iald hx hb hE.1 hP 1 0 rfl rfl (h_7) dX8_beginsWith_47 ?_
        refine lv_iconst (v := 1) hx hb dX8_beginsWith_48 (by decide) ?_
        refine lv_isub hx hb dX8_beginsWith_49 ?_
        refine lv_icmp_ne (tgt := 65) hx hb dX8_beginsWith_50 (by decide) (fun c_8 => ?_) (fun c_8 => ?_)
        · replace hw := hw.1 c_8
          refine lv_iload_n hx hb dX8_beginsWith_65 rfl (lv_at hl 2 rfl) ?_
          refine lv_aload_n hx hb dX8_beginsWith_66 rfl (lv_at hl 0 rfl) ?_
          refine lv_iload_n hx hb dX8_beginsWith_67 rfl (lv_at hl 1 rfl) ?_
          refine lv_iconst (v := 1) hx hb dX8_beginsWith_68 (by decide) ?_
          refine kc_i (wc := (wW_X8_manyOf ak ad h am Fthrown Ftaped Fsize Fplace Fbegin Ftoken Fword Ftold Fwrong Fcode Fat Fway Fnext FisEnd FisFallen Fwritten Fmade Fstate FhandNext FhandSteps FhandWritten FmarkAt Ainputs AinputLeast AinputMost)) (wr := [((am 9), .inl (ak 0, 36, .inl (AcellAt))), ((am 10), .inl (ak 0, 12, .inl (AinputCell)))]) hP hD hS hA [0, 1, 4, 5] [2, 3] rfl rfl (by decide) (by decide) (va_runV (As := [.int (x0), .int (1)]) (rest := [.int (x1), .int (AinputLeast ((2 * x0) + l4).toNatClampNeg)]) ⟨hx, hb, hml, hown, hts⟩ (c_X8_manyOf l D ak ad _ h am Fthrown Ftaped Fsize Fplace Fbegin Ftoken Fword Ftold Fwrong Fcode Fat Fway Fnext FisEnd FisFallen Fwritten Fmade Fstate FhandNext FhandSteps FhandWritten FmarkAt Ainputs AinputLeast AinputMost x0 1 _ hw) (cwV 2 hts gX8_beginsWith_X8_manyOf rfl rfl rfl hv_X8_manyOf ⟨(Nat.le_trans (Nat.le_of_ble_eq_true rfl) hRf), (Nat.le_trans (Nat.le_of_ble_eq_true rfl) hRl)⟩) (kc_preV (As := [.int (x0), .int (1)]) (wc := (wW_X8_manyOf ak ad h am Fthrown Ftaped Fsize Fplace Fbegin Ftoken Fword Ftold Fwrong Fcode Fat Fway Fnext FisEnd FisFallen Fwritten Fmade Fstate FhandNext FhandSteps FhandWritten FmarkAt Ainputs AinputLeast AinputMost)) hE hT hP hD hS hA [0, 1, 4, 5] (by decide) rfl rfl 0 7 rfl rfl rfl) rfl rfl hl.1 rfl (lv_room (Nat.le_of_ble_eq_true rfl)) dX8_beginsWith_69 ⟨hRc.1, hRc.2⟩) (fun r_10 u_9 H locs hw hP hD hS => ?_)
          try dsimp -zeta only at hw
          have hP : va_P D vwCl (wW_X8_beginsWith ak ad h am Fthrown Ftaped Fsize Fplace Fbegin Ftoken Fword Ftold Fwrong Fcode Fat Fway Fnext FisEnd FisFallen Fwritten Fmade Fstate FhandNext FhandSteps FhandWritten FmarkAt Ainputs AcellAt AinputCell AinputLeast AinputMost) H := hP.sub [2, 3, 0, 1, 4, 5] rfl
          have hD : va_D A (wW_X8_beginsWith ak ad h am Fthrown Ftaped Fsize Fplace Fbegin Ftoken Fword Ftold Fwrong Fcode Fat Fway Fnext FisEnd FisFallen Fwritten Fmade Fstate FhandNext FhandSteps FhandWritten FmarkAt Ainputs AcellAt AinputCell AinputLeast AinputMost) := hD.sub [2, 3, 0, 1, 4, 5] (by decide) rfl
          obtain ⟨h_11, hw⟩ := hw
          refine lv_idiv hx hb dX8_beginsWith_72 (h_11) ?_
          refine lv_iadd hx hb dX8_beginsWith_73 ?_
          exact kR74 ((AinputLeast ((2 * x0) + l4).toNatClampNeg) + (x1 / r_10))  _ _ _ hw hP hD hS
        · replace hw := hw.2 c_8
          refine lv_iload_n hx hb dX8_beginsWith_53 rfl (lv_at hl 2 rfl) ?_
          refine lv_aload_n hx hb dX8_beginsWith_54 rfl (lv_at hl 0 rfl) ?_
          refine lv_iload_n hx hb dX8_beginsWith_55 rfl (lv_at hl 1 rfl) ?_
          refine lv_iload hx hb dX8_beginsWith_56 (lv_at hl 4 rfl) ?_
          refine kc_i (wc := (wW_X8_manyOf ak ad h am Fthrown Ftaped Fsize Fplace Fbegin Ftoken Fword Ftold Fwrong Fcode Fat Fway Fnext FisEnd FisFallen Fwritten Fmade Fstate FhandNext FhandSteps FhandWritten FmarkAt Ainputs AinputLeast AinputMost)) (wr := [((am 9), .inl (ak 0, 36, .inl (AcellAt))), ((am 10), .inl (ak 0, 12, .inl (AinputCell)))]) hP hD hS hA [0, 1, 4, 5] [2, 3] rfl rfl (by decide) (by decide) (va_runV (As := [.int (x0), .int (l4)]) (rest := [.int (x1), .int (AinputLeast ((2 * x0) + l4).toNatClampNeg)]) ⟨hx, hb, hml, hown, hts⟩ (c_X8_manyOf l D ak ad _ h am Fthrown Ftaped Fsize Fplace Fbegin Ftoken Fword Ftold Fwrong Fcode Fat Fway Fnext FisEnd FisFallen Fwritten Fmade Fstate FhandNext FhandSteps FhandWritten FmarkAt Ainputs AinputLeast AinputMost x0 l4 _ hw) (cwV 2 hts gX8_beginsWith_X8_manyOf rfl rfl rfl hv_X8_manyOf ⟨(Nat.le_trans (Nat.le_of_ble_eq_true rfl) hRf), (Nat.le_trans (Nat.le_of_ble_eq_true rfl) hRl)⟩) (kc_preV (As := [.int (x0), .int (l4)]) (wc := (wW_X8_manyOf ak ad h am Fthrown Ftaped Fsize Fplace Fbegin Ftoken Fword Ftold Fwrong Fcode Fat Fway Fnext FisEnd FisFallen Fwritten Fmade Fstate FhandNext FhandSteps FhandWritten FmarkAt Ainputs AinputLeast AinputMost)) hE hT hP hD hS hA [0, 1, 4, 5] (by decide) rfl rfl 0 7 rfl rfl rfl) rfl rfl hl.1 rfl (lv_room (Nat.le_of_ble_eq_true rfl)) dX8_beginsWith_58 ⟨hRc.1, hRc.2⟩) (fun r_13 u_12 H locs hw hP hD hS => ?_)
          try dsimp -zeta only at hw
          have hP : va_P D vwCl (wW_X8_beginsWith ak ad h am Fthrown Ftaped Fsize Fplace Fbegin Ftoken Fword Ftold Fwrong Fcode Fat Fway Fnext FisEnd FisFallen Fwritten Fmade Fstate FhandNext FhandSteps FhandWritten FmarkAt Ainputs AcellAt AinputCell AinputLeast AinputMost) H := hP.sub [2, 3, 0, 1, 4, 5] rfl
          have hD : va_D A (wW_X8_beginsWith ak ad h am Fthrown Ftaped Fsize Fplace Fbegin Ftoken Fword Ftold Fwrong Fcode Fat Fway Fnext FisEnd FisFallen Fwritten Fmade Fstate FhandNext FhandSteps FhandWritten FmarkAt Ainputs AcellAt AinputCell AinputLeast AinputMost) := hD.sub [2, 3, 0, 1, 4, 5] (by decide) rfl
          obtain ⟨h_14, hw⟩ := hw
          refine lv_irem hx hb dX8_beginsWith_61 (h_14) ?_
          refine lv_goto (tgt := 73) hx hb dX8_beginsWith_62 (by decide) ?_
          refine lv_iadd hx hb dX8_beginsWith_73 ?_
          exact kR74 ((AinputLeast ((2 * x0) + l4).toNatClampNeg) + (x1 - x1 / r_13 * r_13))  _ _ _ hw hP hD hS

def wp_X8_beginsWith (Ainputs : Nat → Int32) (AcellAt : Nat → Int32) (AinputCell : Nat → Int32) (AinputLeast : Nat → Int32) (AinputMost : Nat → Int32) (x0 : Int32) (x1 : Int32) (x2 : Int32)  (Φ : Int32 → Prop) : Prop := (∃ n_, lf_X8_beginsWith_3 Ainputs AcellAt AinputCell AinputLeast AinputMost x0 x1 x2  Φ n_ 0)
set_option maxHeartbeats 4000000 in
set_option maxRecDepth 100000 in
theorem kj_X8_beginsWith_e {p : Program} {l : Launch} {e : Env} {R : Room} {s : State} {m : MethodId} {args : Array Value} {below : List Frame} {meth : Method} {c : Code} {cells slots : Nat} {Q : State → Prop} {A : Nat → Prop} {D : va_G} {ak : Nat → ClassId} {ad : Nat → Nat} (hx : p.tables.exec = Jvm.exec) (hb : c.code = cX8_beginsWith) (hown : s.vm.findClass RX8 = some m.cls) (hts : ∀ w ∈ wsX8_beginsWith, w.before args s = true) (hml : c.maxLocals = 5) (hE : EV D ak s) (hT : ST D ak ad A s s.heap) (hA : ∀ q, s.heap.size ≤ q → A q) (hRf : 1 ≤ R.frames) (hRl : 22 ≤ R.locals) (hRc : cells ≤ R.cells ∧ slots ≤ R.slots) (h : Nat) (am : Nat → Nat) (Fthrown : Int32) (Ftaped : Int32) (Fsize : Int32) (Fplace : Int32) (Fbegin : Int32) (Ftoken : Int32) (Fword : Int64) (Ftold : Int32) (Fwrong : Int32) (Fcode : Int32) (Fat : Int32) (Fway : Int32) (Fnext : Int32) (FisEnd : Int32) (FisFallen : Int32) (Fwritten : Int32) (Fmade : Int32) (Fstate : Int32) (FhandNext : Int32) (FhandSteps : Int32) (FhandWritten : Int32) (FmarkAt : Int32) (Ainputs : Nat → Int32) (AcellAt : Nat → Int32) (AinputCell : Nat → Int32) (AinputLeast : Nat → Int32) (AinputMost : Nat → Int32) (x0 : Int32) (x1 : Int32) (x2 : Int32)  (Φ : Int32 → Prop)
    (kR74 : ∀ (r : Int32)  (H : Heap) (locs : List Loc) (ls : Array Slot), Φ r  → va_P D vwCl (wW_X8_beginsWith ak ad h am Fthrown Ftaped Fsize Fplace Fbegin Ftoken Fword Ftold Fwrong Fcode Fat Fway Fnext FisEnd FisFallen Fwritten Fmade Fstate FhandNext FhandSteps FhandWritten FmarkAt Ainputs AcellAt AinputCell AinputLeast AinputMost) H → va_D A (wW_X8_beginsWith ak ad h am Fthrown Ftaped Fsize Fplace Fbegin Ftoken Fword Ftold Fwrong Fcode Fat Fway Fnext FisEnd FisFallen Fwritten Fmade Fstate FhandNext FhandSteps FhandWritten FmarkAt Ainputs AcellAt AinputCell AinputLeast AinputMost) → va_S A s.heap H locs → W p l e R s m args below meth c H locs cells slots Q (F0 m 74 ls [.int r]))
    (kR92 : ∀ (r : Int32)  (H : Heap) (locs : List Loc) (ls : Array Slot), Φ r  → va_P D vwCl (wW_X8_beginsWith ak ad h am Fthrown Ftaped Fsize Fplace Fbegin Ftoken Fword Ftold Fwrong Fcode Fat Fway Fnext FisEnd FisFallen Fwritten Fmade Fstate FhandNext FhandSteps FhandWritten FmarkAt Ainputs AcellAt AinputCell AinputLeast AinputMost) H → va_D A (wW_X8_beginsWith ak ad h am Fthrown Ftaped Fsize Fplace Fbegin Ftoken Fword Ftold Fwrong Fcode Fat Fway Fnext FisEnd FisFallen Fwritten Fmade Fstate FhandNext FhandSteps FhandWritten FmarkAt Ainputs AcellAt AinputCell AinputLeast AinputMost) → va_S A s.heap H locs → W p l e R s m args below meth c H locs cells slots Q (F0 m 92 ls [.int r]))
    : ∀  (H : Heap) (locs : List Loc) (ls : Array Slot), wp_X8_beginsWith Ainputs AcellAt AinputCell AinputLeast AinputMost x0 x1 x2  Φ → va_P D vwCl (wW_X8_beginsWith ak ad h am Fthrown Ftaped Fsize Fplace Fbegin Ftoken Fword Ftold Fwrong Fcode Fat Fway Fnext FisEnd FisFallen Fwritten Fmade Fstate FhandNext FhandSteps FhandWritten FmarkAt Ainputs AcellAt AinputCell AinputLeast AinputMost) H → va_D A (wW_X8_beginsWith ak ad h am Fthrown Ftaped Fsize Fplace Fbegin Ftoken Fword Ftold Fwrong Fcode Fat Fway Fnext FisEnd FisFallen Fwritten Fmade Fstate FhandNext FhandSteps FhandWritten FmarkAt Ainputs AcellAt AinputCell AinputLeast AinputMost) → va_S A s.heap H locs → lv_has ls 5 [(0, .ref h), (1, .int (x0)), (2, .int (x1)), (3, .int (x2))] → W p l e R s m args below meth c H locs cells slots Q (F0 m 0 ls ([])) := by
  intro  H locs ls hw hP hD hS hl
  delta wp_X8_beginsWith at hw
  refine lv_iconst (v := 0) hx hb dX8_beginsWith_0 (by decide) ?_
  refine lv_istore (lv' := [(4, .int (0)), (0, .ref h), (1, .int (x0)), (2, .int (x1)), (3, .int (x2))]) hx hb dX8_beginsWith_1 hl (by decide) rfl (fun ls hl => ?_)
  obtain ⟨n1_, hw⟩ := hw
  exact lp_X8_beginsWith_3 hx hb hown hts hml hE hT hA hRf hRl hRc h am Fthrown Ftaped Fsize Fplace Fbegin Ftoken Fword Ftold Fwrong Fcode Fat Fway Fnext FisEnd FisFallen Fwritten Fmade Fstate FhandNext FhandSteps FhandWritten FmarkAt Ainputs AcellAt AinputCell AinputLeast AinputMost x0 x1 x2  Φ  kR74 kR92 n1_ 0 _ _ _ hw hP hD hS (lv_sub hl [1, 2, 3, 4, 0] rfl)
set_option maxHeartbeats 4000000 in
set_option maxRecDepth 100000 in
theorem c_X8_beginsWith (l : Launch) (D : va_G) (ak : Nat → ClassId) (ad : Nat → Nat) (sz : Nat) (h : Nat) (am : Nat → Nat) (Fthrown : Int32) (Ftaped : Int32) (Fsize : Int32) (Fplace : Int32) (Fbegin : Int32) (Ftoken : Int32) (Fword : Int64) (Ftold : Int32) (Fwrong : Int32) (Fcode : Int32) (Fat : Int32) (Fway : Int32) (Fnext : Int32) (FisEnd : Int32) (FisFallen : Int32) (Fwritten : Int32) (Fmade : Int32) (Fstate : Int32) (FhandNext : Int32) (FhandSteps : Int32) (FhandWritten : Int32) (FmarkAt : Int32) (Ainputs : Nat → Int32) (AcellAt : Nat → Int32) (AinputCell : Nat → Int32) (AinputLeast : Nat → Int32) (AinputMost : Nat → Int32) (x0 : Int32) (x1 : Int32) (x2 : Int32) (Φ : Int32 → Prop) (hf : wp_X8_beginsWith Ainputs AcellAt AinputCell AinputLeast AinputMost x0 x1 x2 Φ) : Met l yX8_beginsWith wsX8_beginsWith ({ frames := 1, cells := 0, slots := 0, locals := 22 }) (cPre D ak ad [.ref h, .int (x0), .int (x1), .int (x2)] ((wW_X8_beginsWith ak ad h am Fthrown Ftaped Fsize Fplace Fbegin Ftoken Fword Ftold Fwrong Fcode Fat Fway Fnext FisEnd FisFallen Fwritten Fmade Fstate FhandNext FhandSteps FhandWritten FmarkAt Ainputs AcellAt AinputCell AinputLeast AinputMost)) sz) (cI D (S := Unit) (fun (r : Int32) (u : Unit) => Φ r ) (fun u => (wW_X8_beginsWith ak ad h am Fthrown Ftaped Fsize Fplace Fbegin Ftoken Fword Ftold Fwrong Fcode Fat Fway Fnext FisEnd FisFallen Fwritten Fmade Fstate FhandNext FhandSteps FhandWritten FmarkAt Ainputs AcellAt AinputCell AinputLeast AinputMost)) ((wW_X8_beginsWith ak ad h am Fthrown Ftaped Fsize Fplace Fbegin Ftoken Fword Ftold Fwrong Fcode Fat Fway Fnext FisEnd FisFallen Fwritten Fmade Fstate FhandNext FhandSteps FhandWritten FmarkAt Ainputs AcellAt AinputCell AinputLeast AinputMost)) sz) 0 0 (va_A ((wW_X8_beginsWith ak ad h am Fthrown Ftaped Fsize Fplace Fbegin Ftoken Fword Ftold Fwrong Fcode Fat Fway Fnext FisEnd FisFallen Fwritten Fmade Fstate FhandNext FhandSteps FhandWritten FmarkAt Ainputs AcellAt AinputCell AinputLeast AinputMost)) sz) := by
  refine Met.ofW (cc := cX8_beginsWith) (maxL := 5) (ret := (some .int)) (by decide) rfl ?_
  intro p e s m args below meth c s₁ B hml hv
  obtain ⟨rfl, hsz, hP, hE, hD0, hT⟩ := hv
  have hx := B.exec
  have hb := B.bytes
  have hr := B.returns
  have hts := atoms_spec (ws := wsX8_beginsWith) B.pre
  have hown : s.vm.findClass RX8 = some m.cls := findClass_of_methodNamed B.named
  have hlocks := B.notSynchronized
  subst hsz
  have hD := hD0.self (sz := s.heap.size)
  generalize hAe : va_A ((wW_X8_beginsWith ak ad h am Fthrown Ftaped Fsize Fplace Fbegin Ftoken Fword Ftold Fwrong Fcode Fat Fway Fnext FisEnd FisFallen Fwritten Fmade Fstate FhandNext FhandSteps FhandWritten FmarkAt Ainputs AcellAt AinputCell AinputLeast AinputMost)) s.heap.size = A at hD hT ⊢
  have hA : ∀ q : Nat, s.heap.size ≤ q → A q := fun q h => by rw [← hAe]; exact Or.inr h
  have hS : va_S A s.heap s.heap [] := va_S.rf
  have hl := lv_entry ([.ref h, .int (x0), .int (x1), .int (x2)]) (n := 5) (Nat.le_of_ble_eq_true rfl)
  rw [lg_entry_eq]
  generalize (lg_sl ([.ref h, .int (x0), .int (x1), .int (x2)]) ++ List.replicate (5 - (lg_sl ([.ref h, .int (x0), .int (x1), .int (x2)])).length) Slot.unset).toArray = ls at hl ⊢
  have hl : lv_has ls 5 [(0, .ref h), (1, .int (x0)), (2, .int (x1)), (3, .int (x2))] := hl
  exact kj_X8_beginsWith_e hx hb hown hts hml hE hT hA (Nat.le_of_ble_eq_true rfl) (Nat.le_of_ble_eq_true rfl) ⟨Nat.le_of_ble_eq_true rfl, Nat.le_of_ble_eq_true rfl⟩ h am Fthrown Ftaped Fsize Fplace Fbegin Ftoken Fword Ftold Fwrong Fcode Fat Fway Fnext FisEnd FisFallen Fwritten Fmade Fstate FhandNext FhandSteps FhandWritten FmarkAt Ainputs AcellAt AinputCell AinputLeast AinputMost x0 x1 x2 Φ (fun r  H locs ls hw hP hD hS => W.iret (v := r) hx hb hr (fun t ht hW => ⟨⟨r, (), rfl, hw, by rw [ht]; exact hP, by rw [hAe]; exact hD⟩, by rw [hAe]; exact hS.F ht⟩) hS.2.2 dX8_beginsWith_74) (fun r  H locs ls hw hP hD hS => W.iret (v := r) hx hb hr (fun t ht hW => ⟨⟨r, (), rfl, hw, by rw [ht]; exact hP, by rw [hAe]; exact hD⟩, by rw [hAe]; exact hS.F ht⟩) hS.2.2 dX8_beginsWith_92)  _ _ _ hf hP hD hS hl

def wW_X8_input (ak : Nat → ClassId) (ad : Nat → Nat) (h : Nat) (am : Nat → Nat) (Fthrown : Int32) (Ftaped : Int32) (Fsize : Int32) (Fplace : Int32) (Fbegin : Int32) (Ftoken : Int32) (Fword : Int64) (Ftold : Int32) (Fwrong : Int32) (Fcode : Int32) (Fat : Int32) (Fway : Int32) (Fnext : Int32) (FisEnd : Int32) (FisFallen : Int32) (Fwritten : Int32) (Fmade : Int32) (Fstate : Int32) (FhandNext : Int32) (FhandSteps : Int32) (FhandWritten : Int32) (FmarkAt : Int32) (Acells : Nat → Int32) (Ainputs : Nat → Int32) (AcellAt : Nat → Int32) (AinputCell : Nat → Int32) (AinputLeast : Nat → Int32) (AinputMost : Nat → Int32) : va_W := [(h, .inr (7, mob am (Fthrown) (Ftaped) (Fsize) (Fplace) (Fbegin) (Ftoken) (Fword) (Ftold) (Fwrong) (Fcode) (Fat) (Fway) (Fnext) (FisEnd) (FisFallen) (Fwritten) (Fmade) (Fstate) (FhandNext) (FhandSteps) (FhandWritten) (FmarkAt))), ((am 2), .inl (ak 0, 6, .inl (Acells))), ((am 3), .inl (ak 0, 6, .inl (Ainputs))), ((am 9), .inl (ak 0, 36, .inl (AcellAt))), ((am 10), .inl (ak 0, 12, .inl (AinputCell))), ((am 11), .inl (ak 0, 12, .inl (AinputLeast))), ((am 12), .inl (ak 0, 12, .inl (AinputMost)))]
def wp_X8_input (Acells : Nat → Int32) (Ainputs : Nat → Int32) (AcellAt : Nat → Int32) (AinputCell : Nat → Int32) (AinputLeast : Nat → Int32) (AinputMost : Nat → Int32) (x0 : Int32) (x1 : Int32) (Fthrown : Int32) (Φ : Int32 → Int32 → Prop) : Prop := (x0 < 0 → Φ (-1) 0) ∧ (¬ x0 < 0 → wp_X8_inputsOf Ainputs AinputLeast AinputMost 0 (fun r_3 => (r_3 ≤ x0 → Φ (-1) 0) ∧ (¬ r_3 ≤ x0 → wp_X8_isCell Acells x1 (fun r_6 => (r_6 = 0 → Φ (-1) 0) ∧ (¬ r_6 = 0 → wp_X8_beginsWith Ainputs AcellAt AinputCell AinputLeast AinputMost 0 x0 x1 (fun r_9 => Φ r_9 0))))))
set_option maxHeartbeats 4000000 in
set_option maxRecDepth 100000 in
theorem kj_X8_input_e {p : Program} {l : Launch} {e : Env} {R : Room} {s : State} {m : MethodId} {args : Array Value} {below : List Frame} {meth : Method} {c : Code} {cells slots : Nat} {Q : State → Prop} {A : Nat → Prop} {D : va_G} {ak : Nat → ClassId} {ad : Nat → Nat} (hx : p.tables.exec = Jvm.exec) (hb : c.code = cX8_input) (hown : s.vm.findClass RX8 = some m.cls) (hts : ∀ w ∈ wsX8_input, w.before args s = true) (hml : c.maxLocals = 3) (hE : EV D ak s) (hT : ST D ak ad A s s.heap) (hA : ∀ q, s.heap.size ≤ q → A q) (hRf : 2 ≤ R.frames) (hRl : 46 ≤ R.locals) (hRc : cells ≤ R.cells ∧ slots ≤ R.slots) (h : Nat) (am : Nat → Nat) (Ftaped : Int32) (Fsize : Int32) (Fplace : Int32) (Fbegin : Int32) (Ftoken : Int32) (Fword : Int64) (Ftold : Int32) (Fwrong : Int32) (Fcode : Int32) (Fat : Int32) (Fway : Int32) (Fnext : Int32) (FisEnd : Int32) (FisFallen : Int32) (Fwritten : Int32) (Fmade : Int32) (Fstate : Int32) (FhandNext : Int32) (FhandSteps : Int32) (FhandWritten : Int32) (FmarkAt : Int32) (Acells : Nat → Int32) (Ainputs : Nat → Int32) (AcellAt : Nat → Int32) (AinputCell : Nat → Int32) (AinputLeast : Nat → Int32) (AinputMost : Nat → Int32) (x0 : Int32) (x1 : Int32)  (Φ : Int32 → Int32 → Prop)
    (kR37 : ∀ (r : Int32) (Fthrown : Int32) (H : Heap) (locs : List Loc) (ls : Array Slot), Φ r Fthrown → va_P D vwCl (wW_X8_input ak ad h am Fthrown Ftaped Fsize Fplace Fbegin Ftoken Fword Ftold Fwrong Fcode Fat Fway Fnext FisEnd FisFallen Fwritten Fmade Fstate FhandNext FhandSteps FhandWritten FmarkAt Acells Ainputs AcellAt AinputCell AinputLeast AinputMost) H → va_D A (wW_X8_input ak ad h am Fthrown Ftaped Fsize Fplace Fbegin Ftoken Fword Ftold Fwrong Fcode Fat Fway Fnext FisEnd FisFallen Fwritten Fmade Fstate FhandNext FhandSteps FhandWritten FmarkAt Acells Ainputs AcellAt AinputCell AinputLeast AinputMost) → va_S A s.heap H locs → W p l e R s m args below meth c H locs cells slots Q (F0 m 37 ls [.int r]))
    : ∀ (Fthrown : Int32) (H : Heap) (locs : List Loc) (ls : Array Slot), wp_X8_input Acells Ainputs AcellAt AinputCell AinputLeast AinputMost x0 x1 Fthrown Φ → va_P D vwCl (wW_X8_input ak ad h am Fthrown Ftaped Fsize Fplace Fbegin Ftoken Fword Ftold Fwrong Fcode Fat Fway Fnext FisEnd FisFallen Fwritten Fmade Fstate FhandNext FhandSteps FhandWritten FmarkAt Acells Ainputs AcellAt AinputCell AinputLeast AinputMost) H → va_D A (wW_X8_input ak ad h am Fthrown Ftaped Fsize Fplace Fbegin Ftoken Fword Ftold Fwrong Fcode Fat Fway Fnext FisEnd FisFallen Fwritten Fmade Fstate FhandNext FhandSteps FhandWritten FmarkAt Acells Ainputs AcellAt AinputCell AinputLeast AinputMost) → va_S A s.heap H locs → lv_has ls 3 [(0, .ref h), (1, .int (x0)), (2, .int (x1))] → W p l e R s m args below meth c H locs cells slots Q (F0 m 0 ls ([])) := by
  intro Fthrown H locs ls hw hP hD hS hl
  delta wp_X8_input at hw
  refine lv_aload_n hx hb dX8_input_0 rfl (lv_at hl 0 rfl) ?_
  refine lv_iconst (v := 0) hx hb dX8_input_1 (by decide) ?_
  refine vt_put (D := D) (ci := 7) (v := .int (0)) (ty := .int) (C := RX8) (T := TX8) (N := 69) hx hb hts (fun w h => wm_c (wc_X8 w h)) tyX8 tyX8_ok nmX8 hown hE.1 hP hD hS 0 rfl rfl 0 (by decide) tX8_0 (hts (.fieldLink RX8 153 "WornLinesModel" "thrown" "I") (wm_c hw_3)) (fun _ h9 => h9) rfl pf_0 (rfl) rfl (Nat.le_of_ble_eq_true rfl) dX8_input_2 (fun H locs hP hD hS => ?_)
  have hP : va_P D vwCl (wW_X8_input ak ad h am 0 Ftaped Fsize Fplace Fbegin Ftoken Fword Ftold Fwrong Fcode Fat Fway Fnext FisEnd FisFallen Fwritten Fmade Fstate FhandNext FhandSteps FhandWritten FmarkAt Acells Ainputs AcellAt AinputCell AinputLeast AinputMost) H := hP
  have hD : va_D A (wW_X8_input ak ad h am 0 Ftaped Fsize Fplace Fbegin Ftoken Fword Ftold Fwrong Fcode Fat Fway Fnext FisEnd FisFallen Fwritten Fmade Fstate FhandNext FhandSteps FhandWritten FmarkAt Acells Ainputs AcellAt AinputCell AinputLeast AinputMost) := hD
  refine lv_iload_n hx hb dX8_input_5 rfl (lv_at hl 1 rfl) ?_
  refine lv_if_lt (tgt := 36) hx hb dX8_input_6 (by decide) (fun c_1 => ?_) (fun c_1 => ?_)
  · replace hw := hw.1 c_1
    refine lv_iconst (v := (-1)) hx hb dX8_input_36 (by decide) ?_
    exact kR37 (-1) 0 _ _ _ hw hP hD hS
  · replace hw := hw.2 c_1
    refine lv_iload_n hx hb dX8_input_9 rfl (lv_at hl 1 rfl) ?_
    refine lv_aload_n hx hb dX8_input_10 rfl (lv_at hl 0 rfl) ?_
    refine lv_iconst (v := 0) hx hb dX8_input_11 (by decide) ?_
    refine kc_i (wc := (wW_X8_inputsOf ak ad h am 0 Ftaped Fsize Fplace Fbegin Ftoken Fword Ftold Fwrong Fcode Fat Fway Fnext FisEnd FisFallen Fwritten Fmade Fstate FhandNext FhandSteps FhandWritten FmarkAt Ainputs AinputLeast AinputMost)) (wr := [((am 2), .inl (ak 0, 6, .inl (Acells))), ((am 9), .inl (ak 0, 36, .inl (AcellAt))), ((am 10), .inl (ak 0, 12, .inl (AinputCell)))]) hP hD hS hA [0, 2, 5, 6] [1, 3, 4] rfl rfl (by decide) (by decide) (va_runV (As := [.int (0)]) (rest := [.int (x0)]) ⟨hx, hb, hml, hown, hts⟩ (c_X8_inputsOf l D ak ad _ h am 0 Ftaped Fsize Fplace Fbegin Ftoken Fword Ftold Fwrong Fcode Fat Fway Fnext FisEnd FisFallen Fwritten Fmade Fstate FhandNext FhandSteps FhandWritten FmarkAt Ainputs AinputLeast AinputMost 0 _ hw) (cwV 1 hts gX8_input_X8_inputsOf rfl rfl rfl hv_X8_inputsOf ⟨(Nat.le_trans (Nat.le_of_ble_eq_true rfl) hRf), (Nat.le_trans (Nat.le_of_ble_eq_true rfl) hRl)⟩) (kc_preV (As := [.int (0)]) (wc := (wW_X8_inputsOf ak ad h am 0 Ftaped Fsize Fplace Fbegin Ftoken Fword Ftold Fwrong Fcode Fat Fway Fnext FisEnd FisFallen Fwritten Fmade Fstate FhandNext FhandSteps FhandWritten FmarkAt Ainputs AinputLeast AinputMost)) hE hT hP hD hS hA [0, 2, 5, 6] (by decide) rfl rfl 0 7 rfl rfl rfl) rfl rfl hl.1 rfl (lv_room (Nat.le_of_ble_eq_true rfl)) dX8_input_12 ⟨hRc.1, hRc.2⟩) (fun r_3 u_2 H locs hw hP hD hS => ?_)
    try dsimp -zeta only at hw
    have hP : va_P D vwCl (wW_X8_input ak ad h am 0 Ftaped Fsize Fplace Fbegin Ftoken Fword Ftold Fwrong Fcode Fat Fway Fnext FisEnd FisFallen Fwritten Fmade Fstate FhandNext FhandSteps FhandWritten FmarkAt Acells Ainputs AcellAt AinputCell AinputLeast AinputMost) H := hP.sub [3, 0, 4, 1, 2, 5, 6] rfl
    have hD : va_D A (wW_X8_input ak ad h am 0 Ftaped Fsize Fplace Fbegin Ftoken Fword Ftold Fwrong Fcode Fat Fway Fnext FisEnd FisFallen Fwritten Fmade Fstate FhandNext FhandSteps FhandWritten FmarkAt Acells Ainputs AcellAt AinputCell AinputLeast AinputMost) := hD.sub [3, 0, 4, 1, 2, 5, 6] (by decide) rfl
    refine lv_icmp_ge (tgt := 36) hx hb dX8_input_15 (by decide) (fun c_4 => ?_) (fun c_4 => ?_)
    · replace hw := hw.1 c_4
      refine lv_iconst (v := (-1)) hx hb dX8_input_36 (by decide) ?_
      exact kR37 (-1) 0 _ _ _ hw hP hD hS
    · replace hw := hw.2 c_4
      refine lv_aload_n hx hb dX8_input_18 rfl (lv_at hl 0 rfl) ?_
      refine lv_iload_n hx hb dX8_input_19 rfl (lv_at hl 2 rfl) ?_
      refine kc_i (wc := (wW_X8_isCell ak ad h am 0 Ftaped Fsize Fplace Fbegin Ftoken Fword Ftold Fwrong Fcode Fat Fway Fnext FisEnd FisFallen Fwritten Fmade Fstate FhandNext FhandSteps FhandWritten FmarkAt Acells)) (wr := [((am 3), .inl (ak 0, 6, .inl (Ainputs))), ((am 9), .inl (ak 0, 36, .inl (AcellAt))), ((am 10), .inl (ak 0, 12, .inl (AinputCell))), ((am 11), .inl (ak 0, 12, .inl (AinputLeast))), ((am 12), .inl (ak 0, 12, .inl (AinputMost)))]) hP hD hS hA [0, 1] [2, 3, 4, 5, 6] rfl rfl (by decide) (by decide) (va_runV (As := [.int (x1)]) (rest := []) ⟨hx, hb, hml, hown, hts⟩ (c_X8_isCell l D ak ad _ h am 0 Ftaped Fsize Fplace Fbegin Ftoken Fword Ftold Fwrong Fcode Fat Fway Fnext FisEnd FisFallen Fwritten Fmade Fstate FhandNext FhandSteps FhandWritten FmarkAt Acells x1 _ hw) (cwV 1 hts gX8_input_X8_isCell rfl rfl rfl hv_X8_isCell ⟨(Nat.le_trans (Nat.le_of_ble_eq_true rfl) hRf), (Nat.le_trans (Nat.le_of_ble_eq_true rfl) hRl)⟩) (kc_preV (As := [.int (x1)]) (wc := (wW_X8_isCell ak ad h am 0 Ftaped Fsize Fplace Fbegin Ftoken Fword Ftold Fwrong Fcode Fat Fway Fnext FisEnd FisFallen Fwritten Fmade Fstate FhandNext FhandSteps FhandWritten FmarkAt Acells)) hE hT hP hD hS hA [0, 1] (by decide) rfl rfl 0 7 rfl rfl rfl) rfl rfl hl.1 rfl (lv_room (Nat.le_of_ble_eq_true rfl)) dX8_input_20 ⟨hRc.1, hRc.2⟩) (fun r_6 u_5 H locs hw hP hD hS => ?_)
      try dsimp -zeta only at hw
      have hP : va_P D vwCl (wW_X8_input ak ad h am 0 Ftaped Fsize Fplace Fbegin Ftoken Fword Ftold Fwrong Fcode Fat Fway Fnext FisEnd FisFallen Fwritten Fmade Fstate FhandNext FhandSteps FhandWritten FmarkAt Acells Ainputs AcellAt AinputCell AinputLeast AinputMost) H := hP.sub [5, 6, 0, 1, 2, 3, 4] rfl
      have hD : va_D A (wW_X8_input ak ad h am 0 Ftaped Fsize Fplace Fbegin Ftoken Fword Ftold Fwrong Fcode Fat Fway Fnext FisEnd FisFallen Fwritten Fmade Fstate FhandNext FhandSteps FhandWritten FmarkAt Acells Ainputs AcellAt AinputCell AinputLeast AinputMost) := hD.sub [5, 6, 0, 1, 2, 3, 4] (by decide) rfl
      refine lv_if_eq (tgt := 36) hx hb dX8_input_23 (by decide) (fun c_7 => ?_) (fun c_7 => ?_)
      · replace hw := hw.1 c_7
        refine lv_iconst (v := (-1)) hx hb dX8_input_36 (by decide) ?_
        exact kR37 (-1) 0 _ _ _ hw hP hD hS
      · replace hw := hw.2 c_7
        refine lv_aload_n hx hb dX8_input_26 rfl (lv_at hl 0 rfl) ?_
        refine lv_iconst (v := 0) hx hb dX8_input_27 (by decide) ?_
        refine lv_iload_n hx hb dX8_input_28 rfl (lv_at hl 1 rfl) ?_
        refine lv_iload_n hx hb dX8_input_29 rfl (lv_at hl 2 rfl) ?_
        refine kc_i (wc := (wW_X8_beginsWith ak ad h am 0 Ftaped Fsize Fplace Fbegin Ftoken Fword Ftold Fwrong Fcode Fat Fway Fnext FisEnd FisFallen Fwritten Fmade Fstate FhandNext FhandSteps FhandWritten FmarkAt Ainputs AcellAt AinputCell AinputLeast AinputMost)) (wr := [((am 2), .inl (ak 0, 6, .inl (Acells)))]) hP hD hS hA [0, 2, 3, 4, 5, 6] [1] rfl rfl (by decide) (by decide) (va_runV (As := [.int (0), .int (x0), .int (x1)]) (rest := []) ⟨hx, hb, hml, hown, hts⟩ (c_X8_beginsWith l D ak ad _ h am 0 Ftaped Fsize Fplace Fbegin Ftoken Fword Ftold Fwrong Fcode Fat Fway Fnext FisEnd FisFallen Fwritten Fmade Fstate FhandNext FhandSteps FhandWritten FmarkAt Ainputs AcellAt AinputCell AinputLeast AinputMost 0 x0 x1 _ hw) (cwV 3 hts gX8_input_X8_beginsWith rfl rfl rfl hv_X8_beginsWith ⟨(Nat.le_trans (Nat.le_of_ble_eq_true rfl) hRf), (Nat.le_trans (Nat.le_of_ble_eq_true rfl) hRl)⟩) (kc_preV (As := [.int (0), .int (x0), .int (x1)]) (wc := (wW_X8_beginsWith ak ad h am 0 Ftaped Fsize Fplace Fbegin Ftoken Fword Ftold Fwrong Fcode Fat Fway Fnext FisEnd FisFallen Fwritten Fmade Fstate FhandNext FhandSteps FhandWritten FmarkAt Ainputs AcellAt AinputCell AinputLeast AinputMost)) hE hT hP hD hS hA [0, 2, 3, 4, 5, 6] (by decide) rfl rfl 0 7 rfl rfl rfl) rfl rfl hl.1 rfl (lv_room (Nat.le_of_ble_eq_true rfl)) dX8_input_30 ⟨hRc.1, hRc.2⟩) (fun r_9 u_8 H locs hw hP hD hS => ?_)
        try dsimp -zeta only at hw
        have hP : va_P D vwCl (wW_X8_input ak ad h am 0 Ftaped Fsize Fplace Fbegin Ftoken Fword Ftold Fwrong Fcode Fat Fway Fnext FisEnd FisFallen Fwritten Fmade Fstate FhandNext FhandSteps FhandWritten FmarkAt Acells Ainputs AcellAt AinputCell AinputLeast AinputMost) H := hP.sub [1, 0, 2, 3, 4, 5, 6] rfl
        have hD : va_D A (wW_X8_input ak ad h am 0 Ftaped Fsize Fplace Fbegin Ftoken Fword Ftold Fwrong Fcode Fat Fway Fnext FisEnd FisFallen Fwritten Fmade Fstate FhandNext FhandSteps FhandWritten FmarkAt Acells Ainputs AcellAt AinputCell AinputLeast AinputMost) := hD.sub [1, 0, 2, 3, 4, 5, 6] (by decide) rfl
        refine lv_goto (tgt := 37) hx hb dX8_input_33 (by decide) ?_
        exact kR37 r_9 0 _ _ _ hw hP hD hS
set_option maxHeartbeats 4000000 in
set_option maxRecDepth 100000 in
theorem c_X8_input (l : Launch) (D : va_G) (ak : Nat → ClassId) (ad : Nat → Nat) (sz : Nat) (h : Nat) (am : Nat → Nat) (Fthrown : Int32) (Ftaped : Int32) (Fsize : Int32) (Fplace : Int32) (Fbegin : Int32) (Ftoken : Int32) (Fword : Int64) (Ftold : Int32) (Fwrong : Int32) (Fcode : Int32) (Fat : Int32) (Fway : Int32) (Fnext : Int32) (FisEnd : Int32) (FisFallen : Int32) (Fwritten : Int32) (Fmade : Int32) (Fstate : Int32) (FhandNext : Int32) (FhandSteps : Int32) (FhandWritten : Int32) (FmarkAt : Int32) (Acells : Nat → Int32) (Ainputs : Nat → Int32) (AcellAt : Nat → Int32) (AinputCell : Nat → Int32) (AinputLeast : Nat → Int32) (AinputMost : Nat → Int32) (x0 : Int32) (x1 : Int32) (Φ : Int32 → Int32 → Prop) (hf : wp_X8_input Acells Ainputs AcellAt AinputCell AinputLeast AinputMost x0 x1 Fthrown Φ) : Met l yX8_input wsX8_input ({ frames := 2, cells := 0, slots := 0, locals := 46 }) (cPre D ak ad [.ref h, .int (x0), .int (x1)] ((wW_X8_input ak ad h am Fthrown Ftaped Fsize Fplace Fbegin Ftoken Fword Ftold Fwrong Fcode Fat Fway Fnext FisEnd FisFallen Fwritten Fmade Fstate FhandNext FhandSteps FhandWritten FmarkAt Acells Ainputs AcellAt AinputCell AinputLeast AinputMost)) sz) (cI D (S := (Int32)) (fun (r : Int32) (u : (Int32)) => Φ r u) (fun u => (wW_X8_input ak ad h am u Ftaped Fsize Fplace Fbegin Ftoken Fword Ftold Fwrong Fcode Fat Fway Fnext FisEnd FisFallen Fwritten Fmade Fstate FhandNext FhandSteps FhandWritten FmarkAt Acells Ainputs AcellAt AinputCell AinputLeast AinputMost)) ((wW_X8_input ak ad h am Fthrown Ftaped Fsize Fplace Fbegin Ftoken Fword Ftold Fwrong Fcode Fat Fway Fnext FisEnd FisFallen Fwritten Fmade Fstate FhandNext FhandSteps FhandWritten FmarkAt Acells Ainputs AcellAt AinputCell AinputLeast AinputMost)) sz) 0 0 (va_A ((wW_X8_input ak ad h am Fthrown Ftaped Fsize Fplace Fbegin Ftoken Fword Ftold Fwrong Fcode Fat Fway Fnext FisEnd FisFallen Fwritten Fmade Fstate FhandNext FhandSteps FhandWritten FmarkAt Acells Ainputs AcellAt AinputCell AinputLeast AinputMost)) sz) := by
  refine Met.ofW (cc := cX8_input) (maxL := 3) (ret := (some .int)) (by decide) rfl ?_
  intro p e s m args below meth c s₁ B hml hv
  obtain ⟨rfl, hsz, hP, hE, hD0, hT⟩ := hv
  have hx := B.exec
  have hb := B.bytes
  have hr := B.returns
  have hts := atoms_spec (ws := wsX8_input) B.pre
  have hown : s.vm.findClass RX8 = some m.cls := findClass_of_methodNamed B.named
  have hlocks := B.notSynchronized
  subst hsz
  have hD := hD0.self (sz := s.heap.size)
  generalize hAe : va_A ((wW_X8_input ak ad h am Fthrown Ftaped Fsize Fplace Fbegin Ftoken Fword Ftold Fwrong Fcode Fat Fway Fnext FisEnd FisFallen Fwritten Fmade Fstate FhandNext FhandSteps FhandWritten FmarkAt Acells Ainputs AcellAt AinputCell AinputLeast AinputMost)) s.heap.size = A at hD hT ⊢
  have hA : ∀ q : Nat, s.heap.size ≤ q → A q := fun q h => by rw [← hAe]; exact Or.inr h
  have hS : va_S A s.heap s.heap [] := va_S.rf
  have hl := lv_entry ([.ref h, .int (x0), .int (x1)]) (n := 3) (Nat.le_of_ble_eq_true rfl)
  rw [lg_entry_eq]
  generalize (lg_sl ([.ref h, .int (x0), .int (x1)]) ++ List.replicate (3 - (lg_sl ([.ref h, .int (x0), .int (x1)])).length) Slot.unset).toArray = ls at hl ⊢
  have hl : lv_has ls 3 [(0, .ref h), (1, .int (x0)), (2, .int (x1))] := hl
  exact kj_X8_input_e hx hb hown hts hml hE hT hA (Nat.le_of_ble_eq_true rfl) (Nat.le_of_ble_eq_true rfl) ⟨Nat.le_of_ble_eq_true rfl, Nat.le_of_ble_eq_true rfl⟩ h am Ftaped Fsize Fplace Fbegin Ftoken Fword Ftold Fwrong Fcode Fat Fway Fnext FisEnd FisFallen Fwritten Fmade Fstate FhandNext FhandSteps FhandWritten FmarkAt Acells Ainputs AcellAt AinputCell AinputLeast AinputMost x0 x1 Φ (fun r Fthrown H locs ls hw hP hD hS => W.iret (v := r) hx hb hr (fun t ht hW => ⟨⟨r, Fthrown, rfl, hw, by rw [ht]; exact hP, by rw [hAe]; exact hD⟩, by rw [hAe]; exact hS.F ht⟩) hS.2.2 dX8_input_37) Fthrown _ _ _ hf hP hD hS hl
