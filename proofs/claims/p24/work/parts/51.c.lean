section
theorem dX3_tellStuff_0 : decode cX3_tellStuff 0 = .ok (.aload_n 0, 1) := by decide +kernel
theorem dX3_tellStuff_1 : decode cX3_tellStuff 1 = .ok (.getfield 35, 3) := by decide +kernel
theorem dX3_tellStuff_4 : decode cX3_tellStuff 4 = .ok (.getfield 105, 3) := by decide +kernel
theorem dX3_tellStuff_7 : decode cX3_tellStuff 7 = .ok (.istore_n 1, 1) := by decide +kernel
theorem dX3_tellStuff_8 : decode cX3_tellStuff 8 = .ok (.iload_n 1, 1) := by decide +kernel
theorem dX3_tellStuff_9 : decode cX3_tellStuff 9 = .ok (.iconst 4, 1) := by decide +kernel
theorem dX3_tellStuff_10 : decode cX3_tellStuff 10 = .ok (.if_icmp .lt 9, 3) := by decide +kernel
theorem dX3_tellStuff_19 : decode cX3_tellStuff 19 = .ok (.aload_n 0, 1) := by decide +kernel
set_option maxRecDepth 20000 in
theorem ggX3_tellStuff_X3_advance : GoodIn wsX3_tellStuff wsX3_advance := gup gc_X3_advance
set_option maxRecDepth 20000 in
theorem gX3_tellStuff_X3_advance : GoodIn wsX3_tellStuff (wsV RX3 60 RX3 yX3_advance wsX3_advance) := gup (glV hw_437 hw_438 hw_439 hw_440 gc_X3_advance)
theorem dX3_tellStuff_20 : decode cX3_tellStuff 20 = .ok (.invokevirtual 60, 3) := by decide +kernel
theorem dX3_tellStuff_23 : decode cX3_tellStuff 23 = .ok (.aload_n 0, 1) := by decide +kernel
theorem dX3_tellStuff_24 : decode cX3_tellStuff 24 = .ok (.getfield 9, 3) := by decide +kernel
theorem dX3_tellStuff_27 : decode cX3_tellStuff 27 = .ok (.iload_n 1, 1) := by decide +kernel
theorem dX3_tellStuff_28 : decode cX3_tellStuff 28 = .ok (.aload_n 0, 1) := by decide +kernel
set_option maxRecDepth 20000 in
theorem ggX3_tellStuff_X3_takeNewName : GoodIn wsX3_tellStuff wsX3_takeNewName := gup gc_X3_takeNewName
set_option maxRecDepth 20000 in
theorem gX3_tellStuff_X3_takeNewName : GoodIn wsX3_tellStuff (wsV RX3 108 RX3 yX3_takeNewName wsX3_takeNewName) := gup (glV hw_460 hw_461 hw_462 hw_440 gc_X3_takeNewName)
theorem dX3_tellStuff_29 : decode cX3_tellStuff 29 = .ok (.invokevirtual 108, 3) := by decide +kernel
theorem dX3_tellStuff_32 : decode cX3_tellStuff 32 = .ok (.lastore, 1) := by decide +kernel
theorem dX3_tellStuff_33 : decode cX3_tellStuff 33 = .ok (.aload_n 0, 1) := by decide +kernel
theorem dX3_tellStuff_34 : decode cX3_tellStuff 34 = .ok (.getstatic 112, 3) := by decide +kernel
set_option maxRecDepth 20000 in
theorem ggX3_tellStuff_X3_expect : GoodIn wsX3_tellStuff wsX3_expect := gup gc_X3_expect
set_option maxRecDepth 20000 in
theorem gX3_tellStuff_X3_expect : GoodIn wsX3_tellStuff (wsV RX3 94 RX3 yX3_expect wsX3_expect) := gup (glV hw_463 hw_464 hw_465 hw_440 gc_X3_expect)
theorem dX3_tellStuff_37 : decode cX3_tellStuff 37 = .ok (.invokevirtual 94, 3) := by decide +kernel
theorem dX3_tellStuff_40 : decode cX3_tellStuff 40 = .ok (.aload_n 0, 1) := by decide +kernel
theorem dX3_tellStuff_41 : decode cX3_tellStuff 41 = .ok (.getfield 35, 3) := by decide +kernel
theorem dX3_tellStuff_44 : decode cX3_tellStuff 44 = .ok (.getfield 115, 3) := by decide +kernel
theorem dX3_tellStuff_47 : decode cX3_tellStuff 47 = .ok (.iload_n 1, 1) := by decide +kernel
theorem dX3_tellStuff_48 : decode cX3_tellStuff 48 = .ok (.aload_n 0, 1) := by decide +kernel
theorem dX3_tellStuff_49 : decode cX3_tellStuff 49 = .ok (.iconst 1, 1) := by decide +kernel
theorem dX3_tellStuff_50 : decode cX3_tellStuff 50 = .ok (.sipush 9999, 3) := by decide +kernel
set_option maxRecDepth 20000 in
theorem ggX3_tellStuff_X3_takeNumber : GoodIn wsX3_tellStuff wsX3_takeNumber := gup gc_X3_takeNumber
set_option maxRecDepth 20000 in
theorem gX3_tellStuff_X3_takeNumber : GoodIn wsX3_tellStuff (wsV RX3 118 RX3 yX3_takeNumber wsX3_takeNumber) := gup (glV hw_466 hw_467 hw_468 hw_440 gc_X3_takeNumber)
theorem dX3_tellStuff_53 : decode cX3_tellStuff 53 = .ok (.invokevirtual 118, 3) := by decide +kernel
theorem dX3_tellStuff_56 : decode cX3_tellStuff 56 = .ok (.iastore, 1) := by decide +kernel
theorem dX3_tellStuff_57 : decode cX3_tellStuff 57 = .ok (.aload_n 0, 1) := by decide +kernel
theorem dX3_tellStuff_58 : decode cX3_tellStuff 58 = .ok (.getstatic 122, 3) := by decide +kernel
theorem dX3_tellStuff_61 : decode cX3_tellStuff 61 = .ok (.invokevirtual 94, 3) := by decide +kernel
theorem dX3_tellStuff_64 : decode cX3_tellStuff 64 = .ok (.aload_n 0, 1) := by decide +kernel
theorem dX3_tellStuff_65 : decode cX3_tellStuff 65 = .ok (.getfield 35, 3) := by decide +kernel
theorem dX3_tellStuff_68 : decode cX3_tellStuff 68 = .ok (.getfield 125, 3) := by decide +kernel
theorem dX3_tellStuff_71 : decode cX3_tellStuff 71 = .ok (.iload_n 1, 1) := by decide +kernel
theorem dX3_tellStuff_72 : decode cX3_tellStuff 72 = .ok (.aload_n 0, 1) := by decide +kernel
theorem dX3_tellStuff_73 : decode cX3_tellStuff 73 = .ok (.iconst 0, 1) := by decide +kernel
theorem dX3_tellStuff_74 : decode cX3_tellStuff 74 = .ok (.sipush 999, 3) := by decide +kernel
theorem dX3_tellStuff_77 : decode cX3_tellStuff 77 = .ok (.invokevirtual 118, 3) := by decide +kernel
theorem dX3_tellStuff_80 : decode cX3_tellStuff 80 = .ok (.iastore, 1) := by decide +kernel
theorem dX3_tellStuff_81 : decode cX3_tellStuff 81 = .ok (.aload_n 0, 1) := by decide +kernel
theorem dX3_tellStuff_82 : decode cX3_tellStuff 82 = .ok (.getfield 35, 3) := by decide +kernel
theorem dX3_tellStuff_85 : decode cX3_tellStuff 85 = .ok (.iload_n 1, 1) := by decide +kernel
theorem dX3_tellStuff_86 : decode cX3_tellStuff 86 = .ok (.iconst 1, 1) := by decide +kernel
theorem dX3_tellStuff_87 : decode cX3_tellStuff 87 = .ok (.iadd, 1) := by decide +kernel
theorem dX3_tellStuff_88 : decode cX3_tellStuff 88 = .ok (.putfield 105, 3) := by decide +kernel
theorem dX3_tellStuff_13 : decode cX3_tellStuff 13 = .ok (.aload_n 0, 1) := by decide +kernel
theorem dX3_tellStuff_14 : decode cX3_tellStuff 14 = .ok (.iconst 5, 1) := by decide +kernel
set_option maxRecDepth 20000 in
theorem ggX3_tellStuff_X3_fail : GoodIn wsX3_tellStuff wsX3_fail := gup gc_X3_fail
set_option maxRecDepth 20000 in
theorem gX3_tellStuff_X3_fail : GoodIn wsX3_tellStuff (wsV RX3 87 RX3 yX3_fail wsX3_fail) := gup (glV hw_441 hw_442 hw_443 hw_440 gc_X3_fail)
theorem dX3_tellStuff_15 : decode cX3_tellStuff 15 = .ok (.invokevirtual 87, 3) := by decide +kernel
theorem dX3_tellStuff_18 : decode cX3_tellStuff 18 = .ok (.return_, 1) := by decide +kernel
theorem dX3_tellStuff_91 : decode cX3_tellStuff 91 = .ok (.return_, 1) := by decide +kernel
theorem dX3_tellCell_0 : decode cX3_tellCell 0 = .ok (.aload_n 0, 1) := by decide +kernel
theorem dX3_tellCell_1 : decode cX3_tellCell 1 = .ok (.getfield 35, 3) := by decide +kernel
theorem dX3_tellCell_4 : decode cX3_tellCell 4 = .ok (.getfield 128, 3) := by decide +kernel
theorem dX3_tellCell_7 : decode cX3_tellCell 7 = .ok (.istore_n 1, 1) := by decide +kernel
theorem dX3_tellCell_8 : decode cX3_tellCell 8 = .ok (.iload_n 1, 1) := by decide +kernel
theorem dX3_tellCell_9 : decode cX3_tellCell 9 = .ok (.bipush 6, 2) := by decide +kernel
theorem dX3_tellCell_11 : decode cX3_tellCell 11 = .ok (.if_icmp .lt 9, 3) := by decide +kernel
theorem dX3_tellCell_20 : decode cX3_tellCell 20 = .ok (.aload_n 0, 1) := by decide +kernel
set_option maxRecDepth 20000 in
theorem ggX3_tellCell_X3_advance : GoodIn wsX3_tellCell wsX3_advance := gup gc_X3_advance
set_option maxRecDepth 20000 in
theorem gX3_tellCell_X3_advance : GoodIn wsX3_tellCell (wsV RX3 60 RX3 yX3_advance wsX3_advance) := gup (glV hw_437 hw_438 hw_439 hw_440 gc_X3_advance)
theorem dX3_tellCell_21 : decode cX3_tellCell 21 = .ok (.invokevirtual 60, 3) := by decide +kernel
theorem dX3_tellCell_24 : decode cX3_tellCell 24 = .ok (.aload_n 0, 1) := by decide +kernel
theorem dX3_tellCell_25 : decode cX3_tellCell 25 = .ok (.getfield 15, 3) := by decide +kernel
theorem dX3_tellCell_28 : decode cX3_tellCell 28 = .ok (.iload_n 1, 1) := by decide +kernel
theorem dX3_tellCell_29 : decode cX3_tellCell 29 = .ok (.aload_n 0, 1) := by decide +kernel
set_option maxRecDepth 20000 in
theorem ggX3_tellCell_X3_takeNewName : GoodIn wsX3_tellCell wsX3_takeNewName := gup gc_X3_takeNewName
set_option maxRecDepth 20000 in
theorem gX3_tellCell_X3_takeNewName : GoodIn wsX3_tellCell (wsV RX3 108 RX3 yX3_takeNewName wsX3_takeNewName) := gup (glV hw_460 hw_461 hw_462 hw_440 gc_X3_takeNewName)
theorem dX3_tellCell_30 : decode cX3_tellCell 30 = .ok (.invokevirtual 108, 3) := by decide +kernel
theorem dX3_tellCell_33 : decode cX3_tellCell 33 = .ok (.lastore, 1) := by decide +kernel
theorem dX3_tellCell_34 : decode cX3_tellCell 34 = .ok (.aload_n 0, 1) := by decide +kernel
theorem dX3_tellCell_35 : decode cX3_tellCell 35 = .ok (.getfield 35, 3) := by decide +kernel
theorem dX3_tellCell_38 : decode cX3_tellCell 38 = .ok (.getfield 131, 3) := by decide +kernel
theorem dX3_tellCell_41 : decode cX3_tellCell 41 = .ok (.iload_n 1, 1) := by decide +kernel
theorem dX3_tellCell_42 : decode cX3_tellCell 42 = .ok (.aload_n 0, 1) := by decide +kernel
theorem dX3_tellCell_43 : decode cX3_tellCell 43 = .ok (.iconst 0, 1) := by decide +kernel
theorem dX3_tellCell_44 : decode cX3_tellCell 44 = .ok (.sipush 9999, 3) := by decide +kernel
set_option maxRecDepth 20000 in
theorem ggX3_tellCell_X3_takeNumber : GoodIn wsX3_tellCell wsX3_takeNumber := gup gc_X3_takeNumber
set_option maxRecDepth 20000 in
theorem gX3_tellCell_X3_takeNumber : GoodIn wsX3_tellCell (wsV RX3 118 RX3 yX3_takeNumber wsX3_takeNumber) := gup (glV hw_466 hw_467 hw_468 hw_440 gc_X3_takeNumber)
theorem dX3_tellCell_47 : decode cX3_tellCell 47 = .ok (.invokevirtual 118, 3) := by decide +kernel
theorem dX3_tellCell_50 : decode cX3_tellCell 50 = .ok (.iastore, 1) := by decide +kernel
theorem dX3_tellCell_51 : decode cX3_tellCell 51 = .ok (.aload_n 0, 1) := by decide +kernel
theorem dX3_tellCell_52 : decode cX3_tellCell 52 = .ok (.getfield 35, 3) := by decide +kernel
theorem dX3_tellCell_55 : decode cX3_tellCell 55 = .ok (.iload_n 1, 1) := by decide +kernel
theorem dX3_tellCell_56 : decode cX3_tellCell 56 = .ok (.iconst 1, 1) := by decide +kernel
theorem dX3_tellCell_57 : decode cX3_tellCell 57 = .ok (.iadd, 1) := by decide +kernel
theorem dX3_tellCell_58 : decode cX3_tellCell 58 = .ok (.putfield 128, 3) := by decide +kernel
theorem dX3_tellCell_14 : decode cX3_tellCell 14 = .ok (.aload_n 0, 1) := by decide +kernel
theorem dX3_tellCell_15 : decode cX3_tellCell 15 = .ok (.iconst 5, 1) := by decide +kernel
set_option maxRecDepth 20000 in
theorem ggX3_tellCell_X3_fail : GoodIn wsX3_tellCell wsX3_fail := gup gc_X3_fail
set_option maxRecDepth 20000 in
theorem gX3_tellCell_X3_fail : GoodIn wsX3_tellCell (wsV RX3 87 RX3 yX3_fail wsX3_fail) := gup (glV hw_441 hw_442 hw_443 hw_440 gc_X3_fail)
theorem dX3_tellCell_16 : decode cX3_tellCell 16 = .ok (.invokevirtual 87, 3) := by decide +kernel
theorem dX3_tellCell_19 : decode cX3_tellCell 19 = .ok (.return_, 1) := by decide +kernel
theorem dX3_tellCell_61 : decode cX3_tellCell 61 = .ok (.return_, 1) := by decide +kernel
theorem dX3_tellInput_99 : decode cX3_tellInput 99 = .ok (.aload_n 0, 1) := by decide +kernel
set_option maxRecDepth 20000 in
theorem ggX3_tellInput_X3_advance : GoodIn wsX3_tellInput wsX3_advance := gup gc_X3_advance
set_option maxRecDepth 20000 in
theorem gX3_tellInput_X3_advance : GoodIn wsX3_tellInput (wsV RX3 60 RX3 yX3_advance wsX3_advance) := gup (glV hw_437 hw_438 hw_439 hw_440 gc_X3_advance)
theorem dX3_tellInput_100 : decode cX3_tellInput 100 = .ok (.invokevirtual 60, 3) := by decide +kernel
theorem dX3_tellInput_103 : decode cX3_tellInput 103 = .ok (.aload_n 0, 1) := by decide +kernel
theorem dX3_tellInput_104 : decode cX3_tellInput 104 = .ok (.getfield 35, 3) := by decide +kernel
theorem dX3_tellInput_107 : decode cX3_tellInput 107 = .ok (.getfield 151, 3) := by decide +kernel
theorem dX3_tellInput_110 : decode cX3_tellInput 110 = .ok (.iload_n 1, 1) := by decide +kernel
theorem dX3_tellInput_111 : decode cX3_tellInput 111 = .ok (.iload_n 2, 1) := by decide +kernel
theorem dX3_tellInput_112 : decode cX3_tellInput 112 = .ok (.iastore, 1) := by decide +kernel
theorem dX3_tellInput_113 : decode cX3_tellInput 113 = .ok (.aload_n 0, 1) := by decide +kernel
theorem dX3_tellInput_114 : decode cX3_tellInput 114 = .ok (.getfield 35, 3) := by decide +kernel
theorem dX3_tellInput_117 : decode cX3_tellInput 117 = .ok (.getfield 154, 3) := by decide +kernel
theorem dX3_tellInput_120 : decode cX3_tellInput 120 = .ok (.iload_n 1, 1) := by decide +kernel
theorem dX3_tellInput_121 : decode cX3_tellInput 121 = .ok (.iload_n 3, 1) := by decide +kernel
theorem dX3_tellInput_122 : decode cX3_tellInput 122 = .ok (.iastore, 1) := by decide +kernel
theorem dX3_tellInput_123 : decode cX3_tellInput 123 = .ok (.aload_n 0, 1) := by decide +kernel
theorem dX3_tellInput_124 : decode cX3_tellInput 124 = .ok (.getfield 35, 3) := by decide +kernel
theorem dX3_tellInput_127 : decode cX3_tellInput 127 = .ok (.getfield 157, 3) := by decide +kernel
theorem dX3_tellInput_130 : decode cX3_tellInput 130 = .ok (.iload_n 1, 1) := by decide +kernel
theorem dX3_tellInput_131 : decode cX3_tellInput 131 = .ok (.iload 4, 2) := by decide +kernel
theorem dX3_tellInput_133 : decode cX3_tellInput 133 = .ok (.iastore, 1) := by decide +kernel
theorem dX3_tellInput_134 : decode cX3_tellInput 134 = .ok (.aload_n 0, 1) := by decide +kernel
theorem dX3_tellInput_135 : decode cX3_tellInput 135 = .ok (.getfield 35, 3) := by decide +kernel
theorem dX3_tellInput_138 : decode cX3_tellInput 138 = .ok (.iload_n 1, 1) := by decide +kernel
theorem dX3_tellInput_139 : decode cX3_tellInput 139 = .ok (.iconst 1, 1) := by decide +kernel
theorem dX3_tellInput_140 : decode cX3_tellInput 140 = .ok (.iadd, 1) := by decide +kernel
theorem dX3_tellInput_141 : decode cX3_tellInput 141 = .ok (.putfield 133, 3) := by decide +kernel
theorem dX3_tellInput_52 : decode cX3_tellInput 52 = .ok (.aload_n 0, 1) := by decide +kernel
theorem dX3_tellInput_53 : decode cX3_tellInput 53 = .ok (.invokevirtual 60, 3) := by decide +kernel
theorem dX3_tellInput_56 : decode cX3_tellInput 56 = .ok (.aload_n 0, 1) := by decide +kernel
theorem dX3_tellInput_57 : decode cX3_tellInput 57 = .ok (.iconst 0, 1) := by decide +kernel
theorem dX3_tellInput_58 : decode cX3_tellInput 58 = .ok (.sipush 9999, 3) := by decide +kernel
set_option maxRecDepth 20000 in
theorem ggX3_tellInput_X3_takeNumber : GoodIn wsX3_tellInput wsX3_takeNumber := gup gc_X3_takeNumber
set_option maxRecDepth 20000 in
theorem gX3_tellInput_X3_takeNumber : GoodIn wsX3_tellInput (wsV RX3 118 RX3 yX3_takeNumber wsX3_takeNumber) := gup (glV hw_466 hw_467 hw_468 hw_440 gc_X3_takeNumber)
theorem dX3_tellInput_61 : decode cX3_tellInput 61 = .ok (.invokevirtual 118, 3) := by decide +kernel
theorem dX3_tellInput_64 : decode cX3_tellInput 64 = .ok (.istore_n 3, 1) := by decide +kernel
theorem dX3_tellInput_65 : decode cX3_tellInput 65 = .ok (.aload_n 0, 1) := by decide +kernel
theorem dX3_tellInput_66 : decode cX3_tellInput 66 = .ok (.iload_n 3, 1) := by decide +kernel
theorem dX3_tellInput_67 : decode cX3_tellInput 67 = .ok (.sipush 9999, 3) := by decide +kernel
set_option maxRecDepth 20000 in
theorem ggX3_tellInput_X3_numberHere : GoodIn wsX3_tellInput wsX3_numberHere := gup gc_X3_numberHere
set_option maxRecDepth 20000 in
theorem gX3_tellInput_X3_numberHere : GoodIn wsX3_tellInput (wsV RX3 144 RX3 yX3_numberHere wsX3_numberHere) := gup (glV hw_444 hw_445 hw_446 hw_440 gc_X3_numberHere)
theorem dX3_tellInput_70 : decode cX3_tellInput 70 = .ok (.invokevirtual 144, 3) := by decide +kernel
theorem dX3_tellInput_73 : decode cX3_tellInput 73 = .ok (.istore 4, 2) := by decide +kernel
theorem dX3_tellInput_75 : decode cX3_tellInput 75 = .ok (.iload 4, 2) := by decide +kernel
theorem dX3_tellInput_77 : decode cX3_tellInput 77 = .ok (.iload_n 3, 1) := by decide +kernel
theorem dX3_tellInput_78 : decode cX3_tellInput 78 = .ok (.isub, 1) := by decide +kernel
theorem dX3_tellInput_79 : decode cX3_tellInput 79 = .ok (.iconst 1, 1) := by decide +kernel
theorem dX3_tellInput_80 : decode cX3_tellInput 80 = .ok (.iadd, 1) := by decide +kernel
theorem dX3_tellInput_81 : decode cX3_tellInput 81 = .ok (.aload_n 0, 1) := by decide +kernel
theorem dX3_tellInput_82 : decode cX3_tellInput 82 = .ok (.getfield 35, 3) := by decide +kernel
set_option maxRecDepth 20000 in
theorem ggX3_tellInput_X2_inputCount : GoodIn wsX3_tellInput wsX2_inputCount := gup gc_X2_inputCount
set_option maxRecDepth 20000 in
theorem gX3_tellInput_X2_inputCount : GoodIn wsX3_tellInput (wsV RX3 147 RX2 yX2_inputCount wsX2_inputCount) := gup (glV hw_469 hw_470 hw_471 hw_318 gc_X2_inputCount)
theorem dX3_tellInput_85 : decode cX3_tellInput 85 = .ok (.invokevirtual 147, 3) := by decide +kernel
theorem dX3_tellInput_88 : decode cX3_tellInput 88 = .ok (.imul, 1) := by decide +kernel
theorem dX3_tellInput_89 : decode cX3_tellInput 89 = .ok (.bipush 64, 2) := by decide +kernel
theorem dX3_tellInput_91 : decode cX3_tellInput 91 = .ok (.if_icmp .le 8, 3) := by decide +kernel
theorem dX3_tellInput_94 : decode cX3_tellInput 94 = .ok (.aload_n 0, 1) := by decide +kernel
theorem dX3_tellInput_95 : decode cX3_tellInput 95 = .ok (.iconst 5, 1) := by decide +kernel
set_option maxRecDepth 20000 in
theorem ggX3_tellInput_X3_fail : GoodIn wsX3_tellInput wsX3_fail := gup gc_X3_fail
set_option maxRecDepth 20000 in
theorem gX3_tellInput_X3_fail : GoodIn wsX3_tellInput (wsV RX3 87 RX3 yX3_fail wsX3_fail) := gup (glV hw_441 hw_442 hw_443 hw_440 gc_X3_fail)
theorem dX3_tellInput_96 : decode cX3_tellInput 96 = .ok (.invokevirtual 87, 3) := by decide +kernel
theorem dX3_tellInput_0 : decode cX3_tellInput 0 = .ok (.aload_n 0, 1) := by decide +kernel
theorem dX3_tellInput_1 : decode cX3_tellInput 1 = .ok (.getfield 35, 3) := by decide +kernel
theorem dX3_tellInput_4 : decode cX3_tellInput 4 = .ok (.getfield 133, 3) := by decide +kernel
theorem dX3_tellInput_7 : decode cX3_tellInput 7 = .ok (.istore_n 1, 1) := by decide +kernel
theorem dX3_tellInput_8 : decode cX3_tellInput 8 = .ok (.iload_n 1, 1) := by decide +kernel
theorem dX3_tellInput_9 : decode cX3_tellInput 9 = .ok (.iconst 2, 1) := by decide +kernel
theorem dX3_tellInput_10 : decode cX3_tellInput 10 = .ok (.if_icmp .lt 9, 3) := by decide +kernel
theorem dX3_tellInput_19 : decode cX3_tellInput 19 = .ok (.aload_n 0, 1) := by decide +kernel
theorem dX3_tellInput_20 : decode cX3_tellInput 20 = .ok (.invokevirtual 60, 3) := by decide +kernel
theorem dX3_tellInput_23 : decode cX3_tellInput 23 = .ok (.aload_n 0, 1) := by decide +kernel
theorem dX3_tellInput_24 : decode cX3_tellInput 24 = .ok (.aload_n 0, 1) := by decide +kernel
theorem dX3_tellInput_25 : decode cX3_tellInput 25 = .ok (.getfield 15, 3) := by decide +kernel
theorem dX3_tellInput_28 : decode cX3_tellInput 28 = .ok (.aload_n 0, 1) := by decide +kernel
theorem dX3_tellInput_29 : decode cX3_tellInput 29 = .ok (.getfield 35, 3) := by decide +kernel
theorem dX3_tellInput_32 : decode cX3_tellInput 32 = .ok (.getfield 128, 3) := by decide +kernel
set_option maxRecDepth 20000 in
theorem ggX3_tellInput_X3_toldHere : GoodIn wsX3_tellInput wsX3_toldHere := gup gc_X3_toldHere
set_option maxRecDepth 20000 in
theorem gX3_tellInput_X3_toldHere : GoodIn wsX3_tellInput (wsV RX3 136 RX3 yX3_toldHere wsX3_toldHere) := gup (glV hw_450 hw_451 hw_452 hw_440 gc_X3_toldHere)
theorem dX3_tellInput_35 : decode cX3_tellInput 35 = .ok (.invokevirtual 136, 3) := by decide +kernel
theorem dX3_tellInput_38 : decode cX3_tellInput 38 = .ok (.istore_n 2, 1) := by decide +kernel
theorem dX3_tellInput_39 : decode cX3_tellInput 39 = .ok (.aload_n 0, 1) := by decide +kernel
theorem dX3_tellInput_40 : decode cX3_tellInput 40 = .ok (.iload_n 2, 1) := by decide +kernel
set_option maxRecDepth 20000 in
theorem ggX3_tellInput_X3_isGiven : GoodIn wsX3_tellInput wsX3_isGiven := gup gc_X3_isGiven
set_option maxRecDepth 20000 in
theorem gX3_tellInput_X3_isGiven : GoodIn wsX3_tellInput (wsV RX3 140 RX3 yX3_isGiven wsX3_isGiven) := gup (glV hw_472 hw_473 hw_474 hw_440 gc_X3_isGiven)
theorem dX3_tellInput_41 : decode cX3_tellInput 41 = .ok (.invokevirtual 140, 3) := by decide +kernel
theorem dX3_tellInput_44 : decode cX3_tellInput 44 = .ok (.ifCond .eq 8, 3) := by decide +kernel
theorem dX3_tellInput_47 : decode cX3_tellInput 47 = .ok (.aload_n 0, 1) := by decide +kernel
theorem dX3_tellInput_48 : decode cX3_tellInput 48 = .ok (.iconst 3, 1) := by decide +kernel
theorem dX3_tellInput_49 : decode cX3_tellInput 49 = .ok (.invokevirtual 87, 3) := by decide +kernel
theorem dX3_tellInput_13 : decode cX3_tellInput 13 = .ok (.aload_n 0, 1) := by decide +kernel
theorem dX3_tellInput_14 : decode cX3_tellInput 14 = .ok (.iconst 5, 1) := by decide +kernel
theorem dX3_tellInput_15 : decode cX3_tellInput 15 = .ok (.invokevirtual 87, 3) := by decide +kernel
theorem dX3_tellInput_18 : decode cX3_tellInput 18 = .ok (.return_, 1) := by decide +kernel
theorem dX3_tellInput_144 : decode cX3_tellInput 144 = .ok (.return_, 1) := by decide +kernel
def wW_X3_tellStuff (ak : Nat → ClassId) (ad : Nat → Nat) (hr_ : Nat) (ra : Nat → Nat) (ht : Nat) (ta : Nat → Nat) (pg : Nat) (pa : Nat → Nat) (Rcoded : Int32) (Rtaken : Int32) (Rtoken : Nat) (Rplace : Int32) (Rvalue : Int64) (Rfault : Int32) (Rsn : Nat → Int64) (Rcn : Nat → Int64) (Tlen : Int32) (Tcnt : Int32) (Ttoks : Nat → Nat) (Tplc : Nat → Int32) (Tvals : Nat → Int64) (Pst : Int32) (Pce : Int32) (Pgi : Int32) (Pln : Int32) (Pbears : Nat → Int32) (Pcosts : Nat → Int32) : va_W := [(hr_, .inr (3, rob ad ra (ht) (Rcoded) (pg) (Rtaken) (Rtoken) (Rplace) (Rvalue) (Rfault))), ((ra 0), .inl (ak 1, 4, .inr (.inl (Rsn)))), ((ra 1), .inl (ak 1, 6, .inr (.inl (Rcn)))), (ht, .inr (5, tob ta (Tlen) (Tcnt))), ((ta 1), .inl (ak 4, 1001, .inr (.inr (.inr (.inr (tokA ad (Ttoks))))))), ((ta 2), .inl (ak 0, 1001, .inl (Tplc))), ((ta 3), .inl (ak 1, 1001, .inr (.inl (Tvals)))), (pg, .inr (2, pob pa (Pst) (Pce) (Pgi) (Pln))), ((pa 0), .inl (ak 0, 4, .inl (Pbears))), ((pa 1), .inl (ak 0, 4, .inl (Pcosts)))]
def wp_X3_tellStuff (Rcn : Nat → Int64) (Tcnt : Int32) (Ttoks : Nat → Nat) (Tplc : Nat → Int32) (Tvals : Nat → Int64) (Pce : Int32) (Rtaken : Int32) (Rtoken : Nat) (Rplace : Int32) (Rvalue : Int64) (Rfault : Int32) (Rsn : Nat → Int64) (Pst : Int32) (Pbears : Nat → Int32) (Pcosts : Nat → Int32) (Φ : Int32 → Nat → Int32 → Int64 → Int32 → (Nat → Int64) → Int32 → (Nat → Int32) → (Nat → Int32) → Prop) : Prop := (Pst < 4 → wp_X3_advance Tcnt Ttoks Tplc Tvals Rtaken Rtoken Rplace Rvalue (fun Rtaken_3 Rtoken_4 Rplace_5 Rvalue_6 => wp_X3_takeNewName Rsn Rcn Tcnt Ttoks Tplc Tvals Pst Pce Rtaken_3 Rtoken_4 Rplace_5 Rvalue_6 Rfault (fun r_14 Rtaken_9 Rtoken_10 Rplace_11 Rvalue_12 Rfault_13 => vp_in Pst 4 ∧ wp_X3_expect Tcnt Ttoks Tplc Tvals 13 Rtaken_9 Rtoken_10 Rplace_11 Rvalue_12 Rfault_13 (fun Rtaken_17 Rtoken_18 Rplace_19 Rvalue_20 Rfault_21 => wp_X3_takeNumber Tcnt Ttoks Tplc Tvals 1 9999 Rtaken_17 Rtoken_18 Rplace_19 Rvalue_20 Rfault_21 (fun r_29 Rtaken_24 Rtoken_25 Rplace_26 Rvalue_27 Rfault_28 => vp_in Pst 4 ∧ wp_X3_expect Tcnt Ttoks Tplc Tvals 14 Rtaken_24 Rtoken_25 Rplace_26 Rvalue_27 Rfault_28 (fun Rtaken_32 Rtoken_33 Rplace_34 Rvalue_35 Rfault_36 => wp_X3_takeNumber Tcnt Ttoks Tplc Tvals 0 999 Rtaken_32 Rtoken_33 Rplace_34 Rvalue_35 Rfault_36 (fun r_44 Rtaken_39 Rtoken_40 Rplace_41 Rvalue_42 Rfault_43 => vp_in Pst 4 ∧ Φ Rtaken_39 Rtoken_40 Rplace_41 Rvalue_42 Rfault_43 (vp_updL Rsn (Pst).toNatClampNeg r_14) (Pst + 1) (upd Pbears (Pst).toNatClampNeg r_29) (upd Pcosts (Pst).toNatClampNeg r_44)))))))) ∧ (¬ Pst < 4 → wp_X3_fail Rplace 5 Rfault (fun Rfault_47 => Φ Rtaken Rtoken Rplace Rvalue Rfault_47 Rsn Pst Pbears Pcosts))
set_option maxHeartbeats 4000000 in
set_option maxRecDepth 100000 in
theorem kj_X3_tellStuff_e {p : Program} {l : Launch} {e : Env} {R : Room} {s : State} {m : MethodId} {args : Array Value} {below : List Frame} {meth : Method} {c : Code} {cells slots : Nat} {Q : State → Prop} {A : Nat → Prop} {D : va_G} {ak : Nat → ClassId} {ad : Nat → Nat} (hx : p.tables.exec = Jvm.exec) (hb : c.code = cX3_tellStuff) (hown : s.vm.findClass RX3 = some m.cls) (hts : ∀ w ∈ wsX3_tellStuff, w.before args s = true) (hml : c.maxLocals = 2) (hE : EV D ak s) (hT : ST D ak ad A s s.heap) (hA : ∀ q, s.heap.size ≤ q → A q) (hRf : 3 ≤ R.frames) (hRl : 66 ≤ R.locals) (hRc : cells ≤ R.cells ∧ slots ≤ R.slots) (hr_ : Nat) (ra : Nat → Nat) (ht : Nat) (ta : Nat → Nat) (pg : Nat) (pa : Nat → Nat) (Rcoded : Int32) (Rcn : Nat → Int64) (Tlen : Int32) (Tcnt : Int32) (Ttoks : Nat → Nat) (Tplc : Nat → Int32) (Tvals : Nat → Int64) (Pce : Int32) (Pgi : Int32) (Pln : Int32)  (Φ : Int32 → Nat → Int32 → Int64 → Int32 → (Nat → Int64) → Int32 → (Nat → Int32) → (Nat → Int32) → Prop)
    (kR18 : ∀ (Rtaken : Int32) (Rtoken : Nat) (Rplace : Int32) (Rvalue : Int64) (Rfault : Int32) (Rsn : Nat → Int64) (Pst : Int32) (Pbears : Nat → Int32) (Pcosts : Nat → Int32) (H : Heap) (locs : List Loc) (ls : Array Slot), Φ Rtaken Rtoken Rplace Rvalue Rfault Rsn Pst Pbears Pcosts → va_P D vwCl (wW_X3_tellStuff ak ad hr_ ra ht ta pg pa Rcoded Rtaken Rtoken Rplace Rvalue Rfault Rsn Rcn Tlen Tcnt Ttoks Tplc Tvals Pst Pce Pgi Pln Pbears Pcosts) H → va_D A (wW_X3_tellStuff ak ad hr_ ra ht ta pg pa Rcoded Rtaken Rtoken Rplace Rvalue Rfault Rsn Rcn Tlen Tcnt Ttoks Tplc Tvals Pst Pce Pgi Pln Pbears Pcosts) → va_S A s.heap H locs → W p l e R s m args below meth c H locs cells slots Q (F0 m 18 ls []))
    (kR91 : ∀ (Rtaken : Int32) (Rtoken : Nat) (Rplace : Int32) (Rvalue : Int64) (Rfault : Int32) (Rsn : Nat → Int64) (Pst : Int32) (Pbears : Nat → Int32) (Pcosts : Nat → Int32) (H : Heap) (locs : List Loc) (ls : Array Slot), Φ Rtaken Rtoken Rplace Rvalue Rfault Rsn Pst Pbears Pcosts → va_P D vwCl (wW_X3_tellStuff ak ad hr_ ra ht ta pg pa Rcoded Rtaken Rtoken Rplace Rvalue Rfault Rsn Rcn Tlen Tcnt Ttoks Tplc Tvals Pst Pce Pgi Pln Pbears Pcosts) H → va_D A (wW_X3_tellStuff ak ad hr_ ra ht ta pg pa Rcoded Rtaken Rtoken Rplace Rvalue Rfault Rsn Rcn Tlen Tcnt Ttoks Tplc Tvals Pst Pce Pgi Pln Pbears Pcosts) → va_S A s.heap H locs → W p l e R s m args below meth c H locs cells slots Q (F0 m 91 ls []))
    : ∀ (Rtaken : Int32) (Rtoken : Nat) (Rplace : Int32) (Rvalue : Int64) (Rfault : Int32) (Rsn : Nat → Int64) (Pst : Int32) (Pbears : Nat → Int32) (Pcosts : Nat → Int32) (H : Heap) (locs : List Loc) (ls : Array Slot), wp_X3_tellStuff Rcn Tcnt Ttoks Tplc Tvals Pce Rtaken Rtoken Rplace Rvalue Rfault Rsn Pst Pbears Pcosts Φ → va_P D vwCl (wW_X3_tellStuff ak ad hr_ ra ht ta pg pa Rcoded Rtaken Rtoken Rplace Rvalue Rfault Rsn Rcn Tlen Tcnt Ttoks Tplc Tvals Pst Pce Pgi Pln Pbears Pcosts) H → va_D A (wW_X3_tellStuff ak ad hr_ ra ht ta pg pa Rcoded Rtaken Rtoken Rplace Rvalue Rfault Rsn Rcn Tlen Tcnt Ttoks Tplc Tvals Pst Pce Pgi Pln Pbears Pcosts) → va_S A s.heap H locs → lv_has ls 2 [(0, .ref hr_)] → W p l e R s m args below meth c H locs cells slots Q (F0 m 0 ls ([])) := by
  intro Rtaken Rtoken Rplace Rvalue Rfault Rsn Pst Pbears Pcosts H locs ls hw hP hD hS hl
  delta wp_X3_tellStuff at hw
  refine lv_aload_n hx hb dX3_tellStuff_0 rfl (lv_at hl 0 rfl) ?_
  refine vt_get (D := D) (ci := 3) (v := .ref pg) (C := RX3) (T := TX3) (N := 11) hx hb hts (fun w h => wm_c (wc_X3 w h)) hown hE.1 hP 0 rfl rfl 5 (by decide) tX3_5 (hts (.fieldLink RX3 35 "WornLines$Reader" "told" "LWornLines$Programme;") (wm_c hw_292)) (fun _ h9 => h9) rfl dX3_tellStuff_1 ?_
  refine vt_get (D := D) (ci := 2) (v := .int (Pst)) (C := RX2) (T := TX2) (N := 17) hx hb hts (fun w h => wm_c (wc_X2 w h)) hown hE.1 hP 7 rfl rfl 0 (by decide) tX2_0 (hts (.fieldLink RX3 105 "WornLines$Programme" "stuffs" "I") (wm_c hw_433)) (fun _ h9 => h9) rfl dX3_tellStuff_4 ?_
  refine lv_istore_n (lv' := [(1, .int (Pst)), (0, .ref hr_)]) hx hb dX3_tellStuff_7 rfl hl (by decide) rfl (fun ls hl => ?_)
  refine lv_iload_n hx hb dX3_tellStuff_8 rfl (lv_at hl 0 rfl) ?_
  refine lv_iconst (v := 4) hx hb dX3_tellStuff_9 (by decide) ?_
  refine lv_icmp_lt (tgt := 19) hx hb dX3_tellStuff_10 (by decide) (fun c_1 => ?_) (fun c_1 => ?_)
  · replace hw := hw.1 c_1
    refine lv_aload_n hx hb dX3_tellStuff_19 rfl (lv_at hl 1 rfl) ?_
    refine kc_v (wc := (wW_X3_advance ak ad hr_ ra ht ta pg Rcoded Rtaken Rtoken Rplace Rvalue Rfault Tlen Tcnt Ttoks Tplc Tvals)) (wr := [((ra 0), .inl (ak 1, 4, .inr (.inl (Rsn)))), ((ra 1), .inl (ak 1, 6, .inr (.inl (Rcn)))), (pg, .inr (2, pob pa (Pst) (Pce) (Pgi) (Pln))), ((pa 0), .inl (ak 0, 4, .inl (Pbears))), ((pa 1), .inl (ak 0, 4, .inl (Pcosts)))]) hP hD hS hA [0, 3, 4, 5, 6] [1, 2, 7, 8, 9] rfl rfl (by decide) (by decide) (va_runV (As := []) (rest := []) ⟨hx, hb, hml, hown, hts⟩ (c_X3_advance l D ak ad _ hr_ ra ht ta pg Rcoded Rtaken Rtoken Rplace Rvalue Rfault Tlen Tcnt Ttoks Tplc Tvals _ hw) (cwV 0 hts gX3_tellStuff_X3_advance rfl rfl rfl hv_X3_advance ⟨(Nat.le_trans (Nat.le_of_ble_eq_true rfl) hRf), (Nat.le_trans (Nat.le_of_ble_eq_true rfl) hRl)⟩) (kc_preV (As := []) (wc := (wW_X3_advance ak ad hr_ ra ht ta pg Rcoded Rtaken Rtoken Rplace Rvalue Rfault Tlen Tcnt Ttoks Tplc Tvals)) hE hT hP hD hS hA [0, 3, 4, 5, 6] (by decide) rfl rfl 0 3 rfl rfl rfl) rfl rfl hl.1 rfl (lv_room (Nat.le_of_ble_eq_true rfl)) dX3_tellStuff_20 ⟨hRc.1, hRc.2⟩) (fun u_2 H locs hw hP hD hS => ?_)
    obtain ⟨Rtaken_3, Rtoken_4, Rplace_5, Rvalue_6⟩ := u_2
    try dsimp -zeta only at hw
    have hP : va_P D vwCl (wW_X3_tellStuff ak ad hr_ ra ht ta pg pa Rcoded Rtaken_3 Rtoken_4 Rplace_5 Rvalue_6 Rfault Rsn Rcn Tlen Tcnt Ttoks Tplc Tvals Pst Pce Pgi Pln Pbears Pcosts) H := hP.sub [5, 0, 1, 6, 7, 8, 9, 2, 3, 4] rfl
    have hD : va_D A (wW_X3_tellStuff ak ad hr_ ra ht ta pg pa Rcoded Rtaken_3 Rtoken_4 Rplace_5 Rvalue_6 Rfault Rsn Rcn Tlen Tcnt Ttoks Tplc Tvals Pst Pce Pgi Pln Pbears Pcosts) := hD.sub [5, 0, 1, 6, 7, 8, 9, 2, 3, 4] (by decide) rfl
    refine lv_aload_n hx hb dX3_tellStuff_23 rfl (lv_at hl 1 rfl) ?_
    refine vt_get (D := D) (ci := 3) (v := .ref (ra 0)) (C := RX3) (T := TX3) (N := 11) hx hb hts (fun w h => wm_c (wc_X3 w h)) hown hE.1 hP 0 rfl rfl 1 (by decide) tX3_1 (hts (.fieldLink RX3 9 "WornLines$Reader" "stuffNames" "[J") (wm_c hw_286)) (fun _ h9 => h9) rfl dX3_tellStuff_24 ?_
    refine lv_iload_n hx hb dX3_tellStuff_27 rfl (lv_at hl 0 rfl) ?_
    refine lv_aload_n hx hb dX3_tellStuff_28 rfl (lv_at hl 1 rfl) ?_
    refine kc_l (wc := (wW_X3_takeNewName ak ad hr_ ra ht ta pg pa Rcoded Rtaken_3 Rtoken_4 Rplace_5 Rvalue_6 Rfault Rsn Rcn Tlen Tcnt Ttoks Tplc Tvals Pst Pce Pgi Pln)) (wr := [((pa 0), .inl (ak 0, 4, .inl (Pbears))), ((pa 1), .inl (ak 0, 4, .inl (Pcosts)))]) hP hD hS hA [0, 1, 2, 3, 4, 5, 6, 7] [8, 9] rfl rfl (by decide) (by decide) (va_runV (As := []) (rest := [.int (Pst), .ref (ra 0)]) ⟨hx, hb, hml, hown, hts⟩ (c_X3_takeNewName l D ak ad _ hr_ ra ht ta pg pa Rcoded Rtaken_3 Rtoken_4 Rplace_5 Rvalue_6 Rfault Rsn Rcn Tlen Tcnt Ttoks Tplc Tvals Pst Pce Pgi Pln _ hw) (cwV 0 hts gX3_tellStuff_X3_takeNewName rfl rfl rfl hv_X3_takeNewName ⟨(Nat.le_trans (Nat.le_of_ble_eq_true rfl) hRf), (Nat.le_trans (Nat.le_of_ble_eq_true rfl) hRl)⟩) (kc_preV (As := []) (wc := (wW_X3_takeNewName ak ad hr_ ra ht ta pg pa Rcoded Rtaken_3 Rtoken_4 Rplace_5 Rvalue_6 Rfault Rsn Rcn Tlen Tcnt Ttoks Tplc Tvals Pst Pce Pgi Pln)) hE hT hP hD hS hA [0, 1, 2, 3, 4, 5, 6, 7] (by decide) rfl rfl 0 3 rfl rfl rfl) rfl rfl hl.1 rfl (lv_room (Nat.le_of_ble_eq_true rfl)) dX3_tellStuff_29 ⟨hRc.1, hRc.2⟩) (fun r_14 u_8 H locs hw hP hD hS => ?_)
    obtain ⟨Rtaken_9, Rtoken_10, Rplace_11, Rvalue_12, Rfault_13⟩ := u_8
    try dsimp -zeta only at hw
    have hP : va_P D vwCl (wW_X3_tellStuff ak ad hr_ ra ht ta pg pa Rcoded Rtaken_9 Rtoken_10 Rplace_11 Rvalue_12 Rfault_13 Rsn Rcn Tlen Tcnt Ttoks Tplc Tvals Pst Pce Pgi Pln Pbears Pcosts) H := hP.sub [2, 3, 4, 5, 6, 7, 8, 9, 0, 1] rfl
    have hD : va_D A (wW_X3_tellStuff ak ad hr_ ra ht ta pg pa Rcoded Rtaken_9 Rtoken_10 Rplace_11 Rvalue_12 Rfault_13 Rsn Rcn Tlen Tcnt Ttoks Tplc Tvals Pst Pce Pgi Pln Pbears Pcosts) := hD.sub [2, 3, 4, 5, 6, 7, 8, 9, 0, 1] (by decide) rfl
    obtain ⟨h_15, hw⟩ := hw
    refine va_last hx hb hE.1 hP hD hS 1 1 rfl rfl (h_15) dX3_tellStuff_32 (fun H locs hP hD hS => ?_)
    have hP : va_P D vwCl (wW_X3_tellStuff ak ad hr_ ra ht ta pg pa Rcoded Rtaken_9 Rtoken_10 Rplace_11 Rvalue_12 Rfault_13 (vp_updL Rsn (Pst).toNatClampNeg r_14) Rcn Tlen Tcnt Ttoks Tplc Tvals Pst Pce Pgi Pln Pbears Pcosts) H := hP
    have hD : va_D A (wW_X3_tellStuff ak ad hr_ ra ht ta pg pa Rcoded Rtaken_9 Rtoken_10 Rplace_11 Rvalue_12 Rfault_13 (vp_updL Rsn (Pst).toNatClampNeg r_14) Rcn Tlen Tcnt Ttoks Tplc Tvals Pst Pce Pgi Pln Pbears Pcosts) := hD
    refine lv_aload_n hx hb dX3_tellStuff_33 rfl (lv_at hl 1 rfl) ?_
    refine va_gets hx hb (hT.1 13 (by decide)).1 hS hown (hts (.fieldLink RX3 112 "WornLines$Token" "BEARS_WORD" "LWornLines$Token;") (wm_c hw_453)) (fun _ h9 => h9) dX3_tellStuff_34 ?_
    refine kc_v (wc := (wW_X3_expect ak ad hr_ ra ht ta pg Rcoded Rtaken_9 Rtoken_10 Rplace_11 Rvalue_12 Rfault_13 Tlen Tcnt Ttoks Tplc Tvals)) (wr := [((ra 0), .inl (ak 1, 4, .inr (.inl (vp_updL Rsn (Pst).toNatClampNeg r_14)))), ((ra 1), .inl (ak 1, 6, .inr (.inl (Rcn)))), (pg, .inr (2, pob pa (Pst) (Pce) (Pgi) (Pln))), ((pa 0), .inl (ak 0, 4, .inl (Pbears))), ((pa 1), .inl (ak 0, 4, .inl (Pcosts)))]) hP hD hS hA [0, 3, 4, 5, 6] [1, 2, 7, 8, 9] rfl rfl (by decide) (by decide) (va_runV (As := [.ref (ad 13)]) (rest := []) ⟨hx, hb, hml, hown, hts⟩ (c_X3_expect l D ak ad _ hr_ ra ht ta pg Rcoded Rtaken_9 Rtoken_10 Rplace_11 Rvalue_12 Rfault_13 Tlen Tcnt Ttoks Tplc Tvals 13 _ hw) (cwV 1 hts gX3_tellStuff_X3_expect rfl rfl rfl hv_X3_expect ⟨(Nat.le_trans (Nat.le_of_ble_eq_true rfl) hRf), (Nat.le_trans (Nat.le_of_ble_eq_true rfl) hRl)⟩) (kc_preV (As := [.ref (ad 13)]) (wc := (wW_X3_expect ak ad hr_ ra ht ta pg Rcoded Rtaken_9 Rtoken_10 Rplace_11 Rvalue_12 Rfault_13 Tlen Tcnt Ttoks Tplc Tvals)) hE hT hP hD hS hA [0, 3, 4, 5, 6] (by decide) rfl rfl 0 3 rfl rfl rfl) rfl rfl hl.1 rfl (lv_room (Nat.le_of_ble_eq_true rfl)) dX3_tellStuff_37 ⟨hRc.1, hRc.2⟩) (fun u_16 H locs hw hP hD hS => ?_)
    obtain ⟨Rtaken_17, Rtoken_18, Rplace_19, Rvalue_20, Rfault_21⟩ := u_16
    try dsimp -zeta only at hw
    have hP : va_P D vwCl (wW_X3_tellStuff ak ad hr_ ra ht ta pg pa Rcoded Rtaken_17 Rtoken_18 Rplace_19 Rvalue_20 Rfault_21 (vp_updL Rsn (Pst).toNatClampNeg r_14) Rcn Tlen Tcnt Ttoks Tplc Tvals Pst Pce Pgi Pln Pbears Pcosts) H := hP.sub [5, 0, 1, 6, 7, 8, 9, 2, 3, 4] rfl
    have hD : va_D A (wW_X3_tellStuff ak ad hr_ ra ht ta pg pa Rcoded Rtaken_17 Rtoken_18 Rplace_19 Rvalue_20 Rfault_21 (vp_updL Rsn (Pst).toNatClampNeg r_14) Rcn Tlen Tcnt Ttoks Tplc Tvals Pst Pce Pgi Pln Pbears Pcosts) := hD.sub [5, 0, 1, 6, 7, 8, 9, 2, 3, 4] (by decide) rfl
    refine lv_aload_n hx hb dX3_tellStuff_40 rfl (lv_at hl 1 rfl) ?_
    refine vt_get (D := D) (ci := 3) (v := .ref pg) (C := RX3) (T := TX3) (N := 11) hx hb hts (fun w h => wm_c (wc_X3 w h)) hown hE.1 hP 0 rfl rfl 5 (by decide) tX3_5 (hts (.fieldLink RX3 35 "WornLines$Reader" "told" "LWornLines$Programme;") (wm_c hw_292)) (fun _ h9 => h9) rfl dX3_tellStuff_41 ?_
    refine vt_get (D := D) (ci := 2) (v := .ref (pa 0)) (C := RX2) (T := TX2) (N := 17) hx hb hts (fun w h => wm_c (wc_X2 w h)) hown hE.1 hP 7 rfl rfl 1 (by decide) tX2_1 (hts (.fieldLink RX3 115 "WornLines$Programme" "bears" "[I") (wm_c hw_454)) (fun _ h9 => h9) rfl dX3_tellStuff_44 ?_
    refine lv_iload_n hx hb dX3_tellStuff_47 rfl (lv_at hl 0 rfl) ?_
    refine lv_aload_n hx hb dX3_tellStuff_48 rfl (lv_at hl 1 rfl) ?_
    refine lv_iconst (v := 1) hx hb dX3_tellStuff_49 (by decide) ?_
    refine lv_sipush (v := 9999) hx hb dX3_tellStuff_50 (by decide) ?_
    refine kc_i (wc := (wW_X3_takeNumber ak ad hr_ ra ht ta pg Rcoded Rtaken_17 Rtoken_18 Rplace_19 Rvalue_20 Rfault_21 Tlen Tcnt Ttoks Tplc Tvals)) (wr := [((ra 0), .inl (ak 1, 4, .inr (.inl (vp_updL Rsn (Pst).toNatClampNeg r_14)))), ((ra 1), .inl (ak 1, 6, .inr (.inl (Rcn)))), (pg, .inr (2, pob pa (Pst) (Pce) (Pgi) (Pln))), ((pa 0), .inl (ak 0, 4, .inl (Pbears))), ((pa 1), .inl (ak 0, 4, .inl (Pcosts)))]) hP hD hS hA [0, 3, 4, 5, 6] [1, 2, 7, 8, 9] rfl rfl (by decide) (by decide) (va_runV (As := [.int (1), .int (9999)]) (rest := [.int (Pst), .ref (pa 0)]) ⟨hx, hb, hml, hown, hts⟩ (c_X3_takeNumber l D ak ad _ hr_ ra ht ta pg Rcoded Rtaken_17 Rtoken_18 Rplace_19 Rvalue_20 Rfault_21 Tlen Tcnt Ttoks Tplc Tvals 1 9999 _ hw) (cwV 2 hts gX3_tellStuff_X3_takeNumber rfl rfl rfl hv_X3_takeNumber ⟨(Nat.le_trans (Nat.le_of_ble_eq_true rfl) hRf), (Nat.le_trans (Nat.le_of_ble_eq_true rfl) hRl)⟩) (kc_preV (As := [.int (1), .int (9999)]) (wc := (wW_X3_takeNumber ak ad hr_ ra ht ta pg Rcoded Rtaken_17 Rtoken_18 Rplace_19 Rvalue_20 Rfault_21 Tlen Tcnt Ttoks Tplc Tvals)) hE hT hP hD hS hA [0, 3, 4, 5, 6] (by decide) rfl rfl 0 3 rfl rfl rfl) rfl rfl hl.1 rfl (lv_room (Nat.le_of_ble_eq_true rfl)) dX3_tellStuff_53 ⟨hRc.1, hRc.2⟩) (fun r_29 u_23 H locs hw hP hD hS => ?_)
    obtain ⟨Rtaken_24, Rtoken_25, Rplace_26, Rvalue_27, Rfault_28⟩ := u_23
    try dsimp -zeta only at hw
    have hP : va_P D vwCl (wW_X3_tellStuff ak ad hr_ ra ht ta pg pa Rcoded Rtaken_24 Rtoken_25 Rplace_26 Rvalue_27 Rfault_28 (vp_updL Rsn (Pst).toNatClampNeg r_14) Rcn Tlen Tcnt Ttoks Tplc Tvals Pst Pce Pgi Pln Pbears Pcosts) H := hP.sub [5, 0, 1, 6, 7, 8, 9, 2, 3, 4] rfl
    have hD : va_D A (wW_X3_tellStuff ak ad hr_ ra ht ta pg pa Rcoded Rtaken_24 Rtoken_25 Rplace_26 Rvalue_27 Rfault_28 (vp_updL Rsn (Pst).toNatClampNeg r_14) Rcn Tlen Tcnt Ttoks Tplc Tvals Pst Pce Pgi Pln Pbears Pcosts) := hD.sub [5, 0, 1, 6, 7, 8, 9, 2, 3, 4] (by decide) rfl
    obtain ⟨h_30, hw⟩ := hw
    refine va_iast hx hb hE.1 hP hD hS 8 0 rfl rfl (h_30) dX3_tellStuff_56 (fun H locs hP hD hS => ?_)
    have hP : va_P D vwCl (wW_X3_tellStuff ak ad hr_ ra ht ta pg pa Rcoded Rtaken_24 Rtoken_25 Rplace_26 Rvalue_27 Rfault_28 (vp_updL Rsn (Pst).toNatClampNeg r_14) Rcn Tlen Tcnt Ttoks Tplc Tvals Pst Pce Pgi Pln (upd Pbears (Pst).toNatClampNeg r_29) Pcosts) H := hP
    have hD : va_D A (wW_X3_tellStuff ak ad hr_ ra ht ta pg pa Rcoded Rtaken_24 Rtoken_25 Rplace_26 Rvalue_27 Rfault_28 (vp_updL Rsn (Pst).toNatClampNeg r_14) Rcn Tlen Tcnt Ttoks Tplc Tvals Pst Pce Pgi Pln (upd Pbears (Pst).toNatClampNeg r_29) Pcosts) := hD
    refine lv_aload_n hx hb dX3_tellStuff_57 rfl (lv_at hl 1 rfl) ?_
    refine va_gets hx hb (hT.1 14 (by decide)).1 hS hown (hts (.fieldLink RX3 122 "WornLines$Token" "COSTS_WORD" "LWornLines$Token;") (wm_c hw_455)) (fun _ h9 => h9) dX3_tellStuff_58 ?_
    refine kc_v (wc := (wW_X3_expect ak ad hr_ ra ht ta pg Rcoded Rtaken_24 Rtoken_25 Rplace_26 Rvalue_27 Rfault_28 Tlen Tcnt Ttoks Tplc Tvals)) (wr := [((ra 0), .inl (ak 1, 4, .inr (.inl (vp_updL Rsn (Pst).toNatClampNeg r_14)))), ((ra 1), .inl (ak 1, 6, .inr (.inl (Rcn)))), (pg, .inr (2, pob pa (Pst) (Pce) (Pgi) (Pln))), ((pa 0), .inl (ak 0, 4, .inl (upd Pbears (Pst).toNatClampNeg r_29))), ((pa 1), .inl (ak 0, 4, .inl (Pcosts)))]) hP hD hS hA [0, 3, 4, 5, 6] [1, 2, 7, 8, 9] rfl rfl (by decide) (by decide) (va_runV (As := [.ref (ad 14)]) (rest := []) ⟨hx, hb, hml, hown, hts⟩ (c_X3_expect l D ak ad _ hr_ ra ht ta pg Rcoded Rtaken_24 Rtoken_25 Rplace_26 Rvalue_27 Rfault_28 Tlen Tcnt Ttoks Tplc Tvals 14 _ hw) (cwV 1 hts gX3_tellStuff_X3_expect rfl rfl rfl hv_X3_expect ⟨(Nat.le_trans (Nat.le_of_ble_eq_true rfl) hRf), (Nat.le_trans (Nat.le_of_ble_eq_true rfl) hRl)⟩) (kc_preV (As := [.ref (ad 14)]) (wc := (wW_X3_expect ak ad hr_ ra ht ta pg Rcoded Rtaken_24 Rtoken_25 Rplace_26 Rvalue_27 Rfault_28 Tlen Tcnt Ttoks Tplc Tvals)) hE hT hP hD hS hA [0, 3, 4, 5, 6] (by decide) rfl rfl 0 3 rfl rfl rfl) rfl rfl hl.1 rfl (lv_room (Nat.le_of_ble_eq_true rfl)) dX3_tellStuff_61 ⟨hRc.1, hRc.2⟩) (fun u_31 H locs hw hP hD hS => ?_)
    obtain ⟨Rtaken_32, Rtoken_33, Rplace_34, Rvalue_35, Rfault_36⟩ := u_31
    try dsimp -zeta only at hw
    have hP : va_P D vwCl (wW_X3_tellStuff ak ad hr_ ra ht ta pg pa Rcoded Rtaken_32 Rtoken_33 Rplace_34 Rvalue_35 Rfault_36 (vp_updL Rsn (Pst).toNatClampNeg r_14) Rcn Tlen Tcnt Ttoks Tplc Tvals Pst Pce Pgi Pln (upd Pbears (Pst).toNatClampNeg r_29) Pcosts) H := hP.sub [5, 0, 1, 6, 7, 8, 9, 2, 3, 4] rfl
    have hD : va_D A (wW_X3_tellStuff ak ad hr_ ra ht ta pg pa Rcoded Rtaken_32 Rtoken_33 Rplace_34 Rvalue_35 Rfault_36 (vp_updL Rsn (Pst).toNatClampNeg r_14) Rcn Tlen Tcnt Ttoks Tplc Tvals Pst Pce Pgi Pln (upd Pbears (Pst).toNatClampNeg r_29) Pcosts) := hD.sub [5, 0, 1, 6, 7, 8, 9, 2, 3, 4] (by decide) rfl
    refine lv_aload_n hx hb dX3_tellStuff_64 rfl (lv_at hl 1 rfl) ?_
    refine vt_get (D := D) (ci := 3) (v := .ref pg) (C := RX3) (T := TX3) (N := 11) hx hb hts (fun w h => wm_c (wc_X3 w h)) hown hE.1 hP 0 rfl rfl 5 (by decide) tX3_5 (hts (.fieldLink RX3 35 "WornLines$Reader" "told" "LWornLines$Programme;") (wm_c hw_292)) (fun _ h9 => h9) rfl dX3_tellStuff_65 ?_
    refine vt_get (D := D) (ci := 2) (v := .ref (pa 1)) (C := RX2) (T := TX2) (N := 17) hx hb hts (fun w h => wm_c (wc_X2 w h)) hown hE.1 hP 7 rfl rfl 2 (by decide) tX2_2 (hts (.fieldLink RX3 125 "WornLines$Programme" "costs" "[I") (wm_c hw_456)) (fun _ h9 => h9) rfl dX3_tellStuff_68 ?_
    refine lv_iload_n hx hb dX3_tellStuff_71 rfl (lv_at hl 0 rfl) ?_
    refine lv_aload_n hx hb dX3_tellStuff_72 rfl (lv_at hl 1 rfl) ?_
    refine lv_iconst (v := 0) hx hb dX3_tellStuff_73 (by decide) ?_
    refine lv_sipush (v := 999) hx hb dX3_tellStuff_74 (by decide) ?_
    refine kc_i (wc := (wW_X3_takeNumber ak ad hr_ ra ht ta pg Rcoded Rtaken_32 Rtoken_33 Rplace_34 Rvalue_35 Rfault_36 Tlen Tcnt Ttoks Tplc Tvals)) (wr := [((ra 0), .inl (ak 1, 4, .inr (.inl (vp_updL Rsn (Pst).toNatClampNeg r_14)))), ((ra 1), .inl (ak 1, 6, .inr (.inl (Rcn)))), (pg, .inr (2, pob pa (Pst) (Pce) (Pgi) (Pln))), ((pa 0), .inl (ak 0, 4, .inl (upd Pbears (Pst).toNatClampNeg r_29))), ((pa 1), .inl (ak 0, 4, .inl (Pcosts)))]) hP hD hS hA [0, 3, 4, 5, 6] [1, 2, 7, 8, 9] rfl rfl (by decide) (by decide) (va_runV (As := [.int (0), .int (999)]) (rest := [.int (Pst), .ref (pa 1)]) ⟨hx, hb, hml, hown, hts⟩ (c_X3_takeNumber l D ak ad _ hr_ ra ht ta pg Rcoded Rtaken_32 Rtoken_33 Rplace_34 Rvalue_35 Rfault_36 Tlen Tcnt Ttoks Tplc Tvals 0 999 _ hw) (cwV 2 hts gX3_tellStuff_X3_takeNumber rfl rfl rfl hv_X3_takeNumber ⟨(Nat.le_trans (Nat.le_of_ble_eq_true rfl) hRf), (Nat.le_trans (Nat.le_of_ble_eq_true rfl) hRl)⟩) (kc_preV (As := [.int (0), .int (999)]) (wc := (wW_X3_takeNumber ak ad hr_ ra ht ta pg Rcoded Rtaken_32 Rtoken_33 Rplace_34 Rvalue_35 Rfault_36 Tlen Tcnt Ttoks Tplc Tvals)) hE hT hP hD hS hA [0, 3, 4, 5, 6] (by decide) rfl rfl 0 3 rfl rfl rfl) rfl rfl hl.1 rfl (lv_room (Nat.le_of_ble_eq_true rfl)) dX3_tellStuff_77 ⟨hRc.1, hRc.2⟩) (fun r_44 u_38 H locs hw hP hD hS => ?_)
    obtain ⟨Rtaken_39, Rtoken_40, Rplace_41, Rvalue_42, Rfault_43⟩ := u_38
    try dsimp -zeta only at hw
    have hP : va_P D vwCl (wW_X3_tellStuff ak ad hr_ ra ht ta pg pa Rcoded Rtaken_39 Rtoken_40 Rplace_41 Rvalue_42 Rfault_43 (vp_updL Rsn (Pst).toNatClampNeg r_14) Rcn Tlen Tcnt Ttoks Tplc Tvals Pst Pce Pgi Pln (upd Pbears (Pst).toNatClampNeg r_29) Pcosts) H := hP.sub [5, 0, 1, 6, 7, 8, 9, 2, 3, 4] rfl
    have hD : va_D A (wW_X3_tellStuff ak ad hr_ ra ht ta pg pa Rcoded Rtaken_39 Rtoken_40 Rplace_41 Rvalue_42 Rfault_43 (vp_updL Rsn (Pst).toNatClampNeg r_14) Rcn Tlen Tcnt Ttoks Tplc Tvals Pst Pce Pgi Pln (upd Pbears (Pst).toNatClampNeg r_29) Pcosts) := hD.sub [5, 0, 1, 6, 7, 8, 9, 2, 3, 4] (by decide) rfl
    obtain ⟨h_45, hw⟩ := hw
    refine va_iast hx hb hE.1 hP hD hS 9 0 rfl rfl (h_45) dX3_tellStuff_80 (fun H locs hP hD hS => ?_)
    have hP : va_P D vwCl (wW_X3_tellStuff ak ad hr_ ra ht ta pg pa Rcoded Rtaken_39 Rtoken_40 Rplace_41 Rvalue_42 Rfault_43 (vp_updL Rsn (Pst).toNatClampNeg r_14) Rcn Tlen Tcnt Ttoks Tplc Tvals Pst Pce Pgi Pln (upd Pbears (Pst).toNatClampNeg r_29) (upd Pcosts (Pst).toNatClampNeg r_44)) H := hP
    have hD : va_D A (wW_X3_tellStuff ak ad hr_ ra ht ta pg pa Rcoded Rtaken_39 Rtoken_40 Rplace_41 Rvalue_42 Rfault_43 (vp_updL Rsn (Pst).toNatClampNeg r_14) Rcn Tlen Tcnt Ttoks Tplc Tvals Pst Pce Pgi Pln (upd Pbears (Pst).toNatClampNeg r_29) (upd Pcosts (Pst).toNatClampNeg r_44)) := hD
    refine lv_aload_n hx hb dX3_tellStuff_81 rfl (lv_at hl 1 rfl) ?_
    refine vt_get (D := D) (ci := 3) (v := .ref pg) (C := RX3) (T := TX3) (N := 11) hx hb hts (fun w h => wm_c (wc_X3 w h)) hown hE.1 hP 0 rfl rfl 5 (by decide) tX3_5 (hts (.fieldLink RX3 35 "WornLines$Reader" "told" "LWornLines$Programme;") (wm_c hw_292)) (fun _ h9 => h9) rfl dX3_tellStuff_82 ?_
    refine lv_iload_n hx hb dX3_tellStuff_85 rfl (lv_at hl 0 rfl) ?_
    refine lv_iconst (v := 1) hx hb dX3_tellStuff_86 (by decide) ?_
    refine lv_iadd hx hb dX3_tellStuff_87 ?_
    refine vt_put (D := D) (ci := 2) (v := .int (Pst + 1)) (ty := .int) (C := RX2) (T := TX2) (N := 17) hx hb hts (fun w h => wm_c (wc_X2 w h)) tyX2 tyX2_ok nmX2 hown hE.1 hP hD hS 7 rfl rfl 0 (by decide) tX2_0 (hts (.fieldLink RX3 105 "WornLines$Programme" "stuffs" "I") (wm_c hw_433)) (fun _ h9 => h9) rfl pf_0 (rfl) rfl (Nat.le_of_ble_eq_true rfl) dX3_tellStuff_88 (fun H locs hP hD hS => ?_)
    have hP : va_P D vwCl (wW_X3_tellStuff ak ad hr_ ra ht ta pg pa Rcoded Rtaken_39 Rtoken_40 Rplace_41 Rvalue_42 Rfault_43 (vp_updL Rsn (Pst).toNatClampNeg r_14) Rcn Tlen Tcnt Ttoks Tplc Tvals (Pst + 1) Pce Pgi Pln (upd Pbears (Pst).toNatClampNeg r_29) (upd Pcosts (Pst).toNatClampNeg r_44)) H := hP
    have hD : va_D A (wW_X3_tellStuff ak ad hr_ ra ht ta pg pa Rcoded Rtaken_39 Rtoken_40 Rplace_41 Rvalue_42 Rfault_43 (vp_updL Rsn (Pst).toNatClampNeg r_14) Rcn Tlen Tcnt Ttoks Tplc Tvals (Pst + 1) Pce Pgi Pln (upd Pbears (Pst).toNatClampNeg r_29) (upd Pcosts (Pst).toNatClampNeg r_44)) := hD
    exact kR91 Rtaken_39 Rtoken_40 Rplace_41 Rvalue_42 Rfault_43 (vp_updL Rsn (Pst).toNatClampNeg r_14) (Pst + 1) (upd Pbears (Pst).toNatClampNeg r_29) (upd Pcosts (Pst).toNatClampNeg r_44) _ _ _ hw hP hD hS
  · replace hw := hw.2 c_1
    refine lv_aload_n hx hb dX3_tellStuff_13 rfl (lv_at hl 1 rfl) ?_
    refine lv_iconst (v := 5) hx hb dX3_tellStuff_14 (by decide) ?_
    refine kc_v (wc := (wW_X3_fail ak ad hr_ ra ht pg Rcoded Rtaken Rtoken Rplace Rvalue Rfault)) (wr := [((ra 0), .inl (ak 1, 4, .inr (.inl (Rsn)))), ((ra 1), .inl (ak 1, 6, .inr (.inl (Rcn)))), (ht, .inr (5, tob ta (Tlen) (Tcnt))), ((ta 1), .inl (ak 4, 1001, .inr (.inr (.inr (.inr (tokA ad (Ttoks))))))), ((ta 2), .inl (ak 0, 1001, .inl (Tplc))), ((ta 3), .inl (ak 1, 1001, .inr (.inl (Tvals)))), (pg, .inr (2, pob pa (Pst) (Pce) (Pgi) (Pln))), ((pa 0), .inl (ak 0, 4, .inl (Pbears))), ((pa 1), .inl (ak 0, 4, .inl (Pcosts)))]) hP hD hS hA [0] [1, 2, 3, 4, 5, 6, 7, 8, 9] rfl rfl (by decide) (by decide) (va_runV (As := [.int (5)]) (rest := []) ⟨hx, hb, hml, hown, hts⟩ (c_X3_fail l D ak ad _ hr_ ra ht pg Rcoded Rtaken Rtoken Rplace Rvalue Rfault 5 _ hw) (cwV 1 hts gX3_tellStuff_X3_fail rfl rfl rfl hv_X3_fail ⟨(Nat.le_trans (Nat.le_of_ble_eq_true rfl) hRf), (Nat.le_trans (Nat.le_of_ble_eq_true rfl) hRl)⟩) (kc_preV (As := [.int (5)]) (wc := (wW_X3_fail ak ad hr_ ra ht pg Rcoded Rtaken Rtoken Rplace Rvalue Rfault)) hE hT hP hD hS hA [0] (by decide) rfl rfl 0 3 rfl rfl rfl) rfl rfl hl.1 rfl (lv_room (Nat.le_of_ble_eq_true rfl)) dX3_tellStuff_15 ⟨hRc.1, hRc.2⟩) (fun Rfault_47 H locs hw hP hD hS => ?_)
    try dsimp -zeta only at hw
    have hP : va_P D vwCl (wW_X3_tellStuff ak ad hr_ ra ht ta pg pa Rcoded Rtaken Rtoken Rplace Rvalue Rfault_47 Rsn Rcn Tlen Tcnt Ttoks Tplc Tvals Pst Pce Pgi Pln Pbears Pcosts) H := hP.sub [9, 0, 1, 2, 3, 4, 5, 6, 7, 8] rfl
    have hD : va_D A (wW_X3_tellStuff ak ad hr_ ra ht ta pg pa Rcoded Rtaken Rtoken Rplace Rvalue Rfault_47 Rsn Rcn Tlen Tcnt Ttoks Tplc Tvals Pst Pce Pgi Pln Pbears Pcosts) := hD.sub [9, 0, 1, 2, 3, 4, 5, 6, 7, 8] (by decide) rfl
    exact kR18 Rtaken Rtoken Rplace Rvalue Rfault_47 Rsn Pst Pbears Pcosts _ _ _ hw hP hD hS
set_option maxHeartbeats 4000000 in
set_option maxRecDepth 100000 in
theorem c_X3_tellStuff (l : Launch) (D : va_G) (ak : Nat → ClassId) (ad : Nat → Nat) (sz : Nat) (hr_ : Nat) (ra : Nat → Nat) (ht : Nat) (ta : Nat → Nat) (pg : Nat) (pa : Nat → Nat) (Rcoded : Int32) (Rtaken : Int32) (Rtoken : Nat) (Rplace : Int32) (Rvalue : Int64) (Rfault : Int32) (Rsn : Nat → Int64) (Rcn : Nat → Int64) (Tlen : Int32) (Tcnt : Int32) (Ttoks : Nat → Nat) (Tplc : Nat → Int32) (Tvals : Nat → Int64) (Pst : Int32) (Pce : Int32) (Pgi : Int32) (Pln : Int32) (Pbears : Nat → Int32) (Pcosts : Nat → Int32) (Φ : Int32 → Nat → Int32 → Int64 → Int32 → (Nat → Int64) → Int32 → (Nat → Int32) → (Nat → Int32) → Prop) (hf : wp_X3_tellStuff Rcn Tcnt Ttoks Tplc Tvals Pce Rtaken Rtoken Rplace Rvalue Rfault Rsn Pst Pbears Pcosts Φ) : Met l yX3_tellStuff wsX3_tellStuff ({ frames := 3, cells := 0, slots := 0, locals := 66 }) (cPre D ak ad [.ref hr_] ((wW_X3_tellStuff ak ad hr_ ra ht ta pg pa Rcoded Rtaken Rtoken Rplace Rvalue Rfault Rsn Rcn Tlen Tcnt Ttoks Tplc Tvals Pst Pce Pgi Pln Pbears Pcosts)) sz) (cV D (S := (Int32) × (Nat) × (Int32) × (Int64) × (Int32) × (Nat → Int64) × (Int32) × (Nat → Int32) × (Nat → Int32)) (fun (u : (Int32) × (Nat) × (Int32) × (Int64) × (Int32) × (Nat → Int64) × (Int32) × (Nat → Int32) × (Nat → Int32)) => Φ u.1 u.2.1 u.2.2.1 u.2.2.2.1 u.2.2.2.2.1 u.2.2.2.2.2.1 u.2.2.2.2.2.2.1 u.2.2.2.2.2.2.2.1 u.2.2.2.2.2.2.2.2) (fun u => (wW_X3_tellStuff ak ad hr_ ra ht ta pg pa Rcoded u.1 u.2.1 u.2.2.1 u.2.2.2.1 u.2.2.2.2.1 u.2.2.2.2.2.1 Rcn Tlen Tcnt Ttoks Tplc Tvals u.2.2.2.2.2.2.1 Pce Pgi Pln u.2.2.2.2.2.2.2.1 u.2.2.2.2.2.2.2.2)) ((wW_X3_tellStuff ak ad hr_ ra ht ta pg pa Rcoded Rtaken Rtoken Rplace Rvalue Rfault Rsn Rcn Tlen Tcnt Ttoks Tplc Tvals Pst Pce Pgi Pln Pbears Pcosts)) sz) 0 0 (va_A ((wW_X3_tellStuff ak ad hr_ ra ht ta pg pa Rcoded Rtaken Rtoken Rplace Rvalue Rfault Rsn Rcn Tlen Tcnt Ttoks Tplc Tvals Pst Pce Pgi Pln Pbears Pcosts)) sz) := by
  refine Met.ofW (cc := cX3_tellStuff) (maxL := 2) (ret := none) (by decide) rfl ?_
  intro p e s m args below meth c s₁ B hml hv
  obtain ⟨rfl, hsz, hP, hE, hD0, hT⟩ := hv
  have hx := B.exec
  have hb := B.bytes
  have hr := B.returns
  have hts := atoms_spec (ws := wsX3_tellStuff) B.pre
  have hown : s.vm.findClass RX3 = some m.cls := findClass_of_methodNamed B.named
  have hlocks := B.notSynchronized
  subst hsz
  have hD := hD0.self (sz := s.heap.size)
  generalize hAe : va_A ((wW_X3_tellStuff ak ad hr_ ra ht ta pg pa Rcoded Rtaken Rtoken Rplace Rvalue Rfault Rsn Rcn Tlen Tcnt Ttoks Tplc Tvals Pst Pce Pgi Pln Pbears Pcosts)) s.heap.size = A at hD hT ⊢
  have hA : ∀ q : Nat, s.heap.size ≤ q → A q := fun q h => by rw [← hAe]; exact Or.inr h
  have hS : va_S A s.heap s.heap [] := va_S.rf
  have hl := lv_entry ([.ref hr_]) (n := 2) (Nat.le_of_ble_eq_true rfl)
  rw [lg_entry_eq]
  generalize (lg_sl ([.ref hr_]) ++ List.replicate (2 - (lg_sl ([.ref hr_])).length) Slot.unset).toArray = ls at hl ⊢
  have hl : lv_has ls 2 [(0, .ref hr_)] := hl
  exact kj_X3_tellStuff_e hx hb hown hts hml hE hT hA (Nat.le_of_ble_eq_true rfl) (Nat.le_of_ble_eq_true rfl) ⟨Nat.le_of_ble_eq_true rfl, Nat.le_of_ble_eq_true rfl⟩ hr_ ra ht ta pg pa Rcoded Rcn Tlen Tcnt Ttoks Tplc Tvals Pce Pgi Pln Φ (fun Rtaken Rtoken Rplace Rvalue Rfault Rsn Pst Pbears Pcosts H locs ls hw hP hD hS => W.vret hx hb hr (fun t ht hW => ⟨⟨(Rtaken, Rtoken, Rplace, Rvalue, Rfault, Rsn, Pst, Pbears, Pcosts), rfl, hw, by rw [ht]; exact hP, by rw [hAe]; exact hD⟩, by rw [hAe]; exact hS.F ht⟩) hS.2.2 dX3_tellStuff_18) (fun Rtaken Rtoken Rplace Rvalue Rfault Rsn Pst Pbears Pcosts H locs ls hw hP hD hS => W.vret hx hb hr (fun t ht hW => ⟨⟨(Rtaken, Rtoken, Rplace, Rvalue, Rfault, Rsn, Pst, Pbears, Pcosts), rfl, hw, by rw [ht]; exact hP, by rw [hAe]; exact hD⟩, by rw [hAe]; exact hS.F ht⟩) hS.2.2 dX3_tellStuff_91) Rtaken Rtoken Rplace Rvalue Rfault Rsn Pst Pbears Pcosts _ _ _ hf hP hD hS hl

def wW_X3_tellCell (ak : Nat → ClassId) (ad : Nat → Nat) (hr_ : Nat) (ra : Nat → Nat) (ht : Nat) (ta : Nat → Nat) (pg : Nat) (pa : Nat → Nat) (Rcoded : Int32) (Rtaken : Int32) (Rtoken : Nat) (Rplace : Int32) (Rvalue : Int64) (Rfault : Int32) (Rsn : Nat → Int64) (Rcn : Nat → Int64) (Tlen : Int32) (Tcnt : Int32) (Ttoks : Nat → Nat) (Tplc : Nat → Int32) (Tvals : Nat → Int64) (Pst : Int32) (Pce : Int32) (Pgi : Int32) (Pln : Int32) (Ptold : Nat → Int32) : va_W := [(hr_, .inr (3, rob ad ra (ht) (Rcoded) (pg) (Rtaken) (Rtoken) (Rplace) (Rvalue) (Rfault))), ((ra 0), .inl (ak 1, 4, .inr (.inl (Rsn)))), ((ra 1), .inl (ak 1, 6, .inr (.inl (Rcn)))), (ht, .inr (5, tob ta (Tlen) (Tcnt))), ((ta 1), .inl (ak 4, 1001, .inr (.inr (.inr (.inr (tokA ad (Ttoks))))))), ((ta 2), .inl (ak 0, 1001, .inl (Tplc))), ((ta 3), .inl (ak 1, 1001, .inr (.inl (Tvals)))), (pg, .inr (2, pob pa (Pst) (Pce) (Pgi) (Pln))), ((pa 2), .inl (ak 0, 6, .inl (Ptold)))]
def wp_X3_tellCell (Rsn : Nat → Int64) (Tcnt : Int32) (Ttoks : Nat → Nat) (Tplc : Nat → Int32) (Tvals : Nat → Int64) (Pst : Int32) (Rtaken : Int32) (Rtoken : Nat) (Rplace : Int32) (Rvalue : Int64) (Rfault : Int32) (Rcn : Nat → Int64) (Pce : Int32) (Ptold : Nat → Int32) (Φ : Int32 → Nat → Int32 → Int64 → Int32 → (Nat → Int64) → Int32 → (Nat → Int32) → Prop) : Prop := (Pce < 6 → wp_X3_advance Tcnt Ttoks Tplc Tvals Rtaken Rtoken Rplace Rvalue (fun Rtaken_3 Rtoken_4 Rplace_5 Rvalue_6 => wp_X3_takeNewName Rsn Rcn Tcnt Ttoks Tplc Tvals Pst Pce Rtaken_3 Rtoken_4 Rplace_5 Rvalue_6 Rfault (fun r_14 Rtaken_9 Rtoken_10 Rplace_11 Rvalue_12 Rfault_13 => vp_in Pce 6 ∧ wp_X3_takeNumber Tcnt Ttoks Tplc Tvals 0 9999 Rtaken_9 Rtoken_10 Rplace_11 Rvalue_12 Rfault_13 (fun r_22 Rtaken_17 Rtoken_18 Rplace_19 Rvalue_20 Rfault_21 => vp_in Pce 6 ∧ Φ Rtaken_17 Rtoken_18 Rplace_19 Rvalue_20 Rfault_21 (vp_updL Rcn (Pce).toNatClampNeg r_14) (Pce + 1) (upd Ptold (Pce).toNatClampNeg r_22))))) ∧ (¬ Pce < 6 → wp_X3_fail Rplace 5 Rfault (fun Rfault_25 => Φ Rtaken Rtoken Rplace Rvalue Rfault_25 Rcn Pce Ptold))
set_option maxHeartbeats 4000000 in
set_option maxRecDepth 100000 in
theorem kj_X3_tellCell_e {p : Program} {l : Launch} {e : Env} {R : Room} {s : State} {m : MethodId} {args : Array Value} {below : List Frame} {meth : Method} {c : Code} {cells slots : Nat} {Q : State → Prop} {A : Nat → Prop} {D : va_G} {ak : Nat → ClassId} {ad : Nat → Nat} (hx : p.tables.exec = Jvm.exec) (hb : c.code = cX3_tellCell) (hown : s.vm.findClass RX3 = some m.cls) (hts : ∀ w ∈ wsX3_tellCell, w.before args s = true) (hml : c.maxLocals = 2) (hE : EV D ak s) (hT : ST D ak ad A s s.heap) (hA : ∀ q, s.heap.size ≤ q → A q) (hRf : 3 ≤ R.frames) (hRl : 66 ≤ R.locals) (hRc : cells ≤ R.cells ∧ slots ≤ R.slots) (hr_ : Nat) (ra : Nat → Nat) (ht : Nat) (ta : Nat → Nat) (pg : Nat) (pa : Nat → Nat) (Rcoded : Int32) (Rsn : Nat → Int64) (Tlen : Int32) (Tcnt : Int32) (Ttoks : Nat → Nat) (Tplc : Nat → Int32) (Tvals : Nat → Int64) (Pst : Int32) (Pgi : Int32) (Pln : Int32)  (Φ : Int32 → Nat → Int32 → Int64 → Int32 → (Nat → Int64) → Int32 → (Nat → Int32) → Prop)
    (kR19 : ∀ (Rtaken : Int32) (Rtoken : Nat) (Rplace : Int32) (Rvalue : Int64) (Rfault : Int32) (Rcn : Nat → Int64) (Pce : Int32) (Ptold : Nat → Int32) (H : Heap) (locs : List Loc) (ls : Array Slot), Φ Rtaken Rtoken Rplace Rvalue Rfault Rcn Pce Ptold → va_P D vwCl (wW_X3_tellCell ak ad hr_ ra ht ta pg pa Rcoded Rtaken Rtoken Rplace Rvalue Rfault Rsn Rcn Tlen Tcnt Ttoks Tplc Tvals Pst Pce Pgi Pln Ptold) H → va_D A (wW_X3_tellCell ak ad hr_ ra ht ta pg pa Rcoded Rtaken Rtoken Rplace Rvalue Rfault Rsn Rcn Tlen Tcnt Ttoks Tplc Tvals Pst Pce Pgi Pln Ptold) → va_S A s.heap H locs → W p l e R s m args below meth c H locs cells slots Q (F0 m 19 ls []))
    (kR61 : ∀ (Rtaken : Int32) (Rtoken : Nat) (Rplace : Int32) (Rvalue : Int64) (Rfault : Int32) (Rcn : Nat → Int64) (Pce : Int32) (Ptold : Nat → Int32) (H : Heap) (locs : List Loc) (ls : Array Slot), Φ Rtaken Rtoken Rplace Rvalue Rfault Rcn Pce Ptold → va_P D vwCl (wW_X3_tellCell ak ad hr_ ra ht ta pg pa Rcoded Rtaken Rtoken Rplace Rvalue Rfault Rsn Rcn Tlen Tcnt Ttoks Tplc Tvals Pst Pce Pgi Pln Ptold) H → va_D A (wW_X3_tellCell ak ad hr_ ra ht ta pg pa Rcoded Rtaken Rtoken Rplace Rvalue Rfault Rsn Rcn Tlen Tcnt Ttoks Tplc Tvals Pst Pce Pgi Pln Ptold) → va_S A s.heap H locs → W p l e R s m args below meth c H locs cells slots Q (F0 m 61 ls []))
    : ∀ (Rtaken : Int32) (Rtoken : Nat) (Rplace : Int32) (Rvalue : Int64) (Rfault : Int32) (Rcn : Nat → Int64) (Pce : Int32) (Ptold : Nat → Int32) (H : Heap) (locs : List Loc) (ls : Array Slot), wp_X3_tellCell Rsn Tcnt Ttoks Tplc Tvals Pst Rtaken Rtoken Rplace Rvalue Rfault Rcn Pce Ptold Φ → va_P D vwCl (wW_X3_tellCell ak ad hr_ ra ht ta pg pa Rcoded Rtaken Rtoken Rplace Rvalue Rfault Rsn Rcn Tlen Tcnt Ttoks Tplc Tvals Pst Pce Pgi Pln Ptold) H → va_D A (wW_X3_tellCell ak ad hr_ ra ht ta pg pa Rcoded Rtaken Rtoken Rplace Rvalue Rfault Rsn Rcn Tlen Tcnt Ttoks Tplc Tvals Pst Pce Pgi Pln Ptold) → va_S A s.heap H locs → lv_has ls 2 [(0, .ref hr_)] → W p l e R s m args below meth c H locs cells slots Q (F0 m 0 ls ([])) := by
  intro Rtaken Rtoken Rplace Rvalue Rfault Rcn Pce Ptold H locs ls hw hP hD hS hl
  delta wp_X3_tellCell at hw
  refine lv_aload_n hx hb dX3_tellCell_0 rfl (lv_at hl 0 rfl) ?_
  refine vt_get (D := D) (ci := 3) (v := .ref pg) (C := RX3) (T := TX3) (N := 11) hx hb hts (fun w h => wm_c (wc_X3 w h)) hown hE.1 hP 0 rfl rfl 5 (by decide) tX3_5 (hts (.fieldLink RX3 35 "WornLines$Reader" "told" "LWornLines$Programme;") (wm_c hw_292)) (fun _ h9 => h9) rfl dX3_tellCell_1 ?_
  refine vt_get (D := D) (ci := 2) (v := .int (Pce)) (C := RX2) (T := TX2) (N := 17) hx hb hts (fun w h => wm_c (wc_X2 w h)) hown hE.1 hP 7 rfl rfl 3 (by decide) tX2_3 (hts (.fieldLink RX3 128 "WornLines$Programme" "cells" "I") (wm_c hw_434)) (fun _ h9 => h9) rfl dX3_tellCell_4 ?_
  refine lv_istore_n (lv' := [(1, .int (Pce)), (0, .ref hr_)]) hx hb dX3_tellCell_7 rfl hl (by decide) rfl (fun ls hl => ?_)
  refine lv_iload_n hx hb dX3_tellCell_8 rfl (lv_at hl 0 rfl) ?_
  refine lv_bipush (v := 6) hx hb dX3_tellCell_9 (by decide) ?_
  refine lv_icmp_lt (tgt := 20) hx hb dX3_tellCell_11 (by decide) (fun c_1 => ?_) (fun c_1 => ?_)
  · replace hw := hw.1 c_1
    refine lv_aload_n hx hb dX3_tellCell_20 rfl (lv_at hl 1 rfl) ?_
    refine kc_v (wc := (wW_X3_advance ak ad hr_ ra ht ta pg Rcoded Rtaken Rtoken Rplace Rvalue Rfault Tlen Tcnt Ttoks Tplc Tvals)) (wr := [((ra 0), .inl (ak 1, 4, .inr (.inl (Rsn)))), ((ra 1), .inl (ak 1, 6, .inr (.inl (Rcn)))), (pg, .inr (2, pob pa (Pst) (Pce) (Pgi) (Pln))), ((pa 2), .inl (ak 0, 6, .inl (Ptold)))]) hP hD hS hA [0, 3, 4, 5, 6] [1, 2, 7, 8] rfl rfl (by decide) (by decide) (va_runV (As := []) (rest := []) ⟨hx, hb, hml, hown, hts⟩ (c_X3_advance l D ak ad _ hr_ ra ht ta pg Rcoded Rtaken Rtoken Rplace Rvalue Rfault Tlen Tcnt Ttoks Tplc Tvals _ hw) (cwV 0 hts gX3_tellCell_X3_advance rfl rfl rfl hv_X3_advance ⟨(Nat.le_trans (Nat.le_of_ble_eq_true rfl) hRf), (Nat.le_trans (Nat.le_of_ble_eq_true rfl) hRl)⟩) (kc_preV (As := []) (wc := (wW_X3_advance ak ad hr_ ra ht ta pg Rcoded Rtaken Rtoken Rplace Rvalue Rfault Tlen Tcnt Ttoks Tplc Tvals)) hE hT hP hD hS hA [0, 3, 4, 5, 6] (by decide) rfl rfl 0 3 rfl rfl rfl) rfl rfl hl.1 rfl (lv_room (Nat.le_of_ble_eq_true rfl)) dX3_tellCell_21 ⟨hRc.1, hRc.2⟩) (fun u_2 H locs hw hP hD hS => ?_)
    obtain ⟨Rtaken_3, Rtoken_4, Rplace_5, Rvalue_6⟩ := u_2
    try dsimp -zeta only at hw
    have hP : va_P D vwCl (wW_X3_tellCell ak ad hr_ ra ht ta pg pa Rcoded Rtaken_3 Rtoken_4 Rplace_5 Rvalue_6 Rfault Rsn Rcn Tlen Tcnt Ttoks Tplc Tvals Pst Pce Pgi Pln Ptold) H := hP.sub [4, 0, 1, 5, 6, 7, 8, 2, 3] rfl
    have hD : va_D A (wW_X3_tellCell ak ad hr_ ra ht ta pg pa Rcoded Rtaken_3 Rtoken_4 Rplace_5 Rvalue_6 Rfault Rsn Rcn Tlen Tcnt Ttoks Tplc Tvals Pst Pce Pgi Pln Ptold) := hD.sub [4, 0, 1, 5, 6, 7, 8, 2, 3] (by decide) rfl
    refine lv_aload_n hx hb dX3_tellCell_24 rfl (lv_at hl 1 rfl) ?_
    refine vt_get (D := D) (ci := 3) (v := .ref (ra 1)) (C := RX3) (T := TX3) (N := 11) hx hb hts (fun w h => wm_c (wc_X3 w h)) hown hE.1 hP 0 rfl rfl 2 (by decide) tX3_2 (hts (.fieldLink RX3 15 "WornLines$Reader" "cellNames" "[J") (wm_c hw_287)) (fun _ h9 => h9) rfl dX3_tellCell_25 ?_
    refine lv_iload_n hx hb dX3_tellCell_28 rfl (lv_at hl 0 rfl) ?_
    refine lv_aload_n hx hb dX3_tellCell_29 rfl (lv_at hl 1 rfl) ?_
    refine kc_l (wc := (wW_X3_takeNewName ak ad hr_ ra ht ta pg pa Rcoded Rtaken_3 Rtoken_4 Rplace_5 Rvalue_6 Rfault Rsn Rcn Tlen Tcnt Ttoks Tplc Tvals Pst Pce Pgi Pln)) (wr := [((pa 2), .inl (ak 0, 6, .inl (Ptold)))]) hP hD hS hA [0, 1, 2, 3, 4, 5, 6, 7] [8] rfl rfl (by decide) (by decide) (va_runV (As := []) (rest := [.int (Pce), .ref (ra 1)]) ⟨hx, hb, hml, hown, hts⟩ (c_X3_takeNewName l D ak ad _ hr_ ra ht ta pg pa Rcoded Rtaken_3 Rtoken_4 Rplace_5 Rvalue_6 Rfault Rsn Rcn Tlen Tcnt Ttoks Tplc Tvals Pst Pce Pgi Pln _ hw) (cwV 0 hts gX3_tellCell_X3_takeNewName rfl rfl rfl hv_X3_takeNewName ⟨(Nat.le_trans (Nat.le_of_ble_eq_true rfl) hRf), (Nat.le_trans (Nat.le_of_ble_eq_true rfl) hRl)⟩) (kc_preV (As := []) (wc := (wW_X3_takeNewName ak ad hr_ ra ht ta pg pa Rcoded Rtaken_3 Rtoken_4 Rplace_5 Rvalue_6 Rfault Rsn Rcn Tlen Tcnt Ttoks Tplc Tvals Pst Pce Pgi Pln)) hE hT hP hD hS hA [0, 1, 2, 3, 4, 5, 6, 7] (by decide) rfl rfl 0 3 rfl rfl rfl) rfl rfl hl.1 rfl (lv_room (Nat.le_of_ble_eq_true rfl)) dX3_tellCell_30 ⟨hRc.1, hRc.2⟩) (fun r_14 u_8 H locs hw hP hD hS => ?_)
    obtain ⟨Rtaken_9, Rtoken_10, Rplace_11, Rvalue_12, Rfault_13⟩ := u_8
    try dsimp -zeta only at hw
    have hP : va_P D vwCl (wW_X3_tellCell ak ad hr_ ra ht ta pg pa Rcoded Rtaken_9 Rtoken_10 Rplace_11 Rvalue_12 Rfault_13 Rsn Rcn Tlen Tcnt Ttoks Tplc Tvals Pst Pce Pgi Pln Ptold) H := hP.sub [1, 2, 3, 4, 5, 6, 7, 8, 0] rfl
    have hD : va_D A (wW_X3_tellCell ak ad hr_ ra ht ta pg pa Rcoded Rtaken_9 Rtoken_10 Rplace_11 Rvalue_12 Rfault_13 Rsn Rcn Tlen Tcnt Ttoks Tplc Tvals Pst Pce Pgi Pln Ptold) := hD.sub [1, 2, 3, 4, 5, 6, 7, 8, 0] (by decide) rfl
    obtain ⟨h_15, hw⟩ := hw
    refine va_last hx hb hE.1 hP hD hS 2 1 rfl rfl (h_15) dX3_tellCell_33 (fun H locs hP hD hS => ?_)
    have hP : va_P D vwCl (wW_X3_tellCell ak ad hr_ ra ht ta pg pa Rcoded Rtaken_9 Rtoken_10 Rplace_11 Rvalue_12 Rfault_13 Rsn (vp_updL Rcn (Pce).toNatClampNeg r_14) Tlen Tcnt Ttoks Tplc Tvals Pst Pce Pgi Pln Ptold) H := hP
    have hD : va_D A (wW_X3_tellCell ak ad hr_ ra ht ta pg pa Rcoded Rtaken_9 Rtoken_10 Rplace_11 Rvalue_12 Rfault_13 Rsn (vp_updL Rcn (Pce).toNatClampNeg r_14) Tlen Tcnt Ttoks Tplc Tvals Pst Pce Pgi Pln Ptold) := hD
    refine lv_aload_n hx hb dX3_tellCell_34 rfl (lv_at hl 1 rfl) ?_
    refine vt_get (D := D) (ci := 3) (v := .ref pg) (C := RX3) (T := TX3) (N := 11) hx hb hts (fun w h => wm_c (wc_X3 w h)) hown hE.1 hP 0 rfl rfl 5 (by decide) tX3_5 (hts (.fieldLink RX3 35 "WornLines$Reader" "told" "LWornLines$Programme;") (wm_c hw_292)) (fun _ h9 => h9) rfl dX3_tellCell_35 ?_
    refine vt_get (D := D) (ci := 2) (v := .ref (pa 2)) (C := RX2) (T := TX2) (N := 17) hx hb hts (fun w h => wm_c (wc_X2 w h)) hown hE.1 hP 7 rfl rfl 4 (by decide) tX2_4 (hts (.fieldLink RX3 131 "WornLines$Programme" "told" "[I") (wm_c hw_457)) (fun _ h9 => h9) rfl dX3_tellCell_38 ?_
    refine lv_iload_n hx hb dX3_tellCell_41 rfl (lv_at hl 0 rfl) ?_
    refine lv_aload_n hx hb dX3_tellCell_42 rfl (lv_at hl 1 rfl) ?_
    refine lv_iconst (v := 0) hx hb dX3_tellCell_43 (by decide) ?_
    refine lv_sipush (v := 9999) hx hb dX3_tellCell_44 (by decide) ?_
    refine kc_i (wc := (wW_X3_takeNumber ak ad hr_ ra ht ta pg Rcoded Rtaken_9 Rtoken_10 Rplace_11 Rvalue_12 Rfault_13 Tlen Tcnt Ttoks Tplc Tvals)) (wr := [((ra 0), .inl (ak 1, 4, .inr (.inl (Rsn)))), ((ra 1), .inl (ak 1, 6, .inr (.inl (vp_updL Rcn (Pce).toNatClampNeg r_14)))), (pg, .inr (2, pob pa (Pst) (Pce) (Pgi) (Pln))), ((pa 2), .inl (ak 0, 6, .inl (Ptold)))]) hP hD hS hA [0, 3, 4, 5, 6] [1, 2, 7, 8] rfl rfl (by decide) (by decide) (va_runV (As := [.int (0), .int (9999)]) (rest := [.int (Pce), .ref (pa 2)]) ⟨hx, hb, hml, hown, hts⟩ (c_X3_takeNumber l D ak ad _ hr_ ra ht ta pg Rcoded Rtaken_9 Rtoken_10 Rplace_11 Rvalue_12 Rfault_13 Tlen Tcnt Ttoks Tplc Tvals 0 9999 _ hw) (cwV 2 hts gX3_tellCell_X3_takeNumber rfl rfl rfl hv_X3_takeNumber ⟨(Nat.le_trans (Nat.le_of_ble_eq_true rfl) hRf), (Nat.le_trans (Nat.le_of_ble_eq_true rfl) hRl)⟩) (kc_preV (As := [.int (0), .int (9999)]) (wc := (wW_X3_takeNumber ak ad hr_ ra ht ta pg Rcoded Rtaken_9 Rtoken_10 Rplace_11 Rvalue_12 Rfault_13 Tlen Tcnt Ttoks Tplc Tvals)) hE hT hP hD hS hA [0, 3, 4, 5, 6] (by decide) rfl rfl 0 3 rfl rfl rfl) rfl rfl hl.1 rfl (lv_room (Nat.le_of_ble_eq_true rfl)) dX3_tellCell_47 ⟨hRc.1, hRc.2⟩) (fun r_22 u_16 H locs hw hP hD hS => ?_)
    obtain ⟨Rtaken_17, Rtoken_18, Rplace_19, Rvalue_20, Rfault_21⟩ := u_16
    try dsimp -zeta only at hw
    have hP : va_P D vwCl (wW_X3_tellCell ak ad hr_ ra ht ta pg pa Rcoded Rtaken_17 Rtoken_18 Rplace_19 Rvalue_20 Rfault_21 Rsn (vp_updL Rcn (Pce).toNatClampNeg r_14) Tlen Tcnt Ttoks Tplc Tvals Pst Pce Pgi Pln Ptold) H := hP.sub [4, 0, 1, 5, 6, 7, 8, 2, 3] rfl
    have hD : va_D A (wW_X3_tellCell ak ad hr_ ra ht ta pg pa Rcoded Rtaken_17 Rtoken_18 Rplace_19 Rvalue_20 Rfault_21 Rsn (vp_updL Rcn (Pce).toNatClampNeg r_14) Tlen Tcnt Ttoks Tplc Tvals Pst Pce Pgi Pln Ptold) := hD.sub [4, 0, 1, 5, 6, 7, 8, 2, 3] (by decide) rfl
    obtain ⟨h_23, hw⟩ := hw
    refine va_iast hx hb hE.1 hP hD hS 8 0 rfl rfl (h_23) dX3_tellCell_50 (fun H locs hP hD hS => ?_)
    have hP : va_P D vwCl (wW_X3_tellCell ak ad hr_ ra ht ta pg pa Rcoded Rtaken_17 Rtoken_18 Rplace_19 Rvalue_20 Rfault_21 Rsn (vp_updL Rcn (Pce).toNatClampNeg r_14) Tlen Tcnt Ttoks Tplc Tvals Pst Pce Pgi Pln (upd Ptold (Pce).toNatClampNeg r_22)) H := hP
    have hD : va_D A (wW_X3_tellCell ak ad hr_ ra ht ta pg pa Rcoded Rtaken_17 Rtoken_18 Rplace_19 Rvalue_20 Rfault_21 Rsn (vp_updL Rcn (Pce).toNatClampNeg r_14) Tlen Tcnt Ttoks Tplc Tvals Pst Pce Pgi Pln (upd Ptold (Pce).toNatClampNeg r_22)) := hD
    refine lv_aload_n hx hb dX3_tellCell_51 rfl (lv_at hl 1 rfl) ?_
    refine vt_get (D := D) (ci := 3) (v := .ref pg) (C := RX3) (T := TX3) (N := 11) hx hb hts (fun w h => wm_c (wc_X3 w h)) hown hE.1 hP 0 rfl rfl 5 (by decide) tX3_5 (hts (.fieldLink RX3 35 "WornLines$Reader" "told" "LWornLines$Programme;") (wm_c hw_292)) (fun _ h9 => h9) rfl dX3_tellCell_52 ?_
    refine lv_iload_n hx hb dX3_tellCell_55 rfl (lv_at hl 0 rfl) ?_
    refine lv_iconst (v := 1) hx hb dX3_tellCell_56 (by decide) ?_
    refine lv_iadd hx hb dX3_tellCell_57 ?_
    refine vt_put (D := D) (ci := 2) (v := .int (Pce + 1)) (ty := .int) (C := RX2) (T := TX2) (N := 17) hx hb hts (fun w h => wm_c (wc_X2 w h)) tyX2 tyX2_ok nmX2 hown hE.1 hP hD hS 7 rfl rfl 3 (by decide) tX2_3 (hts (.fieldLink RX3 128 "WornLines$Programme" "cells" "I") (wm_c hw_434)) (fun _ h9 => h9) rfl pf_0 (rfl) rfl (Nat.le_of_ble_eq_true rfl) dX3_tellCell_58 (fun H locs hP hD hS => ?_)
    have hP : va_P D vwCl (wW_X3_tellCell ak ad hr_ ra ht ta pg pa Rcoded Rtaken_17 Rtoken_18 Rplace_19 Rvalue_20 Rfault_21 Rsn (vp_updL Rcn (Pce).toNatClampNeg r_14) Tlen Tcnt Ttoks Tplc Tvals Pst (Pce + 1) Pgi Pln (upd Ptold (Pce).toNatClampNeg r_22)) H := hP
    have hD : va_D A (wW_X3_tellCell ak ad hr_ ra ht ta pg pa Rcoded Rtaken_17 Rtoken_18 Rplace_19 Rvalue_20 Rfault_21 Rsn (vp_updL Rcn (Pce).toNatClampNeg r_14) Tlen Tcnt Ttoks Tplc Tvals Pst (Pce + 1) Pgi Pln (upd Ptold (Pce).toNatClampNeg r_22)) := hD
    exact kR61 Rtaken_17 Rtoken_18 Rplace_19 Rvalue_20 Rfault_21 (vp_updL Rcn (Pce).toNatClampNeg r_14) (Pce + 1) (upd Ptold (Pce).toNatClampNeg r_22) _ _ _ hw hP hD hS
  · replace hw := hw.2 c_1
    refine lv_aload_n hx hb dX3_tellCell_14 rfl (lv_at hl 1 rfl) ?_
    refine lv_iconst (v := 5) hx hb dX3_tellCell_15 (by decide) ?_
    refine kc_v (wc := (wW_X3_fail ak ad hr_ ra ht pg Rcoded Rtaken Rtoken Rplace Rvalue Rfault)) (wr := [((ra 0), .inl (ak 1, 4, .inr (.inl (Rsn)))), ((ra 1), .inl (ak 1, 6, .inr (.inl (Rcn)))), (ht, .inr (5, tob ta (Tlen) (Tcnt))), ((ta 1), .inl (ak 4, 1001, .inr (.inr (.inr (.inr (tokA ad (Ttoks))))))), ((ta 2), .inl (ak 0, 1001, .inl (Tplc))), ((ta 3), .inl (ak 1, 1001, .inr (.inl (Tvals)))), (pg, .inr (2, pob pa (Pst) (Pce) (Pgi) (Pln))), ((pa 2), .inl (ak 0, 6, .inl (Ptold)))]) hP hD hS hA [0] [1, 2, 3, 4, 5, 6, 7, 8] rfl rfl (by decide) (by decide) (va_runV (As := [.int (5)]) (rest := []) ⟨hx, hb, hml, hown, hts⟩ (c_X3_fail l D ak ad _ hr_ ra ht pg Rcoded Rtaken Rtoken Rplace Rvalue Rfault 5 _ hw) (cwV 1 hts gX3_tellCell_X3_fail rfl rfl rfl hv_X3_fail ⟨(Nat.le_trans (Nat.le_of_ble_eq_true rfl) hRf), (Nat.le_trans (Nat.le_of_ble_eq_true rfl) hRl)⟩) (kc_preV (As := [.int (5)]) (wc := (wW_X3_fail ak ad hr_ ra ht pg Rcoded Rtaken Rtoken Rplace Rvalue Rfault)) hE hT hP hD hS hA [0] (by decide) rfl rfl 0 3 rfl rfl rfl) rfl rfl hl.1 rfl (lv_room (Nat.le_of_ble_eq_true rfl)) dX3_tellCell_16 ⟨hRc.1, hRc.2⟩) (fun Rfault_25 H locs hw hP hD hS => ?_)
    try dsimp -zeta only at hw
    have hP : va_P D vwCl (wW_X3_tellCell ak ad hr_ ra ht ta pg pa Rcoded Rtaken Rtoken Rplace Rvalue Rfault_25 Rsn Rcn Tlen Tcnt Ttoks Tplc Tvals Pst Pce Pgi Pln Ptold) H := hP.sub [8, 0, 1, 2, 3, 4, 5, 6, 7] rfl
    have hD : va_D A (wW_X3_tellCell ak ad hr_ ra ht ta pg pa Rcoded Rtaken Rtoken Rplace Rvalue Rfault_25 Rsn Rcn Tlen Tcnt Ttoks Tplc Tvals Pst Pce Pgi Pln Ptold) := hD.sub [8, 0, 1, 2, 3, 4, 5, 6, 7] (by decide) rfl
    exact kR19 Rtaken Rtoken Rplace Rvalue Rfault_25 Rcn Pce Ptold _ _ _ hw hP hD hS
set_option maxHeartbeats 4000000 in
set_option maxRecDepth 100000 in
theorem c_X3_tellCell (l : Launch) (D : va_G) (ak : Nat → ClassId) (ad : Nat → Nat) (sz : Nat) (hr_ : Nat) (ra : Nat → Nat) (ht : Nat) (ta : Nat → Nat) (pg : Nat) (pa : Nat → Nat) (Rcoded : Int32) (Rtaken : Int32) (Rtoken : Nat) (Rplace : Int32) (Rvalue : Int64) (Rfault : Int32) (Rsn : Nat → Int64) (Rcn : Nat → Int64) (Tlen : Int32) (Tcnt : Int32) (Ttoks : Nat → Nat) (Tplc : Nat → Int32) (Tvals : Nat → Int64) (Pst : Int32) (Pce : Int32) (Pgi : Int32) (Pln : Int32) (Ptold : Nat → Int32) (Φ : Int32 → Nat → Int32 → Int64 → Int32 → (Nat → Int64) → Int32 → (Nat → Int32) → Prop) (hf : wp_X3_tellCell Rsn Tcnt Ttoks Tplc Tvals Pst Rtaken Rtoken Rplace Rvalue Rfault Rcn Pce Ptold Φ) : Met l yX3_tellCell wsX3_tellCell ({ frames := 3, cells := 0, slots := 0, locals := 66 }) (cPre D ak ad [.ref hr_] ((wW_X3_tellCell ak ad hr_ ra ht ta pg pa Rcoded Rtaken Rtoken Rplace Rvalue Rfault Rsn Rcn Tlen Tcnt Ttoks Tplc Tvals Pst Pce Pgi Pln Ptold)) sz) (cV D (S := (Int32) × (Nat) × (Int32) × (Int64) × (Int32) × (Nat → Int64) × (Int32) × (Nat → Int32)) (fun (u : (Int32) × (Nat) × (Int32) × (Int64) × (Int32) × (Nat → Int64) × (Int32) × (Nat → Int32)) => Φ u.1 u.2.1 u.2.2.1 u.2.2.2.1 u.2.2.2.2.1 u.2.2.2.2.2.1 u.2.2.2.2.2.2.1 u.2.2.2.2.2.2.2) (fun u => (wW_X3_tellCell ak ad hr_ ra ht ta pg pa Rcoded u.1 u.2.1 u.2.2.1 u.2.2.2.1 u.2.2.2.2.1 Rsn u.2.2.2.2.2.1 Tlen Tcnt Ttoks Tplc Tvals Pst u.2.2.2.2.2.2.1 Pgi Pln u.2.2.2.2.2.2.2)) ((wW_X3_tellCell ak ad hr_ ra ht ta pg pa Rcoded Rtaken Rtoken Rplace Rvalue Rfault Rsn Rcn Tlen Tcnt Ttoks Tplc Tvals Pst Pce Pgi Pln Ptold)) sz) 0 0 (va_A ((wW_X3_tellCell ak ad hr_ ra ht ta pg pa Rcoded Rtaken Rtoken Rplace Rvalue Rfault Rsn Rcn Tlen Tcnt Ttoks Tplc Tvals Pst Pce Pgi Pln Ptold)) sz) := by
  refine Met.ofW (cc := cX3_tellCell) (maxL := 2) (ret := none) (by decide) rfl ?_
  intro p e s m args below meth c s₁ B hml hv
  obtain ⟨rfl, hsz, hP, hE, hD0, hT⟩ := hv
  have hx := B.exec
  have hb := B.bytes
  have hr := B.returns
  have hts := atoms_spec (ws := wsX3_tellCell) B.pre
  have hown : s.vm.findClass RX3 = some m.cls := findClass_of_methodNamed B.named
  have hlocks := B.notSynchronized
  subst hsz
  have hD := hD0.self (sz := s.heap.size)
  generalize hAe : va_A ((wW_X3_tellCell ak ad hr_ ra ht ta pg pa Rcoded Rtaken Rtoken Rplace Rvalue Rfault Rsn Rcn Tlen Tcnt Ttoks Tplc Tvals Pst Pce Pgi Pln Ptold)) s.heap.size = A at hD hT ⊢
  have hA : ∀ q : Nat, s.heap.size ≤ q → A q := fun q h => by rw [← hAe]; exact Or.inr h
  have hS : va_S A s.heap s.heap [] := va_S.rf
  have hl := lv_entry ([.ref hr_]) (n := 2) (Nat.le_of_ble_eq_true rfl)
  rw [lg_entry_eq]
  generalize (lg_sl ([.ref hr_]) ++ List.replicate (2 - (lg_sl ([.ref hr_])).length) Slot.unset).toArray = ls at hl ⊢
  have hl : lv_has ls 2 [(0, .ref hr_)] := hl
  exact kj_X3_tellCell_e hx hb hown hts hml hE hT hA (Nat.le_of_ble_eq_true rfl) (Nat.le_of_ble_eq_true rfl) ⟨Nat.le_of_ble_eq_true rfl, Nat.le_of_ble_eq_true rfl⟩ hr_ ra ht ta pg pa Rcoded Rsn Tlen Tcnt Ttoks Tplc Tvals Pst Pgi Pln Φ (fun Rtaken Rtoken Rplace Rvalue Rfault Rcn Pce Ptold H locs ls hw hP hD hS => W.vret hx hb hr (fun t ht hW => ⟨⟨(Rtaken, Rtoken, Rplace, Rvalue, Rfault, Rcn, Pce, Ptold), rfl, hw, by rw [ht]; exact hP, by rw [hAe]; exact hD⟩, by rw [hAe]; exact hS.F ht⟩) hS.2.2 dX3_tellCell_19) (fun Rtaken Rtoken Rplace Rvalue Rfault Rcn Pce Ptold H locs ls hw hP hD hS => W.vret hx hb hr (fun t ht hW => ⟨⟨(Rtaken, Rtoken, Rplace, Rvalue, Rfault, Rcn, Pce, Ptold), rfl, hw, by rw [ht]; exact hP, by rw [hAe]; exact hD⟩, by rw [hAe]; exact hS.F ht⟩) hS.2.2 dX3_tellCell_61) Rtaken Rtoken Rplace Rvalue Rfault Rcn Pce Ptold _ _ _ hf hP hD hS hl

def wW_X3_tellInput (ak : Nat → ClassId) (ad : Nat → Nat) (hr_ : Nat) (ra : Nat → Nat) (ht : Nat) (ta : Nat → Nat) (pg : Nat) (pa : Nat → Nat) (Rcoded : Int32) (Rtaken : Int32) (Rtoken : Nat) (Rplace : Int32) (Rvalue : Int64) (Rfault : Int32) (Rcn : Nat → Int64) (Tlen : Int32) (Tcnt : Int32) (Ttoks : Nat → Nat) (Tplc : Nat → Int32) (Tvals : Nat → Int64) (Pst : Int32) (Pce : Int32) (Pgi : Int32) (Pln : Int32) (PgivenC : Nat → Int32) (Pleast : Nat → Int32) (Pgreat : Nat → Int32) : va_W := [(hr_, .inr (3, rob ad ra (ht) (Rcoded) (pg) (Rtaken) (Rtoken) (Rplace) (Rvalue) (Rfault))), ((ra 1), .inl (ak 1, 6, .inr (.inl (Rcn)))), (ht, .inr (5, tob ta (Tlen) (Tcnt))), ((ta 1), .inl (ak 4, 1001, .inr (.inr (.inr (.inr (tokA ad (Ttoks))))))), ((ta 2), .inl (ak 0, 1001, .inl (Tplc))), ((ta 3), .inl (ak 1, 1001, .inr (.inl (Tvals)))), (pg, .inr (2, pob pa (Pst) (Pce) (Pgi) (Pln))), ((pa 3), .inl (ak 0, 2, .inl (PgivenC))), ((pa 4), .inl (ak 0, 2, .inl (Pleast))), ((pa 5), .inl (ak 0, 2, .inl (Pgreat)))]
def kf_X3_tellInput_99 (Rcn : Nat → Int64) (Tcnt : Int32) (Ttoks : Nat → Nat) (Tplc : Nat → Int32) (Tvals : Nat → Int64) (Pce : Int32)  (Φ : Int32 → Nat → Int32 → Int64 → Int32 → Int32 → (Nat → Int32) → (Nat → Int32) → (Nat → Int32) → Prop) (Rtaken : Int32) (Rtoken : Nat) (Rplace : Int32) (Rvalue : Int64) (Rfault : Int32) (Pgi : Int32) (PgivenC : Nat → Int32) (Pleast : Nat → Int32) (Pgreat : Nat → Int32) (l1 : Int32) (l2 : Int32) (l3 : Int32) (l4 : Int32) : Prop := wp_X3_advance Tcnt Ttoks Tplc Tvals Rtaken Rtoken Rplace Rvalue (fun Rtaken_34 Rtoken_35 Rplace_36 Rvalue_37 => vp_in l1 2 ∧ vp_in l1 2 ∧ vp_in l1 2 ∧ Φ Rtaken_34 Rtoken_35 Rplace_36 Rvalue_37 Rfault (l1 + 1) (upd PgivenC (l1).toNatClampNeg l2) (upd Pleast (l1).toNatClampNeg l3) (upd Pgreat (l1).toNatClampNeg l4))
set_option maxHeartbeats 4000000 in
set_option maxRecDepth 100000 in
theorem kj_X3_tellInput_99 {p : Program} {l : Launch} {e : Env} {R : Room} {s : State} {m : MethodId} {args : Array Value} {below : List Frame} {meth : Method} {c : Code} {cells slots : Nat} {Q : State → Prop} {A : Nat → Prop} {D : va_G} {ak : Nat → ClassId} {ad : Nat → Nat} (hx : p.tables.exec = Jvm.exec) (hb : c.code = cX3_tellInput) (hown : s.vm.findClass RX3 = some m.cls) (hts : ∀ w ∈ wsX3_tellInput, w.before args s = true) (hml : c.maxLocals = 5) (hE : EV D ak s) (hT : ST D ak ad A s s.heap) (hA : ∀ q, s.heap.size ≤ q → A q) (hRf : 3 ≤ R.frames) (hRl : 66 ≤ R.locals) (hRc : cells ≤ R.cells ∧ slots ≤ R.slots) (hr_ : Nat) (ra : Nat → Nat) (ht : Nat) (ta : Nat → Nat) (pg : Nat) (pa : Nat → Nat) (Rcoded : Int32) (Rcn : Nat → Int64) (Tlen : Int32) (Tcnt : Int32) (Ttoks : Nat → Nat) (Tplc : Nat → Int32) (Tvals : Nat → Int64) (Pst : Int32) (Pce : Int32) (Pln : Int32)  (Φ : Int32 → Nat → Int32 → Int64 → Int32 → Int32 → (Nat → Int32) → (Nat → Int32) → (Nat → Int32) → Prop)
    (kR18 : ∀ (Rtaken : Int32) (Rtoken : Nat) (Rplace : Int32) (Rvalue : Int64) (Rfault : Int32) (Pgi : Int32) (PgivenC : Nat → Int32) (Pleast : Nat → Int32) (Pgreat : Nat → Int32) (H : Heap) (locs : List Loc) (ls : Array Slot), Φ Rtaken Rtoken Rplace Rvalue Rfault Pgi PgivenC Pleast Pgreat → va_P D vwCl (wW_X3_tellInput ak ad hr_ ra ht ta pg pa Rcoded Rtaken Rtoken Rplace Rvalue Rfault Rcn Tlen Tcnt Ttoks Tplc Tvals Pst Pce Pgi Pln PgivenC Pleast Pgreat) H → va_D A (wW_X3_tellInput ak ad hr_ ra ht ta pg pa Rcoded Rtaken Rtoken Rplace Rvalue Rfault Rcn Tlen Tcnt Ttoks Tplc Tvals Pst Pce Pgi Pln PgivenC Pleast Pgreat) → va_S A s.heap H locs → W p l e R s m args below meth c H locs cells slots Q (F0 m 18 ls []))
    (kR144 : ∀ (Rtaken : Int32) (Rtoken : Nat) (Rplace : Int32) (Rvalue : Int64) (Rfault : Int32) (Pgi : Int32) (PgivenC : Nat → Int32) (Pleast : Nat → Int32) (Pgreat : Nat → Int32) (H : Heap) (locs : List Loc) (ls : Array Slot), Φ Rtaken Rtoken Rplace Rvalue Rfault Pgi PgivenC Pleast Pgreat → va_P D vwCl (wW_X3_tellInput ak ad hr_ ra ht ta pg pa Rcoded Rtaken Rtoken Rplace Rvalue Rfault Rcn Tlen Tcnt Ttoks Tplc Tvals Pst Pce Pgi Pln PgivenC Pleast Pgreat) H → va_D A (wW_X3_tellInput ak ad hr_ ra ht ta pg pa Rcoded Rtaken Rtoken Rplace Rvalue Rfault Rcn Tlen Tcnt Ttoks Tplc Tvals Pst Pce Pgi Pln PgivenC Pleast Pgreat) → va_S A s.heap H locs → W p l e R s m args below meth c H locs cells slots Q (F0 m 144 ls []))
    : ∀ (Rtaken : Int32) (Rtoken : Nat) (Rplace : Int32) (Rvalue : Int64) (Rfault : Int32) (Pgi : Int32) (PgivenC : Nat → Int32) (Pleast : Nat → Int32) (Pgreat : Nat → Int32) (l1 : Int32) (l2 : Int32) (l3 : Int32) (l4 : Int32) (H : Heap) (locs : List Loc) (ls : Array Slot), kf_X3_tellInput_99 Rcn Tcnt Ttoks Tplc Tvals Pce  Φ Rtaken Rtoken Rplace Rvalue Rfault Pgi PgivenC Pleast Pgreat l1 l2 l3 l4 → va_P D vwCl (wW_X3_tellInput ak ad hr_ ra ht ta pg pa Rcoded Rtaken Rtoken Rplace Rvalue Rfault Rcn Tlen Tcnt Ttoks Tplc Tvals Pst Pce Pgi Pln PgivenC Pleast Pgreat) H → va_D A (wW_X3_tellInput ak ad hr_ ra ht ta pg pa Rcoded Rtaken Rtoken Rplace Rvalue Rfault Rcn Tlen Tcnt Ttoks Tplc Tvals Pst Pce Pgi Pln PgivenC Pleast Pgreat) → va_S A s.heap H locs → lv_has ls 5 [(0, .ref hr_), (1, .int (l1)), (2, .int (l2)), (3, .int (l3)), (4, .int (l4))] → W p l e R s m args below meth c H locs cells slots Q (F0 m 99 ls ([])) := by
  intro Rtaken Rtoken Rplace Rvalue Rfault Pgi PgivenC Pleast Pgreat l1 l2 l3 l4 H locs ls hw hP hD hS hl
  delta kf_X3_tellInput_99 at hw
  refine lv_aload_n hx hb dX3_tellInput_99 rfl (lv_at hl 0 rfl) ?_
  refine kc_v (wc := (wW_X3_advance ak ad hr_ ra ht ta pg Rcoded Rtaken Rtoken Rplace Rvalue Rfault Tlen Tcnt Ttoks Tplc Tvals)) (wr := [((ra 1), .inl (ak 1, 6, .inr (.inl (Rcn)))), (pg, .inr (2, pob pa (Pst) (Pce) (Pgi) (Pln))), ((pa 3), .inl (ak 0, 2, .inl (PgivenC))), ((pa 4), .inl (ak 0, 2, .inl (Pleast))), ((pa 5), .inl (ak 0, 2, .inl (Pgreat)))]) hP hD hS hA [0, 2, 3, 4, 5] [1, 6, 7, 8, 9] rfl rfl (by decide) (by decide) (va_runV (As := []) (rest := []) ⟨hx, hb, hml, hown, hts⟩ (c_X3_advance l D ak ad _ hr_ ra ht ta pg Rcoded Rtaken Rtoken Rplace Rvalue Rfault Tlen Tcnt Ttoks Tplc Tvals _ hw) (cwV 0 hts gX3_tellInput_X3_advance rfl rfl rfl hv_X3_advance ⟨(Nat.le_trans (Nat.le_of_ble_eq_true rfl) hRf), (Nat.le_trans (Nat.le_of_ble_eq_true rfl) hRl)⟩) (kc_preV (As := []) (wc := (wW_X3_advance ak ad hr_ ra ht ta pg Rcoded Rtaken Rtoken Rplace Rvalue Rfault Tlen Tcnt Ttoks Tplc Tvals)) hE hT hP hD hS hA [0, 2, 3, 4, 5] (by decide) rfl rfl 0 3 rfl rfl rfl) rfl rfl hl.1 rfl (lv_room (Nat.le_of_ble_eq_true rfl)) dX3_tellInput_100 ⟨hRc.1, hRc.2⟩) (fun u_33 H locs hw hP hD hS => ?_)
  obtain ⟨Rtaken_34, Rtoken_35, Rplace_36, Rvalue_37⟩ := u_33
  try dsimp -zeta only at hw
  have hP : va_P D vwCl (wW_X3_tellInput ak ad hr_ ra ht ta pg pa Rcoded Rtaken_34 Rtoken_35 Rplace_36 Rvalue_37 Rfault Rcn Tlen Tcnt Ttoks Tplc Tvals Pst Pce Pgi Pln PgivenC Pleast Pgreat) H := hP.sub [5, 0, 6, 7, 8, 9, 1, 2, 3, 4] rfl
  have hD : va_D A (wW_X3_tellInput ak ad hr_ ra ht ta pg pa Rcoded Rtaken_34 Rtoken_35 Rplace_36 Rvalue_37 Rfault Rcn Tlen Tcnt Ttoks Tplc Tvals Pst Pce Pgi Pln PgivenC Pleast Pgreat) := hD.sub [5, 0, 6, 7, 8, 9, 1, 2, 3, 4] (by decide) rfl
  refine lv_aload_n hx hb dX3_tellInput_103 rfl (lv_at hl 0 rfl) ?_
  refine vt_get (D := D) (ci := 3) (v := .ref pg) (C := RX3) (T := TX3) (N := 11) hx hb hts (fun w h => wm_c (wc_X3 w h)) hown hE.1 hP 0 rfl rfl 5 (by decide) tX3_5 (hts (.fieldLink RX3 35 "WornLines$Reader" "told" "LWornLines$Programme;") (wm_c hw_292)) (fun _ h9 => h9) rfl dX3_tellInput_104 ?_
  refine vt_get (D := D) (ci := 2) (v := .ref (pa 3)) (C := RX2) (T := TX2) (N := 17) hx hb hts (fun w h => wm_c (wc_X2 w h)) hown hE.1 hP 6 rfl rfl 6 (by decide) tX2_6 (hts (.fieldLink RX3 151 "WornLines$Programme" "givenCell" "[I") (wm_c hw_436)) (fun _ h9 => h9) rfl dX3_tellInput_107 ?_
  refine lv_iload_n hx hb dX3_tellInput_110 rfl (lv_at hl 1 rfl) ?_
  refine lv_iload_n hx hb dX3_tellInput_111 rfl (lv_at hl 2 rfl) ?_
  obtain ⟨h_39, hw⟩ := hw
  refine va_iast hx hb hE.1 hP hD hS 7 0 rfl rfl (h_39) dX3_tellInput_112 (fun H locs hP hD hS => ?_)
  have hP : va_P D vwCl (wW_X3_tellInput ak ad hr_ ra ht ta pg pa Rcoded Rtaken_34 Rtoken_35 Rplace_36 Rvalue_37 Rfault Rcn Tlen Tcnt Ttoks Tplc Tvals Pst Pce Pgi Pln (upd PgivenC (l1).toNatClampNeg l2) Pleast Pgreat) H := hP
  have hD : va_D A (wW_X3_tellInput ak ad hr_ ra ht ta pg pa Rcoded Rtaken_34 Rtoken_35 Rplace_36 Rvalue_37 Rfault Rcn Tlen Tcnt Ttoks Tplc Tvals Pst Pce Pgi Pln (upd PgivenC (l1).toNatClampNeg l2) Pleast Pgreat) := hD
  refine lv_aload_n hx hb dX3_tellInput_113 rfl (lv_at hl 0 rfl) ?_
  refine vt_get (D := D) (ci := 3) (v := .ref pg) (C := RX3) (T := TX3) (N := 11) hx hb hts (fun w h => wm_c (wc_X3 w h)) hown hE.1 hP 0 rfl rfl 5 (by decide) tX3_5 (hts (.fieldLink RX3 35 "WornLines$Reader" "told" "LWornLines$Programme;") (wm_c hw_292)) (fun _ h9 => h9) rfl dX3_tellInput_114 ?_
  refine vt_get (D := D) (ci := 2) (v := .ref (pa 4)) (C := RX2) (T := TX2) (N := 17) hx hb hts (fun w h => wm_c (wc_X2 w h)) hown hE.1 hP 6 rfl rfl 7 (by decide) tX2_7 (hts (.fieldLink RX3 154 "WornLines$Programme" "least" "[I") (wm_c hw_458)) (fun _ h9 => h9) rfl dX3_tellInput_117 ?_
  refine lv_iload_n hx hb dX3_tellInput_120 rfl (lv_at hl 1 rfl) ?_
  refine lv_iload_n hx hb dX3_tellInput_121 rfl (lv_at hl 3 rfl) ?_
  obtain ⟨h_40, hw⟩ := hw
  refine va_iast hx hb hE.1 hP hD hS 8 0 rfl rfl (h_40) dX3_tellInput_122 (fun H locs hP hD hS => ?_)
  have hP : va_P D vwCl (wW_X3_tellInput ak ad hr_ ra ht ta pg pa Rcoded Rtaken_34 Rtoken_35 Rplace_36 Rvalue_37 Rfault Rcn Tlen Tcnt Ttoks Tplc Tvals Pst Pce Pgi Pln (upd PgivenC (l1).toNatClampNeg l2) (upd Pleast (l1).toNatClampNeg l3) Pgreat) H := hP
  have hD : va_D A (wW_X3_tellInput ak ad hr_ ra ht ta pg pa Rcoded Rtaken_34 Rtoken_35 Rplace_36 Rvalue_37 Rfault Rcn Tlen Tcnt Ttoks Tplc Tvals Pst Pce Pgi Pln (upd PgivenC (l1).toNatClampNeg l2) (upd Pleast (l1).toNatClampNeg l3) Pgreat) := hD
  refine lv_aload_n hx hb dX3_tellInput_123 rfl (lv_at hl 0 rfl) ?_
  refine vt_get (D := D) (ci := 3) (v := .ref pg) (C := RX3) (T := TX3) (N := 11) hx hb hts (fun w h => wm_c (wc_X3 w h)) hown hE.1 hP 0 rfl rfl 5 (by decide) tX3_5 (hts (.fieldLink RX3 35 "WornLines$Reader" "told" "LWornLines$Programme;") (wm_c hw_292)) (fun _ h9 => h9) rfl dX3_tellInput_124 ?_
  refine vt_get (D := D) (ci := 2) (v := .ref (pa 5)) (C := RX2) (T := TX2) (N := 17) hx hb hts (fun w h => wm_c (wc_X2 w h)) hown hE.1 hP 6 rfl rfl 8 (by decide) tX2_8 (hts (.fieldLink RX3 157 "WornLines$Programme" "greatest" "[I") (wm_c hw_459)) (fun _ h9 => h9) rfl dX3_tellInput_127 ?_
  refine lv_iload_n hx hb dX3_tellInput_130 rfl (lv_at hl 1 rfl) ?_
  refine lv_iload hx hb dX3_tellInput_131 (lv_at hl 4 rfl) ?_
  obtain ⟨h_41, hw⟩ := hw
  refine va_iast hx hb hE.1 hP hD hS 9 0 rfl rfl (h_41) dX3_tellInput_133 (fun H locs hP hD hS => ?_)
  have hP : va_P D vwCl (wW_X3_tellInput ak ad hr_ ra ht ta pg pa Rcoded Rtaken_34 Rtoken_35 Rplace_36 Rvalue_37 Rfault Rcn Tlen Tcnt Ttoks Tplc Tvals Pst Pce Pgi Pln (upd PgivenC (l1).toNatClampNeg l2) (upd Pleast (l1).toNatClampNeg l3) (upd Pgreat (l1).toNatClampNeg l4)) H := hP
  have hD : va_D A (wW_X3_tellInput ak ad hr_ ra ht ta pg pa Rcoded Rtaken_34 Rtoken_35 Rplace_36 Rvalue_37 Rfault Rcn Tlen Tcnt Ttoks Tplc Tvals Pst Pce Pgi Pln (upd PgivenC (l1).toNatClampNeg l2) (upd Pleast (l1).toNatClampNeg l3) (upd Pgreat (l1).toNatClampNeg l4)) := hD
  refine lv_aload_n hx hb dX3_tellInput_134 rfl (lv_at hl 0 rfl) ?_
  refine vt_get (D := D) (ci := 3) (v := .ref pg) (C := RX3) (T := TX3) (N := 11) hx hb hts (fun w h => wm_c (wc_X3 w h)) hown hE.1 hP 0 rfl rfl 5 (by decide) tX3_5 (hts (.fieldLink RX3 35 "WornLines$Reader" "told" "LWornLines$Programme;") (wm_c hw_292)) (fun _ h9 => h9) rfl dX3_tellInput_135 ?_
  refine lv_iload_n hx hb dX3_tellInput_138 rfl (lv_at hl 1 rfl) ?_
  refine lv_iconst (v := 1) hx hb dX3_tellInput_139 (by decide) ?_
  refine lv_iadd hx hb dX3_tellInput_140 ?_
  refine vt_put (D := D) (ci := 2) (v := .int (l1 + 1)) (ty := .int) (C := RX2) (T := TX2) (N := 17) hx hb hts (fun w h => wm_c (wc_X2 w h)) tyX2 tyX2_ok nmX2 hown hE.1 hP hD hS 6 rfl rfl 5 (by decide) tX2_5 (hts (.fieldLink RX3 133 "WornLines$Programme" "given" "I") (wm_c hw_435)) (fun _ h9 => h9) rfl pf_0 (rfl) rfl (Nat.le_of_ble_eq_true rfl) dX3_tellInput_141 (fun H locs hP hD hS => ?_)
  have hP : va_P D vwCl (wW_X3_tellInput ak ad hr_ ra ht ta pg pa Rcoded Rtaken_34 Rtoken_35 Rplace_36 Rvalue_37 Rfault Rcn Tlen Tcnt Ttoks Tplc Tvals Pst Pce (l1 + 1) Pln (upd PgivenC (l1).toNatClampNeg l2) (upd Pleast (l1).toNatClampNeg l3) (upd Pgreat (l1).toNatClampNeg l4)) H := hP
  have hD : va_D A (wW_X3_tellInput ak ad hr_ ra ht ta pg pa Rcoded Rtaken_34 Rtoken_35 Rplace_36 Rvalue_37 Rfault Rcn Tlen Tcnt Ttoks Tplc Tvals Pst Pce (l1 + 1) Pln (upd PgivenC (l1).toNatClampNeg l2) (upd Pleast (l1).toNatClampNeg l3) (upd Pgreat (l1).toNatClampNeg l4)) := hD
  exact kR144 Rtaken_34 Rtoken_35 Rplace_36 Rvalue_37 Rfault (l1 + 1) (upd PgivenC (l1).toNatClampNeg l2) (upd Pleast (l1).toNatClampNeg l3) (upd Pgreat (l1).toNatClampNeg l4) _ _ _ hw hP hD hS

def kf_X3_tellInput_52 (Rcn : Nat → Int64) (Tcnt : Int32) (Ttoks : Nat → Nat) (Tplc : Nat → Int32) (Tvals : Nat → Int64) (Pce : Int32)  (Φ : Int32 → Nat → Int32 → Int64 → Int32 → Int32 → (Nat → Int32) → (Nat → Int32) → (Nat → Int32) → Prop) (Rtaken : Int32) (Rtoken : Nat) (Rplace : Int32) (Rvalue : Int64) (Rfault : Int32) (Pgi : Int32) (PgivenC : Nat → Int32) (Pleast : Nat → Int32) (Pgreat : Nat → Int32) (l1 : Int32) (l2 : Int32) : Prop := wp_X3_advance Tcnt Ttoks Tplc Tvals Rtaken Rtoken Rplace Rvalue (fun Rtaken_15 Rtoken_16 Rplace_17 Rvalue_18 => wp_X3_takeNumber Tcnt Ttoks Tplc Tvals 0 9999 Rtaken_15 Rtoken_16 Rplace_17 Rvalue_18 Rfault (fun r_26 Rtaken_21 Rtoken_22 Rplace_23 Rvalue_24 Rfault_25 => wp_X3_numberHere Rtoken_22 Rplace_23 Rvalue_24 r_26 9999 Rfault_25 (fun r_29 Rfault_28 => wp_X2_inputCountW Pgi Pleast Pgreat (fun r_31 => ((((r_29 - r_26) + 1) * r_31) ≤ 64 → kf_X3_tellInput_99 Rcn Tcnt Ttoks Tplc Tvals Pce  Φ Rtaken_21 Rtoken_22 Rplace_23 Rvalue_24 Rfault_28 Pgi PgivenC Pleast Pgreat l1 l2 r_26 r_29) ∧ (¬ (((r_29 - r_26) + 1) * r_31) ≤ 64 → wp_X3_fail Rplace_23 5 Rfault_28 (fun Rfault_43 => kf_X3_tellInput_99 Rcn Tcnt Ttoks Tplc Tvals Pce  Φ Rtaken_21 Rtoken_22 Rplace_23 Rvalue_24 Rfault_43 Pgi PgivenC Pleast Pgreat l1 l2 r_26 r_29))))))
set_option maxHeartbeats 4000000 in
set_option maxRecDepth 100000 in
theorem kj_X3_tellInput_52 {p : Program} {l : Launch} {e : Env} {R : Room} {s : State} {m : MethodId} {args : Array Value} {below : List Frame} {meth : Method} {c : Code} {cells slots : Nat} {Q : State → Prop} {A : Nat → Prop} {D : va_G} {ak : Nat → ClassId} {ad : Nat → Nat} (hx : p.tables.exec = Jvm.exec) (hb : c.code = cX3_tellInput) (hown : s.vm.findClass RX3 = some m.cls) (hts : ∀ w ∈ wsX3_tellInput, w.before args s = true) (hml : c.maxLocals = 5) (hE : EV D ak s) (hT : ST D ak ad A s s.heap) (hA : ∀ q, s.heap.size ≤ q → A q) (hRf : 3 ≤ R.frames) (hRl : 66 ≤ R.locals) (hRc : cells ≤ R.cells ∧ slots ≤ R.slots) (hr_ : Nat) (ra : Nat → Nat) (ht : Nat) (ta : Nat → Nat) (pg : Nat) (pa : Nat → Nat) (Rcoded : Int32) (Rcn : Nat → Int64) (Tlen : Int32) (Tcnt : Int32) (Ttoks : Nat → Nat) (Tplc : Nat → Int32) (Tvals : Nat → Int64) (Pst : Int32) (Pce : Int32) (Pln : Int32)  (Φ : Int32 → Nat → Int32 → Int64 → Int32 → Int32 → (Nat → Int32) → (Nat → Int32) → (Nat → Int32) → Prop)
    (kR18 : ∀ (Rtaken : Int32) (Rtoken : Nat) (Rplace : Int32) (Rvalue : Int64) (Rfault : Int32) (Pgi : Int32) (PgivenC : Nat → Int32) (Pleast : Nat → Int32) (Pgreat : Nat → Int32) (H : Heap) (locs : List Loc) (ls : Array Slot), Φ Rtaken Rtoken Rplace Rvalue Rfault Pgi PgivenC Pleast Pgreat → va_P D vwCl (wW_X3_tellInput ak ad hr_ ra ht ta pg pa Rcoded Rtaken Rtoken Rplace Rvalue Rfault Rcn Tlen Tcnt Ttoks Tplc Tvals Pst Pce Pgi Pln PgivenC Pleast Pgreat) H → va_D A (wW_X3_tellInput ak ad hr_ ra ht ta pg pa Rcoded Rtaken Rtoken Rplace Rvalue Rfault Rcn Tlen Tcnt Ttoks Tplc Tvals Pst Pce Pgi Pln PgivenC Pleast Pgreat) → va_S A s.heap H locs → W p l e R s m args below meth c H locs cells slots Q (F0 m 18 ls []))
    (kR144 : ∀ (Rtaken : Int32) (Rtoken : Nat) (Rplace : Int32) (Rvalue : Int64) (Rfault : Int32) (Pgi : Int32) (PgivenC : Nat → Int32) (Pleast : Nat → Int32) (Pgreat : Nat → Int32) (H : Heap) (locs : List Loc) (ls : Array Slot), Φ Rtaken Rtoken Rplace Rvalue Rfault Pgi PgivenC Pleast Pgreat → va_P D vwCl (wW_X3_tellInput ak ad hr_ ra ht ta pg pa Rcoded Rtaken Rtoken Rplace Rvalue Rfault Rcn Tlen Tcnt Ttoks Tplc Tvals Pst Pce Pgi Pln PgivenC Pleast Pgreat) H → va_D A (wW_X3_tellInput ak ad hr_ ra ht ta pg pa Rcoded Rtaken Rtoken Rplace Rvalue Rfault Rcn Tlen Tcnt Ttoks Tplc Tvals Pst Pce Pgi Pln PgivenC Pleast Pgreat) → va_S A s.heap H locs → W p l e R s m args below meth c H locs cells slots Q (F0 m 144 ls []))
    : ∀ (Rtaken : Int32) (Rtoken : Nat) (Rplace : Int32) (Rvalue : Int64) (Rfault : Int32) (Pgi : Int32) (PgivenC : Nat → Int32) (Pleast : Nat → Int32) (Pgreat : Nat → Int32) (l1 : Int32) (l2 : Int32) (H : Heap) (locs : List Loc) (ls : Array Slot), kf_X3_tellInput_52 Rcn Tcnt Ttoks Tplc Tvals Pce  Φ Rtaken Rtoken Rplace Rvalue Rfault Pgi PgivenC Pleast Pgreat l1 l2 → va_P D vwCl (wW_X3_tellInput ak ad hr_ ra ht ta pg pa Rcoded Rtaken Rtoken Rplace Rvalue Rfault Rcn Tlen Tcnt Ttoks Tplc Tvals Pst Pce Pgi Pln PgivenC Pleast Pgreat) H → va_D A (wW_X3_tellInput ak ad hr_ ra ht ta pg pa Rcoded Rtaken Rtoken Rplace Rvalue Rfault Rcn Tlen Tcnt Ttoks Tplc Tvals Pst Pce Pgi Pln PgivenC Pleast Pgreat) → va_S A s.heap H locs → lv_has ls 5 [(0, .ref hr_), (1, .int (l1)), (2, .int (l2))] → W p l e R s m args below meth c H locs cells slots Q (F0 m 52 ls ([])) := by
  intro Rtaken Rtoken Rplace Rvalue Rfault Pgi PgivenC Pleast Pgreat l1 l2 H locs ls hw hP hD hS hl
  delta kf_X3_tellInput_52 at hw
  refine lv_aload_n hx hb dX3_tellInput_52 rfl (lv_at hl 0 rfl) ?_
  refine kc_v (wc := (wW_X3_advance ak ad hr_ ra ht ta pg Rcoded Rtaken Rtoken Rplace Rvalue Rfault Tlen Tcnt Ttoks Tplc Tvals)) (wr := [((ra 1), .inl (ak 1, 6, .inr (.inl (Rcn)))), (pg, .inr (2, pob pa (Pst) (Pce) (Pgi) (Pln))), ((pa 3), .inl (ak 0, 2, .inl (PgivenC))), ((pa 4), .inl (ak 0, 2, .inl (Pleast))), ((pa 5), .inl (ak 0, 2, .inl (Pgreat)))]) hP hD hS hA [0, 2, 3, 4, 5] [1, 6, 7, 8, 9] rfl rfl (by decide) (by decide) (va_runV (As := []) (rest := []) ⟨hx, hb, hml, hown, hts⟩ (c_X3_advance l D ak ad _ hr_ ra ht ta pg Rcoded Rtaken Rtoken Rplace Rvalue Rfault Tlen Tcnt Ttoks Tplc Tvals _ hw) (cwV 0 hts gX3_tellInput_X3_advance rfl rfl rfl hv_X3_advance ⟨(Nat.le_trans (Nat.le_of_ble_eq_true rfl) hRf), (Nat.le_trans (Nat.le_of_ble_eq_true rfl) hRl)⟩) (kc_preV (As := []) (wc := (wW_X3_advance ak ad hr_ ra ht ta pg Rcoded Rtaken Rtoken Rplace Rvalue Rfault Tlen Tcnt Ttoks Tplc Tvals)) hE hT hP hD hS hA [0, 2, 3, 4, 5] (by decide) rfl rfl 0 3 rfl rfl rfl) rfl rfl hl.1 rfl (lv_room (Nat.le_of_ble_eq_true rfl)) dX3_tellInput_53 ⟨hRc.1, hRc.2⟩) (fun u_14 H locs hw hP hD hS => ?_)
  obtain ⟨Rtaken_15, Rtoken_16, Rplace_17, Rvalue_18⟩ := u_14
  try dsimp -zeta only at hw
  have hP : va_P D vwCl (wW_X3_tellInput ak ad hr_ ra ht ta pg pa Rcoded Rtaken_15 Rtoken_16 Rplace_17 Rvalue_18 Rfault Rcn Tlen Tcnt Ttoks Tplc Tvals Pst Pce Pgi Pln PgivenC Pleast Pgreat) H := hP.sub [5, 0, 6, 7, 8, 9, 1, 2, 3, 4] rfl
  have hD : va_D A (wW_X3_tellInput ak ad hr_ ra ht ta pg pa Rcoded Rtaken_15 Rtoken_16 Rplace_17 Rvalue_18 Rfault Rcn Tlen Tcnt Ttoks Tplc Tvals Pst Pce Pgi Pln PgivenC Pleast Pgreat) := hD.sub [5, 0, 6, 7, 8, 9, 1, 2, 3, 4] (by decide) rfl
  refine lv_aload_n hx hb dX3_tellInput_56 rfl (lv_at hl 0 rfl) ?_
  refine lv_iconst (v := 0) hx hb dX3_tellInput_57 (by decide) ?_
  refine lv_sipush (v := 9999) hx hb dX3_tellInput_58 (by decide) ?_
  refine kc_i (wc := (wW_X3_takeNumber ak ad hr_ ra ht ta pg Rcoded Rtaken_15 Rtoken_16 Rplace_17 Rvalue_18 Rfault Tlen Tcnt Ttoks Tplc Tvals)) (wr := [((ra 1), .inl (ak 1, 6, .inr (.inl (Rcn)))), (pg, .inr (2, pob pa (Pst) (Pce) (Pgi) (Pln))), ((pa 3), .inl (ak 0, 2, .inl (PgivenC))), ((pa 4), .inl (ak 0, 2, .inl (Pleast))), ((pa 5), .inl (ak 0, 2, .inl (Pgreat)))]) hP hD hS hA [0, 2, 3, 4, 5] [1, 6, 7, 8, 9] rfl rfl (by decide) (by decide) (va_runV (As := [.int (0), .int (9999)]) (rest := []) ⟨hx, hb, hml, hown, hts⟩ (c_X3_takeNumber l D ak ad _ hr_ ra ht ta pg Rcoded Rtaken_15 Rtoken_16 Rplace_17 Rvalue_18 Rfault Tlen Tcnt Ttoks Tplc Tvals 0 9999 _ hw) (cwV 2 hts gX3_tellInput_X3_takeNumber rfl rfl rfl hv_X3_takeNumber ⟨(Nat.le_trans (Nat.le_of_ble_eq_true rfl) hRf), (Nat.le_trans (Nat.le_of_ble_eq_true rfl) hRl)⟩) (kc_preV (As := [.int (0), .int (9999)]) (wc := (wW_X3_takeNumber ak ad hr_ ra ht ta pg Rcoded Rtaken_15 Rtoken_16 Rplace_17 Rvalue_18 Rfault Tlen Tcnt Ttoks Tplc Tvals)) hE hT hP hD hS hA [0, 2, 3, 4, 5] (by decide) rfl rfl 0 3 rfl rfl rfl) rfl rfl hl.1 rfl (lv_room (Nat.le_of_ble_eq_true rfl)) dX3_tellInput_61 ⟨hRc.1, hRc.2⟩) (fun r_26 u_20 H locs hw hP hD hS => ?_)
  obtain ⟨Rtaken_21, Rtoken_22, Rplace_23, Rvalue_24, Rfault_25⟩ := u_20
  try dsimp -zeta only at hw
  have hP : va_P D vwCl (wW_X3_tellInput ak ad hr_ ra ht ta pg pa Rcoded Rtaken_21 Rtoken_22 Rplace_23 Rvalue_24 Rfault_25 Rcn Tlen Tcnt Ttoks Tplc Tvals Pst Pce Pgi Pln PgivenC Pleast Pgreat) H := hP.sub [5, 0, 6, 7, 8, 9, 1, 2, 3, 4] rfl
  have hD : va_D A (wW_X3_tellInput ak ad hr_ ra ht ta pg pa Rcoded Rtaken_21 Rtoken_22 Rplace_23 Rvalue_24 Rfault_25 Rcn Tlen Tcnt Ttoks Tplc Tvals Pst Pce Pgi Pln PgivenC Pleast Pgreat) := hD.sub [5, 0, 6, 7, 8, 9, 1, 2, 3, 4] (by decide) rfl
  refine lv_istore_n (lv' := [(3, .int (r_26)), (0, .ref hr_), (1, .int (l1)), (2, .int (l2))]) hx hb dX3_tellInput_64 rfl hl (by decide) rfl (fun ls hl => ?_)
  refine lv_aload_n hx hb dX3_tellInput_65 rfl (lv_at hl 1 rfl) ?_
  refine lv_iload_n hx hb dX3_tellInput_66 rfl (lv_at hl 0 rfl) ?_
  refine lv_sipush (v := 9999) hx hb dX3_tellInput_67 (by decide) ?_
  refine kc_i (wc := (wW_X3_numberHere ak ad hr_ ra ht pg Rcoded Rtaken_21 Rtoken_22 Rplace_23 Rvalue_24 Rfault_25)) (wr := [((ra 1), .inl (ak 1, 6, .inr (.inl (Rcn)))), (ht, .inr (5, tob ta (Tlen) (Tcnt))), ((ta 1), .inl (ak 4, 1001, .inr (.inr (.inr (.inr (tokA ad (Ttoks))))))), ((ta 2), .inl (ak 0, 1001, .inl (Tplc))), ((ta 3), .inl (ak 1, 1001, .inr (.inl (Tvals)))), (pg, .inr (2, pob pa (Pst) (Pce) (Pgi) (Pln))), ((pa 3), .inl (ak 0, 2, .inl (PgivenC))), ((pa 4), .inl (ak 0, 2, .inl (Pleast))), ((pa 5), .inl (ak 0, 2, .inl (Pgreat)))]) hP hD hS hA [0] [1, 2, 3, 4, 5, 6, 7, 8, 9] rfl rfl (by decide) (by decide) (va_runV (As := [.int (r_26), .int (9999)]) (rest := []) ⟨hx, hb, hml, hown, hts⟩ (c_X3_numberHere l D ak ad _ hr_ ra ht pg Rcoded Rtaken_21 Rtoken_22 Rplace_23 Rvalue_24 Rfault_25 r_26 9999 _ hw) (cwV 2 hts gX3_tellInput_X3_numberHere rfl rfl rfl hv_X3_numberHere ⟨(Nat.le_trans (Nat.le_of_ble_eq_true rfl) hRf), (Nat.le_trans (Nat.le_of_ble_eq_true rfl) hRl)⟩) (kc_preV (As := [.int (r_26), .int (9999)]) (wc := (wW_X3_numberHere ak ad hr_ ra ht pg Rcoded Rtaken_21 Rtoken_22 Rplace_23 Rvalue_24 Rfault_25)) hE hT hP hD hS hA [0] (by decide) rfl rfl 0 3 rfl rfl rfl) rfl rfl hl.1 rfl (lv_room (Nat.le_of_ble_eq_true rfl)) dX3_tellInput_70 ⟨hRc.1, hRc.2⟩) (fun r_29 Rfault_28 H locs hw hP hD hS => ?_)
  try dsimp -zeta only at hw
  have hP : va_P D vwCl (wW_X3_tellInput ak ad hr_ ra ht ta pg pa Rcoded Rtaken_21 Rtoken_22 Rplace_23 Rvalue_24 Rfault_28 Rcn Tlen Tcnt Ttoks Tplc Tvals Pst Pce Pgi Pln PgivenC Pleast Pgreat) H := hP.sub [9, 0, 1, 2, 3, 4, 5, 6, 7, 8] rfl
  have hD : va_D A (wW_X3_tellInput ak ad hr_ ra ht ta pg pa Rcoded Rtaken_21 Rtoken_22 Rplace_23 Rvalue_24 Rfault_28 Rcn Tlen Tcnt Ttoks Tplc Tvals Pst Pce Pgi Pln PgivenC Pleast Pgreat) := hD.sub [9, 0, 1, 2, 3, 4, 5, 6, 7, 8] (by decide) rfl
  refine lv_istore (lv' := [(4, .int (r_29)), (3, .int (r_26)), (0, .ref hr_), (1, .int (l1)), (2, .int (l2))]) hx hb dX3_tellInput_73 hl (by decide) rfl (fun ls hl => ?_)
  refine lv_iload hx hb dX3_tellInput_75 (lv_at hl 0 rfl) ?_
  refine lv_iload_n hx hb dX3_tellInput_77 rfl (lv_at hl 1 rfl) ?_
  refine lv_isub hx hb dX3_tellInput_78 ?_
  refine lv_iconst (v := 1) hx hb dX3_tellInput_79 (by decide) ?_
  refine lv_iadd hx hb dX3_tellInput_80 ?_
  refine lv_aload_n hx hb dX3_tellInput_81 rfl (lv_at hl 2 rfl) ?_
  refine vt_get (D := D) (ci := 3) (v := .ref pg) (C := RX3) (T := TX3) (N := 11) hx hb hts (fun w h => wm_c (wc_X3 w h)) hown hE.1 hP 0 rfl rfl 5 (by decide) tX3_5 (hts (.fieldLink RX3 35 "WornLines$Reader" "told" "LWornLines$Programme;") (wm_c hw_292)) (fun _ h9 => h9) rfl dX3_tellInput_82 ?_
  refine kc_i (wc := (wW_X2_inputCountW ak ad pg pa Pst Pce Pgi Pln Pleast Pgreat)) (wr := [(hr_, .inr (3, rob ad ra (ht) (Rcoded) (pg) (Rtaken_21) (Rtoken_22) (Rplace_23) (Rvalue_24) (Rfault_28))), ((ra 1), .inl (ak 1, 6, .inr (.inl (Rcn)))), (ht, .inr (5, tob ta (Tlen) (Tcnt))), ((ta 1), .inl (ak 4, 1001, .inr (.inr (.inr (.inr (tokA ad (Ttoks))))))), ((ta 2), .inl (ak 0, 1001, .inl (Tplc))), ((ta 3), .inl (ak 1, 1001, .inr (.inl (Tvals)))), ((pa 3), .inl (ak 0, 2, .inl (PgivenC)))]) hP hD hS hA [6, 8, 9] [0, 1, 2, 3, 4, 5, 7] rfl rfl (by decide) (by decide) (va_runV (As := []) (rest := [.int ((r_29 - r_26) + 1)]) ⟨hx, hb, hml, hown, hts⟩ (c_X2_inputCountW l D ak ad _ pg pa Pst Pce Pgi Pln Pleast Pgreat _ hw) (cwV 0 hts gX3_tellInput_X2_inputCount rfl rfl rfl hv_X2_inputCount ⟨(Nat.le_trans (Nat.le_of_ble_eq_true rfl) hRf), (Nat.le_trans (Nat.le_of_ble_eq_true rfl) hRl)⟩) (kc_preV (As := []) (wc := (wW_X2_inputCountW ak ad pg pa Pst Pce Pgi Pln Pleast Pgreat)) hE hT hP hD hS hA [6, 8, 9] (by decide) rfl rfl 6 2 rfl rfl rfl) rfl rfl hl.1 rfl (lv_room (Nat.le_of_ble_eq_true rfl)) dX3_tellInput_85 ⟨hRc.1, hRc.2⟩) (fun r_31 u_30 H locs hw hP hD hS => ?_)
  try dsimp -zeta only at hw
  have hP : va_P D vwCl (wW_X3_tellInput ak ad hr_ ra ht ta pg pa Rcoded Rtaken_21 Rtoken_22 Rplace_23 Rvalue_24 Rfault_28 Rcn Tlen Tcnt Ttoks Tplc Tvals Pst Pce Pgi Pln PgivenC Pleast Pgreat) H := hP.sub [0, 1, 2, 3, 4, 5, 7, 6, 8, 9] rfl
  have hD : va_D A (wW_X3_tellInput ak ad hr_ ra ht ta pg pa Rcoded Rtaken_21 Rtoken_22 Rplace_23 Rvalue_24 Rfault_28 Rcn Tlen Tcnt Ttoks Tplc Tvals Pst Pce Pgi Pln PgivenC Pleast Pgreat) := hD.sub [0, 1, 2, 3, 4, 5, 7, 6, 8, 9] (by decide) rfl
  refine lv_imul hx hb dX3_tellInput_88 ?_
  refine lv_bipush (v := 64) hx hb dX3_tellInput_89 (by decide) ?_
  refine lv_icmp_le (tgt := 99) hx hb dX3_tellInput_91 (by decide) (fun c_32 => ?_) (fun c_32 => ?_)
  · replace hw := hw.1 c_32
    exact kj_X3_tellInput_99 hx hb hown hts hml hE hT hA hRf hRl hRc hr_ ra ht ta pg pa Rcoded Rcn Tlen Tcnt Ttoks Tplc Tvals Pst Pce Pln  Φ  kR18 kR144 Rtaken_21 Rtoken_22 Rplace_23 Rvalue_24 Rfault_28 Pgi PgivenC Pleast Pgreat l1 l2 r_26 r_29 _ _ _ hw hP hD hS (lv_sub hl [2, 3, 4, 1, 0] rfl)
  · replace hw := hw.2 c_32
    refine lv_aload_n hx hb dX3_tellInput_94 rfl (lv_at hl 2 rfl) ?_
    refine lv_iconst (v := 5) hx hb dX3_tellInput_95 (by decide) ?_
    refine kc_v (wc := (wW_X3_fail ak ad hr_ ra ht pg Rcoded Rtaken_21 Rtoken_22 Rplace_23 Rvalue_24 Rfault_28)) (wr := [((ra 1), .inl (ak 1, 6, .inr (.inl (Rcn)))), (ht, .inr (5, tob ta (Tlen) (Tcnt))), ((ta 1), .inl (ak 4, 1001, .inr (.inr (.inr (.inr (tokA ad (Ttoks))))))), ((ta 2), .inl (ak 0, 1001, .inl (Tplc))), ((ta 3), .inl (ak 1, 1001, .inr (.inl (Tvals)))), (pg, .inr (2, pob pa (Pst) (Pce) (Pgi) (Pln))), ((pa 3), .inl (ak 0, 2, .inl (PgivenC))), ((pa 4), .inl (ak 0, 2, .inl (Pleast))), ((pa 5), .inl (ak 0, 2, .inl (Pgreat)))]) hP hD hS hA [0] [1, 2, 3, 4, 5, 6, 7, 8, 9] rfl rfl (by decide) (by decide) (va_runV (As := [.int (5)]) (rest := []) ⟨hx, hb, hml, hown, hts⟩ (c_X3_fail l D ak ad _ hr_ ra ht pg Rcoded Rtaken_21 Rtoken_22 Rplace_23 Rvalue_24 Rfault_28 5 _ hw) (cwV 1 hts gX3_tellInput_X3_fail rfl rfl rfl hv_X3_fail ⟨(Nat.le_trans (Nat.le_of_ble_eq_true rfl) hRf), (Nat.le_trans (Nat.le_of_ble_eq_true rfl) hRl)⟩) (kc_preV (As := [.int (5)]) (wc := (wW_X3_fail ak ad hr_ ra ht pg Rcoded Rtaken_21 Rtoken_22 Rplace_23 Rvalue_24 Rfault_28)) hE hT hP hD hS hA [0] (by decide) rfl rfl 0 3 rfl rfl rfl) rfl rfl hl.1 rfl (lv_room (Nat.le_of_ble_eq_true rfl)) dX3_tellInput_96 ⟨hRc.1, hRc.2⟩) (fun Rfault_43 H locs hw hP hD hS => ?_)
    try dsimp -zeta only at hw
    have hP : va_P D vwCl (wW_X3_tellInput ak ad hr_ ra ht ta pg pa Rcoded Rtaken_21 Rtoken_22 Rplace_23 Rvalue_24 Rfault_43 Rcn Tlen Tcnt Ttoks Tplc Tvals Pst Pce Pgi Pln PgivenC Pleast Pgreat) H := hP.sub [9, 0, 1, 2, 3, 4, 5, 6, 7, 8] rfl
    have hD : va_D A (wW_X3_tellInput ak ad hr_ ra ht ta pg pa Rcoded Rtaken_21 Rtoken_22 Rplace_23 Rvalue_24 Rfault_43 Rcn Tlen Tcnt Ttoks Tplc Tvals Pst Pce Pgi Pln PgivenC Pleast Pgreat) := hD.sub [9, 0, 1, 2, 3, 4, 5, 6, 7, 8] (by decide) rfl
    exact kj_X3_tellInput_99 hx hb hown hts hml hE hT hA hRf hRl hRc hr_ ra ht ta pg pa Rcoded Rcn Tlen Tcnt Ttoks Tplc Tvals Pst Pce Pln  Φ  kR18 kR144 Rtaken_21 Rtoken_22 Rplace_23 Rvalue_24 Rfault_43 Pgi PgivenC Pleast Pgreat l1 l2 r_26 r_29 _ _ _ hw hP hD hS (lv_sub hl [2, 3, 4, 1, 0] rfl)

def wp_X3_tellInput (Rcn : Nat → Int64) (Tcnt : Int32) (Ttoks : Nat → Nat) (Tplc : Nat → Int32) (Tvals : Nat → Int64) (Pce : Int32) (Rtaken : Int32) (Rtoken : Nat) (Rplace : Int32) (Rvalue : Int64) (Rfault : Int32) (Pgi : Int32) (PgivenC : Nat → Int32) (Pleast : Nat → Int32) (Pgreat : Nat → Int32) (Φ : Int32 → Nat → Int32 → Int64 → Int32 → Int32 → (Nat → Int32) → (Nat → Int32) → (Nat → Int32) → Prop) : Prop := (Pgi < 2 → wp_X3_advance Tcnt Ttoks Tplc Tvals Rtaken Rtoken Rplace Rvalue (fun Rtaken_3 Rtoken_4 Rplace_5 Rvalue_6 => wp_X3_toldHere Rtoken_4 Rplace_5 Rvalue_6 Rcn 6 Pce Rfault (fun r_10 Rfault_9 => wp_X3_isGiven Pgi PgivenC r_10 (fun r_12 => (r_12 = 0 → kf_X3_tellInput_52 Rcn Tcnt Ttoks Tplc Tvals Pce  Φ Rtaken_3 Rtoken_4 Rplace_5 Rvalue_6 Rfault_9 Pgi PgivenC Pleast Pgreat Pgi r_10) ∧ (¬ r_12 = 0 → wp_X3_fail Rplace_5 3 Rfault_9 (fun Rfault_46 => kf_X3_tellInput_52 Rcn Tcnt Ttoks Tplc Tvals Pce  Φ Rtaken_3 Rtoken_4 Rplace_5 Rvalue_6 Rfault_46 Pgi PgivenC Pleast Pgreat Pgi r_10)))))) ∧ (¬ Pgi < 2 → wp_X3_fail Rplace 5 Rfault (fun Rfault_49 => Φ Rtaken Rtoken Rplace Rvalue Rfault_49 Pgi PgivenC Pleast Pgreat))
set_option maxHeartbeats 4000000 in
set_option maxRecDepth 100000 in
theorem kj_X3_tellInput_e {p : Program} {l : Launch} {e : Env} {R : Room} {s : State} {m : MethodId} {args : Array Value} {below : List Frame} {meth : Method} {c : Code} {cells slots : Nat} {Q : State → Prop} {A : Nat → Prop} {D : va_G} {ak : Nat → ClassId} {ad : Nat → Nat} (hx : p.tables.exec = Jvm.exec) (hb : c.code = cX3_tellInput) (hown : s.vm.findClass RX3 = some m.cls) (hts : ∀ w ∈ wsX3_tellInput, w.before args s = true) (hml : c.maxLocals = 5) (hE : EV D ak s) (hT : ST D ak ad A s s.heap) (hA : ∀ q, s.heap.size ≤ q → A q) (hRf : 3 ≤ R.frames) (hRl : 66 ≤ R.locals) (hRc : cells ≤ R.cells ∧ slots ≤ R.slots) (hr_ : Nat) (ra : Nat → Nat) (ht : Nat) (ta : Nat → Nat) (pg : Nat) (pa : Nat → Nat) (Rcoded : Int32) (Rcn : Nat → Int64) (Tlen : Int32) (Tcnt : Int32) (Ttoks : Nat → Nat) (Tplc : Nat → Int32) (Tvals : Nat → Int64) (Pst : Int32) (Pce : Int32) (Pln : Int32)  (Φ : Int32 → Nat → Int32 → Int64 → Int32 → Int32 → (Nat → Int32) → (Nat → Int32) → (Nat → Int32) → Prop)
    (kR18 : ∀ (Rtaken : Int32) (Rtoken : Nat) (Rplace : Int32) (Rvalue : Int64) (Rfault : Int32) (Pgi : Int32) (PgivenC : Nat → Int32) (Pleast : Nat → Int32) (Pgreat : Nat → Int32) (H : Heap) (locs : List Loc) (ls : Array Slot), Φ Rtaken Rtoken Rplace Rvalue Rfault Pgi PgivenC Pleast Pgreat → va_P D vwCl (wW_X3_tellInput ak ad hr_ ra ht ta pg pa Rcoded Rtaken Rtoken Rplace Rvalue Rfault Rcn Tlen Tcnt Ttoks Tplc Tvals Pst Pce Pgi Pln PgivenC Pleast Pgreat) H → va_D A (wW_X3_tellInput ak ad hr_ ra ht ta pg pa Rcoded Rtaken Rtoken Rplace Rvalue Rfault Rcn Tlen Tcnt Ttoks Tplc Tvals Pst Pce Pgi Pln PgivenC Pleast Pgreat) → va_S A s.heap H locs → W p l e R s m args below meth c H locs cells slots Q (F0 m 18 ls []))
    (kR144 : ∀ (Rtaken : Int32) (Rtoken : Nat) (Rplace : Int32) (Rvalue : Int64) (Rfault : Int32) (Pgi : Int32) (PgivenC : Nat → Int32) (Pleast : Nat → Int32) (Pgreat : Nat → Int32) (H : Heap) (locs : List Loc) (ls : Array Slot), Φ Rtaken Rtoken Rplace Rvalue Rfault Pgi PgivenC Pleast Pgreat → va_P D vwCl (wW_X3_tellInput ak ad hr_ ra ht ta pg pa Rcoded Rtaken Rtoken Rplace Rvalue Rfault Rcn Tlen Tcnt Ttoks Tplc Tvals Pst Pce Pgi Pln PgivenC Pleast Pgreat) H → va_D A (wW_X3_tellInput ak ad hr_ ra ht ta pg pa Rcoded Rtaken Rtoken Rplace Rvalue Rfault Rcn Tlen Tcnt Ttoks Tplc Tvals Pst Pce Pgi Pln PgivenC Pleast Pgreat) → va_S A s.heap H locs → W p l e R s m args below meth c H locs cells slots Q (F0 m 144 ls []))
    : ∀ (Rtaken : Int32) (Rtoken : Nat) (Rplace : Int32) (Rvalue : Int64) (Rfault : Int32) (Pgi : Int32) (PgivenC : Nat → Int32) (Pleast : Nat → Int32) (Pgreat : Nat → Int32) (H : Heap) (locs : List Loc) (ls : Array Slot), wp_X3_tellInput Rcn Tcnt Ttoks Tplc Tvals Pce Rtaken Rtoken Rplace Rvalue Rfault Pgi PgivenC Pleast Pgreat Φ → va_P D vwCl (wW_X3_tellInput ak ad hr_ ra ht ta pg pa Rcoded Rtaken Rtoken Rplace Rvalue Rfault Rcn Tlen Tcnt Ttoks Tplc Tvals Pst Pce Pgi Pln PgivenC Pleast Pgreat) H → va_D A (wW_X3_tellInput ak ad hr_ ra ht ta pg pa Rcoded Rtaken Rtoken Rplace Rvalue Rfault Rcn Tlen Tcnt Ttoks Tplc Tvals Pst Pce Pgi Pln PgivenC Pleast Pgreat) → va_S A s.heap H locs → lv_has ls 5 [(0, .ref hr_)] → W p l e R s m args below meth c H locs cells slots Q (F0 m 0 ls ([])) := by
  intro Rtaken Rtoken Rplace Rvalue Rfault Pgi PgivenC Pleast Pgreat H locs ls hw hP hD hS hl
  delta wp_X3_tellInput at hw
  refine lv_aload_n hx hb dX3_tellInput_0 rfl (lv_at hl 0 rfl) ?_
  refine vt_get (D := D) (ci := 3) (v := .ref pg) (C := RX3) (T := TX3) (N := 11) hx hb hts (fun w h => wm_c (wc_X3 w h)) hown hE.1 hP 0 rfl rfl 5 (by decide) tX3_5 (hts (.fieldLink RX3 35 "WornLines$Reader" "told" "LWornLines$Programme;") (wm_c hw_292)) (fun _ h9 => h9) rfl dX3_tellInput_1 ?_
  refine vt_get (D := D) (ci := 2) (v := .int (Pgi)) (C := RX2) (T := TX2) (N := 17) hx hb hts (fun w h => wm_c (wc_X2 w h)) hown hE.1 hP 6 rfl rfl 5 (by decide) tX2_5 (hts (.fieldLink RX3 133 "WornLines$Programme" "given" "I") (wm_c hw_435)) (fun _ h9 => h9) rfl dX3_tellInput_4 ?_
  refine lv_istore_n (lv' := [(1, .int (Pgi)), (0, .ref hr_)]) hx hb dX3_tellInput_7 rfl hl (by decide) rfl (fun ls hl => ?_)
  refine lv_iload_n hx hb dX3_tellInput_8 rfl (lv_at hl 0 rfl) ?_
  refine lv_iconst (v := 2) hx hb dX3_tellInput_9 (by decide) ?_
  refine lv_icmp_lt (tgt := 19) hx hb dX3_tellInput_10 (by decide) (fun c_1 => ?_) (fun c_1 => ?_)
  · replace hw := hw.1 c_1
    refine lv_aload_n hx hb dX3_tellInput_19 rfl (lv_at hl 1 rfl) ?_
    refine kc_v (wc := (wW_X3_advance ak ad hr_ ra ht ta pg Rcoded Rtaken Rtoken Rplace Rvalue Rfault Tlen Tcnt Ttoks Tplc Tvals)) (wr := [((ra 1), .inl (ak 1, 6, .inr (.inl (Rcn)))), (pg, .inr (2, pob pa (Pst) (Pce) (Pgi) (Pln))), ((pa 3), .inl (ak 0, 2, .inl (PgivenC))), ((pa 4), .inl (ak 0, 2, .inl (Pleast))), ((pa 5), .inl (ak 0, 2, .inl (Pgreat)))]) hP hD hS hA [0, 2, 3, 4, 5] [1, 6, 7, 8, 9] rfl rfl (by decide) (by decide) (va_runV (As := []) (rest := []) ⟨hx, hb, hml, hown, hts⟩ (c_X3_advance l D ak ad _ hr_ ra ht ta pg Rcoded Rtaken Rtoken Rplace Rvalue Rfault Tlen Tcnt Ttoks Tplc Tvals _ hw) (cwV 0 hts gX3_tellInput_X3_advance rfl rfl rfl hv_X3_advance ⟨(Nat.le_trans (Nat.le_of_ble_eq_true rfl) hRf), (Nat.le_trans (Nat.le_of_ble_eq_true rfl) hRl)⟩) (kc_preV (As := []) (wc := (wW_X3_advance ak ad hr_ ra ht ta pg Rcoded Rtaken Rtoken Rplace Rvalue Rfault Tlen Tcnt Ttoks Tplc Tvals)) hE hT hP hD hS hA [0, 2, 3, 4, 5] (by decide) rfl rfl 0 3 rfl rfl rfl) rfl rfl hl.1 rfl (lv_room (Nat.le_of_ble_eq_true rfl)) dX3_tellInput_20 ⟨hRc.1, hRc.2⟩) (fun u_2 H locs hw hP hD hS => ?_)
    obtain ⟨Rtaken_3, Rtoken_4, Rplace_5, Rvalue_6⟩ := u_2
    try dsimp -zeta only at hw
    have hP : va_P D vwCl (wW_X3_tellInput ak ad hr_ ra ht ta pg pa Rcoded Rtaken_3 Rtoken_4 Rplace_5 Rvalue_6 Rfault Rcn Tlen Tcnt Ttoks Tplc Tvals Pst Pce Pgi Pln PgivenC Pleast Pgreat) H := hP.sub [5, 0, 6, 7, 8, 9, 1, 2, 3, 4] rfl
    have hD : va_D A (wW_X3_tellInput ak ad hr_ ra ht ta pg pa Rcoded Rtaken_3 Rtoken_4 Rplace_5 Rvalue_6 Rfault Rcn Tlen Tcnt Ttoks Tplc Tvals Pst Pce Pgi Pln PgivenC Pleast Pgreat) := hD.sub [5, 0, 6, 7, 8, 9, 1, 2, 3, 4] (by decide) rfl
    refine lv_aload_n hx hb dX3_tellInput_23 rfl (lv_at hl 1 rfl) ?_
    refine lv_aload_n hx hb dX3_tellInput_24 rfl (lv_at hl 1 rfl) ?_
    refine vt_get (D := D) (ci := 3) (v := .ref (ra 1)) (C := RX3) (T := TX3) (N := 11) hx hb hts (fun w h => wm_c (wc_X3 w h)) hown hE.1 hP 0 rfl rfl 2 (by decide) tX3_2 (hts (.fieldLink RX3 15 "WornLines$Reader" "cellNames" "[J") (wm_c hw_287)) (fun _ h9 => h9) rfl dX3_tellInput_25 ?_
    refine lv_aload_n hx hb dX3_tellInput_28 rfl (lv_at hl 1 rfl) ?_
    refine vt_get (D := D) (ci := 3) (v := .ref pg) (C := RX3) (T := TX3) (N := 11) hx hb hts (fun w h => wm_c (wc_X3 w h)) hown hE.1 hP 0 rfl rfl 5 (by decide) tX3_5 (hts (.fieldLink RX3 35 "WornLines$Reader" "told" "LWornLines$Programme;") (wm_c hw_292)) (fun _ h9 => h9) rfl dX3_tellInput_29 ?_
    refine vt_get (D := D) (ci := 2) (v := .int (Pce)) (C := RX2) (T := TX2) (N := 17) hx hb hts (fun w h => wm_c (wc_X2 w h)) hown hE.1 hP 6 rfl rfl 3 (by decide) tX2_3 (hts (.fieldLink RX3 128 "WornLines$Programme" "cells" "I") (wm_c hw_434)) (fun _ h9 => h9) rfl dX3_tellInput_32 ?_
    refine kc_i (wc := (wW_X3_toldHere ak ad hr_ ra ht pg (ra 1) 6 Rcoded Rtaken_3 Rtoken_4 Rplace_5 Rvalue_6 Rfault Rcn)) (wr := [(ht, .inr (5, tob ta (Tlen) (Tcnt))), ((ta 1), .inl (ak 4, 1001, .inr (.inr (.inr (.inr (tokA ad (Ttoks))))))), ((ta 2), .inl (ak 0, 1001, .inl (Tplc))), ((ta 3), .inl (ak 1, 1001, .inr (.inl (Tvals)))), (pg, .inr (2, pob pa (Pst) (Pce) (Pgi) (Pln))), ((pa 3), .inl (ak 0, 2, .inl (PgivenC))), ((pa 4), .inl (ak 0, 2, .inl (Pleast))), ((pa 5), .inl (ak 0, 2, .inl (Pgreat)))]) hP hD hS hA [0, 1] [2, 3, 4, 5, 6, 7, 8, 9] rfl rfl (by decide) (by decide) (va_runV (As := [.ref (ra 1), .int (Pce)]) (rest := []) ⟨hx, hb, hml, hown, hts⟩ (c_X3_toldHere l D ak ad _ hr_ ra ht pg (ra 1) 6 Rcoded Rtaken_3 Rtoken_4 Rplace_5 Rvalue_6 Rfault Rcn Pce _ hw) (cwV 2 hts gX3_tellInput_X3_toldHere rfl rfl rfl hv_X3_toldHere ⟨(Nat.le_trans (Nat.le_of_ble_eq_true rfl) hRf), (Nat.le_trans (Nat.le_of_ble_eq_true rfl) hRl)⟩) (kc_preV (As := [.ref (ra 1), .int (Pce)]) (wc := (wW_X3_toldHere ak ad hr_ ra ht pg (ra 1) 6 Rcoded Rtaken_3 Rtoken_4 Rplace_5 Rvalue_6 Rfault Rcn)) hE hT hP hD hS hA [0, 1] (by decide) rfl rfl 0 3 rfl rfl rfl) rfl rfl hl.1 rfl (lv_room (Nat.le_of_ble_eq_true rfl)) dX3_tellInput_35 ⟨hRc.1, hRc.2⟩) (fun r_10 Rfault_9 H locs hw hP hD hS => ?_)
    try dsimp -zeta only at hw
    have hP : va_P D vwCl (wW_X3_tellInput ak ad hr_ ra ht ta pg pa Rcoded Rtaken_3 Rtoken_4 Rplace_5 Rvalue_6 Rfault_9 Rcn Tlen Tcnt Ttoks Tplc Tvals Pst Pce Pgi Pln PgivenC Pleast Pgreat) H := hP.sub [8, 9, 0, 1, 2, 3, 4, 5, 6, 7] rfl
    have hD : va_D A (wW_X3_tellInput ak ad hr_ ra ht ta pg pa Rcoded Rtaken_3 Rtoken_4 Rplace_5 Rvalue_6 Rfault_9 Rcn Tlen Tcnt Ttoks Tplc Tvals Pst Pce Pgi Pln PgivenC Pleast Pgreat) := hD.sub [8, 9, 0, 1, 2, 3, 4, 5, 6, 7] (by decide) rfl
    refine lv_istore_n (lv' := [(2, .int (r_10)), (1, .int (Pgi)), (0, .ref hr_)]) hx hb dX3_tellInput_38 rfl hl (by decide) rfl (fun ls hl => ?_)
    refine lv_aload_n hx hb dX3_tellInput_39 rfl (lv_at hl 2 rfl) ?_
    refine lv_iload_n hx hb dX3_tellInput_40 rfl (lv_at hl 0 rfl) ?_
    refine kc_i (wc := (wW_X3_isGiven ak ad hr_ ra ht pg pa Rcoded Rtaken_3 Rtoken_4 Rplace_5 Rvalue_6 Rfault_9 Pst Pce Pgi Pln PgivenC)) (wr := [((ra 1), .inl (ak 1, 6, .inr (.inl (Rcn)))), (ht, .inr (5, tob ta (Tlen) (Tcnt))), ((ta 1), .inl (ak 4, 1001, .inr (.inr (.inr (.inr (tokA ad (Ttoks))))))), ((ta 2), .inl (ak 0, 1001, .inl (Tplc))), ((ta 3), .inl (ak 1, 1001, .inr (.inl (Tvals)))), ((pa 4), .inl (ak 0, 2, .inl (Pleast))), ((pa 5), .inl (ak 0, 2, .inl (Pgreat)))]) hP hD hS hA [0, 6, 7] [1, 2, 3, 4, 5, 8, 9] rfl rfl (by decide) (by decide) (va_runV (As := [.int (r_10)]) (rest := []) ⟨hx, hb, hml, hown, hts⟩ (c_X3_isGiven l D ak ad _ hr_ ra ht pg pa Rcoded Rtaken_3 Rtoken_4 Rplace_5 Rvalue_6 Rfault_9 Pst Pce Pgi Pln PgivenC r_10 _ hw) (cwV 1 hts gX3_tellInput_X3_isGiven rfl rfl rfl hv_X3_isGiven ⟨(Nat.le_trans (Nat.le_of_ble_eq_true rfl) hRf), (Nat.le_trans (Nat.le_of_ble_eq_true rfl) hRl)⟩) (kc_preV (As := [.int (r_10)]) (wc := (wW_X3_isGiven ak ad hr_ ra ht pg pa Rcoded Rtaken_3 Rtoken_4 Rplace_5 Rvalue_6 Rfault_9 Pst Pce Pgi Pln PgivenC)) hE hT hP hD hS hA [0, 6, 7] (by decide) rfl rfl 0 3 rfl rfl rfl) rfl rfl hl.1 rfl (lv_room (Nat.le_of_ble_eq_true rfl)) dX3_tellInput_41 ⟨hRc.1, hRc.2⟩) (fun r_12 u_11 H locs hw hP hD hS => ?_)
    try dsimp -zeta only at hw
    have hP : va_P D vwCl (wW_X3_tellInput ak ad hr_ ra ht ta pg pa Rcoded Rtaken_3 Rtoken_4 Rplace_5 Rvalue_6 Rfault_9 Rcn Tlen Tcnt Ttoks Tplc Tvals Pst Pce Pgi Pln PgivenC Pleast Pgreat) H := hP.sub [7, 0, 1, 2, 3, 4, 8, 9, 5, 6] rfl
    have hD : va_D A (wW_X3_tellInput ak ad hr_ ra ht ta pg pa Rcoded Rtaken_3 Rtoken_4 Rplace_5 Rvalue_6 Rfault_9 Rcn Tlen Tcnt Ttoks Tplc Tvals Pst Pce Pgi Pln PgivenC Pleast Pgreat) := hD.sub [7, 0, 1, 2, 3, 4, 8, 9, 5, 6] (by decide) rfl
    refine lv_if_eq (tgt := 52) hx hb dX3_tellInput_44 (by decide) (fun c_13 => ?_) (fun c_13 => ?_)
    · replace hw := hw.1 c_13
      exact kj_X3_tellInput_52 hx hb hown hts hml hE hT hA hRf hRl hRc hr_ ra ht ta pg pa Rcoded Rcn Tlen Tcnt Ttoks Tplc Tvals Pst Pce Pln  Φ  kR18 kR144 Rtaken_3 Rtoken_4 Rplace_5 Rvalue_6 Rfault_9 Pgi PgivenC Pleast Pgreat Pgi r_10 _ _ _ hw hP hD hS (lv_sub hl [2, 1, 0] rfl)
    · replace hw := hw.2 c_13
      refine lv_aload_n hx hb dX3_tellInput_47 rfl (lv_at hl 2 rfl) ?_
      refine lv_iconst (v := 3) hx hb dX3_tellInput_48 (by decide) ?_
      refine kc_v (wc := (wW_X3_fail ak ad hr_ ra ht pg Rcoded Rtaken_3 Rtoken_4 Rplace_5 Rvalue_6 Rfault_9)) (wr := [((ra 1), .inl (ak 1, 6, .inr (.inl (Rcn)))), (ht, .inr (5, tob ta (Tlen) (Tcnt))), ((ta 1), .inl (ak 4, 1001, .inr (.inr (.inr (.inr (tokA ad (Ttoks))))))), ((ta 2), .inl (ak 0, 1001, .inl (Tplc))), ((ta 3), .inl (ak 1, 1001, .inr (.inl (Tvals)))), (pg, .inr (2, pob pa (Pst) (Pce) (Pgi) (Pln))), ((pa 3), .inl (ak 0, 2, .inl (PgivenC))), ((pa 4), .inl (ak 0, 2, .inl (Pleast))), ((pa 5), .inl (ak 0, 2, .inl (Pgreat)))]) hP hD hS hA [0] [1, 2, 3, 4, 5, 6, 7, 8, 9] rfl rfl (by decide) (by decide) (va_runV (As := [.int (3)]) (rest := []) ⟨hx, hb, hml, hown, hts⟩ (c_X3_fail l D ak ad _ hr_ ra ht pg Rcoded Rtaken_3 Rtoken_4 Rplace_5 Rvalue_6 Rfault_9 3 _ hw) (cwV 1 hts gX3_tellInput_X3_fail rfl rfl rfl hv_X3_fail ⟨(Nat.le_trans (Nat.le_of_ble_eq_true rfl) hRf), (Nat.le_trans (Nat.le_of_ble_eq_true rfl) hRl)⟩) (kc_preV (As := [.int (3)]) (wc := (wW_X3_fail ak ad hr_ ra ht pg Rcoded Rtaken_3 Rtoken_4 Rplace_5 Rvalue_6 Rfault_9)) hE hT hP hD hS hA [0] (by decide) rfl rfl 0 3 rfl rfl rfl) rfl rfl hl.1 rfl (lv_room (Nat.le_of_ble_eq_true rfl)) dX3_tellInput_49 ⟨hRc.1, hRc.2⟩) (fun Rfault_46 H locs hw hP hD hS => ?_)
      try dsimp -zeta only at hw
      have hP : va_P D vwCl (wW_X3_tellInput ak ad hr_ ra ht ta pg pa Rcoded Rtaken_3 Rtoken_4 Rplace_5 Rvalue_6 Rfault_46 Rcn Tlen Tcnt Ttoks Tplc Tvals Pst Pce Pgi Pln PgivenC Pleast Pgreat) H := hP.sub [9, 0, 1, 2, 3, 4, 5, 6, 7, 8] rfl
      have hD : va_D A (wW_X3_tellInput ak ad hr_ ra ht ta pg pa Rcoded Rtaken_3 Rtoken_4 Rplace_5 Rvalue_6 Rfault_46 Rcn Tlen Tcnt Ttoks Tplc Tvals Pst Pce Pgi Pln PgivenC Pleast Pgreat) := hD.sub [9, 0, 1, 2, 3, 4, 5, 6, 7, 8] (by decide) rfl
      exact kj_X3_tellInput_52 hx hb hown hts hml hE hT hA hRf hRl hRc hr_ ra ht ta pg pa Rcoded Rcn Tlen Tcnt Ttoks Tplc Tvals Pst Pce Pln  Φ  kR18 kR144 Rtaken_3 Rtoken_4 Rplace_5 Rvalue_6 Rfault_46 Pgi PgivenC Pleast Pgreat Pgi r_10 _ _ _ hw hP hD hS (lv_sub hl [2, 1, 0] rfl)
  · replace hw := hw.2 c_1
    refine lv_aload_n hx hb dX3_tellInput_13 rfl (lv_at hl 1 rfl) ?_
    refine lv_iconst (v := 5) hx hb dX3_tellInput_14 (by decide) ?_
    refine kc_v (wc := (wW_X3_fail ak ad hr_ ra ht pg Rcoded Rtaken Rtoken Rplace Rvalue Rfault)) (wr := [((ra 1), .inl (ak 1, 6, .inr (.inl (Rcn)))), (ht, .inr (5, tob ta (Tlen) (Tcnt))), ((ta 1), .inl (ak 4, 1001, .inr (.inr (.inr (.inr (tokA ad (Ttoks))))))), ((ta 2), .inl (ak 0, 1001, .inl (Tplc))), ((ta 3), .inl (ak 1, 1001, .inr (.inl (Tvals)))), (pg, .inr (2, pob pa (Pst) (Pce) (Pgi) (Pln))), ((pa 3), .inl (ak 0, 2, .inl (PgivenC))), ((pa 4), .inl (ak 0, 2, .inl (Pleast))), ((pa 5), .inl (ak 0, 2, .inl (Pgreat)))]) hP hD hS hA [0] [1, 2, 3, 4, 5, 6, 7, 8, 9] rfl rfl (by decide) (by decide) (va_runV (As := [.int (5)]) (rest := []) ⟨hx, hb, hml, hown, hts⟩ (c_X3_fail l D ak ad _ hr_ ra ht pg Rcoded Rtaken Rtoken Rplace Rvalue Rfault 5 _ hw) (cwV 1 hts gX3_tellInput_X3_fail rfl rfl rfl hv_X3_fail ⟨(Nat.le_trans (Nat.le_of_ble_eq_true rfl) hRf), (Nat.le_trans (Nat.le_of_ble_eq_true rfl) hRl)⟩) (kc_preV (As := [.int (5)]) (wc := (wW_X3_fail ak ad hr_ ra ht pg Rcoded Rtaken Rtoken Rplace Rvalue Rfault)) hE hT hP hD hS hA [0] (by decide) rfl rfl 0 3 rfl rfl rfl) rfl rfl hl.1 rfl (lv_room (Nat.le_of_ble_eq_true rfl)) dX3_tellInput_15 ⟨hRc.1, hRc.2⟩) (fun Rfault_49 H locs hw hP hD hS => ?_)
    try dsimp -zeta only at hw
    have hP : va_P D vwCl (wW_X3_tellInput ak ad hr_ ra ht ta pg pa Rcoded Rtaken Rtoken Rplace Rvalue Rfault_49 Rcn Tlen Tcnt Ttoks Tplc Tvals Pst Pce Pgi Pln PgivenC Pleast Pgreat) H := hP.sub [9, 0, 1, 2, 3, 4, 5, 6, 7, 8] rfl
    have hD : va_D A (wW_X3_tellInput ak ad hr_ ra ht ta pg pa Rcoded Rtaken Rtoken Rplace Rvalue Rfault_49 Rcn Tlen Tcnt Ttoks Tplc Tvals Pst Pce Pgi Pln PgivenC Pleast Pgreat) := hD.sub [9, 0, 1, 2, 3, 4, 5, 6, 7, 8] (by decide) rfl
    exact kR18 Rtaken Rtoken Rplace Rvalue Rfault_49 Pgi PgivenC Pleast Pgreat _ _ _ hw hP hD hS
set_option maxHeartbeats 4000000 in
set_option maxRecDepth 100000 in
theorem c_X3_tellInput (l : Launch) (D : va_G) (ak : Nat → ClassId) (ad : Nat → Nat) (sz : Nat) (hr_ : Nat) (ra : Nat → Nat) (ht : Nat) (ta : Nat → Nat) (pg : Nat) (pa : Nat → Nat) (Rcoded : Int32) (Rtaken : Int32) (Rtoken : Nat) (Rplace : Int32) (Rvalue : Int64) (Rfault : Int32) (Rcn : Nat → Int64) (Tlen : Int32) (Tcnt : Int32) (Ttoks : Nat → Nat) (Tplc : Nat → Int32) (Tvals : Nat → Int64) (Pst : Int32) (Pce : Int32) (Pgi : Int32) (Pln : Int32) (PgivenC : Nat → Int32) (Pleast : Nat → Int32) (Pgreat : Nat → Int32) (Φ : Int32 → Nat → Int32 → Int64 → Int32 → Int32 → (Nat → Int32) → (Nat → Int32) → (Nat → Int32) → Prop) (hf : wp_X3_tellInput Rcn Tcnt Ttoks Tplc Tvals Pce Rtaken Rtoken Rplace Rvalue Rfault Pgi PgivenC Pleast Pgreat Φ) : Met l yX3_tellInput wsX3_tellInput ({ frames := 3, cells := 0, slots := 0, locals := 66 }) (cPre D ak ad [.ref hr_] ((wW_X3_tellInput ak ad hr_ ra ht ta pg pa Rcoded Rtaken Rtoken Rplace Rvalue Rfault Rcn Tlen Tcnt Ttoks Tplc Tvals Pst Pce Pgi Pln PgivenC Pleast Pgreat)) sz) (cV D (S := (Int32) × (Nat) × (Int32) × (Int64) × (Int32) × (Int32) × (Nat → Int32) × (Nat → Int32) × (Nat → Int32)) (fun (u : (Int32) × (Nat) × (Int32) × (Int64) × (Int32) × (Int32) × (Nat → Int32) × (Nat → Int32) × (Nat → Int32)) => Φ u.1 u.2.1 u.2.2.1 u.2.2.2.1 u.2.2.2.2.1 u.2.2.2.2.2.1 u.2.2.2.2.2.2.1 u.2.2.2.2.2.2.2.1 u.2.2.2.2.2.2.2.2) (fun u => (wW_X3_tellInput ak ad hr_ ra ht ta pg pa Rcoded u.1 u.2.1 u.2.2.1 u.2.2.2.1 u.2.2.2.2.1 Rcn Tlen Tcnt Ttoks Tplc Tvals Pst Pce u.2.2.2.2.2.1 Pln u.2.2.2.2.2.2.1 u.2.2.2.2.2.2.2.1 u.2.2.2.2.2.2.2.2)) ((wW_X3_tellInput ak ad hr_ ra ht ta pg pa Rcoded Rtaken Rtoken Rplace Rvalue Rfault Rcn Tlen Tcnt Ttoks Tplc Tvals Pst Pce Pgi Pln PgivenC Pleast Pgreat)) sz) 0 0 (va_A ((wW_X3_tellInput ak ad hr_ ra ht ta pg pa Rcoded Rtaken Rtoken Rplace Rvalue Rfault Rcn Tlen Tcnt Ttoks Tplc Tvals Pst Pce Pgi Pln PgivenC Pleast Pgreat)) sz) := by
  refine Met.ofW (cc := cX3_tellInput) (maxL := 5) (ret := none) (by decide) rfl ?_
  intro p e s m args below meth c s₁ B hml hv
  obtain ⟨rfl, hsz, hP, hE, hD0, hT⟩ := hv
  have hx := B.exec
  have hb := B.bytes
  have hr := B.returns
  have hts := atoms_spec (ws := wsX3_tellInput) B.pre
  have hown : s.vm.findClass RX3 = some m.cls := findClass_of_methodNamed B.named
  have hlocks := B.notSynchronized
  subst hsz
  have hD := hD0.self (sz := s.heap.size)
  generalize hAe : va_A ((wW_X3_tellInput ak ad hr_ ra ht ta pg pa Rcoded Rtaken Rtoken Rplace Rvalue Rfault Rcn Tlen Tcnt Ttoks Tplc Tvals Pst Pce Pgi Pln PgivenC Pleast Pgreat)) s.heap.size = A at hD hT ⊢
  have hA : ∀ q : Nat, s.heap.size ≤ q → A q := fun q h => by rw [← hAe]; exact Or.inr h
  have hS : va_S A s.heap s.heap [] := va_S.rf
  have hl := lv_entry ([.ref hr_]) (n := 5) (Nat.le_of_ble_eq_true rfl)
  rw [lg_entry_eq]
  generalize (lg_sl ([.ref hr_]) ++ List.replicate (5 - (lg_sl ([.ref hr_])).length) Slot.unset).toArray = ls at hl ⊢
  have hl : lv_has ls 5 [(0, .ref hr_)] := hl
  exact kj_X3_tellInput_e hx hb hown hts hml hE hT hA (Nat.le_of_ble_eq_true rfl) (Nat.le_of_ble_eq_true rfl) ⟨Nat.le_of_ble_eq_true rfl, Nat.le_of_ble_eq_true rfl⟩ hr_ ra ht ta pg pa Rcoded Rcn Tlen Tcnt Ttoks Tplc Tvals Pst Pce Pln Φ (fun Rtaken Rtoken Rplace Rvalue Rfault Pgi PgivenC Pleast Pgreat H locs ls hw hP hD hS => W.vret hx hb hr (fun t ht hW => ⟨⟨(Rtaken, Rtoken, Rplace, Rvalue, Rfault, Pgi, PgivenC, Pleast, Pgreat), rfl, hw, by rw [ht]; exact hP, by rw [hAe]; exact hD⟩, by rw [hAe]; exact hS.F ht⟩) hS.2.2 dX3_tellInput_18) (fun Rtaken Rtoken Rplace Rvalue Rfault Pgi PgivenC Pleast Pgreat H locs ls hw hP hD hS => W.vret hx hb hr (fun t ht hW => ⟨⟨(Rtaken, Rtoken, Rplace, Rvalue, Rfault, Pgi, PgivenC, Pleast, Pgreat), rfl, hw, by rw [ht]; exact hP, by rw [hAe]; exact hD⟩, by rw [hAe]; exact hS.F ht⟩) hS.2.2 dX3_tellInput_144) Rtaken Rtoken Rplace Rvalue Rfault Pgi PgivenC Pleast Pgreat _ _ _ hf hP hD hS hl
end
section
theorem dX3_expression_35 : decode cX3_expression 35 = .ok (.iload 4, 2) := by decide +kernel
theorem dX3_expression_37 : decode cX3_expression 37 = .ok (.iload_n 3, 1) := by decide +kernel
theorem dX3_expression_38 : decode cX3_expression 38 = .ok (.if_icmp .ge 55, 3) := by decide +kernel
theorem dX3_expression_41 : decode cX3_expression 41 = .ok (.aload_n 0, 1) := by decide +kernel
theorem dX3_expression_42 : decode cX3_expression 42 = .ok (.getfield 54, 3) := by decide +kernel
theorem dX3_expression_45 : decode cX3_expression 45 = .ok (.ifCond .ne 48, 3) := by decide +kernel
theorem dX3_expression_48 : decode cX3_expression 48 = .ok (.aload_n 0, 1) := by decide +kernel
theorem dX3_expression_49 : decode cX3_expression 49 = .ok (.getfield 28, 3) := by decide +kernel
theorem dX3_expression_52 : decode cX3_expression 52 = .ok (.getfield 208, 3) := by decide +kernel
theorem dX3_expression_55 : decode cX3_expression 55 = .ok (.iload_n 1, 1) := by decide +kernel
theorem dX3_expression_56 : decode cX3_expression 56 = .ok (.if_icmp .ne 37, 3) := by decide +kernel
theorem dX3_expression_59 : decode cX3_expression 59 = .ok (.aload_n 0, 1) := by decide +kernel
theorem dX3_expression_60 : decode cX3_expression 60 = .ok (.getfield 28, 3) := by decide +kernel
theorem dX3_expression_63 : decode cX3_expression 63 = .ok (.getfield 211, 3) := by decide +kernel
theorem dX3_expression_66 : decode cX3_expression 66 = .ok (.istore 5, 2) := by decide +kernel
theorem dX3_expression_68 : decode cX3_expression 68 = .ok (.aload_n 0, 1) := by decide +kernel
set_option maxRecDepth 20000 in
theorem ggX3_expression_X3_advance : GoodIn wsX3_expression wsX3_advance := gup gc_X3_advance
set_option maxRecDepth 20000 in
theorem gX3_expression_X3_advance : GoodIn wsX3_expression (wsV RX3 60 RX3 yX3_advance wsX3_advance) := gup (glV hw_437 hw_438 hw_439 hw_440 gc_X3_advance)
theorem dX3_expression_69 : decode cX3_expression 69 = .ok (.invokevirtual 60, 3) := by decide +kernel
theorem dX3_expression_72 : decode cX3_expression 72 = .ok (.aload_n 0, 1) := by decide +kernel
theorem dX3_expression_73 : decode cX3_expression 73 = .ok (.iload_n 1, 1) := by decide +kernel
theorem dX3_expression_74 : decode cX3_expression 74 = .ok (.iconst 1, 1) := by decide +kernel
theorem dX3_expression_75 : decode cX3_expression 75 = .ok (.iadd, 1) := by decide +kernel
theorem dX3_expression_76 : decode cX3_expression 76 = .ok (.iload_n 2, 1) := by decide +kernel
set_option maxRecDepth 20000 in
theorem ggX3_expression_X3_expression : GoodIn wsX3_expression wsX3_expression := gup gc_X3_expression
set_option maxRecDepth 20000 in
theorem gX3_expression_X3_expression : GoodIn wsX3_expression (wsV RX3 189 RX3 yX3_expression wsX3_expression) := gup (glV hw_478 hw_479 hw_480 hw_440 gc_X3_expression)
theorem dX3_expression_77 : decode cX3_expression 77 = .ok (.invokevirtual 189, 3) := by decide +kernel
theorem dX3_expression_80 : decode cX3_expression 80 = .ok (.aload_n 0, 1) := by decide +kernel
theorem dX3_expression_81 : decode cX3_expression 81 = .ok (.iload 5, 2) := by decide +kernel
theorem dX3_expression_83 : decode cX3_expression 83 = .ok (.iconst 0, 1) := by decide +kernel
set_option maxRecDepth 20000 in
theorem ggX3_expression_X3_put : GoodIn wsX3_expression wsX3_put := gup gc_X3_put
set_option maxRecDepth 20000 in
theorem gX3_expression_X3_put : GoodIn wsX3_expression (wsV RX3 214 RX3 yX3_put wsX3_put) := gup (glV hw_481 hw_482 hw_483 hw_440 gc_X3_put)
theorem dX3_expression_84 : decode cX3_expression 84 = .ok (.invokevirtual 214, 3) := by decide +kernel
theorem dX3_expression_87 : decode cX3_expression 87 = .ok (.iinc 4 1, 3) := by decide +kernel
theorem dX3_expression_90 : decode cX3_expression 90 = .ok (.goto (-55), 3) := by decide +kernel
theorem dX3_expression_0 : decode cX3_expression 0 = .ok (.iload_n 1, 1) := by decide +kernel
theorem dX3_expression_1 : decode cX3_expression 1 = .ok (.iconst 4, 1) := by decide +kernel
theorem dX3_expression_2 : decode cX3_expression 2 = .ok (.if_icmp .lt 9, 3) := by decide +kernel
theorem dX3_expression_11 : decode cX3_expression 11 = .ok (.aload_n 0, 1) := by decide +kernel
theorem dX3_expression_12 : decode cX3_expression 12 = .ok (.iload_n 1, 1) := by decide +kernel
theorem dX3_expression_13 : decode cX3_expression 13 = .ok (.iconst 1, 1) := by decide +kernel
theorem dX3_expression_14 : decode cX3_expression 14 = .ok (.iadd, 1) := by decide +kernel
theorem dX3_expression_15 : decode cX3_expression 15 = .ok (.iload_n 2, 1) := by decide +kernel
theorem dX3_expression_16 : decode cX3_expression 16 = .ok (.invokevirtual 189, 3) := by decide +kernel
theorem dX3_expression_19 : decode cX3_expression 19 = .ok (.iload_n 1, 1) := by decide +kernel
theorem dX3_expression_20 : decode cX3_expression 20 = .ok (.iconst 1, 1) := by decide +kernel
theorem dX3_expression_21 : decode cX3_expression 21 = .ok (.if_icmp .ne 7, 3) := by decide +kernel
theorem dX3_expression_28 : decode cX3_expression 28 = .ok (.sipush 1000, 3) := by decide +kernel
theorem dX3_expression_31 : decode cX3_expression 31 = .ok (.istore_n 3, 1) := by decide +kernel
theorem dX3_expression_32 : decode cX3_expression 32 = .ok (.iconst 0, 1) := by decide +kernel
theorem dX3_expression_33 : decode cX3_expression 33 = .ok (.istore 4, 2) := by decide +kernel
theorem dX3_expression_24 : decode cX3_expression 24 = .ok (.iconst 1, 1) := by decide +kernel
theorem dX3_expression_25 : decode cX3_expression 25 = .ok (.goto 6, 3) := by decide +kernel
theorem dX3_expression_5 : decode cX3_expression 5 = .ok (.aload_n 0, 1) := by decide +kernel
theorem dX3_expression_6 : decode cX3_expression 6 = .ok (.iload_n 2, 1) := by decide +kernel
set_option maxRecDepth 20000 in
theorem ggX3_expression_X3_part : GoodIn wsX3_expression wsX3_part := gup gc_X3_part
set_option maxRecDepth 20000 in
theorem gX3_expression_X3_part : GoodIn wsX3_expression (wsV RX3 205 RX3 yX3_part wsX3_part) := gup (glV hw_484 hw_485 hw_486 hw_440 gc_X3_part)
theorem dX3_expression_7 : decode cX3_expression 7 = .ok (.invokevirtual 205, 3) := by decide +kernel
theorem dX3_part_57 : decode cX3_part 57 = .ok (.aload_n 0, 1) := by decide +kernel
theorem dX3_part_58 : decode cX3_part 58 = .ok (.getfield 54, 3) := by decide +kernel
theorem dX3_part_61 : decode cX3_part 61 = .ok (.ifCond .eq 4, 3) := by decide +kernel
theorem dX3_part_65 : decode cX3_part 65 = .ok (.aload_n 0, 1) := by decide +kernel
theorem dX3_part_66 : decode cX3_part 66 = .ok (.getfield 224, 3) := by decide +kernel
theorem dX3_part_69 : decode cX3_part 69 = .ok (.l2i, 1) := by decide +kernel
theorem dX3_part_70 : decode cX3_part 70 = .ok (.istore 4, 2) := by decide +kernel
theorem dX3_part_72 : decode cX3_part 72 = .ok (.aload_n 0, 1) := by decide +kernel
set_option maxRecDepth 20000 in
theorem ggX3_part_X3_advance : GoodIn wsX3_part wsX3_advance := gup gc_X3_advance
set_option maxRecDepth 20000 in
theorem gX3_part_X3_advance : GoodIn wsX3_part (wsV RX3 60 RX3 yX3_advance wsX3_advance) := gup (glV hw_437 hw_438 hw_439 hw_440 gc_X3_advance)
theorem dX3_part_73 : decode cX3_part 73 = .ok (.invokevirtual 60, 3) := by decide +kernel
theorem dX3_part_76 : decode cX3_part 76 = .ok (.aload_n 2, 1) := by decide +kernel
theorem dX3_part_77 : decode cX3_part 77 = .ok (.getstatic 228, 3) := by decide +kernel
theorem dX3_part_80 : decode cX3_part 80 = .ok (.if_acmp .ne 13, 3) := by decide +kernel
theorem dX3_part_93 : decode cX3_part 93 = .ok (.aload_n 2, 1) := by decide +kernel
theorem dX3_part_94 : decode cX3_part 94 = .ok (.getstatic 217, 3) := by decide +kernel
theorem dX3_part_97 : decode cX3_part 97 = .ok (.if_acmp .ne 12, 3) := by decide +kernel
theorem dX3_part_109 : decode cX3_part 109 = .ok (.aload_n 2, 1) := by decide +kernel
theorem dX3_part_110 : decode cX3_part 110 = .ok (.getstatic 231, 3) := by decide +kernel
theorem dX3_part_113 : decode cX3_part 113 = .ok (.if_acmp .ne 21, 3) := by decide +kernel
theorem dX3_part_134 : decode cX3_part 134 = .ok (.aload_n 0, 1) := by decide +kernel
theorem dX3_part_135 : decode cX3_part 135 = .ok (.iload_n 1, 1) := by decide +kernel
theorem dX3_part_136 : decode cX3_part 136 = .ok (.iconst 1, 1) := by decide +kernel
theorem dX3_part_137 : decode cX3_part 137 = .ok (.iadd, 1) := by decide +kernel
set_option maxRecDepth 20000 in
theorem ggX3_part_X3_part : GoodIn wsX3_part wsX3_part := gup gc_X3_part
set_option maxRecDepth 20000 in
theorem gX3_part_X3_part : GoodIn wsX3_part (wsV RX3 205 RX3 yX3_part wsX3_part) := gup (glV hw_484 hw_485 hw_486 hw_440 gc_X3_part)
theorem dX3_part_138 : decode cX3_part 138 = .ok (.invokevirtual 205, 3) := by decide +kernel
theorem dX3_part_141 : decode cX3_part 141 = .ok (.aload_n 0, 1) := by decide +kernel
theorem dX3_part_142 : decode cX3_part 142 = .ok (.aload_n 2, 1) := by decide +kernel
theorem dX3_part_143 : decode cX3_part 143 = .ok (.getstatic 237, 3) := by decide +kernel
theorem dX3_part_146 : decode cX3_part 146 = .ok (.if_acmp .ne 7, 3) := by decide +kernel
theorem dX3_part_153 : decode cX3_part 153 = .ok (.iconst 3, 1) := by decide +kernel
theorem dX3_part_154 : decode cX3_part 154 = .ok (.iconst 0, 1) := by decide +kernel
set_option maxRecDepth 20000 in
theorem ggX3_part_X3_put : GoodIn wsX3_part wsX3_put := gup gc_X3_put
set_option maxRecDepth 20000 in
theorem gX3_part_X3_put : GoodIn wsX3_part (wsV RX3 214 RX3 yX3_put wsX3_put) := gup (glV hw_481 hw_482 hw_483 hw_440 gc_X3_put)
theorem dX3_part_155 : decode cX3_part 155 = .ok (.invokevirtual 214, 3) := by decide +kernel
theorem dX3_part_149 : decode cX3_part 149 = .ok (.iconst 2, 1) := by decide +kernel
theorem dX3_part_150 : decode cX3_part 150 = .ok (.goto 4, 3) := by decide +kernel
theorem dX3_part_116 : decode cX3_part 116 = .ok (.aload_n 0, 1) := by decide +kernel
theorem dX3_part_117 : decode cX3_part 117 = .ok (.iconst 0, 1) := by decide +kernel
theorem dX3_part_118 : decode cX3_part 118 = .ok (.iload_n 1, 1) := by decide +kernel
theorem dX3_part_119 : decode cX3_part 119 = .ok (.iconst 1, 1) := by decide +kernel
theorem dX3_part_120 : decode cX3_part 120 = .ok (.iadd, 1) := by decide +kernel
set_option maxRecDepth 20000 in
theorem ggX3_part_X3_expression : GoodIn wsX3_part wsX3_expression := gup gc_X3_expression
set_option maxRecDepth 20000 in
theorem gX3_part_X3_expression : GoodIn wsX3_part (wsV RX3 189 RX3 yX3_expression wsX3_expression) := gup (glV hw_478 hw_479 hw_480 hw_440 gc_X3_expression)
theorem dX3_part_121 : decode cX3_part 121 = .ok (.invokevirtual 189, 3) := by decide +kernel
theorem dX3_part_124 : decode cX3_part 124 = .ok (.aload_n 0, 1) := by decide +kernel
theorem dX3_part_125 : decode cX3_part 125 = .ok (.getstatic 234, 3) := by decide +kernel
set_option maxRecDepth 20000 in
theorem ggX3_part_X3_expect : GoodIn wsX3_part wsX3_expect := gup gc_X3_expect
set_option maxRecDepth 20000 in
theorem gX3_part_X3_expect : GoodIn wsX3_part (wsV RX3 94 RX3 yX3_expect wsX3_expect) := gup (glV hw_463 hw_464 hw_465 hw_440 gc_X3_expect)
theorem dX3_part_128 : decode cX3_part 128 = .ok (.invokevirtual 94, 3) := by decide +kernel
theorem dX3_part_131 : decode cX3_part 131 = .ok (.goto 27, 3) := by decide +kernel
theorem dX3_part_100 : decode cX3_part 100 = .ok (.aload_n 0, 1) := by decide +kernel
theorem dX3_part_101 : decode cX3_part 101 = .ok (.iconst 1, 1) := by decide +kernel
theorem dX3_part_102 : decode cX3_part 102 = .ok (.iload_n 3, 1) := by decide +kernel
theorem dX3_part_103 : decode cX3_part 103 = .ok (.invokevirtual 214, 3) := by decide +kernel
theorem dX3_part_106 : decode cX3_part 106 = .ok (.goto 52, 3) := by decide +kernel
theorem dX3_part_83 : decode cX3_part 83 = .ok (.aload_n 0, 1) := by decide +kernel
theorem dX3_part_84 : decode cX3_part 84 = .ok (.iconst 0, 1) := by decide +kernel
theorem dX3_part_85 : decode cX3_part 85 = .ok (.iload 4, 2) := by decide +kernel
theorem dX3_part_87 : decode cX3_part 87 = .ok (.invokevirtual 214, 3) := by decide +kernel
theorem dX3_part_90 : decode cX3_part 90 = .ok (.goto 68, 3) := by decide +kernel
theorem dX3_part_31 : decode cX3_part 31 = .ok (.istore_n 3, 1) := by decide +kernel
theorem dX3_part_32 : decode cX3_part 32 = .ok (.aload_n 2, 1) := by decide +kernel
set_option maxRecDepth 20000 in
theorem ggX3_part_X3_beginsPart : GoodIn wsX3_part wsX3_beginsPart := gup gc_X3_beginsPart
set_option maxRecDepth 20000 in
theorem gX3_part_X3_beginsPart : GoodIn wsX3_part (va_wsS RX3 220 yX3_beginsPart wsX3_beginsPart) := gup (glS hw_487 hw_488 hw_440 gc_X3_beginsPart)
theorem dX3_part_33 : decode cX3_part 33 = .ok (.invokestatic 220, 3) := by decide +kernel
theorem dX3_part_36 : decode cX3_part 36 = .ok (.ifCond .ne 11, 3) := by decide +kernel
theorem dX3_part_47 : decode cX3_part 47 = .ok (.iload_n 1, 1) := by decide +kernel
theorem dX3_part_48 : decode cX3_part 48 = .ok (.iconst 5, 1) := by decide +kernel
theorem dX3_part_49 : decode cX3_part 49 = .ok (.if_icmp .lt 8, 3) := by decide +kernel
theorem dX3_part_52 : decode cX3_part 52 = .ok (.aload_n 0, 1) := by decide +kernel
theorem dX3_part_53 : decode cX3_part 53 = .ok (.iconst 5, 1) := by decide +kernel
set_option maxRecDepth 20000 in
theorem ggX3_part_X3_fail : GoodIn wsX3_part wsX3_fail := gup gc_X3_fail
set_option maxRecDepth 20000 in
theorem gX3_part_X3_fail : GoodIn wsX3_part (wsV RX3 87 RX3 yX3_fail wsX3_fail) := gup (glV hw_441 hw_442 hw_443 hw_440 gc_X3_fail)
theorem dX3_part_54 : decode cX3_part 54 = .ok (.invokevirtual 87, 3) := by decide +kernel
theorem dX3_part_39 : decode cX3_part 39 = .ok (.aload_n 0, 1) := by decide +kernel
theorem dX3_part_40 : decode cX3_part 40 = .ok (.iconst 1, 1) := by decide +kernel
theorem dX3_part_41 : decode cX3_part 41 = .ok (.invokevirtual 87, 3) := by decide +kernel
theorem dX3_part_44 : decode cX3_part 44 = .ok (.goto 13, 3) := by decide +kernel
theorem dX3_part_0 : decode cX3_part 0 = .ok (.aload_n 0, 1) := by decide +kernel
theorem dX3_part_1 : decode cX3_part 1 = .ok (.getfield 28, 3) := by decide +kernel
theorem dX3_part_4 : decode cX3_part 4 = .ok (.astore_n 2, 1) := by decide +kernel
theorem dX3_part_5 : decode cX3_part 5 = .ok (.aload_n 2, 1) := by decide +kernel
theorem dX3_part_6 : decode cX3_part 6 = .ok (.getstatic 217, 3) := by decide +kernel
theorem dX3_part_9 : decode cX3_part 9 = .ok (.if_acmp .ne 21, 3) := by decide +kernel
theorem dX3_part_30 : decode cX3_part 30 = .ok (.iconst 0, 1) := by decide +kernel
theorem dX3_part_12 : decode cX3_part 12 = .ok (.aload_n 0, 1) := by decide +kernel
theorem dX3_part_13 : decode cX3_part 13 = .ok (.aload_n 0, 1) := by decide +kernel
theorem dX3_part_14 : decode cX3_part 14 = .ok (.getfield 15, 3) := by decide +kernel
theorem dX3_part_17 : decode cX3_part 17 = .ok (.aload_n 0, 1) := by decide +kernel
theorem dX3_part_18 : decode cX3_part 18 = .ok (.getfield 35, 3) := by decide +kernel
theorem dX3_part_21 : decode cX3_part 21 = .ok (.getfield 128, 3) := by decide +kernel
set_option maxRecDepth 20000 in
theorem ggX3_part_X3_toldHere : GoodIn wsX3_part wsX3_toldHere := gup gc_X3_toldHere
set_option maxRecDepth 20000 in
theorem gX3_part_X3_toldHere : GoodIn wsX3_part (wsV RX3 136 RX3 yX3_toldHere wsX3_toldHere) := gup (glV hw_450 hw_451 hw_452 hw_440 gc_X3_toldHere)
theorem dX3_part_24 : decode cX3_part 24 = .ok (.invokevirtual 136, 3) := by decide +kernel
theorem dX3_part_27 : decode cX3_part 27 = .ok (.goto 4, 3) := by decide +kernel
theorem dX3_expression_10 : decode cX3_expression 10 = .ok (.return_, 1) := by decide +kernel
theorem dX3_expression_93 : decode cX3_expression 93 = .ok (.return_, 1) := by decide +kernel
theorem dX3_part_64 : decode cX3_part 64 = .ok (.return_, 1) := by decide +kernel
theorem dX3_part_158 : decode cX3_part 158 = .ok (.return_, 1) := by decide +kernel
def wW_X3_expression (ak : Nat → ClassId) (ad : Nat → Nat) (hr_ : Nat) (ra : Nat → Nat) (ht : Nat) (ta : Nat → Nat) (pg : Nat) (pa : Nat → Nat) (Rcoded : Int32) (Rtaken : Int32) (Rtoken : Nat) (Rplace : Int32) (Rvalue : Int64) (Rfault : Int32) (Rcn : Nat → Int64) (Rcode : Nat → Int32) (Tlen : Int32) (Tcnt : Int32) (Ttoks : Nat → Nat) (Tplc : Nat → Int32) (Tvals : Nat → Int64) (Pst : Int32) (Pce : Int32) (Pgi : Int32) (Pln : Int32) : va_W := [(hr_, .inr (3, rob ad ra (ht) (Rcoded) (pg) (Rtaken) (Rtoken) (Rplace) (Rvalue) (Rfault))), ((ra 1), .inl (ak 1, 6, .inr (.inl (Rcn)))), ((ra 2), .inl (ak 0, 1000, .inl (Rcode))), (ht, .inr (5, tob ta (Tlen) (Tcnt))), ((ta 1), .inl (ak 4, 1001, .inr (.inr (.inr (.inr (tokA ad (Ttoks))))))), ((ta 2), .inl (ak 0, 1001, .inl (Tplc))), ((ta 3), .inl (ak 1, 1001, .inr (.inl (Tvals)))), (pg, .inr (2, pob pa (Pst) (Pce) (Pgi) (Pln)))]

def lb_X3_expression_35 (Rcn : Nat → Int64) (Tcnt : Int32) (Ttoks : Nat → Nat) (Tplc : Nat → Int32) (Tvals : Nat → Int64) (Pce : Int32) (rx : Int32 → Int32 → Int32 → Int32 → Nat → Int32 → Int64 → Int32 → (Nat → Int32) → (Int32 → Int32 → Nat → Int32 → Int64 → Int32 → (Nat → Int32) → Prop) → Prop) (rp : Int32 → Int32 → Int32 → Nat → Int32 → Int64 → Int32 → (Nat → Int32) → (Int32 → Int32 → Nat → Int32 → Int64 → Int32 → (Nat → Int32) → Prop) → Prop) (xl : Int32) (xn : Int32)  (Φ : Int32 → Int32 → Nat → Int32 → Int64 → Int32 → (Nat → Int32) → Prop) (back : Int32 → Int32 → Nat → Int32 → Int64 → Int32 → (Nat → Int32) → Int32 → Int32 → Prop) (Rcoded : Int32) (Rtaken : Int32) (Rtoken : Nat) (Rplace : Int32) (Rvalue : Int64) (Rfault : Int32) (Rcode : Nat → Int32) (l3 : Int32) (l4 : Int32) : Prop := (l3 ≤ l4 → Φ Rcoded Rtaken Rtoken Rplace Rvalue Rfault Rcode) ∧ (¬ l3 ≤ l4 → (¬ Rfault = 0 → Φ Rcoded Rtaken Rtoken Rplace Rvalue Rfault Rcode) ∧ (Rfault = 0 → Rtoken < 31 ∧ (¬ (tkL Rtoken) = xl → Φ Rcoded Rtaken Rtoken Rplace Rvalue Rfault Rcode) ∧ ((tkL Rtoken) = xl → Rtoken < 31 ∧ wp_X3_advance Tcnt Ttoks Tplc Tvals Rtaken Rtoken Rplace Rvalue (fun Rtaken_18 Rtoken_19 Rplace_20 Rvalue_21 => rx (xl + 1) xn Rcoded Rtaken_18 Rtoken_19 Rplace_20 Rvalue_21 Rfault Rcode (fun Rcoded_24 Rtaken_25 Rtoken_26 Rplace_27 Rvalue_28 Rfault_29 Rcode_30 => wp_X3_put (tkO Rtoken) 0 Rcoded_24 Rcode_30 (fun Rcoded_33 Rcode_34 => back Rcoded_33 Rtaken_25 Rtoken_26 Rplace_27 Rvalue_28 Rfault_29 Rcode_34 l3 (l4 + 1)))))))
def lf_X3_expression_35 (Rcn : Nat → Int64) (Tcnt : Int32) (Ttoks : Nat → Nat) (Tplc : Nat → Int32) (Tvals : Nat → Int64) (Pce : Int32) (rx : Int32 → Int32 → Int32 → Int32 → Nat → Int32 → Int64 → Int32 → (Nat → Int32) → (Int32 → Int32 → Nat → Int32 → Int64 → Int32 → (Nat → Int32) → Prop) → Prop) (rp : Int32 → Int32 → Int32 → Nat → Int32 → Int64 → Int32 → (Nat → Int32) → (Int32 → Int32 → Nat → Int32 → Int64 → Int32 → (Nat → Int32) → Prop) → Prop) (xl : Int32) (xn : Int32)  (Φ : Int32 → Int32 → Nat → Int32 → Int64 → Int32 → (Nat → Int32) → Prop) : Nat → Int32 → Int32 → Nat → Int32 → Int64 → Int32 → (Nat → Int32) → Int32 → Int32 → Prop
  | 0, _, _, _, _, _, _, _, _, _ => False
  | n_ + 1, Rcoded, Rtaken, Rtoken, Rplace, Rvalue, Rfault, Rcode, l3, l4 => lb_X3_expression_35 Rcn Tcnt Ttoks Tplc Tvals Pce rx rp xl xn  Φ (lf_X3_expression_35 Rcn Tcnt Ttoks Tplc Tvals Pce rx rp xl xn  Φ n_) Rcoded Rtaken Rtoken Rplace Rvalue Rfault Rcode l3 l4
theorem li_X3_expression_35 (Rcn : Nat → Int64) (Tcnt : Int32) (Ttoks : Nat → Nat) (Tplc : Nat → Int32) (Tvals : Nat → Int64) (Pce : Int32) (rx : Int32 → Int32 → Int32 → Int32 → Nat → Int32 → Int64 → Int32 → (Nat → Int32) → (Int32 → Int32 → Nat → Int32 → Int64 → Int32 → (Nat → Int32) → Prop) → Prop) (rp : Int32 → Int32 → Int32 → Nat → Int32 → Int64 → Int32 → (Nat → Int32) → (Int32 → Int32 → Nat → Int32 → Int64 → Int32 → (Nat → Int32) → Prop) → Prop) (xl : Int32) (xn : Int32)  (Φ : Int32 → Int32 → Nat → Int32 → Int64 → Int32 → (Nat → Int32) → Prop) (Inv : Int32 → Int32 → Nat → Int32 → Int64 → Int32 → (Nat → Int32) → Int32 → Int32 → Prop) (mu : Int32 → Int32 → Nat → Int32 → Int64 → Int32 → (Nat → Int32) → Int32 → Int32 → Nat) (hs : ∀ (back : Int32 → Int32 → Nat → Int32 → Int64 → Int32 → (Nat → Int32) → Int32 → Int32 → Prop) (Rcoded : Int32) (Rtaken : Int32) (Rtoken : Nat) (Rplace : Int32) (Rvalue : Int64) (Rfault : Int32) (Rcode : Nat → Int32) (l3 : Int32) (l4 : Int32), Inv Rcoded Rtaken Rtoken Rplace Rvalue Rfault Rcode l3 l4 → (∀ (Rcoded' : Int32) (Rtaken' : Int32) (Rtoken' : Nat) (Rplace' : Int32) (Rvalue' : Int64) (Rfault' : Int32) (Rcode' : Nat → Int32) (l3' : Int32) (l4' : Int32), Inv Rcoded' Rtaken' Rtoken' Rplace' Rvalue' Rfault' Rcode' l3' l4' → mu Rcoded' Rtaken' Rtoken' Rplace' Rvalue' Rfault' Rcode' l3' l4' < mu Rcoded Rtaken Rtoken Rplace Rvalue Rfault Rcode l3 l4 → back Rcoded' Rtaken' Rtoken' Rplace' Rvalue' Rfault' Rcode' l3' l4') → lb_X3_expression_35 Rcn Tcnt Ttoks Tplc Tvals Pce rx rp xl xn  Φ back Rcoded Rtaken Rtoken Rplace Rvalue Rfault Rcode l3 l4) : ∀ (n_ : Nat) (Rcoded : Int32) (Rtaken : Int32) (Rtoken : Nat) (Rplace : Int32) (Rvalue : Int64) (Rfault : Int32) (Rcode : Nat → Int32) (l3 : Int32) (l4 : Int32), Inv Rcoded Rtaken Rtoken Rplace Rvalue Rfault Rcode l3 l4 → mu Rcoded Rtaken Rtoken Rplace Rvalue Rfault Rcode l3 l4 < n_ → lf_X3_expression_35 Rcn Tcnt Ttoks Tplc Tvals Pce rx rp xl xn  Φ n_ Rcoded Rtaken Rtoken Rplace Rvalue Rfault Rcode l3 l4 := by
  intro n_
  induction n_ with
  | zero => intro Rcoded Rtaken Rtoken Rplace Rvalue Rfault Rcode l3 l4 _ h; exact absurd h (Nat.not_lt_zero _)
  | succ n_ ih => intro Rcoded Rtaken Rtoken Rplace Rvalue Rfault Rcode l3 l4 hI hm; exact hs _ Rcoded Rtaken Rtoken Rplace Rvalue Rfault Rcode l3 l4 hI (fun Rcoded' Rtaken' Rtoken' Rplace' Rvalue' Rfault' Rcode' l3' l4' h1 h2 => ih Rcoded' Rtaken' Rtoken' Rplace' Rvalue' Rfault' Rcode' l3' l4' h1 (by omega))
set_option maxHeartbeats 4000000 in
set_option maxRecDepth 100000 in
theorem lp_X3_expression_35 {p : Program} {l : Launch} {e : Env} {R : Room} {s : State} {m : MethodId} {args : Array Value} {below : List Frame} {meth : Method} {c : Code} {cells slots : Nat} {Q : State → Prop} {A : Nat → Prop} {D : va_G} {ak : Nat → ClassId} {ad : Nat → Nat} (hx : p.tables.exec = Jvm.exec) (hb : c.code = cX3_expression) (hown : s.vm.findClass RX3 = some m.cls) (hts : ∀ w ∈ wsX3_expression, w.before args s = true) (hml : c.maxLocals = 6) (hE : EV D ak s) (hT : ST D ak ad A s s.heap) (hA : ∀ q, s.heap.size ≤ q → A q) (hRf : 1 ≤ R.frames) (hRl : 22 ≤ R.locals) (hRc : cells ≤ R.cells ∧ slots ≤ R.slots) (hr_ : Nat) (ra : Nat → Nat) (ht : Nat) (ta : Nat → Nat) (pg : Nat) (pa : Nat → Nat) (Rcn : Nat → Int64) (Tlen : Int32) (Tcnt : Int32) (Ttoks : Nat → Nat) (Tplc : Nat → Int32) (Tvals : Nat → Int64) (Pst : Int32) (Pce : Int32) (Pgi : Int32) (Pln : Int32) (xl : Int32) (xn : Int32) (rx : Int32 → Int32 → Int32 → Int32 → Nat → Int32 → Int64 → Int32 → (Nat → Int32) → (Int32 → Int32 → Nat → Int32 → Int64 → Int32 → (Nat → Int32) → Prop) → Prop) (rp : Int32 → Int32 → Int32 → Nat → Int32 → Int64 → Int32 → (Nat → Int32) → (Int32 → Int32 → Nat → Int32 → Int64 → Int32 → (Nat → Int32) → Prop) → Prop) (nn : Nat) (hrx : ∀ (sz : Nat) (xl : Int32) (xn : Int32) (Rcoded : Int32) (Rtaken : Int32) (Rtoken : Nat) (Rplace : Int32) (Rvalue : Int64) (Rfault : Int32) (Rcode : Nat → Int32) (Φ : Int32 → Int32 → Nat → Int32 → Int64 → Int32 → (Nat → Int32) → Prop), rx xl xn Rcoded Rtaken Rtoken Rplace Rvalue Rfault Rcode Φ → Met l yX3_expression wsX3_expression ({ frames := nn + 4, cells := 0, slots := 0, locals := 60 * nn + 240 }) (cPre D ak ad [.ref hr_, .int (xl), .int (xn)] ((wW_X3_expression ak ad hr_ ra ht ta pg pa Rcoded Rtaken Rtoken Rplace Rvalue Rfault Rcn Rcode Tlen Tcnt Ttoks Tplc Tvals Pst Pce Pgi Pln)) sz) (cV D (S := (Int32) × (Int32) × (Nat) × (Int32) × (Int64) × (Int32) × (Nat → Int32)) (fun (u : (Int32) × (Int32) × (Nat) × (Int32) × (Int64) × (Int32) × (Nat → Int32)) => Φ u.1 u.2.1 u.2.2.1 u.2.2.2.1 u.2.2.2.2.1 u.2.2.2.2.2.1 u.2.2.2.2.2.2) (fun u => (wW_X3_expression ak ad hr_ ra ht ta pg pa u.1 u.2.1 u.2.2.1 u.2.2.2.1 u.2.2.2.2.1 u.2.2.2.2.2.1 Rcn u.2.2.2.2.2.2 Tlen Tcnt Ttoks Tplc Tvals Pst Pce Pgi Pln)) ((wW_X3_expression ak ad hr_ ra ht ta pg pa Rcoded Rtaken Rtoken Rplace Rvalue Rfault Rcn Rcode Tlen Tcnt Ttoks Tplc Tvals Pst Pce Pgi Pln)) sz) 0 0 (va_A ((wW_X3_expression ak ad hr_ ra ht ta pg pa Rcoded Rtaken Rtoken Rplace Rvalue Rfault Rcn Rcode Tlen Tcnt Ttoks Tplc Tvals Pst Pce Pgi Pln)) sz)) (hrp : ∀ (sz : Nat) (xn : Int32) (Rcoded : Int32) (Rtaken : Int32) (Rtoken : Nat) (Rplace : Int32) (Rvalue : Int64) (Rfault : Int32) (Rcode : Nat → Int32) (Φ : Int32 → Int32 → Nat → Int32 → Int64 → Int32 → (Nat → Int32) → Prop), rp xn Rcoded Rtaken Rtoken Rplace Rvalue Rfault Rcode Φ → Met l yX3_part wsX3_part ({ frames := nn + 4, cells := 0, slots := 0, locals := 60 * nn + 240 }) (cPre D ak ad [.ref hr_, .int (xn)] ((wW_X3_expression ak ad hr_ ra ht ta pg pa Rcoded Rtaken Rtoken Rplace Rvalue Rfault Rcn Rcode Tlen Tcnt Ttoks Tplc Tvals Pst Pce Pgi Pln)) sz) (cV D (S := (Int32) × (Int32) × (Nat) × (Int32) × (Int64) × (Int32) × (Nat → Int32)) (fun (u : (Int32) × (Int32) × (Nat) × (Int32) × (Int64) × (Int32) × (Nat → Int32)) => Φ u.1 u.2.1 u.2.2.1 u.2.2.2.1 u.2.2.2.2.1 u.2.2.2.2.2.1 u.2.2.2.2.2.2) (fun u => (wW_X3_expression ak ad hr_ ra ht ta pg pa u.1 u.2.1 u.2.2.1 u.2.2.2.1 u.2.2.2.2.1 u.2.2.2.2.2.1 Rcn u.2.2.2.2.2.2 Tlen Tcnt Ttoks Tplc Tvals Pst Pce Pgi Pln)) ((wW_X3_expression ak ad hr_ ra ht ta pg pa Rcoded Rtaken Rtoken Rplace Rvalue Rfault Rcn Rcode Tlen Tcnt Ttoks Tplc Tvals Pst Pce Pgi Pln)) sz) 0 0 (va_A ((wW_X3_expression ak ad hr_ ra ht ta pg pa Rcoded Rtaken Rtoken Rplace Rvalue Rfault Rcn Rcode Tlen Tcnt Ttoks Tplc Tvals Pst Pce Pgi Pln)) sz)) (hRn : nn + 5 ≤ R.frames) (hRm : 60 * nn + 300 ≤ R.locals)  (Φ : Int32 → Int32 → Nat → Int32 → Int64 → Int32 → (Nat → Int32) → Prop)
    (kR10 : ∀ (Rcoded : Int32) (Rtaken : Int32) (Rtoken : Nat) (Rplace : Int32) (Rvalue : Int64) (Rfault : Int32) (Rcode : Nat → Int32) (H : Heap) (locs : List Loc) (ls : Array Slot), Φ Rcoded Rtaken Rtoken Rplace Rvalue Rfault Rcode → va_P D vwCl (wW_X3_expression ak ad hr_ ra ht ta pg pa Rcoded Rtaken Rtoken Rplace Rvalue Rfault Rcn Rcode Tlen Tcnt Ttoks Tplc Tvals Pst Pce Pgi Pln) H → va_D A (wW_X3_expression ak ad hr_ ra ht ta pg pa Rcoded Rtaken Rtoken Rplace Rvalue Rfault Rcn Rcode Tlen Tcnt Ttoks Tplc Tvals Pst Pce Pgi Pln) → va_S A s.heap H locs → W p l e R s m args below meth c H locs cells slots Q (F0 m 10 ls []))
    (kR93 : ∀ (Rcoded : Int32) (Rtaken : Int32) (Rtoken : Nat) (Rplace : Int32) (Rvalue : Int64) (Rfault : Int32) (Rcode : Nat → Int32) (H : Heap) (locs : List Loc) (ls : Array Slot), Φ Rcoded Rtaken Rtoken Rplace Rvalue Rfault Rcode → va_P D vwCl (wW_X3_expression ak ad hr_ ra ht ta pg pa Rcoded Rtaken Rtoken Rplace Rvalue Rfault Rcn Rcode Tlen Tcnt Ttoks Tplc Tvals Pst Pce Pgi Pln) H → va_D A (wW_X3_expression ak ad hr_ ra ht ta pg pa Rcoded Rtaken Rtoken Rplace Rvalue Rfault Rcn Rcode Tlen Tcnt Ttoks Tplc Tvals Pst Pce Pgi Pln) → va_S A s.heap H locs → W p l e R s m args below meth c H locs cells slots Q (F0 m 93 ls []))
    : ∀ (n_ : Nat) (Rcoded : Int32) (Rtaken : Int32) (Rtoken : Nat) (Rplace : Int32) (Rvalue : Int64) (Rfault : Int32) (Rcode : Nat → Int32) (l3 : Int32) (l4 : Int32) (H : Heap) (locs : List Loc) (ls : Array Slot), lf_X3_expression_35 Rcn Tcnt Ttoks Tplc Tvals Pce rx rp xl xn  Φ n_ Rcoded Rtaken Rtoken Rplace Rvalue Rfault Rcode l3 l4 → va_P D vwCl (wW_X3_expression ak ad hr_ ra ht ta pg pa Rcoded Rtaken Rtoken Rplace Rvalue Rfault Rcn Rcode Tlen Tcnt Ttoks Tplc Tvals Pst Pce Pgi Pln) H → va_D A (wW_X3_expression ak ad hr_ ra ht ta pg pa Rcoded Rtaken Rtoken Rplace Rvalue Rfault Rcn Rcode Tlen Tcnt Ttoks Tplc Tvals Pst Pce Pgi Pln) → va_S A s.heap H locs → lv_has ls 6 [(0, .ref hr_), (1, .int (xl)), (2, .int (xn)), (3, .int (l3)), (4, .int (l4))] → W p l e R s m args below meth c H locs cells slots Q (F0 m 35 ls ([])) := by
  intro n_
  induction n_ with
  | zero =>
    intro Rcoded Rtaken Rtoken Rplace Rvalue Rfault Rcode l3 l4 H locs ls hw
    exact hw.elim
  | succ n_ ih =>
    intro Rcoded Rtaken Rtoken Rplace Rvalue Rfault Rcode l3 l4 H locs ls hw hP hD hS hl
    have hw : lb_X3_expression_35 Rcn Tcnt Ttoks Tplc Tvals Pce rx rp xl xn  Φ (lf_X3_expression_35 Rcn Tcnt Ttoks Tplc Tvals Pce rx rp xl xn  Φ n_) Rcoded Rtaken Rtoken Rplace Rvalue Rfault Rcode l3 l4 := hw
    delta lb_X3_expression_35 at hw
    refine lv_iload hx hb dX3_expression_35 (lv_at hl 4 rfl) ?_
    refine lv_iload_n hx hb dX3_expression_37 rfl (lv_at hl 3 rfl) ?_
    refine lv_icmp_ge (tgt := 93) hx hb dX3_expression_38 (by decide) (fun c_12 => ?_) (fun c_12 => ?_)
    · replace hw := hw.1 c_12
      exact kR93 Rcoded Rtaken Rtoken Rplace Rvalue Rfault Rcode _ _ _ hw hP hD hS
    · replace hw := hw.2 c_12
      refine lv_aload_n hx hb dX3_expression_41 rfl (lv_at hl 0 rfl) ?_
      refine va_get (D := D) (ci := 3) (v := .int (Rfault)) (C := RX3) (T := TX3) (N := 11) hx hb hts (fun w h => wm_c (wc_X3 w h)) hown hE.1 hP 0 rfl rfl 10 (by decide) (hts (.fieldLink RX3 54 "WornLines$Reader" "fault" "I") (wm_c hw_432)) (fun _ h9 => h9) rfl dX3_expression_42 ?_
      refine lv_if_ne (tgt := 93) hx hb dX3_expression_45 (by decide) (fun c_13 => ?_) (fun c_13 => ?_)
      · replace hw := hw.1 c_13
        exact kR93 Rcoded Rtaken Rtoken Rplace Rvalue Rfault Rcode _ _ _ hw hP hD hS
      · replace hw := hw.2 c_13
        refine lv_aload_n hx hb dX3_expression_48 rfl (lv_at hl 0 rfl) ?_
        refine vt_get (D := D) (ci := 3) (v := .ref (ad Rtoken)) (C := RX3) (T := TX3) (N := 11) hx hb hts (fun w h => wm_c (wc_X3 w h)) hown hE.1 hP 0 rfl rfl 7 (by decide) tX3_7 (hts (.fieldLink RX3 28 "WornLines$Reader" "token" "LWornLines$Token;") (wm_c hw_290)) (fun _ h9 => h9) rfl dX3_expression_49 ?_
        obtain ⟨h_14, hw⟩ := hw
        refine vk_getf hx hb (hT.1 Rtoken h_14).2.2.2.1 hS hown (hts (.fieldLink RX3 208 "WornLines$Token" "level" "I") (wm_c hw_475)) (fun _ h9 => h9) dX3_expression_52 ?_
        refine lv_iload_n hx hb dX3_expression_55 rfl (lv_at hl 1 rfl) ?_
        refine lv_icmp_ne (tgt := 93) hx hb dX3_expression_56 (by decide) (fun c_15 => ?_) (fun c_15 => ?_)
        · replace hw := hw.1 c_15
          exact kR93 Rcoded Rtaken Rtoken Rplace Rvalue Rfault Rcode _ _ _ hw hP hD hS
        · replace hw := hw.2 c_15
          refine lv_aload_n hx hb dX3_expression_59 rfl (lv_at hl 0 rfl) ?_
          refine vt_get (D := D) (ci := 3) (v := .ref (ad Rtoken)) (C := RX3) (T := TX3) (N := 11) hx hb hts (fun w h => wm_c (wc_X3 w h)) hown hE.1 hP 0 rfl rfl 7 (by decide) tX3_7 (hts (.fieldLink RX3 28 "WornLines$Reader" "token" "LWornLines$Token;") (wm_c hw_290)) (fun _ h9 => h9) rfl dX3_expression_60 ?_
          obtain ⟨h_16, hw⟩ := hw
          refine vk_getf hx hb (hT.1 Rtoken h_16).2.2.2.2.1 hS hown (hts (.fieldLink RX3 211 "WornLines$Token" "operation" "I") (wm_c hw_476)) (fun _ h9 => h9) dX3_expression_63 ?_
          refine lv_istore (lv' := [(5, .int (tkO Rtoken)), (0, .ref hr_), (1, .int (xl)), (2, .int (xn)), (3, .int (l3)), (4, .int (l4))]) hx hb dX3_expression_66 hl (by decide) rfl (fun ls hl => ?_)
          refine lv_aload_n hx hb dX3_expression_68 rfl (lv_at hl 1 rfl) ?_
          refine kc_v (wc := (wW_X3_advance ak ad hr_ ra ht ta pg Rcoded Rtaken Rtoken Rplace Rvalue Rfault Tlen Tcnt Ttoks Tplc Tvals)) (wr := [((ra 1), .inl (ak 1, 6, .inr (.inl (Rcn)))), ((ra 2), .inl (ak 0, 1000, .inl (Rcode))), (pg, .inr (2, pob pa (Pst) (Pce) (Pgi) (Pln)))]) hP hD hS hA [0, 3, 4, 5, 6] [1, 2, 7] rfl rfl (by decide) (by decide) (va_runV (As := []) (rest := []) ⟨hx, hb, hml, hown, hts⟩ (c_X3_advance l D ak ad _ hr_ ra ht ta pg Rcoded Rtaken Rtoken Rplace Rvalue Rfault Tlen Tcnt Ttoks Tplc Tvals _ hw) (cwV 0 hts gX3_expression_X3_advance rfl rfl rfl hv_X3_advance ⟨(Nat.le_trans (Nat.le_of_ble_eq_true rfl) hRf), (Nat.le_trans (Nat.le_of_ble_eq_true rfl) hRl)⟩) (kc_preV (As := []) (wc := (wW_X3_advance ak ad hr_ ra ht ta pg Rcoded Rtaken Rtoken Rplace Rvalue Rfault Tlen Tcnt Ttoks Tplc Tvals)) hE hT hP hD hS hA [0, 3, 4, 5, 6] (by decide) rfl rfl 0 3 rfl rfl rfl) rfl rfl hl.1 rfl (lv_room (Nat.le_of_ble_eq_true rfl)) dX3_expression_69 ⟨hRc.1, hRc.2⟩) (fun u_17 H locs hw hP hD hS => ?_)
          obtain ⟨Rtaken_18, Rtoken_19, Rplace_20, Rvalue_21⟩ := u_17
          try dsimp -zeta only at hw
          have hP : va_P D vwCl (wW_X3_expression ak ad hr_ ra ht ta pg pa Rcoded Rtaken_18 Rtoken_19 Rplace_20 Rvalue_21 Rfault Rcn Rcode Tlen Tcnt Ttoks Tplc Tvals Pst Pce Pgi Pln) H := hP.sub [3, 0, 1, 4, 5, 6, 7, 2] rfl
          have hD : va_D A (wW_X3_expression ak ad hr_ ra ht ta pg pa Rcoded Rtaken_18 Rtoken_19 Rplace_20 Rvalue_21 Rfault Rcn Rcode Tlen Tcnt Ttoks Tplc Tvals Pst Pce Pgi Pln) := hD.sub [3, 0, 1, 4, 5, 6, 7, 2] (by decide) rfl
          refine lv_aload_n hx hb dX3_expression_72 rfl (lv_at hl 1 rfl) ?_
          refine lv_iload_n hx hb dX3_expression_73 rfl (lv_at hl 2 rfl) ?_
          refine lv_iconst (v := 1) hx hb dX3_expression_74 (by decide) ?_
          refine lv_iadd hx hb dX3_expression_75 ?_
          refine lv_iload_n hx hb dX3_expression_76 rfl (lv_at hl 3 rfl) ?_
          refine kc_v (wc := (wW_X3_expression ak ad hr_ ra ht ta pg pa Rcoded Rtaken_18 Rtoken_19 Rplace_20 Rvalue_21 Rfault Rcn Rcode Tlen Tcnt Ttoks Tplc Tvals Pst Pce Pgi Pln)) (wr := []) hP hD hS hA [0, 1, 2, 3, 4, 5, 6, 7] [] rfl rfl (by decide) (by decide) (va_runV (As := [.int (xl + 1), .int (xn)]) (rest := []) ⟨hx, hb, hml, hown, hts⟩ (hrx _ (xl + 1) xn Rcoded Rtaken_18 Rtoken_19 Rplace_20 Rvalue_21 Rfault Rcode _ hw) (cwV 2 hts gX3_expression_X3_expression rfl rfl rfl hv_X3_expression ⟨hRn, (by show 8 + (6 + 11) + (60 * nn + 240) ≤ R.locals; omega)⟩) (kc_preV (As := [.int (xl + 1), .int (xn)]) (wc := (wW_X3_expression ak ad hr_ ra ht ta pg pa Rcoded Rtaken_18 Rtoken_19 Rplace_20 Rvalue_21 Rfault Rcn Rcode Tlen Tcnt Ttoks Tplc Tvals Pst Pce Pgi Pln)) hE hT hP hD hS hA [0, 1, 2, 3, 4, 5, 6, 7] (by decide) rfl rfl 0 3 rfl rfl rfl) rfl rfl hl.1 rfl (lv_room (Nat.le_of_ble_eq_true rfl)) dX3_expression_77 ⟨hRc.1, hRc.2⟩) (fun u_23 H locs hw hP hD hS => ?_)
          obtain ⟨Rcoded_24, Rtaken_25, Rtoken_26, Rplace_27, Rvalue_28, Rfault_29, Rcode_30⟩ := u_23
          try dsimp -zeta only at hw
          have hP : va_P D vwCl (wW_X3_expression ak ad hr_ ra ht ta pg pa Rcoded_24 Rtaken_25 Rtoken_26 Rplace_27 Rvalue_28 Rfault_29 Rcn Rcode_30 Tlen Tcnt Ttoks Tplc Tvals Pst Pce Pgi Pln) H := hP.sub [0, 1, 2, 3, 4, 5, 6, 7] rfl
          have hD : va_D A (wW_X3_expression ak ad hr_ ra ht ta pg pa Rcoded_24 Rtaken_25 Rtoken_26 Rplace_27 Rvalue_28 Rfault_29 Rcn Rcode_30 Tlen Tcnt Ttoks Tplc Tvals Pst Pce Pgi Pln) := hD.sub [0, 1, 2, 3, 4, 5, 6, 7] (by decide) rfl
          refine lv_aload_n hx hb dX3_expression_80 rfl (lv_at hl 1 rfl) ?_
          refine lv_iload hx hb dX3_expression_81 (lv_at hl 0 rfl) ?_
          refine lv_iconst (v := 0) hx hb dX3_expression_83 (by decide) ?_
          refine kc_v (wc := (wW_X3_put ak ad hr_ ra ht pg Rcoded_24 Rtaken_25 Rtoken_26 Rplace_27 Rvalue_28 Rfault_29 Rcode_30)) (wr := [((ra 1), .inl (ak 1, 6, .inr (.inl (Rcn)))), (ht, .inr (5, tob ta (Tlen) (Tcnt))), ((ta 1), .inl (ak 4, 1001, .inr (.inr (.inr (.inr (tokA ad (Ttoks))))))), ((ta 2), .inl (ak 0, 1001, .inl (Tplc))), ((ta 3), .inl (ak 1, 1001, .inr (.inl (Tvals)))), (pg, .inr (2, pob pa (Pst) (Pce) (Pgi) (Pln)))]) hP hD hS hA [0, 2] [1, 3, 4, 5, 6, 7] rfl rfl (by decide) (by decide) (va_runV (As := [.int (tkO Rtoken), .int (0)]) (rest := []) ⟨hx, hb, hml, hown, hts⟩ (c_X3_put l D ak ad _ hr_ ra ht pg Rcoded_24 Rtaken_25 Rtoken_26 Rplace_27 Rvalue_28 Rfault_29 Rcode_30 (tkO Rtoken) 0 _ hw) (cwV 2 hts gX3_expression_X3_put rfl rfl rfl hv_X3_put ⟨(Nat.le_trans (Nat.le_of_ble_eq_true rfl) hRf), (Nat.le_trans (Nat.le_of_ble_eq_true rfl) hRl)⟩) (kc_preV (As := [.int (tkO Rtoken), .int (0)]) (wc := (wW_X3_put ak ad hr_ ra ht pg Rcoded_24 Rtaken_25 Rtoken_26 Rplace_27 Rvalue_28 Rfault_29 Rcode_30)) hE hT hP hD hS hA [0, 2] (by decide) rfl rfl 0 3 rfl rfl rfl) rfl rfl hl.1 rfl (lv_room (Nat.le_of_ble_eq_true rfl)) dX3_expression_84 ⟨hRc.1, hRc.2⟩) (fun u_32 H locs hw hP hD hS => ?_)
          obtain ⟨Rcoded_33, Rcode_34⟩ := u_32
          try dsimp -zeta only at hw
          have hP : va_P D vwCl (wW_X3_expression ak ad hr_ ra ht ta pg pa Rcoded_33 Rtaken_25 Rtoken_26 Rplace_27 Rvalue_28 Rfault_29 Rcn Rcode_34 Tlen Tcnt Ttoks Tplc Tvals Pst Pce Pgi Pln) H := hP.sub [6, 0, 7, 1, 2, 3, 4, 5] rfl
          have hD : va_D A (wW_X3_expression ak ad hr_ ra ht ta pg pa Rcoded_33 Rtaken_25 Rtoken_26 Rplace_27 Rvalue_28 Rfault_29 Rcn Rcode_34 Tlen Tcnt Ttoks Tplc Tvals Pst Pce Pgi Pln) := hD.sub [6, 0, 7, 1, 2, 3, 4, 5] (by decide) rfl
          refine lv_iinc (v := (l4 + 1)) (lv' := [(4, .int (l4 + 1)), (5, .int (tkO Rtoken)), (0, .ref hr_), (1, .int (xl)), (2, .int (xn)), (3, .int (l3))]) hx hb dX3_expression_87 hl (k := 5) rfl (rfl) (by decide) rfl (fun ls hl => ?_)
          refine lv_goto (tgt := 35) hx hb dX3_expression_90 (by decide) ?_
          exact ih Rcoded_33 Rtaken_25 Rtoken_26 Rplace_27 Rvalue_28 Rfault_29 Rcode_34 l3 (l4 + 1) _ _ _ hw hP hD hS (lv_sub hl [2, 3, 4, 5, 0] rfl)

def wp_X3_expression (Rcn : Nat → Int64) (Tcnt : Int32) (Ttoks : Nat → Nat) (Tplc : Nat → Int32) (Tvals : Nat → Int64) (Pce : Int32) (rx : Int32 → Int32 → Int32 → Int32 → Nat → Int32 → Int64 → Int32 → (Nat → Int32) → (Int32 → Int32 → Nat → Int32 → Int64 → Int32 → (Nat → Int32) → Prop) → Prop) (rp : Int32 → Int32 → Int32 → Nat → Int32 → Int64 → Int32 → (Nat → Int32) → (Int32 → Int32 → Nat → Int32 → Int64 → Int32 → (Nat → Int32) → Prop) → Prop) (xl : Int32) (xn : Int32) (Rcoded : Int32) (Rtaken : Int32) (Rtoken : Nat) (Rplace : Int32) (Rvalue : Int64) (Rfault : Int32) (Rcode : Nat → Int32) (Φ : Int32 → Int32 → Nat → Int32 → Int64 → Int32 → (Nat → Int32) → Prop) : Prop := (xl < 4 → rx (xl + 1) xn Rcoded Rtaken Rtoken Rplace Rvalue Rfault Rcode (fun Rcoded_3 Rtaken_4 Rtoken_5 Rplace_6 Rvalue_7 Rfault_8 Rcode_9 => (¬ xl = 1 → (∃ n_, lf_X3_expression_35 Rcn Tcnt Ttoks Tplc Tvals Pce rx rp xl xn  Φ n_ Rcoded_3 Rtaken_4 Rtoken_5 Rplace_6 Rvalue_7 Rfault_8 Rcode_9 1000 0)) ∧ (xl = 1 → (∃ n_, lf_X3_expression_35 Rcn Tcnt Ttoks Tplc Tvals Pce rx rp xl xn  Φ n_ Rcoded_3 Rtaken_4 Rtoken_5 Rplace_6 Rvalue_7 Rfault_8 Rcode_9 1 0)))) ∧ (¬ xl < 4 → rp xn Rcoded Rtaken Rtoken Rplace Rvalue Rfault Rcode (fun Rcoded_37 Rtaken_38 Rtoken_39 Rplace_40 Rvalue_41 Rfault_42 Rcode_43 => Φ Rcoded_37 Rtaken_38 Rtoken_39 Rplace_40 Rvalue_41 Rfault_42 Rcode_43))
set_option maxHeartbeats 4000000 in
set_option maxRecDepth 100000 in
theorem kj_X3_expression_e {p : Program} {l : Launch} {e : Env} {R : Room} {s : State} {m : MethodId} {args : Array Value} {below : List Frame} {meth : Method} {c : Code} {cells slots : Nat} {Q : State → Prop} {A : Nat → Prop} {D : va_G} {ak : Nat → ClassId} {ad : Nat → Nat} (hx : p.tables.exec = Jvm.exec) (hb : c.code = cX3_expression) (hown : s.vm.findClass RX3 = some m.cls) (hts : ∀ w ∈ wsX3_expression, w.before args s = true) (hml : c.maxLocals = 6) (hE : EV D ak s) (hT : ST D ak ad A s s.heap) (hA : ∀ q, s.heap.size ≤ q → A q) (hRf : 1 ≤ R.frames) (hRl : 22 ≤ R.locals) (hRc : cells ≤ R.cells ∧ slots ≤ R.slots) (hr_ : Nat) (ra : Nat → Nat) (ht : Nat) (ta : Nat → Nat) (pg : Nat) (pa : Nat → Nat) (Rcn : Nat → Int64) (Tlen : Int32) (Tcnt : Int32) (Ttoks : Nat → Nat) (Tplc : Nat → Int32) (Tvals : Nat → Int64) (Pst : Int32) (Pce : Int32) (Pgi : Int32) (Pln : Int32) (xl : Int32) (xn : Int32) (rx : Int32 → Int32 → Int32 → Int32 → Nat → Int32 → Int64 → Int32 → (Nat → Int32) → (Int32 → Int32 → Nat → Int32 → Int64 → Int32 → (Nat → Int32) → Prop) → Prop) (rp : Int32 → Int32 → Int32 → Nat → Int32 → Int64 → Int32 → (Nat → Int32) → (Int32 → Int32 → Nat → Int32 → Int64 → Int32 → (Nat → Int32) → Prop) → Prop) (nn : Nat) (hrx : ∀ (sz : Nat) (xl : Int32) (xn : Int32) (Rcoded : Int32) (Rtaken : Int32) (Rtoken : Nat) (Rplace : Int32) (Rvalue : Int64) (Rfault : Int32) (Rcode : Nat → Int32) (Φ : Int32 → Int32 → Nat → Int32 → Int64 → Int32 → (Nat → Int32) → Prop), rx xl xn Rcoded Rtaken Rtoken Rplace Rvalue Rfault Rcode Φ → Met l yX3_expression wsX3_expression ({ frames := nn + 4, cells := 0, slots := 0, locals := 60 * nn + 240 }) (cPre D ak ad [.ref hr_, .int (xl), .int (xn)] ((wW_X3_expression ak ad hr_ ra ht ta pg pa Rcoded Rtaken Rtoken Rplace Rvalue Rfault Rcn Rcode Tlen Tcnt Ttoks Tplc Tvals Pst Pce Pgi Pln)) sz) (cV D (S := (Int32) × (Int32) × (Nat) × (Int32) × (Int64) × (Int32) × (Nat → Int32)) (fun (u : (Int32) × (Int32) × (Nat) × (Int32) × (Int64) × (Int32) × (Nat → Int32)) => Φ u.1 u.2.1 u.2.2.1 u.2.2.2.1 u.2.2.2.2.1 u.2.2.2.2.2.1 u.2.2.2.2.2.2) (fun u => (wW_X3_expression ak ad hr_ ra ht ta pg pa u.1 u.2.1 u.2.2.1 u.2.2.2.1 u.2.2.2.2.1 u.2.2.2.2.2.1 Rcn u.2.2.2.2.2.2 Tlen Tcnt Ttoks Tplc Tvals Pst Pce Pgi Pln)) ((wW_X3_expression ak ad hr_ ra ht ta pg pa Rcoded Rtaken Rtoken Rplace Rvalue Rfault Rcn Rcode Tlen Tcnt Ttoks Tplc Tvals Pst Pce Pgi Pln)) sz) 0 0 (va_A ((wW_X3_expression ak ad hr_ ra ht ta pg pa Rcoded Rtaken Rtoken Rplace Rvalue Rfault Rcn Rcode Tlen Tcnt Ttoks Tplc Tvals Pst Pce Pgi Pln)) sz)) (hrp : ∀ (sz : Nat) (xn : Int32) (Rcoded : Int32) (Rtaken : Int32) (Rtoken : Nat) (Rplace : Int32) (Rvalue : Int64) (Rfault : Int32) (Rcode : Nat → Int32) (Φ : Int32 → Int32 → Nat → Int32 → Int64 → Int32 → (Nat → Int32) → Prop), rp xn Rcoded Rtaken Rtoken Rplace Rvalue Rfault Rcode Φ → Met l yX3_part wsX3_part ({ frames := nn + 4, cells := 0, slots := 0, locals := 60 * nn + 240 }) (cPre D ak ad [.ref hr_, .int (xn)] ((wW_X3_expression ak ad hr_ ra ht ta pg pa Rcoded Rtaken Rtoken Rplace Rvalue Rfault Rcn Rcode Tlen Tcnt Ttoks Tplc Tvals Pst Pce Pgi Pln)) sz) (cV D (S := (Int32) × (Int32) × (Nat) × (Int32) × (Int64) × (Int32) × (Nat → Int32)) (fun (u : (Int32) × (Int32) × (Nat) × (Int32) × (Int64) × (Int32) × (Nat → Int32)) => Φ u.1 u.2.1 u.2.2.1 u.2.2.2.1 u.2.2.2.2.1 u.2.2.2.2.2.1 u.2.2.2.2.2.2) (fun u => (wW_X3_expression ak ad hr_ ra ht ta pg pa u.1 u.2.1 u.2.2.1 u.2.2.2.1 u.2.2.2.2.1 u.2.2.2.2.2.1 Rcn u.2.2.2.2.2.2 Tlen Tcnt Ttoks Tplc Tvals Pst Pce Pgi Pln)) ((wW_X3_expression ak ad hr_ ra ht ta pg pa Rcoded Rtaken Rtoken Rplace Rvalue Rfault Rcn Rcode Tlen Tcnt Ttoks Tplc Tvals Pst Pce Pgi Pln)) sz) 0 0 (va_A ((wW_X3_expression ak ad hr_ ra ht ta pg pa Rcoded Rtaken Rtoken Rplace Rvalue Rfault Rcn Rcode Tlen Tcnt Ttoks Tplc Tvals Pst Pce Pgi Pln)) sz)) (hRn : nn + 5 ≤ R.frames) (hRm : 60 * nn + 300 ≤ R.locals)  (Φ : Int32 → Int32 → Nat → Int32 → Int64 → Int32 → (Nat → Int32) → Prop)
    (kR10 : ∀ (Rcoded : Int32) (Rtaken : Int32) (Rtoken : Nat) (Rplace : Int32) (Rvalue : Int64) (Rfault : Int32) (Rcode : Nat → Int32) (H : Heap) (locs : List Loc) (ls : Array Slot), Φ Rcoded Rtaken Rtoken Rplace Rvalue Rfault Rcode → va_P D vwCl (wW_X3_expression ak ad hr_ ra ht ta pg pa Rcoded Rtaken Rtoken Rplace Rvalue Rfault Rcn Rcode Tlen Tcnt Ttoks Tplc Tvals Pst Pce Pgi Pln) H → va_D A (wW_X3_expression ak ad hr_ ra ht ta pg pa Rcoded Rtaken Rtoken Rplace Rvalue Rfault Rcn Rcode Tlen Tcnt Ttoks Tplc Tvals Pst Pce Pgi Pln) → va_S A s.heap H locs → W p l e R s m args below meth c H locs cells slots Q (F0 m 10 ls []))
    (kR93 : ∀ (Rcoded : Int32) (Rtaken : Int32) (Rtoken : Nat) (Rplace : Int32) (Rvalue : Int64) (Rfault : Int32) (Rcode : Nat → Int32) (H : Heap) (locs : List Loc) (ls : Array Slot), Φ Rcoded Rtaken Rtoken Rplace Rvalue Rfault Rcode → va_P D vwCl (wW_X3_expression ak ad hr_ ra ht ta pg pa Rcoded Rtaken Rtoken Rplace Rvalue Rfault Rcn Rcode Tlen Tcnt Ttoks Tplc Tvals Pst Pce Pgi Pln) H → va_D A (wW_X3_expression ak ad hr_ ra ht ta pg pa Rcoded Rtaken Rtoken Rplace Rvalue Rfault Rcn Rcode Tlen Tcnt Ttoks Tplc Tvals Pst Pce Pgi Pln) → va_S A s.heap H locs → W p l e R s m args below meth c H locs cells slots Q (F0 m 93 ls []))
    : ∀ (Rcoded : Int32) (Rtaken : Int32) (Rtoken : Nat) (Rplace : Int32) (Rvalue : Int64) (Rfault : Int32) (Rcode : Nat → Int32) (H : Heap) (locs : List Loc) (ls : Array Slot), wp_X3_expression Rcn Tcnt Ttoks Tplc Tvals Pce rx rp xl xn Rcoded Rtaken Rtoken Rplace Rvalue Rfault Rcode Φ → va_P D vwCl (wW_X3_expression ak ad hr_ ra ht ta pg pa Rcoded Rtaken Rtoken Rplace Rvalue Rfault Rcn Rcode Tlen Tcnt Ttoks Tplc Tvals Pst Pce Pgi Pln) H → va_D A (wW_X3_expression ak ad hr_ ra ht ta pg pa Rcoded Rtaken Rtoken Rplace Rvalue Rfault Rcn Rcode Tlen Tcnt Ttoks Tplc Tvals Pst Pce Pgi Pln) → va_S A s.heap H locs → lv_has ls 6 [(0, .ref hr_), (1, .int (xl)), (2, .int (xn))] → W p l e R s m args below meth c H locs cells slots Q (F0 m 0 ls ([])) := by
  intro Rcoded Rtaken Rtoken Rplace Rvalue Rfault Rcode H locs ls hw hP hD hS hl
  delta wp_X3_expression at hw
  refine lv_iload_n hx hb dX3_expression_0 rfl (lv_at hl 1 rfl) ?_
  refine lv_iconst (v := 4) hx hb dX3_expression_1 (by decide) ?_
  refine lv_icmp_lt (tgt := 11) hx hb dX3_expression_2 (by decide) (fun c_1 => ?_) (fun c_1 => ?_)
  · replace hw := hw.1 c_1
    refine lv_aload_n hx hb dX3_expression_11 rfl (lv_at hl 0 rfl) ?_
    refine lv_iload_n hx hb dX3_expression_12 rfl (lv_at hl 1 rfl) ?_
    refine lv_iconst (v := 1) hx hb dX3_expression_13 (by decide) ?_
    refine lv_iadd hx hb dX3_expression_14 ?_
    refine lv_iload_n hx hb dX3_expression_15 rfl (lv_at hl 2 rfl) ?_
    refine kc_v (wc := (wW_X3_expression ak ad hr_ ra ht ta pg pa Rcoded Rtaken Rtoken Rplace Rvalue Rfault Rcn Rcode Tlen Tcnt Ttoks Tplc Tvals Pst Pce Pgi Pln)) (wr := []) hP hD hS hA [0, 1, 2, 3, 4, 5, 6, 7] [] rfl rfl (by decide) (by decide) (va_runV (As := [.int (xl + 1), .int (xn)]) (rest := []) ⟨hx, hb, hml, hown, hts⟩ (hrx _ (xl + 1) xn Rcoded Rtaken Rtoken Rplace Rvalue Rfault Rcode _ hw) (cwV 2 hts gX3_expression_X3_expression rfl rfl rfl hv_X3_expression ⟨hRn, (by show 8 + (6 + 11) + (60 * nn + 240) ≤ R.locals; omega)⟩) (kc_preV (As := [.int (xl + 1), .int (xn)]) (wc := (wW_X3_expression ak ad hr_ ra ht ta pg pa Rcoded Rtaken Rtoken Rplace Rvalue Rfault Rcn Rcode Tlen Tcnt Ttoks Tplc Tvals Pst Pce Pgi Pln)) hE hT hP hD hS hA [0, 1, 2, 3, 4, 5, 6, 7] (by decide) rfl rfl 0 3 rfl rfl rfl) rfl rfl hl.1 rfl (lv_room (Nat.le_of_ble_eq_true rfl)) dX3_expression_16 ⟨hRc.1, hRc.2⟩) (fun u_2 H locs hw hP hD hS => ?_)
    obtain ⟨Rcoded_3, Rtaken_4, Rtoken_5, Rplace_6, Rvalue_7, Rfault_8, Rcode_9⟩ := u_2
    try dsimp -zeta only at hw
    have hP : va_P D vwCl (wW_X3_expression ak ad hr_ ra ht ta pg pa Rcoded_3 Rtaken_4 Rtoken_5 Rplace_6 Rvalue_7 Rfault_8 Rcn Rcode_9 Tlen Tcnt Ttoks Tplc Tvals Pst Pce Pgi Pln) H := hP.sub [0, 1, 2, 3, 4, 5, 6, 7] rfl
    have hD : va_D A (wW_X3_expression ak ad hr_ ra ht ta pg pa Rcoded_3 Rtaken_4 Rtoken_5 Rplace_6 Rvalue_7 Rfault_8 Rcn Rcode_9 Tlen Tcnt Ttoks Tplc Tvals Pst Pce Pgi Pln) := hD.sub [0, 1, 2, 3, 4, 5, 6, 7] (by decide) rfl
    refine lv_iload_n hx hb dX3_expression_19 rfl (lv_at hl 1 rfl) ?_
    refine lv_iconst (v := 1) hx hb dX3_expression_20 (by decide) ?_
    refine lv_icmp_ne (tgt := 28) hx hb dX3_expression_21 (by decide) (fun c_11 => ?_) (fun c_11 => ?_)
    · replace hw := hw.1 c_11
      refine lv_sipush (v := 1000) hx hb dX3_expression_28 (by decide) ?_
      refine lv_istore_n (lv' := [(3, .int (1000)), (0, .ref hr_), (1, .int (xl)), (2, .int (xn))]) hx hb dX3_expression_31 rfl hl (by decide) rfl (fun ls hl => ?_)
      refine lv_iconst (v := 0) hx hb dX3_expression_32 (by decide) ?_
      refine lv_istore (lv' := [(4, .int (0)), (3, .int (1000)), (0, .ref hr_), (1, .int (xl)), (2, .int (xn))]) hx hb dX3_expression_33 hl (by decide) rfl (fun ls hl => ?_)
      obtain ⟨n1_, hw⟩ := hw
      exact lp_X3_expression_35 hx hb hown hts hml hE hT hA hRf hRl hRc hr_ ra ht ta pg pa Rcn Tlen Tcnt Ttoks Tplc Tvals Pst Pce Pgi Pln xl xn rx rp nn hrx hrp hRn hRm  Φ  kR10 kR93 n1_ Rcoded_3 Rtaken_4 Rtoken_5 Rplace_6 Rvalue_7 Rfault_8 Rcode_9 1000 0 _ _ _ hw hP hD hS (lv_sub hl [2, 3, 4, 1, 0] rfl)
    · replace hw := hw.2 c_11
      refine lv_iconst (v := 1) hx hb dX3_expression_24 (by decide) ?_
      refine lv_goto (tgt := 31) hx hb dX3_expression_25 (by decide) ?_
      refine lv_istore_n (lv' := [(3, .int (1)), (0, .ref hr_), (1, .int (xl)), (2, .int (xn))]) hx hb dX3_expression_31 rfl hl (by decide) rfl (fun ls hl => ?_)
      refine lv_iconst (v := 0) hx hb dX3_expression_32 (by decide) ?_
      refine lv_istore (lv' := [(4, .int (0)), (3, .int (1)), (0, .ref hr_), (1, .int (xl)), (2, .int (xn))]) hx hb dX3_expression_33 hl (by decide) rfl (fun ls hl => ?_)
      obtain ⟨n1_, hw⟩ := hw
      exact lp_X3_expression_35 hx hb hown hts hml hE hT hA hRf hRl hRc hr_ ra ht ta pg pa Rcn Tlen Tcnt Ttoks Tplc Tvals Pst Pce Pgi Pln xl xn rx rp nn hrx hrp hRn hRm  Φ  kR10 kR93 n1_ Rcoded_3 Rtaken_4 Rtoken_5 Rplace_6 Rvalue_7 Rfault_8 Rcode_9 1 0 _ _ _ hw hP hD hS (lv_sub hl [2, 3, 4, 1, 0] rfl)
  · replace hw := hw.2 c_1
    refine lv_aload_n hx hb dX3_expression_5 rfl (lv_at hl 0 rfl) ?_
    refine lv_iload_n hx hb dX3_expression_6 rfl (lv_at hl 2 rfl) ?_
    refine kc_v (wc := (wW_X3_expression ak ad hr_ ra ht ta pg pa Rcoded Rtaken Rtoken Rplace Rvalue Rfault Rcn Rcode Tlen Tcnt Ttoks Tplc Tvals Pst Pce Pgi Pln)) (wr := []) hP hD hS hA [0, 1, 2, 3, 4, 5, 6, 7] [] rfl rfl (by decide) (by decide) (va_runV (As := [.int (xn)]) (rest := []) ⟨hx, hb, hml, hown, hts⟩ (hrp _ xn Rcoded Rtaken Rtoken Rplace Rvalue Rfault Rcode _ hw) (cwV 1 hts gX3_expression_X3_part rfl rfl rfl hv_X3_part ⟨hRn, (by show 8 + (5 + 11) + (60 * nn + 240) ≤ R.locals; omega)⟩) (kc_preV (As := [.int (xn)]) (wc := (wW_X3_expression ak ad hr_ ra ht ta pg pa Rcoded Rtaken Rtoken Rplace Rvalue Rfault Rcn Rcode Tlen Tcnt Ttoks Tplc Tvals Pst Pce Pgi Pln)) hE hT hP hD hS hA [0, 1, 2, 3, 4, 5, 6, 7] (by decide) rfl rfl 0 3 rfl rfl rfl) rfl rfl hl.1 rfl (lv_room (Nat.le_of_ble_eq_true rfl)) dX3_expression_7 ⟨hRc.1, hRc.2⟩) (fun u_36 H locs hw hP hD hS => ?_)
    obtain ⟨Rcoded_37, Rtaken_38, Rtoken_39, Rplace_40, Rvalue_41, Rfault_42, Rcode_43⟩ := u_36
    try dsimp -zeta only at hw
    have hP : va_P D vwCl (wW_X3_expression ak ad hr_ ra ht ta pg pa Rcoded_37 Rtaken_38 Rtoken_39 Rplace_40 Rvalue_41 Rfault_42 Rcn Rcode_43 Tlen Tcnt Ttoks Tplc Tvals Pst Pce Pgi Pln) H := hP.sub [0, 1, 2, 3, 4, 5, 6, 7] rfl
    have hD : va_D A (wW_X3_expression ak ad hr_ ra ht ta pg pa Rcoded_37 Rtaken_38 Rtoken_39 Rplace_40 Rvalue_41 Rfault_42 Rcn Rcode_43 Tlen Tcnt Ttoks Tplc Tvals Pst Pce Pgi Pln) := hD.sub [0, 1, 2, 3, 4, 5, 6, 7] (by decide) rfl
    exact kR10 Rcoded_37 Rtaken_38 Rtoken_39 Rplace_40 Rvalue_41 Rfault_42 Rcode_43 _ _ _ hw hP hD hS

def kf_X3_part_57 (Rcn : Nat → Int64) (Tcnt : Int32) (Ttoks : Nat → Nat) (Tplc : Nat → Int32) (Tvals : Nat → Int64) (Pce : Int32) (rx : Int32 → Int32 → Int32 → Int32 → Nat → Int32 → Int64 → Int32 → (Nat → Int32) → (Int32 → Int32 → Nat → Int32 → Int64 → Int32 → (Nat → Int32) → Prop) → Prop) (rp : Int32 → Int32 → Int32 → Nat → Int32 → Int64 → Int32 → (Nat → Int32) → (Int32 → Int32 → Nat → Int32 → Int64 → Int32 → (Nat → Int32) → Prop) → Prop) (xn : Int32)  (Φ : Int32 → Int32 → Nat → Int32 → Int64 → Int32 → (Nat → Int32) → Prop) (Rcoded : Int32) (Rtaken : Int32) (Rtoken : Nat) (Rplace : Int32) (Rvalue : Int64) (Rfault : Int32) (Rcode : Nat → Int32) (l2 : Nat) (l3 : Int32) : Prop := (Rfault = 0 → wp_X3_advance Tcnt Ttoks Tplc Tvals Rtaken Rtoken Rplace Rvalue (fun Rtaken_9 Rtoken_10 Rplace_11 Rvalue_12 => l2 < 31 ∧ (¬ l2 = 2 → l2 < 31 ∧ (¬ l2 = 3 → l2 < 31 ∧ (¬ l2 = 4 → rp (xn + 1) Rcoded Rtaken_9 Rtoken_10 Rplace_11 Rvalue_12 Rfault Rcode (fun Rcoded_21 Rtaken_22 Rtoken_23 Rplace_24 Rvalue_25 Rfault_26 Rcode_27 => l2 < 31 ∧ (¬ l2 = 27 → wp_X3_put 3 0 Rcoded_21 Rcode_27 (fun Rcoded_32 Rcode_33 => Φ Rcoded_32 Rtaken_22 Rtoken_23 Rplace_24 Rvalue_25 Rfault_26 Rcode_33)) ∧ (l2 = 27 → wp_X3_put 2 0 Rcoded_21 Rcode_27 (fun Rcoded_36 Rcode_37 => Φ Rcoded_36 Rtaken_22 Rtoken_23 Rplace_24 Rvalue_25 Rfault_26 Rcode_37)))) ∧ (l2 = 4 → rx 0 (xn + 1) Rcoded Rtaken_9 Rtoken_10 Rplace_11 Rvalue_12 Rfault Rcode (fun Rcoded_40 Rtaken_41 Rtoken_42 Rplace_43 Rvalue_44 Rfault_45 Rcode_46 => wp_X3_expect Tcnt Ttoks Tplc Tvals 5 Rtaken_41 Rtoken_42 Rplace_43 Rvalue_44 Rfault_45 (fun Rtaken_49 Rtoken_50 Rplace_51 Rvalue_52 Rfault_53 => Φ Rcoded_40 Rtaken_49 Rtoken_50 Rplace_51 Rvalue_52 Rfault_53 Rcode_46)))) ∧ (l2 = 3 → wp_X3_put 1 l3 Rcoded Rcode (fun Rcoded_56 Rcode_57 => Φ Rcoded_56 Rtaken_9 Rtoken_10 Rplace_11 Rvalue_12 Rfault Rcode_57))) ∧ (l2 = 2 → wp_X3_put 0 Rvalue.toInt32 Rcoded Rcode (fun Rcoded_60 Rcode_61 => Φ Rcoded_60 Rtaken_9 Rtoken_10 Rplace_11 Rvalue_12 Rfault Rcode_61)))) ∧ (¬ Rfault = 0 → Φ Rcoded Rtaken Rtoken Rplace Rvalue Rfault Rcode)
set_option maxHeartbeats 4000000 in
set_option maxRecDepth 100000 in
theorem kj_X3_part_57 {p : Program} {l : Launch} {e : Env} {R : Room} {s : State} {m : MethodId} {args : Array Value} {below : List Frame} {meth : Method} {c : Code} {cells slots : Nat} {Q : State → Prop} {A : Nat → Prop} {D : va_G} {ak : Nat → ClassId} {ad : Nat → Nat} (hx : p.tables.exec = Jvm.exec) (hb : c.code = cX3_part) (hown : s.vm.findClass RX3 = some m.cls) (hts : ∀ w ∈ wsX3_part, w.before args s = true) (hml : c.maxLocals = 5) (hE : EV D ak s) (hT : ST D ak ad A s s.heap) (hA : ∀ q, s.heap.size ≤ q → A q) (hRf : 2 ≤ R.frames) (hRl : 46 ≤ R.locals) (hRc : cells ≤ R.cells ∧ slots ≤ R.slots) (hr_ : Nat) (ra : Nat → Nat) (ht : Nat) (ta : Nat → Nat) (pg : Nat) (pa : Nat → Nat) (Rcn : Nat → Int64) (Tlen : Int32) (Tcnt : Int32) (Ttoks : Nat → Nat) (Tplc : Nat → Int32) (Tvals : Nat → Int64) (Pst : Int32) (Pce : Int32) (Pgi : Int32) (Pln : Int32) (xn : Int32) (rx : Int32 → Int32 → Int32 → Int32 → Nat → Int32 → Int64 → Int32 → (Nat → Int32) → (Int32 → Int32 → Nat → Int32 → Int64 → Int32 → (Nat → Int32) → Prop) → Prop) (rp : Int32 → Int32 → Int32 → Nat → Int32 → Int64 → Int32 → (Nat → Int32) → (Int32 → Int32 → Nat → Int32 → Int64 → Int32 → (Nat → Int32) → Prop) → Prop) (nn : Nat) (hrx : ∀ (sz : Nat) (xl : Int32) (xn : Int32) (Rcoded : Int32) (Rtaken : Int32) (Rtoken : Nat) (Rplace : Int32) (Rvalue : Int64) (Rfault : Int32) (Rcode : Nat → Int32) (Φ : Int32 → Int32 → Nat → Int32 → Int64 → Int32 → (Nat → Int32) → Prop), rx xl xn Rcoded Rtaken Rtoken Rplace Rvalue Rfault Rcode Φ → Met l yX3_expression wsX3_expression ({ frames := nn + 4, cells := 0, slots := 0, locals := 60 * nn + 240 }) (cPre D ak ad [.ref hr_, .int (xl), .int (xn)] ((wW_X3_expression ak ad hr_ ra ht ta pg pa Rcoded Rtaken Rtoken Rplace Rvalue Rfault Rcn Rcode Tlen Tcnt Ttoks Tplc Tvals Pst Pce Pgi Pln)) sz) (cV D (S := (Int32) × (Int32) × (Nat) × (Int32) × (Int64) × (Int32) × (Nat → Int32)) (fun (u : (Int32) × (Int32) × (Nat) × (Int32) × (Int64) × (Int32) × (Nat → Int32)) => Φ u.1 u.2.1 u.2.2.1 u.2.2.2.1 u.2.2.2.2.1 u.2.2.2.2.2.1 u.2.2.2.2.2.2) (fun u => (wW_X3_expression ak ad hr_ ra ht ta pg pa u.1 u.2.1 u.2.2.1 u.2.2.2.1 u.2.2.2.2.1 u.2.2.2.2.2.1 Rcn u.2.2.2.2.2.2 Tlen Tcnt Ttoks Tplc Tvals Pst Pce Pgi Pln)) ((wW_X3_expression ak ad hr_ ra ht ta pg pa Rcoded Rtaken Rtoken Rplace Rvalue Rfault Rcn Rcode Tlen Tcnt Ttoks Tplc Tvals Pst Pce Pgi Pln)) sz) 0 0 (va_A ((wW_X3_expression ak ad hr_ ra ht ta pg pa Rcoded Rtaken Rtoken Rplace Rvalue Rfault Rcn Rcode Tlen Tcnt Ttoks Tplc Tvals Pst Pce Pgi Pln)) sz)) (hrp : ∀ (sz : Nat) (xn : Int32) (Rcoded : Int32) (Rtaken : Int32) (Rtoken : Nat) (Rplace : Int32) (Rvalue : Int64) (Rfault : Int32) (Rcode : Nat → Int32) (Φ : Int32 → Int32 → Nat → Int32 → Int64 → Int32 → (Nat → Int32) → Prop), rp xn Rcoded Rtaken Rtoken Rplace Rvalue Rfault Rcode Φ → Met l yX3_part wsX3_part ({ frames := nn + 4, cells := 0, slots := 0, locals := 60 * nn + 240 }) (cPre D ak ad [.ref hr_, .int (xn)] ((wW_X3_expression ak ad hr_ ra ht ta pg pa Rcoded Rtaken Rtoken Rplace Rvalue Rfault Rcn Rcode Tlen Tcnt Ttoks Tplc Tvals Pst Pce Pgi Pln)) sz) (cV D (S := (Int32) × (Int32) × (Nat) × (Int32) × (Int64) × (Int32) × (Nat → Int32)) (fun (u : (Int32) × (Int32) × (Nat) × (Int32) × (Int64) × (Int32) × (Nat → Int32)) => Φ u.1 u.2.1 u.2.2.1 u.2.2.2.1 u.2.2.2.2.1 u.2.2.2.2.2.1 u.2.2.2.2.2.2) (fun u => (wW_X3_expression ak ad hr_ ra ht ta pg pa u.1 u.2.1 u.2.2.1 u.2.2.2.1 u.2.2.2.2.1 u.2.2.2.2.2.1 Rcn u.2.2.2.2.2.2 Tlen Tcnt Ttoks Tplc Tvals Pst Pce Pgi Pln)) ((wW_X3_expression ak ad hr_ ra ht ta pg pa Rcoded Rtaken Rtoken Rplace Rvalue Rfault Rcn Rcode Tlen Tcnt Ttoks Tplc Tvals Pst Pce Pgi Pln)) sz) 0 0 (va_A ((wW_X3_expression ak ad hr_ ra ht ta pg pa Rcoded Rtaken Rtoken Rplace Rvalue Rfault Rcn Rcode Tlen Tcnt Ttoks Tplc Tvals Pst Pce Pgi Pln)) sz)) (hRn : nn + 5 ≤ R.frames) (hRm : 60 * nn + 300 ≤ R.locals)  (Φ : Int32 → Int32 → Nat → Int32 → Int64 → Int32 → (Nat → Int32) → Prop)
    (kR64 : ∀ (Rcoded : Int32) (Rtaken : Int32) (Rtoken : Nat) (Rplace : Int32) (Rvalue : Int64) (Rfault : Int32) (Rcode : Nat → Int32) (H : Heap) (locs : List Loc) (ls : Array Slot), Φ Rcoded Rtaken Rtoken Rplace Rvalue Rfault Rcode → va_P D vwCl (wW_X3_expression ak ad hr_ ra ht ta pg pa Rcoded Rtaken Rtoken Rplace Rvalue Rfault Rcn Rcode Tlen Tcnt Ttoks Tplc Tvals Pst Pce Pgi Pln) H → va_D A (wW_X3_expression ak ad hr_ ra ht ta pg pa Rcoded Rtaken Rtoken Rplace Rvalue Rfault Rcn Rcode Tlen Tcnt Ttoks Tplc Tvals Pst Pce Pgi Pln) → va_S A s.heap H locs → W p l e R s m args below meth c H locs cells slots Q (F0 m 64 ls []))
    (kR158 : ∀ (Rcoded : Int32) (Rtaken : Int32) (Rtoken : Nat) (Rplace : Int32) (Rvalue : Int64) (Rfault : Int32) (Rcode : Nat → Int32) (H : Heap) (locs : List Loc) (ls : Array Slot), Φ Rcoded Rtaken Rtoken Rplace Rvalue Rfault Rcode → va_P D vwCl (wW_X3_expression ak ad hr_ ra ht ta pg pa Rcoded Rtaken Rtoken Rplace Rvalue Rfault Rcn Rcode Tlen Tcnt Ttoks Tplc Tvals Pst Pce Pgi Pln) H → va_D A (wW_X3_expression ak ad hr_ ra ht ta pg pa Rcoded Rtaken Rtoken Rplace Rvalue Rfault Rcn Rcode Tlen Tcnt Ttoks Tplc Tvals Pst Pce Pgi Pln) → va_S A s.heap H locs → W p l e R s m args below meth c H locs cells slots Q (F0 m 158 ls []))
    : ∀ (Rcoded : Int32) (Rtaken : Int32) (Rtoken : Nat) (Rplace : Int32) (Rvalue : Int64) (Rfault : Int32) (Rcode : Nat → Int32) (l2 : Nat) (l3 : Int32) (H : Heap) (locs : List Loc) (ls : Array Slot), kf_X3_part_57 Rcn Tcnt Ttoks Tplc Tvals Pce rx rp xn  Φ Rcoded Rtaken Rtoken Rplace Rvalue Rfault Rcode l2 l3 → va_P D vwCl (wW_X3_expression ak ad hr_ ra ht ta pg pa Rcoded Rtaken Rtoken Rplace Rvalue Rfault Rcn Rcode Tlen Tcnt Ttoks Tplc Tvals Pst Pce Pgi Pln) H → va_D A (wW_X3_expression ak ad hr_ ra ht ta pg pa Rcoded Rtaken Rtoken Rplace Rvalue Rfault Rcn Rcode Tlen Tcnt Ttoks Tplc Tvals Pst Pce Pgi Pln) → va_S A s.heap H locs → lv_has ls 5 [(0, .ref hr_), (1, .int (xn)), (2, .ref (ad l2)), (3, .int (l3))] → W p l e R s m args below meth c H locs cells slots Q (F0 m 57 ls ([])) := by
  intro Rcoded Rtaken Rtoken Rplace Rvalue Rfault Rcode l2 l3 H locs ls hw hP hD hS hl
  delta kf_X3_part_57 at hw
  refine lv_aload_n hx hb dX3_part_57 rfl (lv_at hl 0 rfl) ?_
  refine va_get (D := D) (ci := 3) (v := .int (Rfault)) (C := RX3) (T := TX3) (N := 11) hx hb hts (fun w h => wm_c (wc_X3 w h)) hown hE.1 hP 0 rfl rfl 10 (by decide) (hts (.fieldLink RX3 54 "WornLines$Reader" "fault" "I") (wm_c hw_432)) (fun _ h9 => h9) rfl dX3_part_58 ?_
  refine lv_if_eq (tgt := 65) hx hb dX3_part_61 (by decide) (fun c_7 => ?_) (fun c_7 => ?_)
  · replace hw := hw.1 c_7
    refine lv_aload_n hx hb dX3_part_65 rfl (lv_at hl 0 rfl) ?_
    refine vt_get (D := D) (ci := 3) (v := .long (Rvalue)) (C := RX3) (T := TX3) (N := 11) hx hb hts (fun w h => wm_c (wc_X3 w h)) hown hE.1 hP 0 rfl rfl 9 (by decide) tX3_9 (hts (.fieldLink RX3 224 "WornLines$Reader" "value" "J") (wm_c hw_431)) (fun _ h9 => h9) rfl dX3_part_66 ?_
    refine lv_l2i (v := Rvalue.toInt32) hx hb dX3_part_69 rfl ?_
    refine lv_istore (lv' := [(4, .int (Rvalue.toInt32)), (0, .ref hr_), (1, .int (xn)), (2, .ref (ad l2)), (3, .int (l3))]) hx hb dX3_part_70 hl (by decide) rfl (fun ls hl => ?_)
    refine lv_aload_n hx hb dX3_part_72 rfl (lv_at hl 1 rfl) ?_
    refine kc_v (wc := (wW_X3_advance ak ad hr_ ra ht ta pg Rcoded Rtaken Rtoken Rplace Rvalue Rfault Tlen Tcnt Ttoks Tplc Tvals)) (wr := [((ra 1), .inl (ak 1, 6, .inr (.inl (Rcn)))), ((ra 2), .inl (ak 0, 1000, .inl (Rcode))), (pg, .inr (2, pob pa (Pst) (Pce) (Pgi) (Pln)))]) hP hD hS hA [0, 3, 4, 5, 6] [1, 2, 7] rfl rfl (by decide) (by decide) (va_runV (As := []) (rest := []) ⟨hx, hb, hml, hown, hts⟩ (c_X3_advance l D ak ad _ hr_ ra ht ta pg Rcoded Rtaken Rtoken Rplace Rvalue Rfault Tlen Tcnt Ttoks Tplc Tvals _ hw) (cwV 0 hts gX3_part_X3_advance rfl rfl rfl hv_X3_advance ⟨(Nat.le_trans (Nat.le_of_ble_eq_true rfl) hRf), (Nat.le_trans (Nat.le_of_ble_eq_true rfl) hRl)⟩) (kc_preV (As := []) (wc := (wW_X3_advance ak ad hr_ ra ht ta pg Rcoded Rtaken Rtoken Rplace Rvalue Rfault Tlen Tcnt Ttoks Tplc Tvals)) hE hT hP hD hS hA [0, 3, 4, 5, 6] (by decide) rfl rfl 0 3 rfl rfl rfl) rfl rfl hl.1 rfl (lv_room (Nat.le_of_ble_eq_true rfl)) dX3_part_73 ⟨hRc.1, hRc.2⟩) (fun u_8 H locs hw hP hD hS => ?_)
    obtain ⟨Rtaken_9, Rtoken_10, Rplace_11, Rvalue_12⟩ := u_8
    try dsimp -zeta only at hw
    have hP : va_P D vwCl (wW_X3_expression ak ad hr_ ra ht ta pg pa Rcoded Rtaken_9 Rtoken_10 Rplace_11 Rvalue_12 Rfault Rcn Rcode Tlen Tcnt Ttoks Tplc Tvals Pst Pce Pgi Pln) H := hP.sub [3, 0, 1, 4, 5, 6, 7, 2] rfl
    have hD : va_D A (wW_X3_expression ak ad hr_ ra ht ta pg pa Rcoded Rtaken_9 Rtoken_10 Rplace_11 Rvalue_12 Rfault Rcn Rcode Tlen Tcnt Ttoks Tplc Tvals Pst Pce Pgi Pln) := hD.sub [3, 0, 1, 4, 5, 6, 7, 2] (by decide) rfl
    refine lv_aload_n hx hb dX3_part_76 rfl (lv_at hl 3 rfl) ?_
    refine va_gets hx hb (hT.1 2 (by decide)).1 hS hown (hts (.fieldLink RX3 228 "WornLines$Token" "A_NUMBER" "LWornLines$Token;") (wm_c hw_419)) (fun _ h9 => h9) dX3_part_77 ?_
    obtain ⟨h_14, hw⟩ := hw
    refine W.eq (g2 := F0 m 80 ls (va_rf (some (ad 2)) :: va_rf (some (ad l2)) :: [])) rfl ?_
    refine lv_acmp_ne (tgt := 93) hx hb dX3_part_80 (by decide) (fun c_15 => ?_) (fun c_15 => ?_)
    · replace hw := hw.1 (fun h9 => c_15 (by rw [h9]))
      refine lv_aload_n hx hb dX3_part_93 rfl (lv_at hl 3 rfl) ?_
      refine va_gets hx hb (hT.1 3 (by decide)).1 hS hown (hts (.fieldLink RX3 217 "WornLines$Token" "A_NAME" "LWornLines$Token;") (wm_c hw_420)) (fun _ h9 => h9) dX3_part_94 ?_
      obtain ⟨h_16, hw⟩ := hw
      refine W.eq (g2 := F0 m 97 ls (va_rf (some (ad 3)) :: va_rf (some (ad l2)) :: [])) rfl ?_
      refine lv_acmp_ne (tgt := 109) hx hb dX3_part_97 (by decide) (fun c_17 => ?_) (fun c_17 => ?_)
      · replace hw := hw.1 (fun h9 => c_17 (by rw [h9]))
        refine lv_aload_n hx hb dX3_part_109 rfl (lv_at hl 3 rfl) ?_
        refine va_gets hx hb (hT.1 4 (by decide)).1 hS hown (hts (.fieldLink RX3 231 "WornLines$Token" "OPEN" "LWornLines$Token;") (wm_c hw_421)) (fun _ h9 => h9) dX3_part_110 ?_
        obtain ⟨h_18, hw⟩ := hw
        refine W.eq (g2 := F0 m 113 ls (va_rf (some (ad 4)) :: va_rf (some (ad l2)) :: [])) rfl ?_
        refine lv_acmp_ne (tgt := 134) hx hb dX3_part_113 (by decide) (fun c_19 => ?_) (fun c_19 => ?_)
        · replace hw := hw.1 (fun h9 => c_19 (by rw [h9]))
          refine lv_aload_n hx hb dX3_part_134 rfl (lv_at hl 1 rfl) ?_
          refine lv_iload_n hx hb dX3_part_135 rfl (lv_at hl 2 rfl) ?_
          refine lv_iconst (v := 1) hx hb dX3_part_136 (by decide) ?_
          refine lv_iadd hx hb dX3_part_137 ?_
          refine kc_v (wc := (wW_X3_expression ak ad hr_ ra ht ta pg pa Rcoded Rtaken_9 Rtoken_10 Rplace_11 Rvalue_12 Rfault Rcn Rcode Tlen Tcnt Ttoks Tplc Tvals Pst Pce Pgi Pln)) (wr := []) hP hD hS hA [0, 1, 2, 3, 4, 5, 6, 7] [] rfl rfl (by decide) (by decide) (va_runV (As := [.int (xn + 1)]) (rest := []) ⟨hx, hb, hml, hown, hts⟩ (hrp _ (xn + 1) Rcoded Rtaken_9 Rtoken_10 Rplace_11 Rvalue_12 Rfault Rcode _ hw) (cwV 1 hts gX3_part_X3_part rfl rfl rfl hv_X3_part ⟨hRn, (by show 8 + (5 + 11) + (60 * nn + 240) ≤ R.locals; omega)⟩) (kc_preV (As := [.int (xn + 1)]) (wc := (wW_X3_expression ak ad hr_ ra ht ta pg pa Rcoded Rtaken_9 Rtoken_10 Rplace_11 Rvalue_12 Rfault Rcn Rcode Tlen Tcnt Ttoks Tplc Tvals Pst Pce Pgi Pln)) hE hT hP hD hS hA [0, 1, 2, 3, 4, 5, 6, 7] (by decide) rfl rfl 0 3 rfl rfl rfl) rfl rfl hl.1 rfl (lv_room (Nat.le_of_ble_eq_true rfl)) dX3_part_138 ⟨hRc.1, hRc.2⟩) (fun u_20 H locs hw hP hD hS => ?_)
          obtain ⟨Rcoded_21, Rtaken_22, Rtoken_23, Rplace_24, Rvalue_25, Rfault_26, Rcode_27⟩ := u_20
          try dsimp -zeta only at hw
          have hP : va_P D vwCl (wW_X3_expression ak ad hr_ ra ht ta pg pa Rcoded_21 Rtaken_22 Rtoken_23 Rplace_24 Rvalue_25 Rfault_26 Rcn Rcode_27 Tlen Tcnt Ttoks Tplc Tvals Pst Pce Pgi Pln) H := hP.sub [0, 1, 2, 3, 4, 5, 6, 7] rfl
          have hD : va_D A (wW_X3_expression ak ad hr_ ra ht ta pg pa Rcoded_21 Rtaken_22 Rtoken_23 Rplace_24 Rvalue_25 Rfault_26 Rcn Rcode_27 Tlen Tcnt Ttoks Tplc Tvals Pst Pce Pgi Pln) := hD.sub [0, 1, 2, 3, 4, 5, 6, 7] (by decide) rfl
          refine lv_aload_n hx hb dX3_part_141 rfl (lv_at hl 1 rfl) ?_
          refine lv_aload_n hx hb dX3_part_142 rfl (lv_at hl 3 rfl) ?_
          refine va_gets hx hb (hT.1 27 (by decide)).1 hS hown (hts (.fieldLink RX3 237 "WornLines$Token" "WORN_WORD" "LWornLines$Token;") (wm_c hw_422)) (fun _ h9 => h9) dX3_part_143 ?_
          obtain ⟨h_29, hw⟩ := hw
          refine W.eq (g2 := F0 m 146 ls (va_rf (some (ad 27)) :: va_rf (some (ad l2)) :: .ref hr_ :: [])) rfl ?_
          refine lv_acmp_ne (tgt := 153) hx hb dX3_part_146 (by decide) (fun c_30 => ?_) (fun c_30 => ?_)
          · replace hw := hw.1 (fun h9 => c_30 (by rw [h9]))
            refine lv_iconst (v := 3) hx hb dX3_part_153 (by decide) ?_
            refine lv_iconst (v := 0) hx hb dX3_part_154 (by decide) ?_
            refine kc_v (wc := (wW_X3_put ak ad hr_ ra ht pg Rcoded_21 Rtaken_22 Rtoken_23 Rplace_24 Rvalue_25 Rfault_26 Rcode_27)) (wr := [((ra 1), .inl (ak 1, 6, .inr (.inl (Rcn)))), (ht, .inr (5, tob ta (Tlen) (Tcnt))), ((ta 1), .inl (ak 4, 1001, .inr (.inr (.inr (.inr (tokA ad (Ttoks))))))), ((ta 2), .inl (ak 0, 1001, .inl (Tplc))), ((ta 3), .inl (ak 1, 1001, .inr (.inl (Tvals)))), (pg, .inr (2, pob pa (Pst) (Pce) (Pgi) (Pln)))]) hP hD hS hA [0, 2] [1, 3, 4, 5, 6, 7] rfl rfl (by decide) (by decide) (va_runV (As := [.int (3), .int (0)]) (rest := []) ⟨hx, hb, hml, hown, hts⟩ (c_X3_put l D ak ad _ hr_ ra ht pg Rcoded_21 Rtaken_22 Rtoken_23 Rplace_24 Rvalue_25 Rfault_26 Rcode_27 3 0 _ hw) (cwV 2 hts gX3_part_X3_put rfl rfl rfl hv_X3_put ⟨(Nat.le_trans (Nat.le_of_ble_eq_true rfl) hRf), (Nat.le_trans (Nat.le_of_ble_eq_true rfl) hRl)⟩) (kc_preV (As := [.int (3), .int (0)]) (wc := (wW_X3_put ak ad hr_ ra ht pg Rcoded_21 Rtaken_22 Rtoken_23 Rplace_24 Rvalue_25 Rfault_26 Rcode_27)) hE hT hP hD hS hA [0, 2] (by decide) rfl rfl 0 3 rfl rfl rfl) rfl rfl hl.1 rfl (lv_room (Nat.le_of_ble_eq_true rfl)) dX3_part_155 ⟨hRc.1, hRc.2⟩) (fun u_31 H locs hw hP hD hS => ?_)
            obtain ⟨Rcoded_32, Rcode_33⟩ := u_31
            try dsimp -zeta only at hw
            have hP : va_P D vwCl (wW_X3_expression ak ad hr_ ra ht ta pg pa Rcoded_32 Rtaken_22 Rtoken_23 Rplace_24 Rvalue_25 Rfault_26 Rcn Rcode_33 Tlen Tcnt Ttoks Tplc Tvals Pst Pce Pgi Pln) H := hP.sub [6, 0, 7, 1, 2, 3, 4, 5] rfl
            have hD : va_D A (wW_X3_expression ak ad hr_ ra ht ta pg pa Rcoded_32 Rtaken_22 Rtoken_23 Rplace_24 Rvalue_25 Rfault_26 Rcn Rcode_33 Tlen Tcnt Ttoks Tplc Tvals Pst Pce Pgi Pln) := hD.sub [6, 0, 7, 1, 2, 3, 4, 5] (by decide) rfl
            exact kR158 Rcoded_32 Rtaken_22 Rtoken_23 Rplace_24 Rvalue_25 Rfault_26 Rcode_33 _ _ _ hw hP hD hS
          · replace hw := hw.2 (tok_inj hT h_29 (by decide) c_30)
            refine lv_iconst (v := 2) hx hb dX3_part_149 (by decide) ?_
            refine lv_goto (tgt := 154) hx hb dX3_part_150 (by decide) ?_
            refine lv_iconst (v := 0) hx hb dX3_part_154 (by decide) ?_
            refine kc_v (wc := (wW_X3_put ak ad hr_ ra ht pg Rcoded_21 Rtaken_22 Rtoken_23 Rplace_24 Rvalue_25 Rfault_26 Rcode_27)) (wr := [((ra 1), .inl (ak 1, 6, .inr (.inl (Rcn)))), (ht, .inr (5, tob ta (Tlen) (Tcnt))), ((ta 1), .inl (ak 4, 1001, .inr (.inr (.inr (.inr (tokA ad (Ttoks))))))), ((ta 2), .inl (ak 0, 1001, .inl (Tplc))), ((ta 3), .inl (ak 1, 1001, .inr (.inl (Tvals)))), (pg, .inr (2, pob pa (Pst) (Pce) (Pgi) (Pln)))]) hP hD hS hA [0, 2] [1, 3, 4, 5, 6, 7] rfl rfl (by decide) (by decide) (va_runV (As := [.int (2), .int (0)]) (rest := []) ⟨hx, hb, hml, hown, hts⟩ (c_X3_put l D ak ad _ hr_ ra ht pg Rcoded_21 Rtaken_22 Rtoken_23 Rplace_24 Rvalue_25 Rfault_26 Rcode_27 2 0 _ hw) (cwV 2 hts gX3_part_X3_put rfl rfl rfl hv_X3_put ⟨(Nat.le_trans (Nat.le_of_ble_eq_true rfl) hRf), (Nat.le_trans (Nat.le_of_ble_eq_true rfl) hRl)⟩) (kc_preV (As := [.int (2), .int (0)]) (wc := (wW_X3_put ak ad hr_ ra ht pg Rcoded_21 Rtaken_22 Rtoken_23 Rplace_24 Rvalue_25 Rfault_26 Rcode_27)) hE hT hP hD hS hA [0, 2] (by decide) rfl rfl 0 3 rfl rfl rfl) rfl rfl hl.1 rfl (lv_room (Nat.le_of_ble_eq_true rfl)) dX3_part_155 ⟨hRc.1, hRc.2⟩) (fun u_35 H locs hw hP hD hS => ?_)
            obtain ⟨Rcoded_36, Rcode_37⟩ := u_35
            try dsimp -zeta only at hw
            have hP : va_P D vwCl (wW_X3_expression ak ad hr_ ra ht ta pg pa Rcoded_36 Rtaken_22 Rtoken_23 Rplace_24 Rvalue_25 Rfault_26 Rcn Rcode_37 Tlen Tcnt Ttoks Tplc Tvals Pst Pce Pgi Pln) H := hP.sub [6, 0, 7, 1, 2, 3, 4, 5] rfl
            have hD : va_D A (wW_X3_expression ak ad hr_ ra ht ta pg pa Rcoded_36 Rtaken_22 Rtoken_23 Rplace_24 Rvalue_25 Rfault_26 Rcn Rcode_37 Tlen Tcnt Ttoks Tplc Tvals Pst Pce Pgi Pln) := hD.sub [6, 0, 7, 1, 2, 3, 4, 5] (by decide) rfl
            exact kR158 Rcoded_36 Rtaken_22 Rtoken_23 Rplace_24 Rvalue_25 Rfault_26 Rcode_37 _ _ _ hw hP hD hS
        · replace hw := hw.2 (tok_inj hT h_18 (by decide) c_19)
          refine lv_aload_n hx hb dX3_part_116 rfl (lv_at hl 1 rfl) ?_
          refine lv_iconst (v := 0) hx hb dX3_part_117 (by decide) ?_
          refine lv_iload_n hx hb dX3_part_118 rfl (lv_at hl 2 rfl) ?_
          refine lv_iconst (v := 1) hx hb dX3_part_119 (by decide) ?_
          refine lv_iadd hx hb dX3_part_120 ?_
          refine kc_v (wc := (wW_X3_expression ak ad hr_ ra ht ta pg pa Rcoded Rtaken_9 Rtoken_10 Rplace_11 Rvalue_12 Rfault Rcn Rcode Tlen Tcnt Ttoks Tplc Tvals Pst Pce Pgi Pln)) (wr := []) hP hD hS hA [0, 1, 2, 3, 4, 5, 6, 7] [] rfl rfl (by decide) (by decide) (va_runV (As := [.int (0), .int (xn + 1)]) (rest := []) ⟨hx, hb, hml, hown, hts⟩ (hrx _ 0 (xn + 1) Rcoded Rtaken_9 Rtoken_10 Rplace_11 Rvalue_12 Rfault Rcode _ hw) (cwV 2 hts gX3_part_X3_expression rfl rfl rfl hv_X3_expression ⟨hRn, (by show 8 + (6 + 11) + (60 * nn + 240) ≤ R.locals; omega)⟩) (kc_preV (As := [.int (0), .int (xn + 1)]) (wc := (wW_X3_expression ak ad hr_ ra ht ta pg pa Rcoded Rtaken_9 Rtoken_10 Rplace_11 Rvalue_12 Rfault Rcn Rcode Tlen Tcnt Ttoks Tplc Tvals Pst Pce Pgi Pln)) hE hT hP hD hS hA [0, 1, 2, 3, 4, 5, 6, 7] (by decide) rfl rfl 0 3 rfl rfl rfl) rfl rfl hl.1 rfl (lv_room (Nat.le_of_ble_eq_true rfl)) dX3_part_121 ⟨hRc.1, hRc.2⟩) (fun u_39 H locs hw hP hD hS => ?_)
          obtain ⟨Rcoded_40, Rtaken_41, Rtoken_42, Rplace_43, Rvalue_44, Rfault_45, Rcode_46⟩ := u_39
          try dsimp -zeta only at hw
          have hP : va_P D vwCl (wW_X3_expression ak ad hr_ ra ht ta pg pa Rcoded_40 Rtaken_41 Rtoken_42 Rplace_43 Rvalue_44 Rfault_45 Rcn Rcode_46 Tlen Tcnt Ttoks Tplc Tvals Pst Pce Pgi Pln) H := hP.sub [0, 1, 2, 3, 4, 5, 6, 7] rfl
          have hD : va_D A (wW_X3_expression ak ad hr_ ra ht ta pg pa Rcoded_40 Rtaken_41 Rtoken_42 Rplace_43 Rvalue_44 Rfault_45 Rcn Rcode_46 Tlen Tcnt Ttoks Tplc Tvals Pst Pce Pgi Pln) := hD.sub [0, 1, 2, 3, 4, 5, 6, 7] (by decide) rfl
          refine lv_aload_n hx hb dX3_part_124 rfl (lv_at hl 1 rfl) ?_
          refine va_gets hx hb (hT.1 5 (by decide)).1 hS hown (hts (.fieldLink RX3 234 "WornLines$Token" "CLOSE" "LWornLines$Token;") (wm_c hw_477)) (fun _ h9 => h9) dX3_part_125 ?_
          refine kc_v (wc := (wW_X3_expect ak ad hr_ ra ht ta pg Rcoded_40 Rtaken_41 Rtoken_42 Rplace_43 Rvalue_44 Rfault_45 Tlen Tcnt Ttoks Tplc Tvals)) (wr := [((ra 1), .inl (ak 1, 6, .inr (.inl (Rcn)))), ((ra 2), .inl (ak 0, 1000, .inl (Rcode_46))), (pg, .inr (2, pob pa (Pst) (Pce) (Pgi) (Pln)))]) hP hD hS hA [0, 3, 4, 5, 6] [1, 2, 7] rfl rfl (by decide) (by decide) (va_runV (As := [.ref (ad 5)]) (rest := []) ⟨hx, hb, hml, hown, hts⟩ (c_X3_expect l D ak ad _ hr_ ra ht ta pg Rcoded_40 Rtaken_41 Rtoken_42 Rplace_43 Rvalue_44 Rfault_45 Tlen Tcnt Ttoks Tplc Tvals 5 _ hw) (cwV 1 hts gX3_part_X3_expect rfl rfl rfl hv_X3_expect ⟨(Nat.le_trans (Nat.le_of_ble_eq_true rfl) hRf), (Nat.le_trans (Nat.le_of_ble_eq_true rfl) hRl)⟩) (kc_preV (As := [.ref (ad 5)]) (wc := (wW_X3_expect ak ad hr_ ra ht ta pg Rcoded_40 Rtaken_41 Rtoken_42 Rplace_43 Rvalue_44 Rfault_45 Tlen Tcnt Ttoks Tplc Tvals)) hE hT hP hD hS hA [0, 3, 4, 5, 6] (by decide) rfl rfl 0 3 rfl rfl rfl) rfl rfl hl.1 rfl (lv_room (Nat.le_of_ble_eq_true rfl)) dX3_part_128 ⟨hRc.1, hRc.2⟩) (fun u_48 H locs hw hP hD hS => ?_)
          obtain ⟨Rtaken_49, Rtoken_50, Rplace_51, Rvalue_52, Rfault_53⟩ := u_48
          try dsimp -zeta only at hw
          have hP : va_P D vwCl (wW_X3_expression ak ad hr_ ra ht ta pg pa Rcoded_40 Rtaken_49 Rtoken_50 Rplace_51 Rvalue_52 Rfault_53 Rcn Rcode_46 Tlen Tcnt Ttoks Tplc Tvals Pst Pce Pgi Pln) H := hP.sub [3, 0, 1, 4, 5, 6, 7, 2] rfl
          have hD : va_D A (wW_X3_expression ak ad hr_ ra ht ta pg pa Rcoded_40 Rtaken_49 Rtoken_50 Rplace_51 Rvalue_52 Rfault_53 Rcn Rcode_46 Tlen Tcnt Ttoks Tplc Tvals Pst Pce Pgi Pln) := hD.sub [3, 0, 1, 4, 5, 6, 7, 2] (by decide) rfl
          refine lv_goto (tgt := 158) hx hb dX3_part_131 (by decide) ?_
          exact kR158 Rcoded_40 Rtaken_49 Rtoken_50 Rplace_51 Rvalue_52 Rfault_53 Rcode_46 _ _ _ hw hP hD hS
      · replace hw := hw.2 (tok_inj hT h_16 (by decide) c_17)
        refine lv_aload_n hx hb dX3_part_100 rfl (lv_at hl 1 rfl) ?_
        refine lv_iconst (v := 1) hx hb dX3_part_101 (by decide) ?_
        refine lv_iload_n hx hb dX3_part_102 rfl (lv_at hl 4 rfl) ?_
        refine kc_v (wc := (wW_X3_put ak ad hr_ ra ht pg Rcoded Rtaken_9 Rtoken_10 Rplace_11 Rvalue_12 Rfault Rcode)) (wr := [((ra 1), .inl (ak 1, 6, .inr (.inl (Rcn)))), (ht, .inr (5, tob ta (Tlen) (Tcnt))), ((ta 1), .inl (ak 4, 1001, .inr (.inr (.inr (.inr (tokA ad (Ttoks))))))), ((ta 2), .inl (ak 0, 1001, .inl (Tplc))), ((ta 3), .inl (ak 1, 1001, .inr (.inl (Tvals)))), (pg, .inr (2, pob pa (Pst) (Pce) (Pgi) (Pln)))]) hP hD hS hA [0, 2] [1, 3, 4, 5, 6, 7] rfl rfl (by decide) (by decide) (va_runV (As := [.int (1), .int (l3)]) (rest := []) ⟨hx, hb, hml, hown, hts⟩ (c_X3_put l D ak ad _ hr_ ra ht pg Rcoded Rtaken_9 Rtoken_10 Rplace_11 Rvalue_12 Rfault Rcode 1 l3 _ hw) (cwV 2 hts gX3_part_X3_put rfl rfl rfl hv_X3_put ⟨(Nat.le_trans (Nat.le_of_ble_eq_true rfl) hRf), (Nat.le_trans (Nat.le_of_ble_eq_true rfl) hRl)⟩) (kc_preV (As := [.int (1), .int (l3)]) (wc := (wW_X3_put ak ad hr_ ra ht pg Rcoded Rtaken_9 Rtoken_10 Rplace_11 Rvalue_12 Rfault Rcode)) hE hT hP hD hS hA [0, 2] (by decide) rfl rfl 0 3 rfl rfl rfl) rfl rfl hl.1 rfl (lv_room (Nat.le_of_ble_eq_true rfl)) dX3_part_103 ⟨hRc.1, hRc.2⟩) (fun u_55 H locs hw hP hD hS => ?_)
        obtain ⟨Rcoded_56, Rcode_57⟩ := u_55
        try dsimp -zeta only at hw
        have hP : va_P D vwCl (wW_X3_expression ak ad hr_ ra ht ta pg pa Rcoded_56 Rtaken_9 Rtoken_10 Rplace_11 Rvalue_12 Rfault Rcn Rcode_57 Tlen Tcnt Ttoks Tplc Tvals Pst Pce Pgi Pln) H := hP.sub [6, 0, 7, 1, 2, 3, 4, 5] rfl
        have hD : va_D A (wW_X3_expression ak ad hr_ ra ht ta pg pa Rcoded_56 Rtaken_9 Rtoken_10 Rplace_11 Rvalue_12 Rfault Rcn Rcode_57 Tlen Tcnt Ttoks Tplc Tvals Pst Pce Pgi Pln) := hD.sub [6, 0, 7, 1, 2, 3, 4, 5] (by decide) rfl
        refine lv_goto (tgt := 158) hx hb dX3_part_106 (by decide) ?_
        exact kR158 Rcoded_56 Rtaken_9 Rtoken_10 Rplace_11 Rvalue_12 Rfault Rcode_57 _ _ _ hw hP hD hS
    · replace hw := hw.2 (tok_inj hT h_14 (by decide) c_15)
      refine lv_aload_n hx hb dX3_part_83 rfl (lv_at hl 1 rfl) ?_
      refine lv_iconst (v := 0) hx hb dX3_part_84 (by decide) ?_
      refine lv_iload hx hb dX3_part_85 (lv_at hl 0 rfl) ?_
      refine kc_v (wc := (wW_X3_put ak ad hr_ ra ht pg Rcoded Rtaken_9 Rtoken_10 Rplace_11 Rvalue_12 Rfault Rcode)) (wr := [((ra 1), .inl (ak 1, 6, .inr (.inl (Rcn)))), (ht, .inr (5, tob ta (Tlen) (Tcnt))), ((ta 1), .inl (ak 4, 1001, .inr (.inr (.inr (.inr (tokA ad (Ttoks))))))), ((ta 2), .inl (ak 0, 1001, .inl (Tplc))), ((ta 3), .inl (ak 1, 1001, .inr (.inl (Tvals)))), (pg, .inr (2, pob pa (Pst) (Pce) (Pgi) (Pln)))]) hP hD hS hA [0, 2] [1, 3, 4, 5, 6, 7] rfl rfl (by decide) (by decide) (va_runV (As := [.int (0), .int (Rvalue.toInt32)]) (rest := []) ⟨hx, hb, hml, hown, hts⟩ (c_X3_put l D ak ad _ hr_ ra ht pg Rcoded Rtaken_9 Rtoken_10 Rplace_11 Rvalue_12 Rfault Rcode 0 Rvalue.toInt32 _ hw) (cwV 2 hts gX3_part_X3_put rfl rfl rfl hv_X3_put ⟨(Nat.le_trans (Nat.le_of_ble_eq_true rfl) hRf), (Nat.le_trans (Nat.le_of_ble_eq_true rfl) hRl)⟩) (kc_preV (As := [.int (0), .int (Rvalue.toInt32)]) (wc := (wW_X3_put ak ad hr_ ra ht pg Rcoded Rtaken_9 Rtoken_10 Rplace_11 Rvalue_12 Rfault Rcode)) hE hT hP hD hS hA [0, 2] (by decide) rfl rfl 0 3 rfl rfl rfl) rfl rfl hl.1 rfl (lv_room (Nat.le_of_ble_eq_true rfl)) dX3_part_87 ⟨hRc.1, hRc.2⟩) (fun u_59 H locs hw hP hD hS => ?_)
      obtain ⟨Rcoded_60, Rcode_61⟩ := u_59
      try dsimp -zeta only at hw
      have hP : va_P D vwCl (wW_X3_expression ak ad hr_ ra ht ta pg pa Rcoded_60 Rtaken_9 Rtoken_10 Rplace_11 Rvalue_12 Rfault Rcn Rcode_61 Tlen Tcnt Ttoks Tplc Tvals Pst Pce Pgi Pln) H := hP.sub [6, 0, 7, 1, 2, 3, 4, 5] rfl
      have hD : va_D A (wW_X3_expression ak ad hr_ ra ht ta pg pa Rcoded_60 Rtaken_9 Rtoken_10 Rplace_11 Rvalue_12 Rfault Rcn Rcode_61 Tlen Tcnt Ttoks Tplc Tvals Pst Pce Pgi Pln) := hD.sub [6, 0, 7, 1, 2, 3, 4, 5] (by decide) rfl
      refine lv_goto (tgt := 158) hx hb dX3_part_90 (by decide) ?_
      exact kR158 Rcoded_60 Rtaken_9 Rtoken_10 Rplace_11 Rvalue_12 Rfault Rcode_61 _ _ _ hw hP hD hS
  · replace hw := hw.2 c_7
    exact kR64 Rcoded Rtaken Rtoken Rplace Rvalue Rfault Rcode _ _ _ hw hP hD hS

def kf_X3_part_31 (Rcn : Nat → Int64) (Tcnt : Int32) (Ttoks : Nat → Nat) (Tplc : Nat → Int32) (Tvals : Nat → Int64) (Pce : Int32) (rx : Int32 → Int32 → Int32 → Int32 → Nat → Int32 → Int64 → Int32 → (Nat → Int32) → (Int32 → Int32 → Nat → Int32 → Int64 → Int32 → (Nat → Int32) → Prop) → Prop) (rp : Int32 → Int32 → Int32 → Nat → Int32 → Int64 → Int32 → (Nat → Int32) → (Int32 → Int32 → Nat → Int32 → Int64 → Int32 → (Nat → Int32) → Prop) → Prop) (xn : Int32)  (Φ : Int32 → Int32 → Nat → Int32 → Int64 → Int32 → (Nat → Int32) → Prop) (Rcoded : Int32) (Rtaken : Int32) (Rtoken : Nat) (Rplace : Int32) (Rvalue : Int64) (Rfault : Int32) (Rcode : Nat → Int32) (l2 : Nat) (s0 : Int32) : Prop := wp_X3_beginsPart l2 (fun r_4 => (¬ r_4 = 0 → (xn < 5 → kf_X3_part_57 Rcn Tcnt Ttoks Tplc Tvals Pce rx rp xn  Φ Rcoded Rtaken Rtoken Rplace Rvalue Rfault Rcode l2 s0) ∧ (¬ xn < 5 → wp_X3_fail Rplace 5 Rfault (fun Rfault_64 => kf_X3_part_57 Rcn Tcnt Ttoks Tplc Tvals Pce rx rp xn  Φ Rcoded Rtaken Rtoken Rplace Rvalue Rfault_64 Rcode l2 s0))) ∧ (r_4 = 0 → wp_X3_fail Rplace 1 Rfault (fun Rfault_67 => kf_X3_part_57 Rcn Tcnt Ttoks Tplc Tvals Pce rx rp xn  Φ Rcoded Rtaken Rtoken Rplace Rvalue Rfault_67 Rcode l2 s0)))
set_option maxHeartbeats 4000000 in
set_option maxRecDepth 100000 in
theorem kj_X3_part_31 {p : Program} {l : Launch} {e : Env} {R : Room} {s : State} {m : MethodId} {args : Array Value} {below : List Frame} {meth : Method} {c : Code} {cells slots : Nat} {Q : State → Prop} {A : Nat → Prop} {D : va_G} {ak : Nat → ClassId} {ad : Nat → Nat} (hx : p.tables.exec = Jvm.exec) (hb : c.code = cX3_part) (hown : s.vm.findClass RX3 = some m.cls) (hts : ∀ w ∈ wsX3_part, w.before args s = true) (hml : c.maxLocals = 5) (hE : EV D ak s) (hT : ST D ak ad A s s.heap) (hA : ∀ q, s.heap.size ≤ q → A q) (hRf : 2 ≤ R.frames) (hRl : 46 ≤ R.locals) (hRc : cells ≤ R.cells ∧ slots ≤ R.slots) (hr_ : Nat) (ra : Nat → Nat) (ht : Nat) (ta : Nat → Nat) (pg : Nat) (pa : Nat → Nat) (Rcn : Nat → Int64) (Tlen : Int32) (Tcnt : Int32) (Ttoks : Nat → Nat) (Tplc : Nat → Int32) (Tvals : Nat → Int64) (Pst : Int32) (Pce : Int32) (Pgi : Int32) (Pln : Int32) (xn : Int32) (rx : Int32 → Int32 → Int32 → Int32 → Nat → Int32 → Int64 → Int32 → (Nat → Int32) → (Int32 → Int32 → Nat → Int32 → Int64 → Int32 → (Nat → Int32) → Prop) → Prop) (rp : Int32 → Int32 → Int32 → Nat → Int32 → Int64 → Int32 → (Nat → Int32) → (Int32 → Int32 → Nat → Int32 → Int64 → Int32 → (Nat → Int32) → Prop) → Prop) (nn : Nat) (hrx : ∀ (sz : Nat) (xl : Int32) (xn : Int32) (Rcoded : Int32) (Rtaken : Int32) (Rtoken : Nat) (Rplace : Int32) (Rvalue : Int64) (Rfault : Int32) (Rcode : Nat → Int32) (Φ : Int32 → Int32 → Nat → Int32 → Int64 → Int32 → (Nat → Int32) → Prop), rx xl xn Rcoded Rtaken Rtoken Rplace Rvalue Rfault Rcode Φ → Met l yX3_expression wsX3_expression ({ frames := nn + 4, cells := 0, slots := 0, locals := 60 * nn + 240 }) (cPre D ak ad [.ref hr_, .int (xl), .int (xn)] ((wW_X3_expression ak ad hr_ ra ht ta pg pa Rcoded Rtaken Rtoken Rplace Rvalue Rfault Rcn Rcode Tlen Tcnt Ttoks Tplc Tvals Pst Pce Pgi Pln)) sz) (cV D (S := (Int32) × (Int32) × (Nat) × (Int32) × (Int64) × (Int32) × (Nat → Int32)) (fun (u : (Int32) × (Int32) × (Nat) × (Int32) × (Int64) × (Int32) × (Nat → Int32)) => Φ u.1 u.2.1 u.2.2.1 u.2.2.2.1 u.2.2.2.2.1 u.2.2.2.2.2.1 u.2.2.2.2.2.2) (fun u => (wW_X3_expression ak ad hr_ ra ht ta pg pa u.1 u.2.1 u.2.2.1 u.2.2.2.1 u.2.2.2.2.1 u.2.2.2.2.2.1 Rcn u.2.2.2.2.2.2 Tlen Tcnt Ttoks Tplc Tvals Pst Pce Pgi Pln)) ((wW_X3_expression ak ad hr_ ra ht ta pg pa Rcoded Rtaken Rtoken Rplace Rvalue Rfault Rcn Rcode Tlen Tcnt Ttoks Tplc Tvals Pst Pce Pgi Pln)) sz) 0 0 (va_A ((wW_X3_expression ak ad hr_ ra ht ta pg pa Rcoded Rtaken Rtoken Rplace Rvalue Rfault Rcn Rcode Tlen Tcnt Ttoks Tplc Tvals Pst Pce Pgi Pln)) sz)) (hrp : ∀ (sz : Nat) (xn : Int32) (Rcoded : Int32) (Rtaken : Int32) (Rtoken : Nat) (Rplace : Int32) (Rvalue : Int64) (Rfault : Int32) (Rcode : Nat → Int32) (Φ : Int32 → Int32 → Nat → Int32 → Int64 → Int32 → (Nat → Int32) → Prop), rp xn Rcoded Rtaken Rtoken Rplace Rvalue Rfault Rcode Φ → Met l yX3_part wsX3_part ({ frames := nn + 4, cells := 0, slots := 0, locals := 60 * nn + 240 }) (cPre D ak ad [.ref hr_, .int (xn)] ((wW_X3_expression ak ad hr_ ra ht ta pg pa Rcoded Rtaken Rtoken Rplace Rvalue Rfault Rcn Rcode Tlen Tcnt Ttoks Tplc Tvals Pst Pce Pgi Pln)) sz) (cV D (S := (Int32) × (Int32) × (Nat) × (Int32) × (Int64) × (Int32) × (Nat → Int32)) (fun (u : (Int32) × (Int32) × (Nat) × (Int32) × (Int64) × (Int32) × (Nat → Int32)) => Φ u.1 u.2.1 u.2.2.1 u.2.2.2.1 u.2.2.2.2.1 u.2.2.2.2.2.1 u.2.2.2.2.2.2) (fun u => (wW_X3_expression ak ad hr_ ra ht ta pg pa u.1 u.2.1 u.2.2.1 u.2.2.2.1 u.2.2.2.2.1 u.2.2.2.2.2.1 Rcn u.2.2.2.2.2.2 Tlen Tcnt Ttoks Tplc Tvals Pst Pce Pgi Pln)) ((wW_X3_expression ak ad hr_ ra ht ta pg pa Rcoded Rtaken Rtoken Rplace Rvalue Rfault Rcn Rcode Tlen Tcnt Ttoks Tplc Tvals Pst Pce Pgi Pln)) sz) 0 0 (va_A ((wW_X3_expression ak ad hr_ ra ht ta pg pa Rcoded Rtaken Rtoken Rplace Rvalue Rfault Rcn Rcode Tlen Tcnt Ttoks Tplc Tvals Pst Pce Pgi Pln)) sz)) (hRn : nn + 5 ≤ R.frames) (hRm : 60 * nn + 300 ≤ R.locals)  (Φ : Int32 → Int32 → Nat → Int32 → Int64 → Int32 → (Nat → Int32) → Prop)
    (kR64 : ∀ (Rcoded : Int32) (Rtaken : Int32) (Rtoken : Nat) (Rplace : Int32) (Rvalue : Int64) (Rfault : Int32) (Rcode : Nat → Int32) (H : Heap) (locs : List Loc) (ls : Array Slot), Φ Rcoded Rtaken Rtoken Rplace Rvalue Rfault Rcode → va_P D vwCl (wW_X3_expression ak ad hr_ ra ht ta pg pa Rcoded Rtaken Rtoken Rplace Rvalue Rfault Rcn Rcode Tlen Tcnt Ttoks Tplc Tvals Pst Pce Pgi Pln) H → va_D A (wW_X3_expression ak ad hr_ ra ht ta pg pa Rcoded Rtaken Rtoken Rplace Rvalue Rfault Rcn Rcode Tlen Tcnt Ttoks Tplc Tvals Pst Pce Pgi Pln) → va_S A s.heap H locs → W p l e R s m args below meth c H locs cells slots Q (F0 m 64 ls []))
    (kR158 : ∀ (Rcoded : Int32) (Rtaken : Int32) (Rtoken : Nat) (Rplace : Int32) (Rvalue : Int64) (Rfault : Int32) (Rcode : Nat → Int32) (H : Heap) (locs : List Loc) (ls : Array Slot), Φ Rcoded Rtaken Rtoken Rplace Rvalue Rfault Rcode → va_P D vwCl (wW_X3_expression ak ad hr_ ra ht ta pg pa Rcoded Rtaken Rtoken Rplace Rvalue Rfault Rcn Rcode Tlen Tcnt Ttoks Tplc Tvals Pst Pce Pgi Pln) H → va_D A (wW_X3_expression ak ad hr_ ra ht ta pg pa Rcoded Rtaken Rtoken Rplace Rvalue Rfault Rcn Rcode Tlen Tcnt Ttoks Tplc Tvals Pst Pce Pgi Pln) → va_S A s.heap H locs → W p l e R s m args below meth c H locs cells slots Q (F0 m 158 ls []))
    : ∀ (Rcoded : Int32) (Rtaken : Int32) (Rtoken : Nat) (Rplace : Int32) (Rvalue : Int64) (Rfault : Int32) (Rcode : Nat → Int32) (l2 : Nat) (s0 : Int32) (H : Heap) (locs : List Loc) (ls : Array Slot), kf_X3_part_31 Rcn Tcnt Ttoks Tplc Tvals Pce rx rp xn  Φ Rcoded Rtaken Rtoken Rplace Rvalue Rfault Rcode l2 s0 → va_P D vwCl (wW_X3_expression ak ad hr_ ra ht ta pg pa Rcoded Rtaken Rtoken Rplace Rvalue Rfault Rcn Rcode Tlen Tcnt Ttoks Tplc Tvals Pst Pce Pgi Pln) H → va_D A (wW_X3_expression ak ad hr_ ra ht ta pg pa Rcoded Rtaken Rtoken Rplace Rvalue Rfault Rcn Rcode Tlen Tcnt Ttoks Tplc Tvals Pst Pce Pgi Pln) → va_S A s.heap H locs → lv_has ls 5 [(0, .ref hr_), (1, .int (xn)), (2, .ref (ad l2))] → W p l e R s m args below meth c H locs cells slots Q (F0 m 31 ls (.int (s0) :: [])) := by
  intro Rcoded Rtaken Rtoken Rplace Rvalue Rfault Rcode l2 s0 H locs ls hw hP hD hS hl
  delta kf_X3_part_31 at hw
  refine lv_istore_n (lv' := [(3, .int (s0)), (0, .ref hr_), (1, .int (xn)), (2, .ref (ad l2))]) hx hb dX3_part_31 rfl hl (by decide) rfl (fun ls hl => ?_)
  refine lv_aload_n hx hb dX3_part_32 rfl (lv_at hl 3 rfl) ?_
  refine kc_i (wc := []) (wr := [(hr_, .inr (3, rob ad ra (ht) (Rcoded) (pg) (Rtaken) (Rtoken) (Rplace) (Rvalue) (Rfault))), ((ra 1), .inl (ak 1, 6, .inr (.inl (Rcn)))), ((ra 2), .inl (ak 0, 1000, .inl (Rcode))), (ht, .inr (5, tob ta (Tlen) (Tcnt))), ((ta 1), .inl (ak 4, 1001, .inr (.inr (.inr (.inr (tokA ad (Ttoks))))))), ((ta 2), .inl (ak 0, 1001, .inl (Tplc))), ((ta 3), .inl (ak 1, 1001, .inr (.inl (Tvals)))), (pg, .inr (2, pob pa (Pst) (Pce) (Pgi) (Pln)))]) hP hD hS hA [] [0, 1, 2, 3, 4, 5, 6, 7] rfl rfl (by decide) (by decide) (va_runS (As := [.ref (ad l2)]) (rest := []) ⟨hx, hb, hml, hown, hts⟩ (c_X3_beginsPart l D ak ad _ l2 _ hw) (va_cwS 1 hts gX3_part_X3_beginsPart rfl rfl rfl hz_X3_beginsPart ⟨(Nat.le_trans (Nat.le_of_ble_eq_true rfl) hRf), (Nat.le_trans (Nat.le_of_ble_eq_true rfl) hRl)⟩) (kc_pre (As := [.ref (ad l2)]) (wc := []) hE hT hP hD hS hA [] (by decide) rfl rfl) rfl rfl hl.1 rfl (lv_room (Nat.le_of_ble_eq_true rfl)) dX3_part_33 ⟨hRc.1, hRc.2⟩) (fun r_4 u_3 H locs hw hP hD hS => ?_)
  try dsimp -zeta only at hw
  have hP : va_P D vwCl (wW_X3_expression ak ad hr_ ra ht ta pg pa Rcoded Rtaken Rtoken Rplace Rvalue Rfault Rcn Rcode Tlen Tcnt Ttoks Tplc Tvals Pst Pce Pgi Pln) H := hP.sub [0, 1, 2, 3, 4, 5, 6, 7] rfl
  have hD : va_D A (wW_X3_expression ak ad hr_ ra ht ta pg pa Rcoded Rtaken Rtoken Rplace Rvalue Rfault Rcn Rcode Tlen Tcnt Ttoks Tplc Tvals Pst Pce Pgi Pln) := hD.sub [0, 1, 2, 3, 4, 5, 6, 7] (by decide) rfl
  refine lv_if_ne (tgt := 47) hx hb dX3_part_36 (by decide) (fun c_5 => ?_) (fun c_5 => ?_)
  · replace hw := hw.1 c_5
    refine lv_iload_n hx hb dX3_part_47 rfl (lv_at hl 2 rfl) ?_
    refine lv_iconst (v := 5) hx hb dX3_part_48 (by decide) ?_
    refine lv_icmp_lt (tgt := 57) hx hb dX3_part_49 (by decide) (fun c_6 => ?_) (fun c_6 => ?_)
    · replace hw := hw.1 c_6
      exact kj_X3_part_57 hx hb hown hts hml hE hT hA hRf hRl hRc hr_ ra ht ta pg pa Rcn Tlen Tcnt Ttoks Tplc Tvals Pst Pce Pgi Pln xn rx rp nn hrx hrp hRn hRm  Φ  kR64 kR158 Rcoded Rtaken Rtoken Rplace Rvalue Rfault Rcode l2 s0 _ _ _ hw hP hD hS (lv_sub hl [1, 2, 3, 0] rfl)
    · replace hw := hw.2 c_6
      refine lv_aload_n hx hb dX3_part_52 rfl (lv_at hl 1 rfl) ?_
      refine lv_iconst (v := 5) hx hb dX3_part_53 (by decide) ?_
      refine kc_v (wc := (wW_X3_fail ak ad hr_ ra ht pg Rcoded Rtaken Rtoken Rplace Rvalue Rfault)) (wr := [((ra 1), .inl (ak 1, 6, .inr (.inl (Rcn)))), ((ra 2), .inl (ak 0, 1000, .inl (Rcode))), (ht, .inr (5, tob ta (Tlen) (Tcnt))), ((ta 1), .inl (ak 4, 1001, .inr (.inr (.inr (.inr (tokA ad (Ttoks))))))), ((ta 2), .inl (ak 0, 1001, .inl (Tplc))), ((ta 3), .inl (ak 1, 1001, .inr (.inl (Tvals)))), (pg, .inr (2, pob pa (Pst) (Pce) (Pgi) (Pln)))]) hP hD hS hA [0] [1, 2, 3, 4, 5, 6, 7] rfl rfl (by decide) (by decide) (va_runV (As := [.int (5)]) (rest := []) ⟨hx, hb, hml, hown, hts⟩ (c_X3_fail l D ak ad _ hr_ ra ht pg Rcoded Rtaken Rtoken Rplace Rvalue Rfault 5 _ hw) (cwV 1 hts gX3_part_X3_fail rfl rfl rfl hv_X3_fail ⟨(Nat.le_trans (Nat.le_of_ble_eq_true rfl) hRf), (Nat.le_trans (Nat.le_of_ble_eq_true rfl) hRl)⟩) (kc_preV (As := [.int (5)]) (wc := (wW_X3_fail ak ad hr_ ra ht pg Rcoded Rtaken Rtoken Rplace Rvalue Rfault)) hE hT hP hD hS hA [0] (by decide) rfl rfl 0 3 rfl rfl rfl) rfl rfl hl.1 rfl (lv_room (Nat.le_of_ble_eq_true rfl)) dX3_part_54 ⟨hRc.1, hRc.2⟩) (fun Rfault_64 H locs hw hP hD hS => ?_)
      try dsimp -zeta only at hw
      have hP : va_P D vwCl (wW_X3_expression ak ad hr_ ra ht ta pg pa Rcoded Rtaken Rtoken Rplace Rvalue Rfault_64 Rcn Rcode Tlen Tcnt Ttoks Tplc Tvals Pst Pce Pgi Pln) H := hP.sub [7, 0, 1, 2, 3, 4, 5, 6] rfl
      have hD : va_D A (wW_X3_expression ak ad hr_ ra ht ta pg pa Rcoded Rtaken Rtoken Rplace Rvalue Rfault_64 Rcn Rcode Tlen Tcnt Ttoks Tplc Tvals Pst Pce Pgi Pln) := hD.sub [7, 0, 1, 2, 3, 4, 5, 6] (by decide) rfl
      exact kj_X3_part_57 hx hb hown hts hml hE hT hA hRf hRl hRc hr_ ra ht ta pg pa Rcn Tlen Tcnt Ttoks Tplc Tvals Pst Pce Pgi Pln xn rx rp nn hrx hrp hRn hRm  Φ  kR64 kR158 Rcoded Rtaken Rtoken Rplace Rvalue Rfault_64 Rcode l2 s0 _ _ _ hw hP hD hS (lv_sub hl [1, 2, 3, 0] rfl)
  · replace hw := hw.2 c_5
    refine lv_aload_n hx hb dX3_part_39 rfl (lv_at hl 1 rfl) ?_
    refine lv_iconst (v := 1) hx hb dX3_part_40 (by decide) ?_
    refine kc_v (wc := (wW_X3_fail ak ad hr_ ra ht pg Rcoded Rtaken Rtoken Rplace Rvalue Rfault)) (wr := [((ra 1), .inl (ak 1, 6, .inr (.inl (Rcn)))), ((ra 2), .inl (ak 0, 1000, .inl (Rcode))), (ht, .inr (5, tob ta (Tlen) (Tcnt))), ((ta 1), .inl (ak 4, 1001, .inr (.inr (.inr (.inr (tokA ad (Ttoks))))))), ((ta 2), .inl (ak 0, 1001, .inl (Tplc))), ((ta 3), .inl (ak 1, 1001, .inr (.inl (Tvals)))), (pg, .inr (2, pob pa (Pst) (Pce) (Pgi) (Pln)))]) hP hD hS hA [0] [1, 2, 3, 4, 5, 6, 7] rfl rfl (by decide) (by decide) (va_runV (As := [.int (1)]) (rest := []) ⟨hx, hb, hml, hown, hts⟩ (c_X3_fail l D ak ad _ hr_ ra ht pg Rcoded Rtaken Rtoken Rplace Rvalue Rfault 1 _ hw) (cwV 1 hts gX3_part_X3_fail rfl rfl rfl hv_X3_fail ⟨(Nat.le_trans (Nat.le_of_ble_eq_true rfl) hRf), (Nat.le_trans (Nat.le_of_ble_eq_true rfl) hRl)⟩) (kc_preV (As := [.int (1)]) (wc := (wW_X3_fail ak ad hr_ ra ht pg Rcoded Rtaken Rtoken Rplace Rvalue Rfault)) hE hT hP hD hS hA [0] (by decide) rfl rfl 0 3 rfl rfl rfl) rfl rfl hl.1 rfl (lv_room (Nat.le_of_ble_eq_true rfl)) dX3_part_41 ⟨hRc.1, hRc.2⟩) (fun Rfault_67 H locs hw hP hD hS => ?_)
    try dsimp -zeta only at hw
    have hP : va_P D vwCl (wW_X3_expression ak ad hr_ ra ht ta pg pa Rcoded Rtaken Rtoken Rplace Rvalue Rfault_67 Rcn Rcode Tlen Tcnt Ttoks Tplc Tvals Pst Pce Pgi Pln) H := hP.sub [7, 0, 1, 2, 3, 4, 5, 6] rfl
    have hD : va_D A (wW_X3_expression ak ad hr_ ra ht ta pg pa Rcoded Rtaken Rtoken Rplace Rvalue Rfault_67 Rcn Rcode Tlen Tcnt Ttoks Tplc Tvals Pst Pce Pgi Pln) := hD.sub [7, 0, 1, 2, 3, 4, 5, 6] (by decide) rfl
    refine lv_goto (tgt := 57) hx hb dX3_part_44 (by decide) ?_
    exact kj_X3_part_57 hx hb hown hts hml hE hT hA hRf hRl hRc hr_ ra ht ta pg pa Rcn Tlen Tcnt Ttoks Tplc Tvals Pst Pce Pgi Pln xn rx rp nn hrx hrp hRn hRm  Φ  kR64 kR158 Rcoded Rtaken Rtoken Rplace Rvalue Rfault_67 Rcode l2 s0 _ _ _ hw hP hD hS (lv_sub hl [1, 2, 3, 0] rfl)

def wp_X3_part (Rcn : Nat → Int64) (Tcnt : Int32) (Ttoks : Nat → Nat) (Tplc : Nat → Int32) (Tvals : Nat → Int64) (Pce : Int32) (rx : Int32 → Int32 → Int32 → Int32 → Nat → Int32 → Int64 → Int32 → (Nat → Int32) → (Int32 → Int32 → Nat → Int32 → Int64 → Int32 → (Nat → Int32) → Prop) → Prop) (rp : Int32 → Int32 → Int32 → Nat → Int32 → Int64 → Int32 → (Nat → Int32) → (Int32 → Int32 → Nat → Int32 → Int64 → Int32 → (Nat → Int32) → Prop) → Prop) (xn : Int32) (Rcoded : Int32) (Rtaken : Int32) (Rtoken : Nat) (Rplace : Int32) (Rvalue : Int64) (Rfault : Int32) (Rcode : Nat → Int32) (Φ : Int32 → Int32 → Nat → Int32 → Int64 → Int32 → (Nat → Int32) → Prop) : Prop := Rtoken < 31 ∧ (¬ Rtoken = 3 → kf_X3_part_31 Rcn Tcnt Ttoks Tplc Tvals Pce rx rp xn  Φ Rcoded Rtaken Rtoken Rplace Rvalue Rfault Rcode Rtoken 0) ∧ (Rtoken = 3 → wp_X3_toldHere Rtoken Rplace Rvalue Rcn 6 Pce Rfault (fun r_71 Rfault_70 => kf_X3_part_31 Rcn Tcnt Ttoks Tplc Tvals Pce rx rp xn  Φ Rcoded Rtaken Rtoken Rplace Rvalue Rfault_70 Rcode Rtoken r_71))
set_option maxHeartbeats 4000000 in
set_option maxRecDepth 100000 in
theorem kj_X3_part_e {p : Program} {l : Launch} {e : Env} {R : Room} {s : State} {m : MethodId} {args : Array Value} {below : List Frame} {meth : Method} {c : Code} {cells slots : Nat} {Q : State → Prop} {A : Nat → Prop} {D : va_G} {ak : Nat → ClassId} {ad : Nat → Nat} (hx : p.tables.exec = Jvm.exec) (hb : c.code = cX3_part) (hown : s.vm.findClass RX3 = some m.cls) (hts : ∀ w ∈ wsX3_part, w.before args s = true) (hml : c.maxLocals = 5) (hE : EV D ak s) (hT : ST D ak ad A s s.heap) (hA : ∀ q, s.heap.size ≤ q → A q) (hRf : 2 ≤ R.frames) (hRl : 46 ≤ R.locals) (hRc : cells ≤ R.cells ∧ slots ≤ R.slots) (hr_ : Nat) (ra : Nat → Nat) (ht : Nat) (ta : Nat → Nat) (pg : Nat) (pa : Nat → Nat) (Rcn : Nat → Int64) (Tlen : Int32) (Tcnt : Int32) (Ttoks : Nat → Nat) (Tplc : Nat → Int32) (Tvals : Nat → Int64) (Pst : Int32) (Pce : Int32) (Pgi : Int32) (Pln : Int32) (xn : Int32) (rx : Int32 → Int32 → Int32 → Int32 → Nat → Int32 → Int64 → Int32 → (Nat → Int32) → (Int32 → Int32 → Nat → Int32 → Int64 → Int32 → (Nat → Int32) → Prop) → Prop) (rp : Int32 → Int32 → Int32 → Nat → Int32 → Int64 → Int32 → (Nat → Int32) → (Int32 → Int32 → Nat → Int32 → Int64 → Int32 → (Nat → Int32) → Prop) → Prop) (nn : Nat) (hrx : ∀ (sz : Nat) (xl : Int32) (xn : Int32) (Rcoded : Int32) (Rtaken : Int32) (Rtoken : Nat) (Rplace : Int32) (Rvalue : Int64) (Rfault : Int32) (Rcode : Nat → Int32) (Φ : Int32 → Int32 → Nat → Int32 → Int64 → Int32 → (Nat → Int32) → Prop), rx xl xn Rcoded Rtaken Rtoken Rplace Rvalue Rfault Rcode Φ → Met l yX3_expression wsX3_expression ({ frames := nn + 4, cells := 0, slots := 0, locals := 60 * nn + 240 }) (cPre D ak ad [.ref hr_, .int (xl), .int (xn)] ((wW_X3_expression ak ad hr_ ra ht ta pg pa Rcoded Rtaken Rtoken Rplace Rvalue Rfault Rcn Rcode Tlen Tcnt Ttoks Tplc Tvals Pst Pce Pgi Pln)) sz) (cV D (S := (Int32) × (Int32) × (Nat) × (Int32) × (Int64) × (Int32) × (Nat → Int32)) (fun (u : (Int32) × (Int32) × (Nat) × (Int32) × (Int64) × (Int32) × (Nat → Int32)) => Φ u.1 u.2.1 u.2.2.1 u.2.2.2.1 u.2.2.2.2.1 u.2.2.2.2.2.1 u.2.2.2.2.2.2) (fun u => (wW_X3_expression ak ad hr_ ra ht ta pg pa u.1 u.2.1 u.2.2.1 u.2.2.2.1 u.2.2.2.2.1 u.2.2.2.2.2.1 Rcn u.2.2.2.2.2.2 Tlen Tcnt Ttoks Tplc Tvals Pst Pce Pgi Pln)) ((wW_X3_expression ak ad hr_ ra ht ta pg pa Rcoded Rtaken Rtoken Rplace Rvalue Rfault Rcn Rcode Tlen Tcnt Ttoks Tplc Tvals Pst Pce Pgi Pln)) sz) 0 0 (va_A ((wW_X3_expression ak ad hr_ ra ht ta pg pa Rcoded Rtaken Rtoken Rplace Rvalue Rfault Rcn Rcode Tlen Tcnt Ttoks Tplc Tvals Pst Pce Pgi Pln)) sz)) (hrp : ∀ (sz : Nat) (xn : Int32) (Rcoded : Int32) (Rtaken : Int32) (Rtoken : Nat) (Rplace : Int32) (Rvalue : Int64) (Rfault : Int32) (Rcode : Nat → Int32) (Φ : Int32 → Int32 → Nat → Int32 → Int64 → Int32 → (Nat → Int32) → Prop), rp xn Rcoded Rtaken Rtoken Rplace Rvalue Rfault Rcode Φ → Met l yX3_part wsX3_part ({ frames := nn + 4, cells := 0, slots := 0, locals := 60 * nn + 240 }) (cPre D ak ad [.ref hr_, .int (xn)] ((wW_X3_expression ak ad hr_ ra ht ta pg pa Rcoded Rtaken Rtoken Rplace Rvalue Rfault Rcn Rcode Tlen Tcnt Ttoks Tplc Tvals Pst Pce Pgi Pln)) sz) (cV D (S := (Int32) × (Int32) × (Nat) × (Int32) × (Int64) × (Int32) × (Nat → Int32)) (fun (u : (Int32) × (Int32) × (Nat) × (Int32) × (Int64) × (Int32) × (Nat → Int32)) => Φ u.1 u.2.1 u.2.2.1 u.2.2.2.1 u.2.2.2.2.1 u.2.2.2.2.2.1 u.2.2.2.2.2.2) (fun u => (wW_X3_expression ak ad hr_ ra ht ta pg pa u.1 u.2.1 u.2.2.1 u.2.2.2.1 u.2.2.2.2.1 u.2.2.2.2.2.1 Rcn u.2.2.2.2.2.2 Tlen Tcnt Ttoks Tplc Tvals Pst Pce Pgi Pln)) ((wW_X3_expression ak ad hr_ ra ht ta pg pa Rcoded Rtaken Rtoken Rplace Rvalue Rfault Rcn Rcode Tlen Tcnt Ttoks Tplc Tvals Pst Pce Pgi Pln)) sz) 0 0 (va_A ((wW_X3_expression ak ad hr_ ra ht ta pg pa Rcoded Rtaken Rtoken Rplace Rvalue Rfault Rcn Rcode Tlen Tcnt Ttoks Tplc Tvals Pst Pce Pgi Pln)) sz)) (hRn : nn + 5 ≤ R.frames) (hRm : 60 * nn + 300 ≤ R.locals)  (Φ : Int32 → Int32 → Nat → Int32 → Int64 → Int32 → (Nat → Int32) → Prop)
    (kR64 : ∀ (Rcoded : Int32) (Rtaken : Int32) (Rtoken : Nat) (Rplace : Int32) (Rvalue : Int64) (Rfault : Int32) (Rcode : Nat → Int32) (H : Heap) (locs : List Loc) (ls : Array Slot), Φ Rcoded Rtaken Rtoken Rplace Rvalue Rfault Rcode → va_P D vwCl (wW_X3_expression ak ad hr_ ra ht ta pg pa Rcoded Rtaken Rtoken Rplace Rvalue Rfault Rcn Rcode Tlen Tcnt Ttoks Tplc Tvals Pst Pce Pgi Pln) H → va_D A (wW_X3_expression ak ad hr_ ra ht ta pg pa Rcoded Rtaken Rtoken Rplace Rvalue Rfault Rcn Rcode Tlen Tcnt Ttoks Tplc Tvals Pst Pce Pgi Pln) → va_S A s.heap H locs → W p l e R s m args below meth c H locs cells slots Q (F0 m 64 ls []))
    (kR158 : ∀ (Rcoded : Int32) (Rtaken : Int32) (Rtoken : Nat) (Rplace : Int32) (Rvalue : Int64) (Rfault : Int32) (Rcode : Nat → Int32) (H : Heap) (locs : List Loc) (ls : Array Slot), Φ Rcoded Rtaken Rtoken Rplace Rvalue Rfault Rcode → va_P D vwCl (wW_X3_expression ak ad hr_ ra ht ta pg pa Rcoded Rtaken Rtoken Rplace Rvalue Rfault Rcn Rcode Tlen Tcnt Ttoks Tplc Tvals Pst Pce Pgi Pln) H → va_D A (wW_X3_expression ak ad hr_ ra ht ta pg pa Rcoded Rtaken Rtoken Rplace Rvalue Rfault Rcn Rcode Tlen Tcnt Ttoks Tplc Tvals Pst Pce Pgi Pln) → va_S A s.heap H locs → W p l e R s m args below meth c H locs cells slots Q (F0 m 158 ls []))
    : ∀ (Rcoded : Int32) (Rtaken : Int32) (Rtoken : Nat) (Rplace : Int32) (Rvalue : Int64) (Rfault : Int32) (Rcode : Nat → Int32) (H : Heap) (locs : List Loc) (ls : Array Slot), wp_X3_part Rcn Tcnt Ttoks Tplc Tvals Pce rx rp xn Rcoded Rtaken Rtoken Rplace Rvalue Rfault Rcode Φ → va_P D vwCl (wW_X3_expression ak ad hr_ ra ht ta pg pa Rcoded Rtaken Rtoken Rplace Rvalue Rfault Rcn Rcode Tlen Tcnt Ttoks Tplc Tvals Pst Pce Pgi Pln) H → va_D A (wW_X3_expression ak ad hr_ ra ht ta pg pa Rcoded Rtaken Rtoken Rplace Rvalue Rfault Rcn Rcode Tlen Tcnt Ttoks Tplc Tvals Pst Pce Pgi Pln) → va_S A s.heap H locs → lv_has ls 5 [(0, .ref hr_), (1, .int (xn))] → W p l e R s m args below meth c H locs cells slots Q (F0 m 0 ls ([])) := by
  intro Rcoded Rtaken Rtoken Rplace Rvalue Rfault Rcode H locs ls hw hP hD hS hl
  delta wp_X3_part at hw
  refine lv_aload_n hx hb dX3_part_0 rfl (lv_at hl 0 rfl) ?_
  refine vt_get (D := D) (ci := 3) (v := .ref (ad Rtoken)) (C := RX3) (T := TX3) (N := 11) hx hb hts (fun w h => wm_c (wc_X3 w h)) hown hE.1 hP 0 rfl rfl 7 (by decide) tX3_7 (hts (.fieldLink RX3 28 "WornLines$Reader" "token" "LWornLines$Token;") (wm_c hw_290)) (fun _ h9 => h9) rfl dX3_part_1 ?_
  refine lv_astore_n (lv' := [(2, .ref (ad Rtoken)), (0, .ref hr_), (1, .int (xn))]) hx hb dX3_part_4 rfl hl (by decide) rfl (fun ls hl => ?_)
  refine lv_aload_n hx hb dX3_part_5 rfl (lv_at hl 0 rfl) ?_
  refine va_gets hx hb (hT.1 3 (by decide)).1 hS hown (hts (.fieldLink RX3 217 "WornLines$Token" "A_NAME" "LWornLines$Token;") (wm_c hw_420)) (fun _ h9 => h9) dX3_part_6 ?_
  obtain ⟨h_1, hw⟩ := hw
  refine W.eq (g2 := F0 m 9 ls (va_rf (some (ad 3)) :: va_rf (some (ad Rtoken)) :: [])) rfl ?_
  refine lv_acmp_ne (tgt := 30) hx hb dX3_part_9 (by decide) (fun c_2 => ?_) (fun c_2 => ?_)
  · replace hw := hw.1 (fun h9 => c_2 (by rw [h9]))
    refine lv_iconst (v := 0) hx hb dX3_part_30 (by decide) ?_
    exact kj_X3_part_31 hx hb hown hts hml hE hT hA hRf hRl hRc hr_ ra ht ta pg pa Rcn Tlen Tcnt Ttoks Tplc Tvals Pst Pce Pgi Pln xn rx rp nn hrx hrp hRn hRm  Φ  kR64 kR158 Rcoded Rtaken Rtoken Rplace Rvalue Rfault Rcode Rtoken 0 _ _ _ hw hP hD hS (lv_sub hl [1, 2, 0] rfl)
  · replace hw := hw.2 (tok_inj hT h_1 (by decide) c_2)
    refine lv_aload_n hx hb dX3_part_12 rfl (lv_at hl 1 rfl) ?_
    refine lv_aload_n hx hb dX3_part_13 rfl (lv_at hl 1 rfl) ?_
    refine vt_get (D := D) (ci := 3) (v := .ref (ra 1)) (C := RX3) (T := TX3) (N := 11) hx hb hts (fun w h => wm_c (wc_X3 w h)) hown hE.1 hP 0 rfl rfl 2 (by decide) tX3_2 (hts (.fieldLink RX3 15 "WornLines$Reader" "cellNames" "[J") (wm_c hw_287)) (fun _ h9 => h9) rfl dX3_part_14 ?_
    refine lv_aload_n hx hb dX3_part_17 rfl (lv_at hl 1 rfl) ?_
    refine vt_get (D := D) (ci := 3) (v := .ref pg) (C := RX3) (T := TX3) (N := 11) hx hb hts (fun w h => wm_c (wc_X3 w h)) hown hE.1 hP 0 rfl rfl 5 (by decide) tX3_5 (hts (.fieldLink RX3 35 "WornLines$Reader" "told" "LWornLines$Programme;") (wm_c hw_292)) (fun _ h9 => h9) rfl dX3_part_18 ?_
    refine vt_get (D := D) (ci := 2) (v := .int (Pce)) (C := RX2) (T := TX2) (N := 17) hx hb hts (fun w h => wm_c (wc_X2 w h)) hown hE.1 hP 7 rfl rfl 3 (by decide) tX2_3 (hts (.fieldLink RX3 128 "WornLines$Programme" "cells" "I") (wm_c hw_434)) (fun _ h9 => h9) rfl dX3_part_21 ?_
    refine kc_i (wc := (wW_X3_toldHere ak ad hr_ ra ht pg (ra 1) 6 Rcoded Rtaken Rtoken Rplace Rvalue Rfault Rcn)) (wr := [((ra 2), .inl (ak 0, 1000, .inl (Rcode))), (ht, .inr (5, tob ta (Tlen) (Tcnt))), ((ta 1), .inl (ak 4, 1001, .inr (.inr (.inr (.inr (tokA ad (Ttoks))))))), ((ta 2), .inl (ak 0, 1001, .inl (Tplc))), ((ta 3), .inl (ak 1, 1001, .inr (.inl (Tvals)))), (pg, .inr (2, pob pa (Pst) (Pce) (Pgi) (Pln)))]) hP hD hS hA [0, 1] [2, 3, 4, 5, 6, 7] rfl rfl (by decide) (by decide) (va_runV (As := [.ref (ra 1), .int (Pce)]) (rest := []) ⟨hx, hb, hml, hown, hts⟩ (c_X3_toldHere l D ak ad _ hr_ ra ht pg (ra 1) 6 Rcoded Rtaken Rtoken Rplace Rvalue Rfault Rcn Pce _ hw) (cwV 2 hts gX3_part_X3_toldHere rfl rfl rfl hv_X3_toldHere ⟨(Nat.le_trans (Nat.le_of_ble_eq_true rfl) hRf), (Nat.le_trans (Nat.le_of_ble_eq_true rfl) hRl)⟩) (kc_preV (As := [.ref (ra 1), .int (Pce)]) (wc := (wW_X3_toldHere ak ad hr_ ra ht pg (ra 1) 6 Rcoded Rtaken Rtoken Rplace Rvalue Rfault Rcn)) hE hT hP hD hS hA [0, 1] (by decide) rfl rfl 0 3 rfl rfl rfl) rfl rfl hl.1 rfl (lv_room (Nat.le_of_ble_eq_true rfl)) dX3_part_24 ⟨hRc.1, hRc.2⟩) (fun r_71 Rfault_70 H locs hw hP hD hS => ?_)
    try dsimp -zeta only at hw
    have hP : va_P D vwCl (wW_X3_expression ak ad hr_ ra ht ta pg pa Rcoded Rtaken Rtoken Rplace Rvalue Rfault_70 Rcn Rcode Tlen Tcnt Ttoks Tplc Tvals Pst Pce Pgi Pln) H := hP.sub [6, 7, 0, 1, 2, 3, 4, 5] rfl
    have hD : va_D A (wW_X3_expression ak ad hr_ ra ht ta pg pa Rcoded Rtaken Rtoken Rplace Rvalue Rfault_70 Rcn Rcode Tlen Tcnt Ttoks Tplc Tvals Pst Pce Pgi Pln) := hD.sub [6, 7, 0, 1, 2, 3, 4, 5] (by decide) rfl
    refine lv_goto (tgt := 31) hx hb dX3_part_27 (by decide) ?_
    exact kj_X3_part_31 hx hb hown hts hml hE hT hA hRf hRl hRc hr_ ra ht ta pg pa Rcn Tlen Tcnt Ttoks Tplc Tvals Pst Pce Pgi Pln xn rx rp nn hrx hrp hRn hRm  Φ  kR64 kR158 Rcoded Rtaken Rtoken Rplace Rvalue Rfault_70 Rcode Rtoken r_71 _ _ _ hw hP hD hS (lv_sub hl [1, 2, 0] rfl)

def ep_X3_expression (Rcn : Nat → Int64) (Tcnt : Int32) (Ttoks : Nat → Nat) (Tplc : Nat → Int32) (Tvals : Nat → Int64) (Pce : Int32) : Nat → (Int32 → Int32 → Int32 → Int32 → Nat → Int32 → Int64 → Int32 → (Nat → Int32) → (Int32 → Int32 → Nat → Int32 → Int64 → Int32 → (Nat → Int32) → Prop) → Prop) × (Int32 → Int32 → Int32 → Nat → Int32 → Int64 → Int32 → (Nat → Int32) → (Int32 → Int32 → Nat → Int32 → Int64 → Int32 → (Nat → Int32) → Prop) → Prop)
  | 0 => (fun xl xn Rcoded Rtaken Rtoken Rplace Rvalue Rfault Rcode Φ => False, fun xn Rcoded Rtaken Rtoken Rplace Rvalue Rfault Rcode Φ => False)
  | n_ + 1 => (fun xl xn Rcoded Rtaken Rtoken Rplace Rvalue Rfault Rcode Φ => wp_X3_expression Rcn Tcnt Ttoks Tplc Tvals Pce (ep_X3_expression Rcn Tcnt Ttoks Tplc Tvals Pce n_).1 (ep_X3_expression Rcn Tcnt Ttoks Tplc Tvals Pce n_).2 xl xn Rcoded Rtaken Rtoken Rplace Rvalue Rfault Rcode Φ, fun xn Rcoded Rtaken Rtoken Rplace Rvalue Rfault Rcode Φ => wp_X3_part Rcn Tcnt Ttoks Tplc Tvals Pce (ep_X3_expression Rcn Tcnt Ttoks Tplc Tvals Pce n_).1 (ep_X3_expression Rcn Tcnt Ttoks Tplc Tvals Pce n_).2 xn Rcoded Rtaken Rtoken Rplace Rvalue Rfault Rcode Φ)

set_option maxHeartbeats 4000000 in
set_option maxRecDepth 100000 in
theorem c_ep_X3_expression (l : Launch) (D : va_G) (ak : Nat → ClassId) (ad : Nat → Nat) (hr_ : Nat) (ra : Nat → Nat) (ht : Nat) (ta : Nat → Nat) (pg : Nat) (pa : Nat → Nat) (Rcn : Nat → Int64) (Tlen : Int32) (Tcnt : Int32) (Ttoks : Nat → Nat) (Tplc : Nat → Int32) (Tvals : Nat → Int64) (Pst : Int32) (Pce : Int32) (Pgi : Int32) (Pln : Int32) : ∀ (nn : Nat), (∀ (sz : Nat) (xl : Int32) (xn : Int32) (Rcoded : Int32) (Rtaken : Int32) (Rtoken : Nat) (Rplace : Int32) (Rvalue : Int64) (Rfault : Int32) (Rcode : Nat → Int32) (Φ : Int32 → Int32 → Nat → Int32 → Int64 → Int32 → (Nat → Int32) → Prop), (ep_X3_expression Rcn Tcnt Ttoks Tplc Tvals Pce nn).1 xl xn Rcoded Rtaken Rtoken Rplace Rvalue Rfault Rcode Φ → Met l yX3_expression wsX3_expression ({ frames := nn + 4, cells := 0, slots := 0, locals := 60 * nn + 240 }) (cPre D ak ad [.ref hr_, .int (xl), .int (xn)] ((wW_X3_expression ak ad hr_ ra ht ta pg pa Rcoded Rtaken Rtoken Rplace Rvalue Rfault Rcn Rcode Tlen Tcnt Ttoks Tplc Tvals Pst Pce Pgi Pln)) sz) (cV D (S := (Int32) × (Int32) × (Nat) × (Int32) × (Int64) × (Int32) × (Nat → Int32)) (fun (u : (Int32) × (Int32) × (Nat) × (Int32) × (Int64) × (Int32) × (Nat → Int32)) => Φ u.1 u.2.1 u.2.2.1 u.2.2.2.1 u.2.2.2.2.1 u.2.2.2.2.2.1 u.2.2.2.2.2.2) (fun u => (wW_X3_expression ak ad hr_ ra ht ta pg pa u.1 u.2.1 u.2.2.1 u.2.2.2.1 u.2.2.2.2.1 u.2.2.2.2.2.1 Rcn u.2.2.2.2.2.2 Tlen Tcnt Ttoks Tplc Tvals Pst Pce Pgi Pln)) ((wW_X3_expression ak ad hr_ ra ht ta pg pa Rcoded Rtaken Rtoken Rplace Rvalue Rfault Rcn Rcode Tlen Tcnt Ttoks Tplc Tvals Pst Pce Pgi Pln)) sz) 0 0 (va_A ((wW_X3_expression ak ad hr_ ra ht ta pg pa Rcoded Rtaken Rtoken Rplace Rvalue Rfault Rcn Rcode Tlen Tcnt Ttoks Tplc Tvals Pst Pce Pgi Pln)) sz)) ∧ (∀ (sz : Nat) (xn : Int32) (Rcoded : Int32) (Rtaken : Int32) (Rtoken : Nat) (Rplace : Int32) (Rvalue : Int64) (Rfault : Int32) (Rcode : Nat → Int32) (Φ : Int32 → Int32 → Nat → Int32 → Int64 → Int32 → (Nat → Int32) → Prop), (ep_X3_expression Rcn Tcnt Ttoks Tplc Tvals Pce nn).2 xn Rcoded Rtaken Rtoken Rplace Rvalue Rfault Rcode Φ → Met l yX3_part wsX3_part ({ frames := nn + 4, cells := 0, slots := 0, locals := 60 * nn + 240 }) (cPre D ak ad [.ref hr_, .int (xn)] ((wW_X3_expression ak ad hr_ ra ht ta pg pa Rcoded Rtaken Rtoken Rplace Rvalue Rfault Rcn Rcode Tlen Tcnt Ttoks Tplc Tvals Pst Pce Pgi Pln)) sz) (cV D (S := (Int32) × (Int32) × (Nat) × (Int32) × (Int64) × (Int32) × (Nat → Int32)) (fun (u : (Int32) × (Int32) × (Nat) × (Int32) × (Int64) × (Int32) × (Nat → Int32)) => Φ u.1 u.2.1 u.2.2.1 u.2.2.2.1 u.2.2.2.2.1 u.2.2.2.2.2.1 u.2.2.2.2.2.2) (fun u => (wW_X3_expression ak ad hr_ ra ht ta pg pa u.1 u.2.1 u.2.2.1 u.2.2.2.1 u.2.2.2.2.1 u.2.2.2.2.2.1 Rcn u.2.2.2.2.2.2 Tlen Tcnt Ttoks Tplc Tvals Pst Pce Pgi Pln)) ((wW_X3_expression ak ad hr_ ra ht ta pg pa Rcoded Rtaken Rtoken Rplace Rvalue Rfault Rcn Rcode Tlen Tcnt Ttoks Tplc Tvals Pst Pce Pgi Pln)) sz) 0 0 (va_A ((wW_X3_expression ak ad hr_ ra ht ta pg pa Rcoded Rtaken Rtoken Rplace Rvalue Rfault Rcn Rcode Tlen Tcnt Ttoks Tplc Tvals Pst Pce Pgi Pln)) sz)) := by
  intro nn
  induction nn with
  | zero => exact ⟨fun _ _ _ _ _ _ _ _ _ _ _ h => h.elim, fun _ _ _ _ _ _ _ _ _ _ h => h.elim⟩
  | succ nn ih =>
    obtain ⟨hrx, hrp⟩ := ih
    constructor
    · intro sz xl xn Rcoded Rtaken Rtoken Rplace Rvalue Rfault Rcode Φ hf
      refine Met.ofW (cc := cX3_expression) (maxL := 6) (ret := none) (by decide) rfl ?_
      intro p e s m args below meth c s₁ B hml hv
      obtain ⟨rfl, hsz, hP, hE, hD0, hT⟩ := hv
      have hx := B.exec
      have hb := B.bytes
      have hr := B.returns
      have hts := atoms_spec (ws := wsX3_expression) B.pre
      have hown : s.vm.findClass RX3 = some m.cls := findClass_of_methodNamed B.named
      have hlocks := B.notSynchronized
      subst hsz
      have hD := hD0.self (sz := s.heap.size)
      generalize hAe : va_A ((wW_X3_expression ak ad hr_ ra ht ta pg pa Rcoded Rtaken Rtoken Rplace Rvalue Rfault Rcn Rcode Tlen Tcnt Ttoks Tplc Tvals Pst Pce Pgi Pln)) s.heap.size = A at hD hT ⊢
      have hA : ∀ q : Nat, s.heap.size ≤ q → A q := fun q h => by rw [← hAe]; exact Or.inr h
      have hS : va_S A s.heap s.heap [] := va_S.rf
      have hl := lv_entry ([.ref hr_, .int (xl), .int (xn)]) (n := 6) (Nat.le_of_ble_eq_true rfl)
      rw [lg_entry_eq]
      generalize (lg_sl ([.ref hr_, .int (xl), .int (xn)]) ++ List.replicate (6 - (lg_sl ([.ref hr_, .int (xl), .int (xn)])).length) Slot.unset).toArray = ls at hl ⊢
      have hl : lv_has ls 6 [(0, .ref hr_), (1, .int (xl)), (2, .int (xn))] := hl
      exact kj_X3_expression_e hx hb hown hts hml hE hT hA (by show 1 ≤ nn + 1 + 4; omega) (by show 22 ≤ 60 * (nn + 1) + 240; omega) ⟨Nat.le_of_ble_eq_true rfl, Nat.le_of_ble_eq_true rfl⟩ hr_ ra ht ta pg pa Rcn Tlen Tcnt Ttoks Tplc Tvals Pst Pce Pgi Pln xl xn (ep_X3_expression Rcn Tcnt Ttoks Tplc Tvals Pce nn).1 (ep_X3_expression Rcn Tcnt Ttoks Tplc Tvals Pce nn).2 nn hrx hrp (by show nn + 5 ≤ nn + 1 + 4; omega) (by show 60 * nn + 300 ≤ 60 * (nn + 1) + 240; omega) Φ (fun Rcoded Rtaken Rtoken Rplace Rvalue Rfault Rcode H locs ls hw hP hD hS => W.vret hx hb hr (fun t ht hW => ⟨⟨(Rcoded, Rtaken, Rtoken, Rplace, Rvalue, Rfault, Rcode), rfl, hw, by rw [ht]; exact hP, by rw [hAe]; exact hD⟩, by rw [hAe]; exact hS.F ht⟩) hS.2.2 dX3_expression_10) (fun Rcoded Rtaken Rtoken Rplace Rvalue Rfault Rcode H locs ls hw hP hD hS => W.vret hx hb hr (fun t ht hW => ⟨⟨(Rcoded, Rtaken, Rtoken, Rplace, Rvalue, Rfault, Rcode), rfl, hw, by rw [ht]; exact hP, by rw [hAe]; exact hD⟩, by rw [hAe]; exact hS.F ht⟩) hS.2.2 dX3_expression_93) Rcoded Rtaken Rtoken Rplace Rvalue Rfault Rcode _ _ _ hf hP hD hS hl
    · intro sz xn Rcoded Rtaken Rtoken Rplace Rvalue Rfault Rcode Φ hf
      refine Met.ofW (cc := cX3_part) (maxL := 5) (ret := none) (by decide) rfl ?_
      intro p e s m args below meth c s₁ B hml hv
      obtain ⟨rfl, hsz, hP, hE, hD0, hT⟩ := hv
      have hx := B.exec
      have hb := B.bytes
      have hr := B.returns
      have hts := atoms_spec (ws := wsX3_part) B.pre
      have hown : s.vm.findClass RX3 = some m.cls := findClass_of_methodNamed B.named
      have hlocks := B.notSynchronized
      subst hsz
      have hD := hD0.self (sz := s.heap.size)
      generalize hAe : va_A ((wW_X3_expression ak ad hr_ ra ht ta pg pa Rcoded Rtaken Rtoken Rplace Rvalue Rfault Rcn Rcode Tlen Tcnt Ttoks Tplc Tvals Pst Pce Pgi Pln)) s.heap.size = A at hD hT ⊢
      have hA : ∀ q : Nat, s.heap.size ≤ q → A q := fun q h => by rw [← hAe]; exact Or.inr h
      have hS : va_S A s.heap s.heap [] := va_S.rf
      have hl := lv_entry ([.ref hr_, .int (xn)]) (n := 5) (Nat.le_of_ble_eq_true rfl)
      rw [lg_entry_eq]
      generalize (lg_sl ([.ref hr_, .int (xn)]) ++ List.replicate (5 - (lg_sl ([.ref hr_, .int (xn)])).length) Slot.unset).toArray = ls at hl ⊢
      have hl : lv_has ls 5 [(0, .ref hr_), (1, .int (xn))] := hl
      exact kj_X3_part_e hx hb hown hts hml hE hT hA (by show 2 ≤ nn + 1 + 4; omega) (by show 46 ≤ 60 * (nn + 1) + 240; omega) ⟨Nat.le_of_ble_eq_true rfl, Nat.le_of_ble_eq_true rfl⟩ hr_ ra ht ta pg pa Rcn Tlen Tcnt Ttoks Tplc Tvals Pst Pce Pgi Pln xn (ep_X3_expression Rcn Tcnt Ttoks Tplc Tvals Pce nn).1 (ep_X3_expression Rcn Tcnt Ttoks Tplc Tvals Pce nn).2 nn hrx hrp (by show nn + 5 ≤ nn + 1 + 4; omega) (by show 60 * nn + 300 ≤ 60 * (nn + 1) + 240; omega) Φ (fun Rcoded Rtaken Rtoken Rplace Rvalue Rfault Rcode H locs ls hw hP hD hS => W.vret hx hb hr (fun t ht hW => ⟨⟨(Rcoded, Rtaken, Rtoken, Rplace, Rvalue, Rfault, Rcode), rfl, hw, by rw [ht]; exact hP, by rw [hAe]; exact hD⟩, by rw [hAe]; exact hS.F ht⟩) hS.2.2 dX3_part_64) (fun Rcoded Rtaken Rtoken Rplace Rvalue Rfault Rcode H locs ls hw hP hD hS => W.vret hx hb hr (fun t ht hW => ⟨⟨(Rcoded, Rtaken, Rtoken, Rplace, Rvalue, Rfault, Rcode), rfl, hw, by rw [ht]; exact hP, by rw [hAe]; exact hD⟩, by rw [hAe]; exact hS.F ht⟩) hS.2.2 dX3_part_158) Rcoded Rtaken Rtoken Rplace Rvalue Rfault Rcode _ _ _ hf hP hD hS hl

def wp_X3_expressionF (Rcn : Nat → Int64) (Tcnt : Int32) (Ttoks : Nat → Nat) (Tplc : Nat → Int32) (Tvals : Nat → Int64) (Pce : Int32) (xl : Int32) (xn : Int32) (Rcoded : Int32) (Rtaken : Int32) (Rtoken : Nat) (Rplace : Int32) (Rvalue : Int64) (Rfault : Int32) (Rcode : Nat → Int32) (Φ : Int32 → Int32 → Nat → Int32 → Int64 → Int32 → (Nat → Int32) → Prop) : Prop := (ep_X3_expression Rcn Tcnt Ttoks Tplc Tvals Pce 40).1 xl xn Rcoded Rtaken Rtoken Rplace Rvalue Rfault Rcode Φ

theorem c_X3_expressionF (l : Launch) (D : va_G) (ak : Nat → ClassId) (ad : Nat → Nat) (sz : Nat) (hr_ : Nat) (ra : Nat → Nat) (ht : Nat) (ta : Nat → Nat) (pg : Nat) (pa : Nat → Nat) (Rcoded : Int32) (Rtaken : Int32) (Rtoken : Nat) (Rplace : Int32) (Rvalue : Int64) (Rfault : Int32) (Rcn : Nat → Int64) (Rcode : Nat → Int32) (Tlen : Int32) (Tcnt : Int32) (Ttoks : Nat → Nat) (Tplc : Nat → Int32) (Tvals : Nat → Int64) (Pst : Int32) (Pce : Int32) (Pgi : Int32) (Pln : Int32) (xl : Int32) (xn : Int32) (Φ : Int32 → Int32 → Nat → Int32 → Int64 → Int32 → (Nat → Int32) → Prop) (hf : wp_X3_expressionF Rcn Tcnt Ttoks Tplc Tvals Pce xl xn Rcoded Rtaken Rtoken Rplace Rvalue Rfault Rcode Φ) : Met l yX3_expression wsX3_expression ({ frames := 40 + 4, cells := 0, slots := 0, locals := 60 * 40 + 240 }) (cPre D ak ad [.ref hr_, .int (xl), .int (xn)] ((wW_X3_expression ak ad hr_ ra ht ta pg pa Rcoded Rtaken Rtoken Rplace Rvalue Rfault Rcn Rcode Tlen Tcnt Ttoks Tplc Tvals Pst Pce Pgi Pln)) sz) (cV D (S := (Int32) × (Int32) × (Nat) × (Int32) × (Int64) × (Int32) × (Nat → Int32)) (fun (u : (Int32) × (Int32) × (Nat) × (Int32) × (Int64) × (Int32) × (Nat → Int32)) => Φ u.1 u.2.1 u.2.2.1 u.2.2.2.1 u.2.2.2.2.1 u.2.2.2.2.2.1 u.2.2.2.2.2.2) (fun u => (wW_X3_expression ak ad hr_ ra ht ta pg pa u.1 u.2.1 u.2.2.1 u.2.2.2.1 u.2.2.2.2.1 u.2.2.2.2.2.1 Rcn u.2.2.2.2.2.2 Tlen Tcnt Ttoks Tplc Tvals Pst Pce Pgi Pln)) ((wW_X3_expression ak ad hr_ ra ht ta pg pa Rcoded Rtaken Rtoken Rplace Rvalue Rfault Rcn Rcode Tlen Tcnt Ttoks Tplc Tvals Pst Pce Pgi Pln)) sz) 0 0 (va_A ((wW_X3_expression ak ad hr_ ra ht ta pg pa Rcoded Rtaken Rtoken Rplace Rvalue Rfault Rcn Rcode Tlen Tcnt Ttoks Tplc Tvals Pst Pce Pgi Pln)) sz) := (c_ep_X3_expression l D ak ad hr_ ra ht ta pg pa Rcn Tlen Tcnt Ttoks Tplc Tvals Pst Pce Pgi Pln 40).1 sz xl xn Rcoded Rtaken Rtoken Rplace Rvalue Rfault Rcode Φ hf

def wp_X3_partF (Rcn : Nat → Int64) (Tcnt : Int32) (Ttoks : Nat → Nat) (Tplc : Nat → Int32) (Tvals : Nat → Int64) (Pce : Int32) (xn : Int32) (Rcoded : Int32) (Rtaken : Int32) (Rtoken : Nat) (Rplace : Int32) (Rvalue : Int64) (Rfault : Int32) (Rcode : Nat → Int32) (Φ : Int32 → Int32 → Nat → Int32 → Int64 → Int32 → (Nat → Int32) → Prop) : Prop := (ep_X3_expression Rcn Tcnt Ttoks Tplc Tvals Pce 40).2 xn Rcoded Rtaken Rtoken Rplace Rvalue Rfault Rcode Φ

theorem c_X3_partF (l : Launch) (D : va_G) (ak : Nat → ClassId) (ad : Nat → Nat) (sz : Nat) (hr_ : Nat) (ra : Nat → Nat) (ht : Nat) (ta : Nat → Nat) (pg : Nat) (pa : Nat → Nat) (Rcoded : Int32) (Rtaken : Int32) (Rtoken : Nat) (Rplace : Int32) (Rvalue : Int64) (Rfault : Int32) (Rcn : Nat → Int64) (Rcode : Nat → Int32) (Tlen : Int32) (Tcnt : Int32) (Ttoks : Nat → Nat) (Tplc : Nat → Int32) (Tvals : Nat → Int64) (Pst : Int32) (Pce : Int32) (Pgi : Int32) (Pln : Int32) (xn : Int32) (Φ : Int32 → Int32 → Nat → Int32 → Int64 → Int32 → (Nat → Int32) → Prop) (hf : wp_X3_partF Rcn Tcnt Ttoks Tplc Tvals Pce xn Rcoded Rtaken Rtoken Rplace Rvalue Rfault Rcode Φ) : Met l yX3_part wsX3_part ({ frames := 40 + 4, cells := 0, slots := 0, locals := 60 * 40 + 240 }) (cPre D ak ad [.ref hr_, .int (xn)] ((wW_X3_expression ak ad hr_ ra ht ta pg pa Rcoded Rtaken Rtoken Rplace Rvalue Rfault Rcn Rcode Tlen Tcnt Ttoks Tplc Tvals Pst Pce Pgi Pln)) sz) (cV D (S := (Int32) × (Int32) × (Nat) × (Int32) × (Int64) × (Int32) × (Nat → Int32)) (fun (u : (Int32) × (Int32) × (Nat) × (Int32) × (Int64) × (Int32) × (Nat → Int32)) => Φ u.1 u.2.1 u.2.2.1 u.2.2.2.1 u.2.2.2.2.1 u.2.2.2.2.2.1 u.2.2.2.2.2.2) (fun u => (wW_X3_expression ak ad hr_ ra ht ta pg pa u.1 u.2.1 u.2.2.1 u.2.2.2.1 u.2.2.2.2.1 u.2.2.2.2.2.1 Rcn u.2.2.2.2.2.2 Tlen Tcnt Ttoks Tplc Tvals Pst Pce Pgi Pln)) ((wW_X3_expression ak ad hr_ ra ht ta pg pa Rcoded Rtaken Rtoken Rplace Rvalue Rfault Rcn Rcode Tlen Tcnt Ttoks Tplc Tvals Pst Pce Pgi Pln)) sz) 0 0 (va_A ((wW_X3_expression ak ad hr_ ra ht ta pg pa Rcoded Rtaken Rtoken Rplace Rvalue Rfault Rcn Rcode Tlen Tcnt Ttoks Tplc Tvals Pst Pce Pgi Pln)) sz) := (c_ep_X3_expression l D ak ad hr_ ra ht ta pg pa Rcn Tlen Tcnt Ttoks Tplc Tvals Pst Pce Pgi Pln 40).2 sz xn Rcoded Rtaken Rtoken Rplace Rvalue Rfault Rcode Φ hf
end
section
theorem dX3_tellAct_62 : decode cX3_tellAct 62 = .ok (.aload_n 0, 1) := by decide +kernel
theorem dX3_tellAct_63 : decode cX3_tellAct 63 = .ok (.getfield 35, 3) := by decide +kernel
theorem dX3_tellAct_66 : decode cX3_tellAct 66 = .ok (.getfield 193, 3) := by decide +kernel
theorem dX3_tellAct_69 : decode cX3_tellAct 69 = .ok (.iload_n 1, 1) := by decide +kernel
theorem dX3_tellAct_70 : decode cX3_tellAct 70 = .ok (.aload_n 0, 1) := by decide +kernel
theorem dX3_tellAct_71 : decode cX3_tellAct 71 = .ok (.getfield 51, 3) := by decide +kernel
theorem dX3_tellAct_74 : decode cX3_tellAct 74 = .ok (.iastore, 1) := by decide +kernel
theorem dX3_tellAct_75 : decode cX3_tellAct 75 = .ok (.iload_n 2, 1) := by decide +kernel
theorem dX3_tellAct_76 : decode cX3_tellAct 76 = .ok (.iconst 3, 1) := by decide +kernel
theorem dX3_tellAct_77 : decode cX3_tellAct 77 = .ok (.if_icmp .ne 19, 3) := by decide +kernel
theorem dX3_tellAct_96 : decode cX3_tellAct 96 = .ok (.iload_n 2, 1) := by decide +kernel
theorem dX3_tellAct_97 : decode cX3_tellAct 97 = .ok (.iconst 5, 1) := by decide +kernel
theorem dX3_tellAct_98 : decode cX3_tellAct 98 = .ok (.if_icmp .ne 19, 3) := by decide +kernel
theorem dX3_tellAct_117 : decode cX3_tellAct 117 = .ok (.iload_n 2, 1) := by decide +kernel
theorem dX3_tellAct_118 : decode cX3_tellAct 118 = .ok (.iconst 4, 1) := by decide +kernel
theorem dX3_tellAct_119 : decode cX3_tellAct 119 = .ok (.if_icmp .ne 23, 3) := by decide +kernel
theorem dX3_tellAct_122 : decode cX3_tellAct 122 = .ok (.aload_n 0, 1) := by decide +kernel
theorem dX3_tellAct_123 : decode cX3_tellAct 123 = .ok (.getstatic 202, 3) := by decide +kernel
set_option maxRecDepth 20000 in
theorem ggX3_tellAct_X3_expect : GoodIn wsX3_tellAct wsX3_expect := gup gc_X3_expect
set_option maxRecDepth 20000 in
theorem gX3_tellAct_X3_expect : GoodIn wsX3_tellAct (wsV RX3 94 RX3 yX3_expect wsX3_expect) := gup (glV hw_463 hw_464 hw_465 hw_440 gc_X3_expect)
theorem dX3_tellAct_126 : decode cX3_tellAct 126 = .ok (.invokevirtual 94, 3) := by decide +kernel
theorem dX3_tellAct_129 : decode cX3_tellAct 129 = .ok (.aload_n 0, 1) := by decide +kernel
theorem dX3_tellAct_130 : decode cX3_tellAct 130 = .ok (.getfield 35, 3) := by decide +kernel
theorem dX3_tellAct_133 : decode cX3_tellAct 133 = .ok (.getfield 183, 3) := by decide +kernel
theorem dX3_tellAct_136 : decode cX3_tellAct 136 = .ok (.iload_n 1, 1) := by decide +kernel
theorem dX3_tellAct_137 : decode cX3_tellAct 137 = .ok (.aload_n 0, 1) := by decide +kernel
set_option maxRecDepth 20000 in
theorem ggX3_tellAct_X3_takeCell : GoodIn wsX3_tellAct wsX3_takeCell := gup gc_X3_takeCell
set_option maxRecDepth 20000 in
theorem gX3_tellAct_X3_takeCell : GoodIn wsX3_tellAct (wsV RX3 186 RX3 yX3_takeCell wsX3_takeCell) := gup (glV hw_500 hw_501 hw_502 hw_440 gc_X3_takeCell)
theorem dX3_tellAct_138 : decode cX3_tellAct 138 = .ok (.invokevirtual 186, 3) := by decide +kernel
theorem dX3_tellAct_141 : decode cX3_tellAct 141 = .ok (.iastore, 1) := by decide +kernel
theorem dX3_tellAct_101 : decode cX3_tellAct 101 = .ok (.aload_n 0, 1) := by decide +kernel
theorem dX3_tellAct_102 : decode cX3_tellAct 102 = .ok (.getstatic 199, 3) := by decide +kernel
theorem dX3_tellAct_105 : decode cX3_tellAct 105 = .ok (.invokevirtual 94, 3) := by decide +kernel
theorem dX3_tellAct_108 : decode cX3_tellAct 108 = .ok (.aload_n 0, 1) := by decide +kernel
theorem dX3_tellAct_109 : decode cX3_tellAct 109 = .ok (.iconst 0, 1) := by decide +kernel
theorem dX3_tellAct_110 : decode cX3_tellAct 110 = .ok (.iconst 0, 1) := by decide +kernel
set_option maxRecDepth 20000 in
theorem ggX3_tellAct_X3_expression : GoodIn wsX3_tellAct wsX3_expression := gup gc_X3_expression
set_option maxRecDepth 20000 in
theorem gX3_tellAct_X3_expression : GoodIn wsX3_tellAct (wsV RX3 189 RX3 yX3_expression wsX3_expression) := gup (glV hw_478 hw_479 hw_480 hw_440 gc_X3_expression)
theorem dX3_tellAct_111 : decode cX3_tellAct 111 = .ok (.invokevirtual 189, 3) := by decide +kernel
theorem dX3_tellAct_114 : decode cX3_tellAct 114 = .ok (.goto 28, 3) := by decide +kernel
theorem dX3_tellAct_80 : decode cX3_tellAct 80 = .ok (.aload_n 0, 1) := by decide +kernel
theorem dX3_tellAct_81 : decode cX3_tellAct 81 = .ok (.getstatic 196, 3) := by decide +kernel
theorem dX3_tellAct_84 : decode cX3_tellAct 84 = .ok (.invokevirtual 94, 3) := by decide +kernel
theorem dX3_tellAct_87 : decode cX3_tellAct 87 = .ok (.aload_n 0, 1) := by decide +kernel
theorem dX3_tellAct_88 : decode cX3_tellAct 88 = .ok (.iconst 0, 1) := by decide +kernel
theorem dX3_tellAct_89 : decode cX3_tellAct 89 = .ok (.iconst 0, 1) := by decide +kernel
theorem dX3_tellAct_90 : decode cX3_tellAct 90 = .ok (.invokevirtual 189, 3) := by decide +kernel
theorem dX3_tellAct_93 : decode cX3_tellAct 93 = .ok (.goto 49, 3) := by decide +kernel
theorem dX3_tellAct_50 : decode cX3_tellAct 50 = .ok (.iload_n 2, 1) := by decide +kernel
theorem dX3_tellAct_51 : decode cX3_tellAct 51 = .ok (.bipush 6, 2) := by decide +kernel
theorem dX3_tellAct_53 : decode cX3_tellAct 53 = .ok (.if_icmp .eq 9, 3) := by decide +kernel
theorem dX3_tellAct_56 : decode cX3_tellAct 56 = .ok (.aload_n 0, 1) := by decide +kernel
theorem dX3_tellAct_57 : decode cX3_tellAct 57 = .ok (.iconst 0, 1) := by decide +kernel
theorem dX3_tellAct_58 : decode cX3_tellAct 58 = .ok (.iconst 0, 1) := by decide +kernel
theorem dX3_tellAct_59 : decode cX3_tellAct 59 = .ok (.invokevirtual 189, 3) := by decide +kernel
theorem dX3_tellAct_0 : decode cX3_tellAct 0 = .ok (.aload_n 0, 1) := by decide +kernel
theorem dX3_tellAct_1 : decode cX3_tellAct 1 = .ok (.getfield 28, 3) := by decide +kernel
theorem dX3_tellAct_4 : decode cX3_tellAct 4 = .ok (.getfield 178, 3) := by decide +kernel
theorem dX3_tellAct_7 : decode cX3_tellAct 7 = .ok (.istore_n 2, 1) := by decide +kernel
theorem dX3_tellAct_8 : decode cX3_tellAct 8 = .ok (.iload_n 2, 1) := by decide +kernel
theorem dX3_tellAct_9 : decode cX3_tellAct 9 = .ok (.iconst (-1), 1) := by decide +kernel
theorem dX3_tellAct_10 : decode cX3_tellAct 10 = .ok (.if_icmp .ne 9, 3) := by decide +kernel
theorem dX3_tellAct_19 : decode cX3_tellAct 19 = .ok (.aload_n 0, 1) := by decide +kernel
theorem dX3_tellAct_20 : decode cX3_tellAct 20 = .ok (.getfield 35, 3) := by decide +kernel
theorem dX3_tellAct_23 : decode cX3_tellAct 23 = .ok (.getfield 181, 3) := by decide +kernel
theorem dX3_tellAct_26 : decode cX3_tellAct 26 = .ok (.iload_n 1, 1) := by decide +kernel
theorem dX3_tellAct_27 : decode cX3_tellAct 27 = .ok (.iload_n 2, 1) := by decide +kernel
theorem dX3_tellAct_28 : decode cX3_tellAct 28 = .ok (.iastore, 1) := by decide +kernel
theorem dX3_tellAct_29 : decode cX3_tellAct 29 = .ok (.aload_n 0, 1) := by decide +kernel
set_option maxRecDepth 20000 in
theorem ggX3_tellAct_X3_advance : GoodIn wsX3_tellAct wsX3_advance := gup gc_X3_advance
set_option maxRecDepth 20000 in
theorem gX3_tellAct_X3_advance : GoodIn wsX3_tellAct (wsV RX3 60 RX3 yX3_advance wsX3_advance) := gup (glV hw_437 hw_438 hw_439 hw_440 gc_X3_advance)
theorem dX3_tellAct_30 : decode cX3_tellAct 30 = .ok (.invokevirtual 60, 3) := by decide +kernel
theorem dX3_tellAct_33 : decode cX3_tellAct 33 = .ok (.iload_n 2, 1) := by decide +kernel
theorem dX3_tellAct_34 : decode cX3_tellAct 34 = .ok (.ifCond .ne 16, 3) := by decide +kernel
theorem dX3_tellAct_37 : decode cX3_tellAct 37 = .ok (.aload_n 0, 1) := by decide +kernel
theorem dX3_tellAct_38 : decode cX3_tellAct 38 = .ok (.getfield 35, 3) := by decide +kernel
theorem dX3_tellAct_41 : decode cX3_tellAct 41 = .ok (.getfield 183, 3) := by decide +kernel
theorem dX3_tellAct_44 : decode cX3_tellAct 44 = .ok (.iload_n 1, 1) := by decide +kernel
theorem dX3_tellAct_45 : decode cX3_tellAct 45 = .ok (.aload_n 0, 1) := by decide +kernel
theorem dX3_tellAct_46 : decode cX3_tellAct 46 = .ok (.invokevirtual 186, 3) := by decide +kernel
theorem dX3_tellAct_49 : decode cX3_tellAct 49 = .ok (.iastore, 1) := by decide +kernel
theorem dX3_tellAct_13 : decode cX3_tellAct 13 = .ok (.aload_n 0, 1) := by decide +kernel
theorem dX3_tellAct_14 : decode cX3_tellAct 14 = .ok (.iconst 1, 1) := by decide +kernel
set_option maxRecDepth 20000 in
theorem ggX3_tellAct_X3_fail : GoodIn wsX3_tellAct wsX3_fail := gup gc_X3_fail
set_option maxRecDepth 20000 in
theorem gX3_tellAct_X3_fail : GoodIn wsX3_tellAct (wsV RX3 87 RX3 yX3_fail wsX3_fail) := gup (glV hw_441 hw_442 hw_443 hw_440 gc_X3_fail)
theorem dX3_tellAct_15 : decode cX3_tellAct 15 = .ok (.invokevirtual 87, 3) := by decide +kernel
theorem dX3_tellAct_18 : decode cX3_tellAct 18 = .ok (.return_, 1) := by decide +kernel
theorem dX3_tellAct_142 : decode cX3_tellAct 142 = .ok (.return_, 1) := by decide +kernel
theorem dX3_tellLine_0 : decode cX3_tellLine 0 = .ok (.aload_n 0, 1) := by decide +kernel
theorem dX3_tellLine_1 : decode cX3_tellLine 1 = .ok (.getfield 35, 3) := by decide +kernel
theorem dX3_tellLine_4 : decode cX3_tellLine 4 = .ok (.getfield 160, 3) := by decide +kernel
theorem dX3_tellLine_7 : decode cX3_tellLine 7 = .ok (.istore_n 1, 1) := by decide +kernel
theorem dX3_tellLine_8 : decode cX3_tellLine 8 = .ok (.iload_n 1, 1) := by decide +kernel
theorem dX3_tellLine_9 : decode cX3_tellLine 9 = .ok (.bipush 16, 2) := by decide +kernel
theorem dX3_tellLine_11 : decode cX3_tellLine 11 = .ok (.if_icmp .lt 9, 3) := by decide +kernel
theorem dX3_tellLine_20 : decode cX3_tellLine 20 = .ok (.aload_n 0, 1) := by decide +kernel
set_option maxRecDepth 20000 in
theorem ggX3_tellLine_X3_advance : GoodIn wsX3_tellLine wsX3_advance := gup gc_X3_advance
set_option maxRecDepth 20000 in
theorem gX3_tellLine_X3_advance : GoodIn wsX3_tellLine (wsV RX3 60 RX3 yX3_advance wsX3_advance) := gup (glV hw_437 hw_438 hw_439 hw_440 gc_X3_advance)
theorem dX3_tellLine_21 : decode cX3_tellLine 21 = .ok (.invokevirtual 60, 3) := by decide +kernel
theorem dX3_tellLine_24 : decode cX3_tellLine 24 = .ok (.aload_n 0, 1) := by decide +kernel
theorem dX3_tellLine_25 : decode cX3_tellLine 25 = .ok (.getfield 35, 3) := by decide +kernel
theorem dX3_tellLine_28 : decode cX3_tellLine 28 = .ok (.getfield 163, 3) := by decide +kernel
theorem dX3_tellLine_31 : decode cX3_tellLine 31 = .ok (.iload_n 1, 1) := by decide +kernel
theorem dX3_tellLine_32 : decode cX3_tellLine 32 = .ok (.aload_n 0, 1) := by decide +kernel
set_option maxRecDepth 20000 in
theorem ggX3_tellLine_X3_takeStuff : GoodIn wsX3_tellLine wsX3_takeStuff := gup gc_X3_takeStuff
set_option maxRecDepth 20000 in
theorem gX3_tellLine_X3_takeStuff : GoodIn wsX3_tellLine (wsV RX3 166 RX3 yX3_takeStuff wsX3_takeStuff) := gup (glV hw_503 hw_504 hw_505 hw_440 gc_X3_takeStuff)
theorem dX3_tellLine_33 : decode cX3_tellLine 33 = .ok (.invokevirtual 166, 3) := by decide +kernel
theorem dX3_tellLine_36 : decode cX3_tellLine 36 = .ok (.iastore, 1) := by decide +kernel
theorem dX3_tellLine_37 : decode cX3_tellLine 37 = .ok (.aload_n 0, 1) := by decide +kernel
theorem dX3_tellLine_38 : decode cX3_tellLine 38 = .ok (.getfield 35, 3) := by decide +kernel
theorem dX3_tellLine_41 : decode cX3_tellLine 41 = .ok (.getfield 169, 3) := by decide +kernel
theorem dX3_tellLine_44 : decode cX3_tellLine 44 = .ok (.iload_n 1, 1) := by decide +kernel
theorem dX3_tellLine_45 : decode cX3_tellLine 45 = .ok (.aload_n 0, 1) := by decide +kernel
theorem dX3_tellLine_46 : decode cX3_tellLine 46 = .ok (.getfield 51, 3) := by decide +kernel
theorem dX3_tellLine_49 : decode cX3_tellLine 49 = .ok (.iastore, 1) := by decide +kernel
theorem dX3_tellLine_50 : decode cX3_tellLine 50 = .ok (.aload_n 0, 1) := by decide +kernel
theorem dX3_tellLine_51 : decode cX3_tellLine 51 = .ok (.iload_n 1, 1) := by decide +kernel
set_option maxRecDepth 20000 in
theorem ggX3_tellLine_X3_tellAct : GoodIn wsX3_tellLine wsX3_tellAct := gup gc_X3_tellAct
set_option maxRecDepth 20000 in
theorem gX3_tellLine_X3_tellAct : GoodIn wsX3_tellLine (wsV RX3 172 RX3 yX3_tellAct wsX3_tellAct) := gup (glV hw_506 hw_507 hw_508 hw_440 gc_X3_tellAct)
theorem dX3_tellLine_52 : decode cX3_tellLine 52 = .ok (.invokevirtual 172, 3) := by decide +kernel
theorem dX3_tellLine_55 : decode cX3_tellLine 55 = .ok (.aload_n 0, 1) := by decide +kernel
theorem dX3_tellLine_56 : decode cX3_tellLine 56 = .ok (.getfield 35, 3) := by decide +kernel
theorem dX3_tellLine_59 : decode cX3_tellLine 59 = .ok (.getfield 175, 3) := by decide +kernel
theorem dX3_tellLine_62 : decode cX3_tellLine 62 = .ok (.iload_n 1, 1) := by decide +kernel
theorem dX3_tellLine_63 : decode cX3_tellLine 63 = .ok (.aload_n 0, 1) := by decide +kernel
theorem dX3_tellLine_64 : decode cX3_tellLine 64 = .ok (.getfield 51, 3) := by decide +kernel
theorem dX3_tellLine_67 : decode cX3_tellLine 67 = .ok (.iastore, 1) := by decide +kernel
theorem dX3_tellLine_68 : decode cX3_tellLine 68 = .ok (.aload_n 0, 1) := by decide +kernel
theorem dX3_tellLine_69 : decode cX3_tellLine 69 = .ok (.getfield 35, 3) := by decide +kernel
theorem dX3_tellLine_72 : decode cX3_tellLine 72 = .ok (.iload_n 1, 1) := by decide +kernel
theorem dX3_tellLine_73 : decode cX3_tellLine 73 = .ok (.iconst 1, 1) := by decide +kernel
theorem dX3_tellLine_74 : decode cX3_tellLine 74 = .ok (.iadd, 1) := by decide +kernel
theorem dX3_tellLine_75 : decode cX3_tellLine 75 = .ok (.putfield 160, 3) := by decide +kernel
theorem dX3_tellLine_14 : decode cX3_tellLine 14 = .ok (.aload_n 0, 1) := by decide +kernel
theorem dX3_tellLine_15 : decode cX3_tellLine 15 = .ok (.iconst 5, 1) := by decide +kernel
set_option maxRecDepth 20000 in
theorem ggX3_tellLine_X3_fail : GoodIn wsX3_tellLine wsX3_fail := gup gc_X3_fail
set_option maxRecDepth 20000 in
theorem gX3_tellLine_X3_fail : GoodIn wsX3_tellLine (wsV RX3 87 RX3 yX3_fail wsX3_fail) := gup (glV hw_441 hw_442 hw_443 hw_440 gc_X3_fail)
theorem dX3_tellLine_16 : decode cX3_tellLine 16 = .ok (.invokevirtual 87, 3) := by decide +kernel
theorem dX3_tellLine_19 : decode cX3_tellLine 19 = .ok (.return_, 1) := by decide +kernel
theorem dX3_tellLine_78 : decode cX3_tellLine 78 = .ok (.return_, 1) := by decide +kernel
def wW_X3_tellAct (ak : Nat → ClassId) (ad : Nat → Nat) (hr_ : Nat) (ra : Nat → Nat) (ht : Nat) (ta : Nat → Nat) (pg : Nat) (pa : Nat → Nat) (Rcoded : Int32) (Rtaken : Int32) (Rtoken : Nat) (Rplace : Int32) (Rvalue : Int64) (Rfault : Int32) (Rcn : Nat → Int64) (Rcode : Nat → Int32) (Tlen : Int32) (Tcnt : Int32) (Ttoks : Nat → Nat) (Tplc : Nat → Int32) (Tvals : Nat → Int64) (Pst : Int32) (Pce : Int32) (Pgi : Int32) (Pln : Int32) (Pact : Nat → Int32) (Ptarget : Nat → Int32) (Pmiddle : Nat → Int32) : va_W := [(hr_, .inr (3, rob ad ra (ht) (Rcoded) (pg) (Rtaken) (Rtoken) (Rplace) (Rvalue) (Rfault))), ((ra 1), .inl (ak 1, 6, .inr (.inl (Rcn)))), ((ra 2), .inl (ak 0, 1000, .inl (Rcode))), (ht, .inr (5, tob ta (Tlen) (Tcnt))), ((ta 1), .inl (ak 4, 1001, .inr (.inr (.inr (.inr (tokA ad (Ttoks))))))), ((ta 2), .inl (ak 0, 1001, .inl (Tplc))), ((ta 3), .inl (ak 1, 1001, .inr (.inl (Tvals)))), (pg, .inr (2, pob pa (Pst) (Pce) (Pgi) (Pln))), ((pa 6), .inl (ak 0, 16, .inl (Pact))), ((pa 8), .inl (ak 0, 16, .inl (Ptarget))), ((pa 10), .inl (ak 0, 16, .inl (Pmiddle)))]
def kf_X3_tellAct_62 (Rcn : Nat → Int64) (Tcnt : Int32) (Ttoks : Nat → Nat) (Tplc : Nat → Int32) (Tvals : Nat → Int64) (Pce : Int32) (xl : Int32)  (Φ : Int32 → Int32 → Nat → Int32 → Int64 → Int32 → (Nat → Int32) → (Nat → Int32) → (Nat → Int32) → (Nat → Int32) → Prop) (Rcoded : Int32) (Rtaken : Int32) (Rtoken : Nat) (Rplace : Int32) (Rvalue : Int64) (Rfault : Int32) (Rcode : Nat → Int32) (Pact : Nat → Int32) (Ptarget : Nat → Int32) (Pmiddle : Nat → Int32) (l2 : Int32) : Prop := vp_in xl 16 ∧ (¬ l2 = 3 → (¬ l2 = 5 → (¬ l2 = 4 → Φ Rcoded Rtaken Rtoken Rplace Rvalue Rfault Rcode Pact Ptarget (upd Pmiddle (xl).toNatClampNeg Rcoded)) ∧ (l2 = 4 → wp_X3_expect Tcnt Ttoks Tplc Tvals 18 Rtaken Rtoken Rplace Rvalue Rfault (fun Rtaken_17 Rtoken_18 Rplace_19 Rvalue_20 Rfault_21 => wp_X3_takeCell Rcn Tcnt Ttoks Tplc Tvals Pce Rtaken_17 Rtoken_18 Rplace_19 Rvalue_20 Rfault_21 (fun r_29 Rtaken_24 Rtoken_25 Rplace_26 Rvalue_27 Rfault_28 => vp_in xl 16 ∧ Φ Rcoded Rtaken_24 Rtoken_25 Rplace_26 Rvalue_27 Rfault_28 Rcode Pact (upd Ptarget (xl).toNatClampNeg r_29) (upd Pmiddle (xl).toNatClampNeg Rcoded))))) ∧ (l2 = 5 → wp_X3_expect Tcnt Ttoks Tplc Tvals 19 Rtaken Rtoken Rplace Rvalue Rfault (fun Rtaken_32 Rtoken_33 Rplace_34 Rvalue_35 Rfault_36 => wp_X3_expressionF Rcn Tcnt Ttoks Tplc Tvals Pce 0 0 Rcoded Rtaken_32 Rtoken_33 Rplace_34 Rvalue_35 Rfault_36 Rcode (fun Rcoded_39 Rtaken_40 Rtoken_41 Rplace_42 Rvalue_43 Rfault_44 Rcode_45 => Φ Rcoded_39 Rtaken_40 Rtoken_41 Rplace_42 Rvalue_43 Rfault_44 Rcode_45 Pact Ptarget (upd Pmiddle (xl).toNatClampNeg Rcoded))))) ∧ (l2 = 3 → wp_X3_expect Tcnt Ttoks Tplc Tvals 22 Rtaken Rtoken Rplace Rvalue Rfault (fun Rtaken_48 Rtoken_49 Rplace_50 Rvalue_51 Rfault_52 => wp_X3_expressionF Rcn Tcnt Ttoks Tplc Tvals Pce 0 0 Rcoded Rtaken_48 Rtoken_49 Rplace_50 Rvalue_51 Rfault_52 Rcode (fun Rcoded_55 Rtaken_56 Rtoken_57 Rplace_58 Rvalue_59 Rfault_60 Rcode_61 => Φ Rcoded_55 Rtaken_56 Rtoken_57 Rplace_58 Rvalue_59 Rfault_60 Rcode_61 Pact Ptarget (upd Pmiddle (xl).toNatClampNeg Rcoded))))
set_option maxHeartbeats 4000000 in
set_option maxRecDepth 100000 in
theorem kj_X3_tellAct_62 {p : Program} {l : Launch} {e : Env} {R : Room} {s : State} {m : MethodId} {args : Array Value} {below : List Frame} {meth : Method} {c : Code} {cells slots : Nat} {Q : State → Prop} {A : Nat → Prop} {D : va_G} {ak : Nat → ClassId} {ad : Nat → Nat} (hx : p.tables.exec = Jvm.exec) (hb : c.code = cX3_tellAct) (hown : s.vm.findClass RX3 = some m.cls) (hts : ∀ w ∈ wsX3_tellAct, w.before args s = true) (hml : c.maxLocals = 3) (hE : EV D ak s) (hT : ST D ak ad A s s.heap) (hA : ∀ q, s.heap.size ≤ q → A q) (hRf : 45 ≤ R.frames) (hRl : 2665 ≤ R.locals) (hRc : cells ≤ R.cells ∧ slots ≤ R.slots) (hr_ : Nat) (ra : Nat → Nat) (ht : Nat) (ta : Nat → Nat) (pg : Nat) (pa : Nat → Nat) (Rcn : Nat → Int64) (Tlen : Int32) (Tcnt : Int32) (Ttoks : Nat → Nat) (Tplc : Nat → Int32) (Tvals : Nat → Int64) (Pst : Int32) (Pce : Int32) (Pgi : Int32) (Pln : Int32) (xl : Int32)  (Φ : Int32 → Int32 → Nat → Int32 → Int64 → Int32 → (Nat → Int32) → (Nat → Int32) → (Nat → Int32) → (Nat → Int32) → Prop)
    (kR18 : ∀ (Rcoded : Int32) (Rtaken : Int32) (Rtoken : Nat) (Rplace : Int32) (Rvalue : Int64) (Rfault : Int32) (Rcode : Nat → Int32) (Pact : Nat → Int32) (Ptarget : Nat → Int32) (Pmiddle : Nat → Int32) (H : Heap) (locs : List Loc) (ls : Array Slot), Φ Rcoded Rtaken Rtoken Rplace Rvalue Rfault Rcode Pact Ptarget Pmiddle → va_P D vwCl (wW_X3_tellAct ak ad hr_ ra ht ta pg pa Rcoded Rtaken Rtoken Rplace Rvalue Rfault Rcn Rcode Tlen Tcnt Ttoks Tplc Tvals Pst Pce Pgi Pln Pact Ptarget Pmiddle) H → va_D A (wW_X3_tellAct ak ad hr_ ra ht ta pg pa Rcoded Rtaken Rtoken Rplace Rvalue Rfault Rcn Rcode Tlen Tcnt Ttoks Tplc Tvals Pst Pce Pgi Pln Pact Ptarget Pmiddle) → va_S A s.heap H locs → W p l e R s m args below meth c H locs cells slots Q (F0 m 18 ls []))
    (kR142 : ∀ (Rcoded : Int32) (Rtaken : Int32) (Rtoken : Nat) (Rplace : Int32) (Rvalue : Int64) (Rfault : Int32) (Rcode : Nat → Int32) (Pact : Nat → Int32) (Ptarget : Nat → Int32) (Pmiddle : Nat → Int32) (H : Heap) (locs : List Loc) (ls : Array Slot), Φ Rcoded Rtaken Rtoken Rplace Rvalue Rfault Rcode Pact Ptarget Pmiddle → va_P D vwCl (wW_X3_tellAct ak ad hr_ ra ht ta pg pa Rcoded Rtaken Rtoken Rplace Rvalue Rfault Rcn Rcode Tlen Tcnt Ttoks Tplc Tvals Pst Pce Pgi Pln Pact Ptarget Pmiddle) H → va_D A (wW_X3_tellAct ak ad hr_ ra ht ta pg pa Rcoded Rtaken Rtoken Rplace Rvalue Rfault Rcn Rcode Tlen Tcnt Ttoks Tplc Tvals Pst Pce Pgi Pln Pact Ptarget Pmiddle) → va_S A s.heap H locs → W p l e R s m args below meth c H locs cells slots Q (F0 m 142 ls []))
    : ∀ (Rcoded : Int32) (Rtaken : Int32) (Rtoken : Nat) (Rplace : Int32) (Rvalue : Int64) (Rfault : Int32) (Rcode : Nat → Int32) (Pact : Nat → Int32) (Ptarget : Nat → Int32) (Pmiddle : Nat → Int32) (l2 : Int32) (H : Heap) (locs : List Loc) (ls : Array Slot), kf_X3_tellAct_62 Rcn Tcnt Ttoks Tplc Tvals Pce xl  Φ Rcoded Rtaken Rtoken Rplace Rvalue Rfault Rcode Pact Ptarget Pmiddle l2 → va_P D vwCl (wW_X3_tellAct ak ad hr_ ra ht ta pg pa Rcoded Rtaken Rtoken Rplace Rvalue Rfault Rcn Rcode Tlen Tcnt Ttoks Tplc Tvals Pst Pce Pgi Pln Pact Ptarget Pmiddle) H → va_D A (wW_X3_tellAct ak ad hr_ ra ht ta pg pa Rcoded Rtaken Rtoken Rplace Rvalue Rfault Rcn Rcode Tlen Tcnt Ttoks Tplc Tvals Pst Pce Pgi Pln Pact Ptarget Pmiddle) → va_S A s.heap H locs → lv_has ls 3 [(0, .ref hr_), (1, .int (xl)), (2, .int (l2))] → W p l e R s m args below meth c H locs cells slots Q (F0 m 62 ls ([])) := by
  intro Rcoded Rtaken Rtoken Rplace Rvalue Rfault Rcode Pact Ptarget Pmiddle l2 H locs ls hw hP hD hS hl
  delta kf_X3_tellAct_62 at hw
  refine lv_aload_n hx hb dX3_tellAct_62 rfl (lv_at hl 0 rfl) ?_
  refine vt_get (D := D) (ci := 3) (v := .ref pg) (C := RX3) (T := TX3) (N := 11) hx hb hts (fun w h => wm_c (wc_X3 w h)) hown hE.1 hP 0 rfl rfl 5 (by decide) tX3_5 (hts (.fieldLink RX3 35 "WornLines$Reader" "told" "LWornLines$Programme;") (wm_c hw_292)) (fun _ h9 => h9) rfl dX3_tellAct_63 ?_
  refine vt_get (D := D) (ci := 2) (v := .ref (pa 10)) (C := RX2) (T := TX2) (N := 17) hx hb hts (fun w h => wm_c (wc_X2 w h)) hown hE.1 hP 7 rfl rfl 14 (by decide) tX2_14 (hts (.fieldLink RX3 193 "WornLines$Programme" "middle" "[I") (wm_c hw_489)) (fun _ h9 => h9) rfl dX3_tellAct_66 ?_
  refine lv_iload_n hx hb dX3_tellAct_69 rfl (lv_at hl 1 rfl) ?_
  refine lv_aload_n hx hb dX3_tellAct_70 rfl (lv_at hl 0 rfl) ?_
  refine vt_get (D := D) (ci := 3) (v := .int (Rcoded)) (C := RX3) (T := TX3) (N := 11) hx hb hts (fun w h => wm_c (wc_X3 w h)) hown hE.1 hP 0 rfl rfl 4 (by decide) tX3_4 (hts (.fieldLink RX3 51 "WornLines$Reader" "coded" "I") (wm_c hw_424)) (fun _ h9 => h9) rfl dX3_tellAct_71 ?_
  obtain ⟨h_12, hw⟩ := hw
  refine va_iast hx hb hE.1 hP hD hS 10 0 rfl rfl (h_12) dX3_tellAct_74 (fun H locs hP hD hS => ?_)
  have hP : va_P D vwCl (wW_X3_tellAct ak ad hr_ ra ht ta pg pa Rcoded Rtaken Rtoken Rplace Rvalue Rfault Rcn Rcode Tlen Tcnt Ttoks Tplc Tvals Pst Pce Pgi Pln Pact Ptarget (upd Pmiddle (xl).toNatClampNeg Rcoded)) H := hP
  have hD : va_D A (wW_X3_tellAct ak ad hr_ ra ht ta pg pa Rcoded Rtaken Rtoken Rplace Rvalue Rfault Rcn Rcode Tlen Tcnt Ttoks Tplc Tvals Pst Pce Pgi Pln Pact Ptarget (upd Pmiddle (xl).toNatClampNeg Rcoded)) := hD
  refine lv_iload_n hx hb dX3_tellAct_75 rfl (lv_at hl 2 rfl) ?_
  refine lv_iconst (v := 3) hx hb dX3_tellAct_76 (by decide) ?_
  refine lv_icmp_ne (tgt := 96) hx hb dX3_tellAct_77 (by decide) (fun c_13 => ?_) (fun c_13 => ?_)
  · replace hw := hw.1 c_13
    refine lv_iload_n hx hb dX3_tellAct_96 rfl (lv_at hl 2 rfl) ?_
    refine lv_iconst (v := 5) hx hb dX3_tellAct_97 (by decide) ?_
    refine lv_icmp_ne (tgt := 117) hx hb dX3_tellAct_98 (by decide) (fun c_14 => ?_) (fun c_14 => ?_)
    · replace hw := hw.1 c_14
      refine lv_iload_n hx hb dX3_tellAct_117 rfl (lv_at hl 2 rfl) ?_
      refine lv_iconst (v := 4) hx hb dX3_tellAct_118 (by decide) ?_
      refine lv_icmp_ne (tgt := 142) hx hb dX3_tellAct_119 (by decide) (fun c_15 => ?_) (fun c_15 => ?_)
      · replace hw := hw.1 c_15
        exact kR142 Rcoded Rtaken Rtoken Rplace Rvalue Rfault Rcode Pact Ptarget (upd Pmiddle (xl).toNatClampNeg Rcoded) _ _ _ hw hP hD hS
      · replace hw := hw.2 c_15
        refine lv_aload_n hx hb dX3_tellAct_122 rfl (lv_at hl 0 rfl) ?_
        refine va_gets hx hb (hT.1 18 (by decide)).1 hS hown (hts (.fieldLink RX3 202 "WornLines$Token" "KEEP_WORD" "LWornLines$Token;") (wm_c hw_490)) (fun _ h9 => h9) dX3_tellAct_123 ?_
        refine kc_v (wc := (wW_X3_expect ak ad hr_ ra ht ta pg Rcoded Rtaken Rtoken Rplace Rvalue Rfault Tlen Tcnt Ttoks Tplc Tvals)) (wr := [((ra 1), .inl (ak 1, 6, .inr (.inl (Rcn)))), ((ra 2), .inl (ak 0, 1000, .inl (Rcode))), (pg, .inr (2, pob pa (Pst) (Pce) (Pgi) (Pln))), ((pa 6), .inl (ak 0, 16, .inl (Pact))), ((pa 8), .inl (ak 0, 16, .inl (Ptarget))), ((pa 10), .inl (ak 0, 16, .inl (upd Pmiddle (xl).toNatClampNeg Rcoded)))]) hP hD hS hA [0, 3, 4, 5, 6] [1, 2, 7, 8, 9, 10] rfl rfl (by decide) (by decide) (va_runV (As := [.ref (ad 18)]) (rest := []) ⟨hx, hb, hml, hown, hts⟩ (c_X3_expect l D ak ad _ hr_ ra ht ta pg Rcoded Rtaken Rtoken Rplace Rvalue Rfault Tlen Tcnt Ttoks Tplc Tvals 18 _ hw) (cwV 1 hts gX3_tellAct_X3_expect rfl rfl rfl hv_X3_expect ⟨(Nat.le_trans (Nat.le_of_ble_eq_true rfl) hRf), (Nat.le_trans (Nat.le_of_ble_eq_true rfl) hRl)⟩) (kc_preV (As := [.ref (ad 18)]) (wc := (wW_X3_expect ak ad hr_ ra ht ta pg Rcoded Rtaken Rtoken Rplace Rvalue Rfault Tlen Tcnt Ttoks Tplc Tvals)) hE hT hP hD hS hA [0, 3, 4, 5, 6] (by decide) rfl rfl 0 3 rfl rfl rfl) rfl rfl hl.1 rfl (lv_room (Nat.le_of_ble_eq_true rfl)) dX3_tellAct_126 ⟨hRc.1, hRc.2⟩) (fun u_16 H locs hw hP hD hS => ?_)
        obtain ⟨Rtaken_17, Rtoken_18, Rplace_19, Rvalue_20, Rfault_21⟩ := u_16
        try dsimp -zeta only at hw
        have hP : va_P D vwCl (wW_X3_tellAct ak ad hr_ ra ht ta pg pa Rcoded Rtaken_17 Rtoken_18 Rplace_19 Rvalue_20 Rfault_21 Rcn Rcode Tlen Tcnt Ttoks Tplc Tvals Pst Pce Pgi Pln Pact Ptarget (upd Pmiddle (xl).toNatClampNeg Rcoded)) H := hP.sub [6, 0, 1, 7, 8, 9, 10, 2, 3, 4, 5] rfl
        have hD : va_D A (wW_X3_tellAct ak ad hr_ ra ht ta pg pa Rcoded Rtaken_17 Rtoken_18 Rplace_19 Rvalue_20 Rfault_21 Rcn Rcode Tlen Tcnt Ttoks Tplc Tvals Pst Pce Pgi Pln Pact Ptarget (upd Pmiddle (xl).toNatClampNeg Rcoded)) := hD.sub [6, 0, 1, 7, 8, 9, 10, 2, 3, 4, 5] (by decide) rfl
        refine lv_aload_n hx hb dX3_tellAct_129 rfl (lv_at hl 0 rfl) ?_
        refine vt_get (D := D) (ci := 3) (v := .ref pg) (C := RX3) (T := TX3) (N := 11) hx hb hts (fun w h => wm_c (wc_X3 w h)) hown hE.1 hP 0 rfl rfl 5 (by decide) tX3_5 (hts (.fieldLink RX3 35 "WornLines$Reader" "told" "LWornLines$Programme;") (wm_c hw_292)) (fun _ h9 => h9) rfl dX3_tellAct_130 ?_
        refine vt_get (D := D) (ci := 2) (v := .ref (pa 8)) (C := RX2) (T := TX2) (N := 17) hx hb hts (fun w h => wm_c (wc_X2 w h)) hown hE.1 hP 7 rfl rfl 12 (by decide) tX2_12 (hts (.fieldLink RX3 183 "WornLines$Programme" "target" "[I") (wm_c hw_491)) (fun _ h9 => h9) rfl dX3_tellAct_133 ?_
        refine lv_iload_n hx hb dX3_tellAct_136 rfl (lv_at hl 1 rfl) ?_
        refine lv_aload_n hx hb dX3_tellAct_137 rfl (lv_at hl 0 rfl) ?_
        refine kc_i (wc := (wW_X3_takeCell ak ad hr_ ra ht ta pg pa Rcoded Rtaken_17 Rtoken_18 Rplace_19 Rvalue_20 Rfault_21 Rcn Tlen Tcnt Ttoks Tplc Tvals Pst Pce Pgi Pln)) (wr := [((ra 2), .inl (ak 0, 1000, .inl (Rcode))), ((pa 6), .inl (ak 0, 16, .inl (Pact))), ((pa 8), .inl (ak 0, 16, .inl (Ptarget))), ((pa 10), .inl (ak 0, 16, .inl (upd Pmiddle (xl).toNatClampNeg Rcoded)))]) hP hD hS hA [0, 1, 3, 4, 5, 6, 7] [2, 8, 9, 10] rfl rfl (by decide) (by decide) (va_runV (As := []) (rest := [.int (xl), .ref (pa 8)]) ⟨hx, hb, hml, hown, hts⟩ (c_X3_takeCell l D ak ad _ hr_ ra ht ta pg pa Rcoded Rtaken_17 Rtoken_18 Rplace_19 Rvalue_20 Rfault_21 Rcn Tlen Tcnt Ttoks Tplc Tvals Pst Pce Pgi Pln _ hw) (cwV 0 hts gX3_tellAct_X3_takeCell rfl rfl rfl hv_X3_takeCell ⟨(Nat.le_trans (Nat.le_of_ble_eq_true rfl) hRf), (Nat.le_trans (Nat.le_of_ble_eq_true rfl) hRl)⟩) (kc_preV (As := []) (wc := (wW_X3_takeCell ak ad hr_ ra ht ta pg pa Rcoded Rtaken_17 Rtoken_18 Rplace_19 Rvalue_20 Rfault_21 Rcn Tlen Tcnt Ttoks Tplc Tvals Pst Pce Pgi Pln)) hE hT hP hD hS hA [0, 1, 3, 4, 5, 6, 7] (by decide) rfl rfl 0 3 rfl rfl rfl) rfl rfl hl.1 rfl (lv_room (Nat.le_of_ble_eq_true rfl)) dX3_tellAct_138 ⟨hRc.1, hRc.2⟩) (fun r_29 u_23 H locs hw hP hD hS => ?_)
        obtain ⟨Rtaken_24, Rtoken_25, Rplace_26, Rvalue_27, Rfault_28⟩ := u_23
        try dsimp -zeta only at hw
        have hP : va_P D vwCl (wW_X3_tellAct ak ad hr_ ra ht ta pg pa Rcoded Rtaken_24 Rtoken_25 Rplace_26 Rvalue_27 Rfault_28 Rcn Rcode Tlen Tcnt Ttoks Tplc Tvals Pst Pce Pgi Pln Pact Ptarget (upd Pmiddle (xl).toNatClampNeg Rcoded)) H := hP.sub [4, 5, 0, 6, 7, 8, 9, 10, 1, 2, 3] rfl
        have hD : va_D A (wW_X3_tellAct ak ad hr_ ra ht ta pg pa Rcoded Rtaken_24 Rtoken_25 Rplace_26 Rvalue_27 Rfault_28 Rcn Rcode Tlen Tcnt Ttoks Tplc Tvals Pst Pce Pgi Pln Pact Ptarget (upd Pmiddle (xl).toNatClampNeg Rcoded)) := hD.sub [4, 5, 0, 6, 7, 8, 9, 10, 1, 2, 3] (by decide) rfl
        obtain ⟨h_30, hw⟩ := hw
        refine va_iast hx hb hE.1 hP hD hS 9 0 rfl rfl (h_30) dX3_tellAct_141 (fun H locs hP hD hS => ?_)
        have hP : va_P D vwCl (wW_X3_tellAct ak ad hr_ ra ht ta pg pa Rcoded Rtaken_24 Rtoken_25 Rplace_26 Rvalue_27 Rfault_28 Rcn Rcode Tlen Tcnt Ttoks Tplc Tvals Pst Pce Pgi Pln Pact (upd Ptarget (xl).toNatClampNeg r_29) (upd Pmiddle (xl).toNatClampNeg Rcoded)) H := hP
        have hD : va_D A (wW_X3_tellAct ak ad hr_ ra ht ta pg pa Rcoded Rtaken_24 Rtoken_25 Rplace_26 Rvalue_27 Rfault_28 Rcn Rcode Tlen Tcnt Ttoks Tplc Tvals Pst Pce Pgi Pln Pact (upd Ptarget (xl).toNatClampNeg r_29) (upd Pmiddle (xl).toNatClampNeg Rcoded)) := hD
        exact kR142 Rcoded Rtaken_24 Rtoken_25 Rplace_26 Rvalue_27 Rfault_28 Rcode Pact (upd Ptarget (xl).toNatClampNeg r_29) (upd Pmiddle (xl).toNatClampNeg Rcoded) _ _ _ hw hP hD hS
    · replace hw := hw.2 c_14
      refine lv_aload_n hx hb dX3_tellAct_101 rfl (lv_at hl 0 rfl) ?_
      refine va_gets hx hb (hT.1 19 (by decide)).1 hS hown (hts (.fieldLink RX3 199 "WornLines$Token" "BY_WORD" "LWornLines$Token;") (wm_c hw_492)) (fun _ h9 => h9) dX3_tellAct_102 ?_
      refine kc_v (wc := (wW_X3_expect ak ad hr_ ra ht ta pg Rcoded Rtaken Rtoken Rplace Rvalue Rfault Tlen Tcnt Ttoks Tplc Tvals)) (wr := [((ra 1), .inl (ak 1, 6, .inr (.inl (Rcn)))), ((ra 2), .inl (ak 0, 1000, .inl (Rcode))), (pg, .inr (2, pob pa (Pst) (Pce) (Pgi) (Pln))), ((pa 6), .inl (ak 0, 16, .inl (Pact))), ((pa 8), .inl (ak 0, 16, .inl (Ptarget))), ((pa 10), .inl (ak 0, 16, .inl (upd Pmiddle (xl).toNatClampNeg Rcoded)))]) hP hD hS hA [0, 3, 4, 5, 6] [1, 2, 7, 8, 9, 10] rfl rfl (by decide) (by decide) (va_runV (As := [.ref (ad 19)]) (rest := []) ⟨hx, hb, hml, hown, hts⟩ (c_X3_expect l D ak ad _ hr_ ra ht ta pg Rcoded Rtaken Rtoken Rplace Rvalue Rfault Tlen Tcnt Ttoks Tplc Tvals 19 _ hw) (cwV 1 hts gX3_tellAct_X3_expect rfl rfl rfl hv_X3_expect ⟨(Nat.le_trans (Nat.le_of_ble_eq_true rfl) hRf), (Nat.le_trans (Nat.le_of_ble_eq_true rfl) hRl)⟩) (kc_preV (As := [.ref (ad 19)]) (wc := (wW_X3_expect ak ad hr_ ra ht ta pg Rcoded Rtaken Rtoken Rplace Rvalue Rfault Tlen Tcnt Ttoks Tplc Tvals)) hE hT hP hD hS hA [0, 3, 4, 5, 6] (by decide) rfl rfl 0 3 rfl rfl rfl) rfl rfl hl.1 rfl (lv_room (Nat.le_of_ble_eq_true rfl)) dX3_tellAct_105 ⟨hRc.1, hRc.2⟩) (fun u_31 H locs hw hP hD hS => ?_)
      obtain ⟨Rtaken_32, Rtoken_33, Rplace_34, Rvalue_35, Rfault_36⟩ := u_31
      try dsimp -zeta only at hw
      have hP : va_P D vwCl (wW_X3_tellAct ak ad hr_ ra ht ta pg pa Rcoded Rtaken_32 Rtoken_33 Rplace_34 Rvalue_35 Rfault_36 Rcn Rcode Tlen Tcnt Ttoks Tplc Tvals Pst Pce Pgi Pln Pact Ptarget (upd Pmiddle (xl).toNatClampNeg Rcoded)) H := hP.sub [6, 0, 1, 7, 8, 9, 10, 2, 3, 4, 5] rfl
      have hD : va_D A (wW_X3_tellAct ak ad hr_ ra ht ta pg pa Rcoded Rtaken_32 Rtoken_33 Rplace_34 Rvalue_35 Rfault_36 Rcn Rcode Tlen Tcnt Ttoks Tplc Tvals Pst Pce Pgi Pln Pact Ptarget (upd Pmiddle (xl).toNatClampNeg Rcoded)) := hD.sub [6, 0, 1, 7, 8, 9, 10, 2, 3, 4, 5] (by decide) rfl
      refine lv_aload_n hx hb dX3_tellAct_108 rfl (lv_at hl 0 rfl) ?_
      refine lv_iconst (v := 0) hx hb dX3_tellAct_109 (by decide) ?_
      refine lv_iconst (v := 0) hx hb dX3_tellAct_110 (by decide) ?_
      refine kc_v (wc := (wW_X3_expression ak ad hr_ ra ht ta pg pa Rcoded Rtaken_32 Rtoken_33 Rplace_34 Rvalue_35 Rfault_36 Rcn Rcode Tlen Tcnt Ttoks Tplc Tvals Pst Pce Pgi Pln)) (wr := [((pa 6), .inl (ak 0, 16, .inl (Pact))), ((pa 8), .inl (ak 0, 16, .inl (Ptarget))), ((pa 10), .inl (ak 0, 16, .inl (upd Pmiddle (xl).toNatClampNeg Rcoded)))]) hP hD hS hA [0, 1, 2, 3, 4, 5, 6, 7] [8, 9, 10] rfl rfl (by decide) (by decide) (va_runV (As := [.int (0), .int (0)]) (rest := []) ⟨hx, hb, hml, hown, hts⟩ (c_X3_expressionF l D ak ad _ hr_ ra ht ta pg pa Rcoded Rtaken_32 Rtoken_33 Rplace_34 Rvalue_35 Rfault_36 Rcn Rcode Tlen Tcnt Ttoks Tplc Tvals Pst Pce Pgi Pln 0 0 _ hw) (cwV 2 hts gX3_tellAct_X3_expression rfl rfl rfl hv_X3_expression ⟨(Nat.le_trans (Nat.le_of_ble_eq_true rfl) hRf), (Nat.le_trans (Nat.le_of_ble_eq_true rfl) hRl)⟩) (kc_preV (As := [.int (0), .int (0)]) (wc := (wW_X3_expression ak ad hr_ ra ht ta pg pa Rcoded Rtaken_32 Rtoken_33 Rplace_34 Rvalue_35 Rfault_36 Rcn Rcode Tlen Tcnt Ttoks Tplc Tvals Pst Pce Pgi Pln)) hE hT hP hD hS hA [0, 1, 2, 3, 4, 5, 6, 7] (by decide) rfl rfl 0 3 rfl rfl rfl) rfl rfl hl.1 rfl (lv_room (Nat.le_of_ble_eq_true rfl)) dX3_tellAct_111 ⟨hRc.1, hRc.2⟩) (fun u_38 H locs hw hP hD hS => ?_)
      obtain ⟨Rcoded_39, Rtaken_40, Rtoken_41, Rplace_42, Rvalue_43, Rfault_44, Rcode_45⟩ := u_38
      try dsimp -zeta only at hw
      have hP : va_P D vwCl (wW_X3_tellAct ak ad hr_ ra ht ta pg pa Rcoded_39 Rtaken_40 Rtoken_41 Rplace_42 Rvalue_43 Rfault_44 Rcn Rcode_45 Tlen Tcnt Ttoks Tplc Tvals Pst Pce Pgi Pln Pact Ptarget (upd Pmiddle (xl).toNatClampNeg Rcoded)) H := hP.sub [3, 4, 5, 6, 7, 8, 9, 10, 0, 1, 2] rfl
      have hD : va_D A (wW_X3_tellAct ak ad hr_ ra ht ta pg pa Rcoded_39 Rtaken_40 Rtoken_41 Rplace_42 Rvalue_43 Rfault_44 Rcn Rcode_45 Tlen Tcnt Ttoks Tplc Tvals Pst Pce Pgi Pln Pact Ptarget (upd Pmiddle (xl).toNatClampNeg Rcoded)) := hD.sub [3, 4, 5, 6, 7, 8, 9, 10, 0, 1, 2] (by decide) rfl
      refine lv_goto (tgt := 142) hx hb dX3_tellAct_114 (by decide) ?_
      exact kR142 Rcoded_39 Rtaken_40 Rtoken_41 Rplace_42 Rvalue_43 Rfault_44 Rcode_45 Pact Ptarget (upd Pmiddle (xl).toNatClampNeg Rcoded) _ _ _ hw hP hD hS
  · replace hw := hw.2 c_13
    refine lv_aload_n hx hb dX3_tellAct_80 rfl (lv_at hl 0 rfl) ?_
    refine va_gets hx hb (hT.1 22 (by decide)).1 hS hown (hts (.fieldLink RX3 196 "WornLines$Token" "GO_WORD" "LWornLines$Token;") (wm_c hw_493)) (fun _ h9 => h9) dX3_tellAct_81 ?_
    refine kc_v (wc := (wW_X3_expect ak ad hr_ ra ht ta pg Rcoded Rtaken Rtoken Rplace Rvalue Rfault Tlen Tcnt Ttoks Tplc Tvals)) (wr := [((ra 1), .inl (ak 1, 6, .inr (.inl (Rcn)))), ((ra 2), .inl (ak 0, 1000, .inl (Rcode))), (pg, .inr (2, pob pa (Pst) (Pce) (Pgi) (Pln))), ((pa 6), .inl (ak 0, 16, .inl (Pact))), ((pa 8), .inl (ak 0, 16, .inl (Ptarget))), ((pa 10), .inl (ak 0, 16, .inl (upd Pmiddle (xl).toNatClampNeg Rcoded)))]) hP hD hS hA [0, 3, 4, 5, 6] [1, 2, 7, 8, 9, 10] rfl rfl (by decide) (by decide) (va_runV (As := [.ref (ad 22)]) (rest := []) ⟨hx, hb, hml, hown, hts⟩ (c_X3_expect l D ak ad _ hr_ ra ht ta pg Rcoded Rtaken Rtoken Rplace Rvalue Rfault Tlen Tcnt Ttoks Tplc Tvals 22 _ hw) (cwV 1 hts gX3_tellAct_X3_expect rfl rfl rfl hv_X3_expect ⟨(Nat.le_trans (Nat.le_of_ble_eq_true rfl) hRf), (Nat.le_trans (Nat.le_of_ble_eq_true rfl) hRl)⟩) (kc_preV (As := [.ref (ad 22)]) (wc := (wW_X3_expect ak ad hr_ ra ht ta pg Rcoded Rtaken Rtoken Rplace Rvalue Rfault Tlen Tcnt Ttoks Tplc Tvals)) hE hT hP hD hS hA [0, 3, 4, 5, 6] (by decide) rfl rfl 0 3 rfl rfl rfl) rfl rfl hl.1 rfl (lv_room (Nat.le_of_ble_eq_true rfl)) dX3_tellAct_84 ⟨hRc.1, hRc.2⟩) (fun u_47 H locs hw hP hD hS => ?_)
    obtain ⟨Rtaken_48, Rtoken_49, Rplace_50, Rvalue_51, Rfault_52⟩ := u_47
    try dsimp -zeta only at hw
    have hP : va_P D vwCl (wW_X3_tellAct ak ad hr_ ra ht ta pg pa Rcoded Rtaken_48 Rtoken_49 Rplace_50 Rvalue_51 Rfault_52 Rcn Rcode Tlen Tcnt Ttoks Tplc Tvals Pst Pce Pgi Pln Pact Ptarget (upd Pmiddle (xl).toNatClampNeg Rcoded)) H := hP.sub [6, 0, 1, 7, 8, 9, 10, 2, 3, 4, 5] rfl
    have hD : va_D A (wW_X3_tellAct ak ad hr_ ra ht ta pg pa Rcoded Rtaken_48 Rtoken_49 Rplace_50 Rvalue_51 Rfault_52 Rcn Rcode Tlen Tcnt Ttoks Tplc Tvals Pst Pce Pgi Pln Pact Ptarget (upd Pmiddle (xl).toNatClampNeg Rcoded)) := hD.sub [6, 0, 1, 7, 8, 9, 10, 2, 3, 4, 5] (by decide) rfl
    refine lv_aload_n hx hb dX3_tellAct_87 rfl (lv_at hl 0 rfl) ?_
    refine lv_iconst (v := 0) hx hb dX3_tellAct_88 (by decide) ?_
    refine lv_iconst (v := 0) hx hb dX3_tellAct_89 (by decide) ?_
    refine kc_v (wc := (wW_X3_expression ak ad hr_ ra ht ta pg pa Rcoded Rtaken_48 Rtoken_49 Rplace_50 Rvalue_51 Rfault_52 Rcn Rcode Tlen Tcnt Ttoks Tplc Tvals Pst Pce Pgi Pln)) (wr := [((pa 6), .inl (ak 0, 16, .inl (Pact))), ((pa 8), .inl (ak 0, 16, .inl (Ptarget))), ((pa 10), .inl (ak 0, 16, .inl (upd Pmiddle (xl).toNatClampNeg Rcoded)))]) hP hD hS hA [0, 1, 2, 3, 4, 5, 6, 7] [8, 9, 10] rfl rfl (by decide) (by decide) (va_runV (As := [.int (0), .int (0)]) (rest := []) ⟨hx, hb, hml, hown, hts⟩ (c_X3_expressionF l D ak ad _ hr_ ra ht ta pg pa Rcoded Rtaken_48 Rtoken_49 Rplace_50 Rvalue_51 Rfault_52 Rcn Rcode Tlen Tcnt Ttoks Tplc Tvals Pst Pce Pgi Pln 0 0 _ hw) (cwV 2 hts gX3_tellAct_X3_expression rfl rfl rfl hv_X3_expression ⟨(Nat.le_trans (Nat.le_of_ble_eq_true rfl) hRf), (Nat.le_trans (Nat.le_of_ble_eq_true rfl) hRl)⟩) (kc_preV (As := [.int (0), .int (0)]) (wc := (wW_X3_expression ak ad hr_ ra ht ta pg pa Rcoded Rtaken_48 Rtoken_49 Rplace_50 Rvalue_51 Rfault_52 Rcn Rcode Tlen Tcnt Ttoks Tplc Tvals Pst Pce Pgi Pln)) hE hT hP hD hS hA [0, 1, 2, 3, 4, 5, 6, 7] (by decide) rfl rfl 0 3 rfl rfl rfl) rfl rfl hl.1 rfl (lv_room (Nat.le_of_ble_eq_true rfl)) dX3_tellAct_90 ⟨hRc.1, hRc.2⟩) (fun u_54 H locs hw hP hD hS => ?_)
    obtain ⟨Rcoded_55, Rtaken_56, Rtoken_57, Rplace_58, Rvalue_59, Rfault_60, Rcode_61⟩ := u_54
    try dsimp -zeta only at hw
    have hP : va_P D vwCl (wW_X3_tellAct ak ad hr_ ra ht ta pg pa Rcoded_55 Rtaken_56 Rtoken_57 Rplace_58 Rvalue_59 Rfault_60 Rcn Rcode_61 Tlen Tcnt Ttoks Tplc Tvals Pst Pce Pgi Pln Pact Ptarget (upd Pmiddle (xl).toNatClampNeg Rcoded)) H := hP.sub [3, 4, 5, 6, 7, 8, 9, 10, 0, 1, 2] rfl
    have hD : va_D A (wW_X3_tellAct ak ad hr_ ra ht ta pg pa Rcoded_55 Rtaken_56 Rtoken_57 Rplace_58 Rvalue_59 Rfault_60 Rcn Rcode_61 Tlen Tcnt Ttoks Tplc Tvals Pst Pce Pgi Pln Pact Ptarget (upd Pmiddle (xl).toNatClampNeg Rcoded)) := hD.sub [3, 4, 5, 6, 7, 8, 9, 10, 0, 1, 2] (by decide) rfl
    refine lv_goto (tgt := 142) hx hb dX3_tellAct_93 (by decide) ?_
    exact kR142 Rcoded_55 Rtaken_56 Rtoken_57 Rplace_58 Rvalue_59 Rfault_60 Rcode_61 Pact Ptarget (upd Pmiddle (xl).toNatClampNeg Rcoded) _ _ _ hw hP hD hS

def kf_X3_tellAct_50 (Rcn : Nat → Int64) (Tcnt : Int32) (Ttoks : Nat → Nat) (Tplc : Nat → Int32) (Tvals : Nat → Int64) (Pce : Int32) (xl : Int32)  (Φ : Int32 → Int32 → Nat → Int32 → Int64 → Int32 → (Nat → Int32) → (Nat → Int32) → (Nat → Int32) → (Nat → Int32) → Prop) (Rcoded : Int32) (Rtaken : Int32) (Rtoken : Nat) (Rplace : Int32) (Rvalue : Int64) (Rfault : Int32) (Rcode : Nat → Int32) (Pact : Nat → Int32) (Ptarget : Nat → Int32) (Pmiddle : Nat → Int32) (l2 : Int32) : Prop := (l2 = 6 → kf_X3_tellAct_62 Rcn Tcnt Ttoks Tplc Tvals Pce xl  Φ Rcoded Rtaken Rtoken Rplace Rvalue Rfault Rcode Pact Ptarget Pmiddle l2) ∧ (¬ l2 = 6 → wp_X3_expressionF Rcn Tcnt Ttoks Tplc Tvals Pce 0 0 Rcoded Rtaken Rtoken Rplace Rvalue Rfault Rcode (fun Rcoded_64 Rtaken_65 Rtoken_66 Rplace_67 Rvalue_68 Rfault_69 Rcode_70 => kf_X3_tellAct_62 Rcn Tcnt Ttoks Tplc Tvals Pce xl  Φ Rcoded_64 Rtaken_65 Rtoken_66 Rplace_67 Rvalue_68 Rfault_69 Rcode_70 Pact Ptarget Pmiddle l2))
set_option maxHeartbeats 4000000 in
set_option maxRecDepth 100000 in
theorem kj_X3_tellAct_50 {p : Program} {l : Launch} {e : Env} {R : Room} {s : State} {m : MethodId} {args : Array Value} {below : List Frame} {meth : Method} {c : Code} {cells slots : Nat} {Q : State → Prop} {A : Nat → Prop} {D : va_G} {ak : Nat → ClassId} {ad : Nat → Nat} (hx : p.tables.exec = Jvm.exec) (hb : c.code = cX3_tellAct) (hown : s.vm.findClass RX3 = some m.cls) (hts : ∀ w ∈ wsX3_tellAct, w.before args s = true) (hml : c.maxLocals = 3) (hE : EV D ak s) (hT : ST D ak ad A s s.heap) (hA : ∀ q, s.heap.size ≤ q → A q) (hRf : 45 ≤ R.frames) (hRl : 2665 ≤ R.locals) (hRc : cells ≤ R.cells ∧ slots ≤ R.slots) (hr_ : Nat) (ra : Nat → Nat) (ht : Nat) (ta : Nat → Nat) (pg : Nat) (pa : Nat → Nat) (Rcn : Nat → Int64) (Tlen : Int32) (Tcnt : Int32) (Ttoks : Nat → Nat) (Tplc : Nat → Int32) (Tvals : Nat → Int64) (Pst : Int32) (Pce : Int32) (Pgi : Int32) (Pln : Int32) (xl : Int32)  (Φ : Int32 → Int32 → Nat → Int32 → Int64 → Int32 → (Nat → Int32) → (Nat → Int32) → (Nat → Int32) → (Nat → Int32) → Prop)
    (kR18 : ∀ (Rcoded : Int32) (Rtaken : Int32) (Rtoken : Nat) (Rplace : Int32) (Rvalue : Int64) (Rfault : Int32) (Rcode : Nat → Int32) (Pact : Nat → Int32) (Ptarget : Nat → Int32) (Pmiddle : Nat → Int32) (H : Heap) (locs : List Loc) (ls : Array Slot), Φ Rcoded Rtaken Rtoken Rplace Rvalue Rfault Rcode Pact Ptarget Pmiddle → va_P D vwCl (wW_X3_tellAct ak ad hr_ ra ht ta pg pa Rcoded Rtaken Rtoken Rplace Rvalue Rfault Rcn Rcode Tlen Tcnt Ttoks Tplc Tvals Pst Pce Pgi Pln Pact Ptarget Pmiddle) H → va_D A (wW_X3_tellAct ak ad hr_ ra ht ta pg pa Rcoded Rtaken Rtoken Rplace Rvalue Rfault Rcn Rcode Tlen Tcnt Ttoks Tplc Tvals Pst Pce Pgi Pln Pact Ptarget Pmiddle) → va_S A s.heap H locs → W p l e R s m args below meth c H locs cells slots Q (F0 m 18 ls []))
    (kR142 : ∀ (Rcoded : Int32) (Rtaken : Int32) (Rtoken : Nat) (Rplace : Int32) (Rvalue : Int64) (Rfault : Int32) (Rcode : Nat → Int32) (Pact : Nat → Int32) (Ptarget : Nat → Int32) (Pmiddle : Nat → Int32) (H : Heap) (locs : List Loc) (ls : Array Slot), Φ Rcoded Rtaken Rtoken Rplace Rvalue Rfault Rcode Pact Ptarget Pmiddle → va_P D vwCl (wW_X3_tellAct ak ad hr_ ra ht ta pg pa Rcoded Rtaken Rtoken Rplace Rvalue Rfault Rcn Rcode Tlen Tcnt Ttoks Tplc Tvals Pst Pce Pgi Pln Pact Ptarget Pmiddle) H → va_D A (wW_X3_tellAct ak ad hr_ ra ht ta pg pa Rcoded Rtaken Rtoken Rplace Rvalue Rfault Rcn Rcode Tlen Tcnt Ttoks Tplc Tvals Pst Pce Pgi Pln Pact Ptarget Pmiddle) → va_S A s.heap H locs → W p l e R s m args below meth c H locs cells slots Q (F0 m 142 ls []))
    : ∀ (Rcoded : Int32) (Rtaken : Int32) (Rtoken : Nat) (Rplace : Int32) (Rvalue : Int64) (Rfault : Int32) (Rcode : Nat → Int32) (Pact : Nat → Int32) (Ptarget : Nat → Int32) (Pmiddle : Nat → Int32) (l2 : Int32) (H : Heap) (locs : List Loc) (ls : Array Slot), kf_X3_tellAct_50 Rcn Tcnt Ttoks Tplc Tvals Pce xl  Φ Rcoded Rtaken Rtoken Rplace Rvalue Rfault Rcode Pact Ptarget Pmiddle l2 → va_P D vwCl (wW_X3_tellAct ak ad hr_ ra ht ta pg pa Rcoded Rtaken Rtoken Rplace Rvalue Rfault Rcn Rcode Tlen Tcnt Ttoks Tplc Tvals Pst Pce Pgi Pln Pact Ptarget Pmiddle) H → va_D A (wW_X3_tellAct ak ad hr_ ra ht ta pg pa Rcoded Rtaken Rtoken Rplace Rvalue Rfault Rcn Rcode Tlen Tcnt Ttoks Tplc Tvals Pst Pce Pgi Pln Pact Ptarget Pmiddle) → va_S A s.heap H locs → lv_has ls 3 [(0, .ref hr_), (1, .int (xl)), (2, .int (l2))] → W p l e R s m args below meth c H locs cells slots Q (F0 m 50 ls ([])) := by
  intro Rcoded Rtaken Rtoken Rplace Rvalue Rfault Rcode Pact Ptarget Pmiddle l2 H locs ls hw hP hD hS hl
  delta kf_X3_tellAct_50 at hw
  refine lv_iload_n hx hb dX3_tellAct_50 rfl (lv_at hl 2 rfl) ?_
  refine lv_bipush (v := 6) hx hb dX3_tellAct_51 (by decide) ?_
  refine lv_icmp_eq (tgt := 62) hx hb dX3_tellAct_53 (by decide) (fun c_11 => ?_) (fun c_11 => ?_)
  · replace hw := hw.1 c_11
    exact kj_X3_tellAct_62 hx hb hown hts hml hE hT hA hRf hRl hRc hr_ ra ht ta pg pa Rcn Tlen Tcnt Ttoks Tplc Tvals Pst Pce Pgi Pln xl  Φ  kR18 kR142 Rcoded Rtaken Rtoken Rplace Rvalue Rfault Rcode Pact Ptarget Pmiddle l2 _ _ _ hw hP hD hS (lv_sub hl [0, 1, 2] rfl)
  · replace hw := hw.2 c_11
    refine lv_aload_n hx hb dX3_tellAct_56 rfl (lv_at hl 0 rfl) ?_
    refine lv_iconst (v := 0) hx hb dX3_tellAct_57 (by decide) ?_
    refine lv_iconst (v := 0) hx hb dX3_tellAct_58 (by decide) ?_
    refine kc_v (wc := (wW_X3_expression ak ad hr_ ra ht ta pg pa Rcoded Rtaken Rtoken Rplace Rvalue Rfault Rcn Rcode Tlen Tcnt Ttoks Tplc Tvals Pst Pce Pgi Pln)) (wr := [((pa 6), .inl (ak 0, 16, .inl (Pact))), ((pa 8), .inl (ak 0, 16, .inl (Ptarget))), ((pa 10), .inl (ak 0, 16, .inl (Pmiddle)))]) hP hD hS hA [0, 1, 2, 3, 4, 5, 6, 7] [8, 9, 10] rfl rfl (by decide) (by decide) (va_runV (As := [.int (0), .int (0)]) (rest := []) ⟨hx, hb, hml, hown, hts⟩ (c_X3_expressionF l D ak ad _ hr_ ra ht ta pg pa Rcoded Rtaken Rtoken Rplace Rvalue Rfault Rcn Rcode Tlen Tcnt Ttoks Tplc Tvals Pst Pce Pgi Pln 0 0 _ hw) (cwV 2 hts gX3_tellAct_X3_expression rfl rfl rfl hv_X3_expression ⟨(Nat.le_trans (Nat.le_of_ble_eq_true rfl) hRf), (Nat.le_trans (Nat.le_of_ble_eq_true rfl) hRl)⟩) (kc_preV (As := [.int (0), .int (0)]) (wc := (wW_X3_expression ak ad hr_ ra ht ta pg pa Rcoded Rtaken Rtoken Rplace Rvalue Rfault Rcn Rcode Tlen Tcnt Ttoks Tplc Tvals Pst Pce Pgi Pln)) hE hT hP hD hS hA [0, 1, 2, 3, 4, 5, 6, 7] (by decide) rfl rfl 0 3 rfl rfl rfl) rfl rfl hl.1 rfl (lv_room (Nat.le_of_ble_eq_true rfl)) dX3_tellAct_59 ⟨hRc.1, hRc.2⟩) (fun u_63 H locs hw hP hD hS => ?_)
    obtain ⟨Rcoded_64, Rtaken_65, Rtoken_66, Rplace_67, Rvalue_68, Rfault_69, Rcode_70⟩ := u_63
    try dsimp -zeta only at hw
    have hP : va_P D vwCl (wW_X3_tellAct ak ad hr_ ra ht ta pg pa Rcoded_64 Rtaken_65 Rtoken_66 Rplace_67 Rvalue_68 Rfault_69 Rcn Rcode_70 Tlen Tcnt Ttoks Tplc Tvals Pst Pce Pgi Pln Pact Ptarget Pmiddle) H := hP.sub [3, 4, 5, 6, 7, 8, 9, 10, 0, 1, 2] rfl
    have hD : va_D A (wW_X3_tellAct ak ad hr_ ra ht ta pg pa Rcoded_64 Rtaken_65 Rtoken_66 Rplace_67 Rvalue_68 Rfault_69 Rcn Rcode_70 Tlen Tcnt Ttoks Tplc Tvals Pst Pce Pgi Pln Pact Ptarget Pmiddle) := hD.sub [3, 4, 5, 6, 7, 8, 9, 10, 0, 1, 2] (by decide) rfl
    exact kj_X3_tellAct_62 hx hb hown hts hml hE hT hA hRf hRl hRc hr_ ra ht ta pg pa Rcn Tlen Tcnt Ttoks Tplc Tvals Pst Pce Pgi Pln xl  Φ  kR18 kR142 Rcoded_64 Rtaken_65 Rtoken_66 Rplace_67 Rvalue_68 Rfault_69 Rcode_70 Pact Ptarget Pmiddle l2 _ _ _ hw hP hD hS (lv_sub hl [0, 1, 2] rfl)

def wp_X3_tellAct (Rcn : Nat → Int64) (Tcnt : Int32) (Ttoks : Nat → Nat) (Tplc : Nat → Int32) (Tvals : Nat → Int64) (Pce : Int32) (xl : Int32) (Rcoded : Int32) (Rtaken : Int32) (Rtoken : Nat) (Rplace : Int32) (Rvalue : Int64) (Rfault : Int32) (Rcode : Nat → Int32) (Pact : Nat → Int32) (Ptarget : Nat → Int32) (Pmiddle : Nat → Int32) (Φ : Int32 → Int32 → Nat → Int32 → Int64 → Int32 → (Nat → Int32) → (Nat → Int32) → (Nat → Int32) → (Nat → Int32) → Prop) : Prop := Rtoken < 31 ∧ (¬ (tkA Rtoken) = (-1) → vp_in xl 16 ∧ wp_X3_advance Tcnt Ttoks Tplc Tvals Rtaken Rtoken Rplace Rvalue (fun Rtaken_5 Rtoken_6 Rplace_7 Rvalue_8 => (¬ (tkA Rtoken) = 0 → kf_X3_tellAct_50 Rcn Tcnt Ttoks Tplc Tvals Pce xl  Φ Rcoded Rtaken_5 Rtoken_6 Rplace_7 Rvalue_8 Rfault Rcode (upd Pact (xl).toNatClampNeg ((tkA Rtoken))) Ptarget Pmiddle (tkA Rtoken)) ∧ ((tkA Rtoken) = 0 → wp_X3_takeCell Rcn Tcnt Ttoks Tplc Tvals Pce Rtaken_5 Rtoken_6 Rplace_7 Rvalue_8 Rfault (fun r_78 Rtaken_73 Rtoken_74 Rplace_75 Rvalue_76 Rfault_77 => vp_in xl 16 ∧ kf_X3_tellAct_50 Rcn Tcnt Ttoks Tplc Tvals Pce xl  Φ Rcoded Rtaken_73 Rtoken_74 Rplace_75 Rvalue_76 Rfault_77 Rcode (upd Pact (xl).toNatClampNeg ((tkA Rtoken))) (upd Ptarget (xl).toNatClampNeg r_78) Pmiddle (tkA Rtoken))))) ∧ ((tkA Rtoken) = (-1) → wp_X3_fail Rplace 1 Rfault (fun Rfault_81 => Φ Rcoded Rtaken Rtoken Rplace Rvalue Rfault_81 Rcode Pact Ptarget Pmiddle))
set_option maxHeartbeats 4000000 in
set_option maxRecDepth 100000 in
theorem kj_X3_tellAct_e {p : Program} {l : Launch} {e : Env} {R : Room} {s : State} {m : MethodId} {args : Array Value} {below : List Frame} {meth : Method} {c : Code} {cells slots : Nat} {Q : State → Prop} {A : Nat → Prop} {D : va_G} {ak : Nat → ClassId} {ad : Nat → Nat} (hx : p.tables.exec = Jvm.exec) (hb : c.code = cX3_tellAct) (hown : s.vm.findClass RX3 = some m.cls) (hts : ∀ w ∈ wsX3_tellAct, w.before args s = true) (hml : c.maxLocals = 3) (hE : EV D ak s) (hT : ST D ak ad A s s.heap) (hA : ∀ q, s.heap.size ≤ q → A q) (hRf : 45 ≤ R.frames) (hRl : 2665 ≤ R.locals) (hRc : cells ≤ R.cells ∧ slots ≤ R.slots) (hr_ : Nat) (ra : Nat → Nat) (ht : Nat) (ta : Nat → Nat) (pg : Nat) (pa : Nat → Nat) (Rcn : Nat → Int64) (Tlen : Int32) (Tcnt : Int32) (Ttoks : Nat → Nat) (Tplc : Nat → Int32) (Tvals : Nat → Int64) (Pst : Int32) (Pce : Int32) (Pgi : Int32) (Pln : Int32) (xl : Int32)  (Φ : Int32 → Int32 → Nat → Int32 → Int64 → Int32 → (Nat → Int32) → (Nat → Int32) → (Nat → Int32) → (Nat → Int32) → Prop)
    (kR18 : ∀ (Rcoded : Int32) (Rtaken : Int32) (Rtoken : Nat) (Rplace : Int32) (Rvalue : Int64) (Rfault : Int32) (Rcode : Nat → Int32) (Pact : Nat → Int32) (Ptarget : Nat → Int32) (Pmiddle : Nat → Int32) (H : Heap) (locs : List Loc) (ls : Array Slot), Φ Rcoded Rtaken Rtoken Rplace Rvalue Rfault Rcode Pact Ptarget Pmiddle → va_P D vwCl (wW_X3_tellAct ak ad hr_ ra ht ta pg pa Rcoded Rtaken Rtoken Rplace Rvalue Rfault Rcn Rcode Tlen Tcnt Ttoks Tplc Tvals Pst Pce Pgi Pln Pact Ptarget Pmiddle) H → va_D A (wW_X3_tellAct ak ad hr_ ra ht ta pg pa Rcoded Rtaken Rtoken Rplace Rvalue Rfault Rcn Rcode Tlen Tcnt Ttoks Tplc Tvals Pst Pce Pgi Pln Pact Ptarget Pmiddle) → va_S A s.heap H locs → W p l e R s m args below meth c H locs cells slots Q (F0 m 18 ls []))
    (kR142 : ∀ (Rcoded : Int32) (Rtaken : Int32) (Rtoken : Nat) (Rplace : Int32) (Rvalue : Int64) (Rfault : Int32) (Rcode : Nat → Int32) (Pact : Nat → Int32) (Ptarget : Nat → Int32) (Pmiddle : Nat → Int32) (H : Heap) (locs : List Loc) (ls : Array Slot), Φ Rcoded Rtaken Rtoken Rplace Rvalue Rfault Rcode Pact Ptarget Pmiddle → va_P D vwCl (wW_X3_tellAct ak ad hr_ ra ht ta pg pa Rcoded Rtaken Rtoken Rplace Rvalue Rfault Rcn Rcode Tlen Tcnt Ttoks Tplc Tvals Pst Pce Pgi Pln Pact Ptarget Pmiddle) H → va_D A (wW_X3_tellAct ak ad hr_ ra ht ta pg pa Rcoded Rtaken Rtoken Rplace Rvalue Rfault Rcn Rcode Tlen Tcnt Ttoks Tplc Tvals Pst Pce Pgi Pln Pact Ptarget Pmiddle) → va_S A s.heap H locs → W p l e R s m args below meth c H locs cells slots Q (F0 m 142 ls []))
    : ∀ (Rcoded : Int32) (Rtaken : Int32) (Rtoken : Nat) (Rplace : Int32) (Rvalue : Int64) (Rfault : Int32) (Rcode : Nat → Int32) (Pact : Nat → Int32) (Ptarget : Nat → Int32) (Pmiddle : Nat → Int32) (H : Heap) (locs : List Loc) (ls : Array Slot), wp_X3_tellAct Rcn Tcnt Ttoks Tplc Tvals Pce xl Rcoded Rtaken Rtoken Rplace Rvalue Rfault Rcode Pact Ptarget Pmiddle Φ → va_P D vwCl (wW_X3_tellAct ak ad hr_ ra ht ta pg pa Rcoded Rtaken Rtoken Rplace Rvalue Rfault Rcn Rcode Tlen Tcnt Ttoks Tplc Tvals Pst Pce Pgi Pln Pact Ptarget Pmiddle) H → va_D A (wW_X3_tellAct ak ad hr_ ra ht ta pg pa Rcoded Rtaken Rtoken Rplace Rvalue Rfault Rcn Rcode Tlen Tcnt Ttoks Tplc Tvals Pst Pce Pgi Pln Pact Ptarget Pmiddle) → va_S A s.heap H locs → lv_has ls 3 [(0, .ref hr_), (1, .int (xl))] → W p l e R s m args below meth c H locs cells slots Q (F0 m 0 ls ([])) := by
  intro Rcoded Rtaken Rtoken Rplace Rvalue Rfault Rcode Pact Ptarget Pmiddle H locs ls hw hP hD hS hl
  delta wp_X3_tellAct at hw
  refine lv_aload_n hx hb dX3_tellAct_0 rfl (lv_at hl 0 rfl) ?_
  refine vt_get (D := D) (ci := 3) (v := .ref (ad Rtoken)) (C := RX3) (T := TX3) (N := 11) hx hb hts (fun w h => wm_c (wc_X3 w h)) hown hE.1 hP 0 rfl rfl 7 (by decide) tX3_7 (hts (.fieldLink RX3 28 "WornLines$Reader" "token" "LWornLines$Token;") (wm_c hw_290)) (fun _ h9 => h9) rfl dX3_tellAct_1 ?_
  obtain ⟨h_1, hw⟩ := hw
  refine vk_getf hx hb (hT.1 Rtoken h_1).2.2.2.2.2 hS hown (hts (.fieldLink RX3 178 "WornLines$Token" "act" "I") (wm_c hw_494)) (fun _ h9 => h9) dX3_tellAct_4 ?_
  refine lv_istore_n (lv' := [(2, .int (tkA Rtoken)), (0, .ref hr_), (1, .int (xl))]) hx hb dX3_tellAct_7 rfl hl (by decide) rfl (fun ls hl => ?_)
  refine lv_iload_n hx hb dX3_tellAct_8 rfl (lv_at hl 0 rfl) ?_
  refine lv_iconst (v := (-1)) hx hb dX3_tellAct_9 (by decide) ?_
  refine lv_icmp_ne (tgt := 19) hx hb dX3_tellAct_10 (by decide) (fun c_2 => ?_) (fun c_2 => ?_)
  · replace hw := hw.1 c_2
    refine lv_aload_n hx hb dX3_tellAct_19 rfl (lv_at hl 1 rfl) ?_
    refine vt_get (D := D) (ci := 3) (v := .ref pg) (C := RX3) (T := TX3) (N := 11) hx hb hts (fun w h => wm_c (wc_X3 w h)) hown hE.1 hP 0 rfl rfl 5 (by decide) tX3_5 (hts (.fieldLink RX3 35 "WornLines$Reader" "told" "LWornLines$Programme;") (wm_c hw_292)) (fun _ h9 => h9) rfl dX3_tellAct_20 ?_
    refine vt_get (D := D) (ci := 2) (v := .ref (pa 6)) (C := RX2) (T := TX2) (N := 17) hx hb hts (fun w h => wm_c (wc_X2 w h)) hown hE.1 hP 7 rfl rfl 10 (by decide) tX2_10 (hts (.fieldLink RX3 181 "WornLines$Programme" "act" "[I") (wm_c hw_495)) (fun _ h9 => h9) rfl dX3_tellAct_23 ?_
    refine lv_iload_n hx hb dX3_tellAct_26 rfl (lv_at hl 2 rfl) ?_
    refine lv_iload_n hx hb dX3_tellAct_27 rfl (lv_at hl 0 rfl) ?_
    obtain ⟨h_3, hw⟩ := hw
    refine va_iast hx hb hE.1 hP hD hS 8 0 rfl rfl (h_3) dX3_tellAct_28 (fun H locs hP hD hS => ?_)
    have hP : va_P D vwCl (wW_X3_tellAct ak ad hr_ ra ht ta pg pa Rcoded Rtaken Rtoken Rplace Rvalue Rfault Rcn Rcode Tlen Tcnt Ttoks Tplc Tvals Pst Pce Pgi Pln (upd Pact (xl).toNatClampNeg ((tkA Rtoken))) Ptarget Pmiddle) H := hP
    have hD : va_D A (wW_X3_tellAct ak ad hr_ ra ht ta pg pa Rcoded Rtaken Rtoken Rplace Rvalue Rfault Rcn Rcode Tlen Tcnt Ttoks Tplc Tvals Pst Pce Pgi Pln (upd Pact (xl).toNatClampNeg ((tkA Rtoken))) Ptarget Pmiddle) := hD
    refine lv_aload_n hx hb dX3_tellAct_29 rfl (lv_at hl 1 rfl) ?_
    refine kc_v (wc := (wW_X3_advance ak ad hr_ ra ht ta pg Rcoded Rtaken Rtoken Rplace Rvalue Rfault Tlen Tcnt Ttoks Tplc Tvals)) (wr := [((ra 1), .inl (ak 1, 6, .inr (.inl (Rcn)))), ((ra 2), .inl (ak 0, 1000, .inl (Rcode))), (pg, .inr (2, pob pa (Pst) (Pce) (Pgi) (Pln))), ((pa 6), .inl (ak 0, 16, .inl (upd Pact (xl).toNatClampNeg ((tkA Rtoken))))), ((pa 8), .inl (ak 0, 16, .inl (Ptarget))), ((pa 10), .inl (ak 0, 16, .inl (Pmiddle)))]) hP hD hS hA [0, 3, 4, 5, 6] [1, 2, 7, 8, 9, 10] rfl rfl (by decide) (by decide) (va_runV (As := []) (rest := []) ⟨hx, hb, hml, hown, hts⟩ (c_X3_advance l D ak ad _ hr_ ra ht ta pg Rcoded Rtaken Rtoken Rplace Rvalue Rfault Tlen Tcnt Ttoks Tplc Tvals _ hw) (cwV 0 hts gX3_tellAct_X3_advance rfl rfl rfl hv_X3_advance ⟨(Nat.le_trans (Nat.le_of_ble_eq_true rfl) hRf), (Nat.le_trans (Nat.le_of_ble_eq_true rfl) hRl)⟩) (kc_preV (As := []) (wc := (wW_X3_advance ak ad hr_ ra ht ta pg Rcoded Rtaken Rtoken Rplace Rvalue Rfault Tlen Tcnt Ttoks Tplc Tvals)) hE hT hP hD hS hA [0, 3, 4, 5, 6] (by decide) rfl rfl 0 3 rfl rfl rfl) rfl rfl hl.1 rfl (lv_room (Nat.le_of_ble_eq_true rfl)) dX3_tellAct_30 ⟨hRc.1, hRc.2⟩) (fun u_4 H locs hw hP hD hS => ?_)
    obtain ⟨Rtaken_5, Rtoken_6, Rplace_7, Rvalue_8⟩ := u_4
    try dsimp -zeta only at hw
    have hP : va_P D vwCl (wW_X3_tellAct ak ad hr_ ra ht ta pg pa Rcoded Rtaken_5 Rtoken_6 Rplace_7 Rvalue_8 Rfault Rcn Rcode Tlen Tcnt Ttoks Tplc Tvals Pst Pce Pgi Pln (upd Pact (xl).toNatClampNeg ((tkA Rtoken))) Ptarget Pmiddle) H := hP.sub [6, 0, 1, 7, 8, 9, 10, 2, 3, 4, 5] rfl
    have hD : va_D A (wW_X3_tellAct ak ad hr_ ra ht ta pg pa Rcoded Rtaken_5 Rtoken_6 Rplace_7 Rvalue_8 Rfault Rcn Rcode Tlen Tcnt Ttoks Tplc Tvals Pst Pce Pgi Pln (upd Pact (xl).toNatClampNeg ((tkA Rtoken))) Ptarget Pmiddle) := hD.sub [6, 0, 1, 7, 8, 9, 10, 2, 3, 4, 5] (by decide) rfl
    refine lv_iload_n hx hb dX3_tellAct_33 rfl (lv_at hl 0 rfl) ?_
    refine lv_if_ne (tgt := 50) hx hb dX3_tellAct_34 (by decide) (fun c_10 => ?_) (fun c_10 => ?_)
    · replace hw := hw.1 c_10
      exact kj_X3_tellAct_50 hx hb hown hts hml hE hT hA hRf hRl hRc hr_ ra ht ta pg pa Rcn Tlen Tcnt Ttoks Tplc Tvals Pst Pce Pgi Pln xl  Φ  kR18 kR142 Rcoded Rtaken_5 Rtoken_6 Rplace_7 Rvalue_8 Rfault Rcode (upd Pact (xl).toNatClampNeg ((tkA Rtoken))) Ptarget Pmiddle (tkA Rtoken) _ _ _ hw hP hD hS (lv_sub hl [1, 2, 0] rfl)
    · replace hw := hw.2 c_10
      refine lv_aload_n hx hb dX3_tellAct_37 rfl (lv_at hl 1 rfl) ?_
      refine vt_get (D := D) (ci := 3) (v := .ref pg) (C := RX3) (T := TX3) (N := 11) hx hb hts (fun w h => wm_c (wc_X3 w h)) hown hE.1 hP 0 rfl rfl 5 (by decide) tX3_5 (hts (.fieldLink RX3 35 "WornLines$Reader" "told" "LWornLines$Programme;") (wm_c hw_292)) (fun _ h9 => h9) rfl dX3_tellAct_38 ?_
      refine vt_get (D := D) (ci := 2) (v := .ref (pa 8)) (C := RX2) (T := TX2) (N := 17) hx hb hts (fun w h => wm_c (wc_X2 w h)) hown hE.1 hP 7 rfl rfl 12 (by decide) tX2_12 (hts (.fieldLink RX3 183 "WornLines$Programme" "target" "[I") (wm_c hw_491)) (fun _ h9 => h9) rfl dX3_tellAct_41 ?_
      refine lv_iload_n hx hb dX3_tellAct_44 rfl (lv_at hl 2 rfl) ?_
      refine lv_aload_n hx hb dX3_tellAct_45 rfl (lv_at hl 1 rfl) ?_
      refine kc_i (wc := (wW_X3_takeCell ak ad hr_ ra ht ta pg pa Rcoded Rtaken_5 Rtoken_6 Rplace_7 Rvalue_8 Rfault Rcn Tlen Tcnt Ttoks Tplc Tvals Pst Pce Pgi Pln)) (wr := [((ra 2), .inl (ak 0, 1000, .inl (Rcode))), ((pa 6), .inl (ak 0, 16, .inl (upd Pact (xl).toNatClampNeg ((tkA Rtoken))))), ((pa 8), .inl (ak 0, 16, .inl (Ptarget))), ((pa 10), .inl (ak 0, 16, .inl (Pmiddle)))]) hP hD hS hA [0, 1, 3, 4, 5, 6, 7] [2, 8, 9, 10] rfl rfl (by decide) (by decide) (va_runV (As := []) (rest := [.int (xl), .ref (pa 8)]) ⟨hx, hb, hml, hown, hts⟩ (c_X3_takeCell l D ak ad _ hr_ ra ht ta pg pa Rcoded Rtaken_5 Rtoken_6 Rplace_7 Rvalue_8 Rfault Rcn Tlen Tcnt Ttoks Tplc Tvals Pst Pce Pgi Pln _ hw) (cwV 0 hts gX3_tellAct_X3_takeCell rfl rfl rfl hv_X3_takeCell ⟨(Nat.le_trans (Nat.le_of_ble_eq_true rfl) hRf), (Nat.le_trans (Nat.le_of_ble_eq_true rfl) hRl)⟩) (kc_preV (As := []) (wc := (wW_X3_takeCell ak ad hr_ ra ht ta pg pa Rcoded Rtaken_5 Rtoken_6 Rplace_7 Rvalue_8 Rfault Rcn Tlen Tcnt Ttoks Tplc Tvals Pst Pce Pgi Pln)) hE hT hP hD hS hA [0, 1, 3, 4, 5, 6, 7] (by decide) rfl rfl 0 3 rfl rfl rfl) rfl rfl hl.1 rfl (lv_room (Nat.le_of_ble_eq_true rfl)) dX3_tellAct_46 ⟨hRc.1, hRc.2⟩) (fun r_78 u_72 H locs hw hP hD hS => ?_)
      obtain ⟨Rtaken_73, Rtoken_74, Rplace_75, Rvalue_76, Rfault_77⟩ := u_72
      try dsimp -zeta only at hw
      have hP : va_P D vwCl (wW_X3_tellAct ak ad hr_ ra ht ta pg pa Rcoded Rtaken_73 Rtoken_74 Rplace_75 Rvalue_76 Rfault_77 Rcn Rcode Tlen Tcnt Ttoks Tplc Tvals Pst Pce Pgi Pln (upd Pact (xl).toNatClampNeg ((tkA Rtoken))) Ptarget Pmiddle) H := hP.sub [4, 5, 0, 6, 7, 8, 9, 10, 1, 2, 3] rfl
      have hD : va_D A (wW_X3_tellAct ak ad hr_ ra ht ta pg pa Rcoded Rtaken_73 Rtoken_74 Rplace_75 Rvalue_76 Rfault_77 Rcn Rcode Tlen Tcnt Ttoks Tplc Tvals Pst Pce Pgi Pln (upd Pact (xl).toNatClampNeg ((tkA Rtoken))) Ptarget Pmiddle) := hD.sub [4, 5, 0, 6, 7, 8, 9, 10, 1, 2, 3] (by decide) rfl
      obtain ⟨h_79, hw⟩ := hw
      refine va_iast hx hb hE.1 hP hD hS 9 0 rfl rfl (h_79) dX3_tellAct_49 (fun H locs hP hD hS => ?_)
      have hP : va_P D vwCl (wW_X3_tellAct ak ad hr_ ra ht ta pg pa Rcoded Rtaken_73 Rtoken_74 Rplace_75 Rvalue_76 Rfault_77 Rcn Rcode Tlen Tcnt Ttoks Tplc Tvals Pst Pce Pgi Pln (upd Pact (xl).toNatClampNeg ((tkA Rtoken))) (upd Ptarget (xl).toNatClampNeg r_78) Pmiddle) H := hP
      have hD : va_D A (wW_X3_tellAct ak ad hr_ ra ht ta pg pa Rcoded Rtaken_73 Rtoken_74 Rplace_75 Rvalue_76 Rfault_77 Rcn Rcode Tlen Tcnt Ttoks Tplc Tvals Pst Pce Pgi Pln (upd Pact (xl).toNatClampNeg ((tkA Rtoken))) (upd Ptarget (xl).toNatClampNeg r_78) Pmiddle) := hD
      exact kj_X3_tellAct_50 hx hb hown hts hml hE hT hA hRf hRl hRc hr_ ra ht ta pg pa Rcn Tlen Tcnt Ttoks Tplc Tvals Pst Pce Pgi Pln xl  Φ  kR18 kR142 Rcoded Rtaken_73 Rtoken_74 Rplace_75 Rvalue_76 Rfault_77 Rcode (upd Pact (xl).toNatClampNeg ((tkA Rtoken))) (upd Ptarget (xl).toNatClampNeg r_78) Pmiddle (tkA Rtoken) _ _ _ hw hP hD hS (lv_sub hl [1, 2, 0] rfl)
  · replace hw := hw.2 c_2
    refine lv_aload_n hx hb dX3_tellAct_13 rfl (lv_at hl 1 rfl) ?_
    refine lv_iconst (v := 1) hx hb dX3_tellAct_14 (by decide) ?_
    refine kc_v (wc := (wW_X3_fail ak ad hr_ ra ht pg Rcoded Rtaken Rtoken Rplace Rvalue Rfault)) (wr := [((ra 1), .inl (ak 1, 6, .inr (.inl (Rcn)))), ((ra 2), .inl (ak 0, 1000, .inl (Rcode))), (ht, .inr (5, tob ta (Tlen) (Tcnt))), ((ta 1), .inl (ak 4, 1001, .inr (.inr (.inr (.inr (tokA ad (Ttoks))))))), ((ta 2), .inl (ak 0, 1001, .inl (Tplc))), ((ta 3), .inl (ak 1, 1001, .inr (.inl (Tvals)))), (pg, .inr (2, pob pa (Pst) (Pce) (Pgi) (Pln))), ((pa 6), .inl (ak 0, 16, .inl (Pact))), ((pa 8), .inl (ak 0, 16, .inl (Ptarget))), ((pa 10), .inl (ak 0, 16, .inl (Pmiddle)))]) hP hD hS hA [0] [1, 2, 3, 4, 5, 6, 7, 8, 9, 10] rfl rfl (by decide) (by decide) (va_runV (As := [.int (1)]) (rest := []) ⟨hx, hb, hml, hown, hts⟩ (c_X3_fail l D ak ad _ hr_ ra ht pg Rcoded Rtaken Rtoken Rplace Rvalue Rfault 1 _ hw) (cwV 1 hts gX3_tellAct_X3_fail rfl rfl rfl hv_X3_fail ⟨(Nat.le_trans (Nat.le_of_ble_eq_true rfl) hRf), (Nat.le_trans (Nat.le_of_ble_eq_true rfl) hRl)⟩) (kc_preV (As := [.int (1)]) (wc := (wW_X3_fail ak ad hr_ ra ht pg Rcoded Rtaken Rtoken Rplace Rvalue Rfault)) hE hT hP hD hS hA [0] (by decide) rfl rfl 0 3 rfl rfl rfl) rfl rfl hl.1 rfl (lv_room (Nat.le_of_ble_eq_true rfl)) dX3_tellAct_15 ⟨hRc.1, hRc.2⟩) (fun Rfault_81 H locs hw hP hD hS => ?_)
    try dsimp -zeta only at hw
    have hP : va_P D vwCl (wW_X3_tellAct ak ad hr_ ra ht ta pg pa Rcoded Rtaken Rtoken Rplace Rvalue Rfault_81 Rcn Rcode Tlen Tcnt Ttoks Tplc Tvals Pst Pce Pgi Pln Pact Ptarget Pmiddle) H := hP.sub [10, 0, 1, 2, 3, 4, 5, 6, 7, 8, 9] rfl
    have hD : va_D A (wW_X3_tellAct ak ad hr_ ra ht ta pg pa Rcoded Rtaken Rtoken Rplace Rvalue Rfault_81 Rcn Rcode Tlen Tcnt Ttoks Tplc Tvals Pst Pce Pgi Pln Pact Ptarget Pmiddle) := hD.sub [10, 0, 1, 2, 3, 4, 5, 6, 7, 8, 9] (by decide) rfl
    exact kR18 Rcoded Rtaken Rtoken Rplace Rvalue Rfault_81 Rcode Pact Ptarget Pmiddle _ _ _ hw hP hD hS
set_option maxHeartbeats 4000000 in
set_option maxRecDepth 100000 in
theorem c_X3_tellAct (l : Launch) (D : va_G) (ak : Nat → ClassId) (ad : Nat → Nat) (sz : Nat) (hr_ : Nat) (ra : Nat → Nat) (ht : Nat) (ta : Nat → Nat) (pg : Nat) (pa : Nat → Nat) (Rcoded : Int32) (Rtaken : Int32) (Rtoken : Nat) (Rplace : Int32) (Rvalue : Int64) (Rfault : Int32) (Rcn : Nat → Int64) (Rcode : Nat → Int32) (Tlen : Int32) (Tcnt : Int32) (Ttoks : Nat → Nat) (Tplc : Nat → Int32) (Tvals : Nat → Int64) (Pst : Int32) (Pce : Int32) (Pgi : Int32) (Pln : Int32) (Pact : Nat → Int32) (Ptarget : Nat → Int32) (Pmiddle : Nat → Int32) (xl : Int32) (Φ : Int32 → Int32 → Nat → Int32 → Int64 → Int32 → (Nat → Int32) → (Nat → Int32) → (Nat → Int32) → (Nat → Int32) → Prop) (hf : wp_X3_tellAct Rcn Tcnt Ttoks Tplc Tvals Pce xl Rcoded Rtaken Rtoken Rplace Rvalue Rfault Rcode Pact Ptarget Pmiddle Φ) : Met l yX3_tellAct wsX3_tellAct ({ frames := 45, cells := 0, slots := 0, locals := 2665 }) (cPre D ak ad [.ref hr_, .int (xl)] ((wW_X3_tellAct ak ad hr_ ra ht ta pg pa Rcoded Rtaken Rtoken Rplace Rvalue Rfault Rcn Rcode Tlen Tcnt Ttoks Tplc Tvals Pst Pce Pgi Pln Pact Ptarget Pmiddle)) sz) (cV D (S := (Int32) × (Int32) × (Nat) × (Int32) × (Int64) × (Int32) × (Nat → Int32) × (Nat → Int32) × (Nat → Int32) × (Nat → Int32)) (fun (u : (Int32) × (Int32) × (Nat) × (Int32) × (Int64) × (Int32) × (Nat → Int32) × (Nat → Int32) × (Nat → Int32) × (Nat → Int32)) => Φ u.1 u.2.1 u.2.2.1 u.2.2.2.1 u.2.2.2.2.1 u.2.2.2.2.2.1 u.2.2.2.2.2.2.1 u.2.2.2.2.2.2.2.1 u.2.2.2.2.2.2.2.2.1 u.2.2.2.2.2.2.2.2.2) (fun u => (wW_X3_tellAct ak ad hr_ ra ht ta pg pa u.1 u.2.1 u.2.2.1 u.2.2.2.1 u.2.2.2.2.1 u.2.2.2.2.2.1 Rcn u.2.2.2.2.2.2.1 Tlen Tcnt Ttoks Tplc Tvals Pst Pce Pgi Pln u.2.2.2.2.2.2.2.1 u.2.2.2.2.2.2.2.2.1 u.2.2.2.2.2.2.2.2.2)) ((wW_X3_tellAct ak ad hr_ ra ht ta pg pa Rcoded Rtaken Rtoken Rplace Rvalue Rfault Rcn Rcode Tlen Tcnt Ttoks Tplc Tvals Pst Pce Pgi Pln Pact Ptarget Pmiddle)) sz) 0 0 (va_A ((wW_X3_tellAct ak ad hr_ ra ht ta pg pa Rcoded Rtaken Rtoken Rplace Rvalue Rfault Rcn Rcode Tlen Tcnt Ttoks Tplc Tvals Pst Pce Pgi Pln Pact Ptarget Pmiddle)) sz) := by
  refine Met.ofW (cc := cX3_tellAct) (maxL := 3) (ret := none) (by decide) rfl ?_
  intro p e s m args below meth c s₁ B hml hv
  obtain ⟨rfl, hsz, hP, hE, hD0, hT⟩ := hv
  have hx := B.exec
  have hb := B.bytes
  have hr := B.returns
  have hts := atoms_spec (ws := wsX3_tellAct) B.pre
  have hown : s.vm.findClass RX3 = some m.cls := findClass_of_methodNamed B.named
  have hlocks := B.notSynchronized
  subst hsz
  have hD := hD0.self (sz := s.heap.size)
  generalize hAe : va_A ((wW_X3_tellAct ak ad hr_ ra ht ta pg pa Rcoded Rtaken Rtoken Rplace Rvalue Rfault Rcn Rcode Tlen Tcnt Ttoks Tplc Tvals Pst Pce Pgi Pln Pact Ptarget Pmiddle)) s.heap.size = A at hD hT ⊢
  have hA : ∀ q : Nat, s.heap.size ≤ q → A q := fun q h => by rw [← hAe]; exact Or.inr h
  have hS : va_S A s.heap s.heap [] := va_S.rf
  have hl := lv_entry ([.ref hr_, .int (xl)]) (n := 3) (Nat.le_of_ble_eq_true rfl)
  rw [lg_entry_eq]
  generalize (lg_sl ([.ref hr_, .int (xl)]) ++ List.replicate (3 - (lg_sl ([.ref hr_, .int (xl)])).length) Slot.unset).toArray = ls at hl ⊢
  have hl : lv_has ls 3 [(0, .ref hr_), (1, .int (xl))] := hl
  exact kj_X3_tellAct_e hx hb hown hts hml hE hT hA (Nat.le_of_ble_eq_true rfl) (Nat.le_of_ble_eq_true rfl) ⟨Nat.le_of_ble_eq_true rfl, Nat.le_of_ble_eq_true rfl⟩ hr_ ra ht ta pg pa Rcn Tlen Tcnt Ttoks Tplc Tvals Pst Pce Pgi Pln xl Φ (fun Rcoded Rtaken Rtoken Rplace Rvalue Rfault Rcode Pact Ptarget Pmiddle H locs ls hw hP hD hS => W.vret hx hb hr (fun t ht hW => ⟨⟨(Rcoded, Rtaken, Rtoken, Rplace, Rvalue, Rfault, Rcode, Pact, Ptarget, Pmiddle), rfl, hw, by rw [ht]; exact hP, by rw [hAe]; exact hD⟩, by rw [hAe]; exact hS.F ht⟩) hS.2.2 dX3_tellAct_18) (fun Rcoded Rtaken Rtoken Rplace Rvalue Rfault Rcode Pact Ptarget Pmiddle H locs ls hw hP hD hS => W.vret hx hb hr (fun t ht hW => ⟨⟨(Rcoded, Rtaken, Rtoken, Rplace, Rvalue, Rfault, Rcode, Pact, Ptarget, Pmiddle), rfl, hw, by rw [ht]; exact hP, by rw [hAe]; exact hD⟩, by rw [hAe]; exact hS.F ht⟩) hS.2.2 dX3_tellAct_142) Rcoded Rtaken Rtoken Rplace Rvalue Rfault Rcode Pact Ptarget Pmiddle _ _ _ hf hP hD hS hl

def wW_X3_tellLine (ak : Nat → ClassId) (ad : Nat → Nat) (hr_ : Nat) (ra : Nat → Nat) (ht : Nat) (ta : Nat → Nat) (pg : Nat) (pa : Nat → Nat) (Rcoded : Int32) (Rtaken : Int32) (Rtoken : Nat) (Rplace : Int32) (Rvalue : Int64) (Rfault : Int32) (Rsn : Nat → Int64) (Rcn : Nat → Int64) (Rcode : Nat → Int32) (Tlen : Int32) (Tcnt : Int32) (Ttoks : Nat → Nat) (Tplc : Nat → Int32) (Tvals : Nat → Int64) (Pst : Int32) (Pce : Int32) (Pgi : Int32) (Pln : Int32) (Pact : Nat → Int32) (PstuffOf : Nat → Int32) (Ptarget : Nat → Int32) (Pfrom : Nat → Int32) (Pmiddle : Nat → Int32) (Pend : Nat → Int32) : va_W := [(hr_, .inr (3, rob ad ra (ht) (Rcoded) (pg) (Rtaken) (Rtoken) (Rplace) (Rvalue) (Rfault))), ((ra 0), .inl (ak 1, 4, .inr (.inl (Rsn)))), ((ra 1), .inl (ak 1, 6, .inr (.inl (Rcn)))), ((ra 2), .inl (ak 0, 1000, .inl (Rcode))), (ht, .inr (5, tob ta (Tlen) (Tcnt))), ((ta 1), .inl (ak 4, 1001, .inr (.inr (.inr (.inr (tokA ad (Ttoks))))))), ((ta 2), .inl (ak 0, 1001, .inl (Tplc))), ((ta 3), .inl (ak 1, 1001, .inr (.inl (Tvals)))), (pg, .inr (2, pob pa (Pst) (Pce) (Pgi) (Pln))), ((pa 6), .inl (ak 0, 16, .inl (Pact))), ((pa 7), .inl (ak 0, 16, .inl (PstuffOf))), ((pa 8), .inl (ak 0, 16, .inl (Ptarget))), ((pa 9), .inl (ak 0, 16, .inl (Pfrom))), ((pa 10), .inl (ak 0, 16, .inl (Pmiddle))), ((pa 11), .inl (ak 0, 16, .inl (Pend)))]
def wp_X3_tellLine (Rsn : Nat → Int64) (Rcn : Nat → Int64) (Tcnt : Int32) (Ttoks : Nat → Nat) (Tplc : Nat → Int32) (Tvals : Nat → Int64) (Pst : Int32) (Pce : Int32) (Rcoded : Int32) (Rtaken : Int32) (Rtoken : Nat) (Rplace : Int32) (Rvalue : Int64) (Rfault : Int32) (Rcode : Nat → Int32) (Pln : Int32) (Pact : Nat → Int32) (PstuffOf : Nat → Int32) (Ptarget : Nat → Int32) (Pfrom : Nat → Int32) (Pmiddle : Nat → Int32) (Pend : Nat → Int32) (Φ : Int32 → Int32 → Nat → Int32 → Int64 → Int32 → (Nat → Int32) → Int32 → (Nat → Int32) → (Nat → Int32) → (Nat → Int32) → (Nat → Int32) → (Nat → Int32) → (Nat → Int32) → Prop) : Prop := (Pln < 16 → wp_X3_advance Tcnt Ttoks Tplc Tvals Rtaken Rtoken Rplace Rvalue (fun Rtaken_3 Rtoken_4 Rplace_5 Rvalue_6 => wp_X3_takeStuff Rsn Tcnt Ttoks Tplc Tvals Pst Rtaken_3 Rtoken_4 Rplace_5 Rvalue_6 Rfault (fun r_14 Rtaken_9 Rtoken_10 Rplace_11 Rvalue_12 Rfault_13 => vp_in Pln 16 ∧ vp_in Pln 16 ∧ wp_X3_tellAct Rcn Tcnt Ttoks Tplc Tvals Pce Pln Rcoded Rtaken_9 Rtoken_10 Rplace_11 Rvalue_12 Rfault_13 Rcode Pact Ptarget Pmiddle (fun Rcoded_18 Rtaken_19 Rtoken_20 Rplace_21 Rvalue_22 Rfault_23 Rcode_24 Pact_25 Ptarget_26 Pmiddle_27 => vp_in Pln 16 ∧ Φ Rcoded_18 Rtaken_19 Rtoken_20 Rplace_21 Rvalue_22 Rfault_23 Rcode_24 (Pln + 1) Pact_25 (upd PstuffOf (Pln).toNatClampNeg r_14) Ptarget_26 (upd Pfrom (Pln).toNatClampNeg Rcoded) Pmiddle_27 (upd Pend (Pln).toNatClampNeg Rcoded_18))))) ∧ (¬ Pln < 16 → wp_X3_fail Rplace 5 Rfault (fun Rfault_31 => Φ Rcoded Rtaken Rtoken Rplace Rvalue Rfault_31 Rcode Pln Pact PstuffOf Ptarget Pfrom Pmiddle Pend))
set_option maxHeartbeats 4000000 in
set_option maxRecDepth 100000 in
theorem kj_X3_tellLine_e {p : Program} {l : Launch} {e : Env} {R : Room} {s : State} {m : MethodId} {args : Array Value} {below : List Frame} {meth : Method} {c : Code} {cells slots : Nat} {Q : State → Prop} {A : Nat → Prop} {D : va_G} {ak : Nat → ClassId} {ad : Nat → Nat} (hx : p.tables.exec = Jvm.exec) (hb : c.code = cX3_tellLine) (hown : s.vm.findClass RX3 = some m.cls) (hts : ∀ w ∈ wsX3_tellLine, w.before args s = true) (hml : c.maxLocals = 2) (hE : EV D ak s) (hT : ST D ak ad A s s.heap) (hA : ∀ q, s.heap.size ≤ q → A q) (hRf : 46 ≤ R.frames) (hRl : 2687 ≤ R.locals) (hRc : cells ≤ R.cells ∧ slots ≤ R.slots) (hr_ : Nat) (ra : Nat → Nat) (ht : Nat) (ta : Nat → Nat) (pg : Nat) (pa : Nat → Nat) (Rsn : Nat → Int64) (Rcn : Nat → Int64) (Tlen : Int32) (Tcnt : Int32) (Ttoks : Nat → Nat) (Tplc : Nat → Int32) (Tvals : Nat → Int64) (Pst : Int32) (Pce : Int32) (Pgi : Int32)  (Φ : Int32 → Int32 → Nat → Int32 → Int64 → Int32 → (Nat → Int32) → Int32 → (Nat → Int32) → (Nat → Int32) → (Nat → Int32) → (Nat → Int32) → (Nat → Int32) → (Nat → Int32) → Prop)
    (kR19 : ∀ (Rcoded : Int32) (Rtaken : Int32) (Rtoken : Nat) (Rplace : Int32) (Rvalue : Int64) (Rfault : Int32) (Rcode : Nat → Int32) (Pln : Int32) (Pact : Nat → Int32) (PstuffOf : Nat → Int32) (Ptarget : Nat → Int32) (Pfrom : Nat → Int32) (Pmiddle : Nat → Int32) (Pend : Nat → Int32) (H : Heap) (locs : List Loc) (ls : Array Slot), Φ Rcoded Rtaken Rtoken Rplace Rvalue Rfault Rcode Pln Pact PstuffOf Ptarget Pfrom Pmiddle Pend → va_P D vwCl (wW_X3_tellLine ak ad hr_ ra ht ta pg pa Rcoded Rtaken Rtoken Rplace Rvalue Rfault Rsn Rcn Rcode Tlen Tcnt Ttoks Tplc Tvals Pst Pce Pgi Pln Pact PstuffOf Ptarget Pfrom Pmiddle Pend) H → va_D A (wW_X3_tellLine ak ad hr_ ra ht ta pg pa Rcoded Rtaken Rtoken Rplace Rvalue Rfault Rsn Rcn Rcode Tlen Tcnt Ttoks Tplc Tvals Pst Pce Pgi Pln Pact PstuffOf Ptarget Pfrom Pmiddle Pend) → va_S A s.heap H locs → W p l e R s m args below meth c H locs cells slots Q (F0 m 19 ls []))
    (kR78 : ∀ (Rcoded : Int32) (Rtaken : Int32) (Rtoken : Nat) (Rplace : Int32) (Rvalue : Int64) (Rfault : Int32) (Rcode : Nat → Int32) (Pln : Int32) (Pact : Nat → Int32) (PstuffOf : Nat → Int32) (Ptarget : Nat → Int32) (Pfrom : Nat → Int32) (Pmiddle : Nat → Int32) (Pend : Nat → Int32) (H : Heap) (locs : List Loc) (ls : Array Slot), Φ Rcoded Rtaken Rtoken Rplace Rvalue Rfault Rcode Pln Pact PstuffOf Ptarget Pfrom Pmiddle Pend → va_P D vwCl (wW_X3_tellLine ak ad hr_ ra ht ta pg pa Rcoded Rtaken Rtoken Rplace Rvalue Rfault Rsn Rcn Rcode Tlen Tcnt Ttoks Tplc Tvals Pst Pce Pgi Pln Pact PstuffOf Ptarget Pfrom Pmiddle Pend) H → va_D A (wW_X3_tellLine ak ad hr_ ra ht ta pg pa Rcoded Rtaken Rtoken Rplace Rvalue Rfault Rsn Rcn Rcode Tlen Tcnt Ttoks Tplc Tvals Pst Pce Pgi Pln Pact PstuffOf Ptarget Pfrom Pmiddle Pend) → va_S A s.heap H locs → W p l e R s m args below meth c H locs cells slots Q (F0 m 78 ls []))
    : ∀ (Rcoded : Int32) (Rtaken : Int32) (Rtoken : Nat) (Rplace : Int32) (Rvalue : Int64) (Rfault : Int32) (Rcode : Nat → Int32) (Pln : Int32) (Pact : Nat → Int32) (PstuffOf : Nat → Int32) (Ptarget : Nat → Int32) (Pfrom : Nat → Int32) (Pmiddle : Nat → Int32) (Pend : Nat → Int32) (H : Heap) (locs : List Loc) (ls : Array Slot), wp_X3_tellLine Rsn Rcn Tcnt Ttoks Tplc Tvals Pst Pce Rcoded Rtaken Rtoken Rplace Rvalue Rfault Rcode Pln Pact PstuffOf Ptarget Pfrom Pmiddle Pend Φ → va_P D vwCl (wW_X3_tellLine ak ad hr_ ra ht ta pg pa Rcoded Rtaken Rtoken Rplace Rvalue Rfault Rsn Rcn Rcode Tlen Tcnt Ttoks Tplc Tvals Pst Pce Pgi Pln Pact PstuffOf Ptarget Pfrom Pmiddle Pend) H → va_D A (wW_X3_tellLine ak ad hr_ ra ht ta pg pa Rcoded Rtaken Rtoken Rplace Rvalue Rfault Rsn Rcn Rcode Tlen Tcnt Ttoks Tplc Tvals Pst Pce Pgi Pln Pact PstuffOf Ptarget Pfrom Pmiddle Pend) → va_S A s.heap H locs → lv_has ls 2 [(0, .ref hr_)] → W p l e R s m args below meth c H locs cells slots Q (F0 m 0 ls ([])) := by
  intro Rcoded Rtaken Rtoken Rplace Rvalue Rfault Rcode Pln Pact PstuffOf Ptarget Pfrom Pmiddle Pend H locs ls hw hP hD hS hl
  delta wp_X3_tellLine at hw
  refine lv_aload_n hx hb dX3_tellLine_0 rfl (lv_at hl 0 rfl) ?_
  refine vt_get (D := D) (ci := 3) (v := .ref pg) (C := RX3) (T := TX3) (N := 11) hx hb hts (fun w h => wm_c (wc_X3 w h)) hown hE.1 hP 0 rfl rfl 5 (by decide) tX3_5 (hts (.fieldLink RX3 35 "WornLines$Reader" "told" "LWornLines$Programme;") (wm_c hw_292)) (fun _ h9 => h9) rfl dX3_tellLine_1 ?_
  refine vt_get (D := D) (ci := 2) (v := .int (Pln)) (C := RX2) (T := TX2) (N := 17) hx hb hts (fun w h => wm_c (wc_X2 w h)) hown hE.1 hP 8 rfl rfl 9 (by decide) tX2_9 (hts (.fieldLink RX3 160 "WornLines$Programme" "lines" "I") (wm_c hw_496)) (fun _ h9 => h9) rfl dX3_tellLine_4 ?_
  refine lv_istore_n (lv' := [(1, .int (Pln)), (0, .ref hr_)]) hx hb dX3_tellLine_7 rfl hl (by decide) rfl (fun ls hl => ?_)
  refine lv_iload_n hx hb dX3_tellLine_8 rfl (lv_at hl 0 rfl) ?_
  refine lv_bipush (v := 16) hx hb dX3_tellLine_9 (by decide) ?_
  refine lv_icmp_lt (tgt := 20) hx hb dX3_tellLine_11 (by decide) (fun c_1 => ?_) (fun c_1 => ?_)
  · replace hw := hw.1 c_1
    refine lv_aload_n hx hb dX3_tellLine_20 rfl (lv_at hl 1 rfl) ?_
    refine kc_v (wc := (wW_X3_advance ak ad hr_ ra ht ta pg Rcoded Rtaken Rtoken Rplace Rvalue Rfault Tlen Tcnt Ttoks Tplc Tvals)) (wr := [((ra 0), .inl (ak 1, 4, .inr (.inl (Rsn)))), ((ra 1), .inl (ak 1, 6, .inr (.inl (Rcn)))), ((ra 2), .inl (ak 0, 1000, .inl (Rcode))), (pg, .inr (2, pob pa (Pst) (Pce) (Pgi) (Pln))), ((pa 6), .inl (ak 0, 16, .inl (Pact))), ((pa 7), .inl (ak 0, 16, .inl (PstuffOf))), ((pa 8), .inl (ak 0, 16, .inl (Ptarget))), ((pa 9), .inl (ak 0, 16, .inl (Pfrom))), ((pa 10), .inl (ak 0, 16, .inl (Pmiddle))), ((pa 11), .inl (ak 0, 16, .inl (Pend)))]) hP hD hS hA [0, 4, 5, 6, 7] [1, 2, 3, 8, 9, 10, 11, 12, 13, 14] rfl rfl (by decide) (by decide) (va_runV (As := []) (rest := []) ⟨hx, hb, hml, hown, hts⟩ (c_X3_advance l D ak ad _ hr_ ra ht ta pg Rcoded Rtaken Rtoken Rplace Rvalue Rfault Tlen Tcnt Ttoks Tplc Tvals _ hw) (cwV 0 hts gX3_tellLine_X3_advance rfl rfl rfl hv_X3_advance ⟨(Nat.le_trans (Nat.le_of_ble_eq_true rfl) hRf), (Nat.le_trans (Nat.le_of_ble_eq_true rfl) hRl)⟩) (kc_preV (As := []) (wc := (wW_X3_advance ak ad hr_ ra ht ta pg Rcoded Rtaken Rtoken Rplace Rvalue Rfault Tlen Tcnt Ttoks Tplc Tvals)) hE hT hP hD hS hA [0, 4, 5, 6, 7] (by decide) rfl rfl 0 3 rfl rfl rfl) rfl rfl hl.1 rfl (lv_room (Nat.le_of_ble_eq_true rfl)) dX3_tellLine_21 ⟨hRc.1, hRc.2⟩) (fun u_2 H locs hw hP hD hS => ?_)
    obtain ⟨Rtaken_3, Rtoken_4, Rplace_5, Rvalue_6⟩ := u_2
    try dsimp -zeta only at hw
    have hP : va_P D vwCl (wW_X3_tellLine ak ad hr_ ra ht ta pg pa Rcoded Rtaken_3 Rtoken_4 Rplace_5 Rvalue_6 Rfault Rsn Rcn Rcode Tlen Tcnt Ttoks Tplc Tvals Pst Pce Pgi Pln Pact PstuffOf Ptarget Pfrom Pmiddle Pend) H := hP.sub [10, 0, 1, 2, 11, 12, 13, 14, 3, 4, 5, 6, 7, 8, 9] rfl
    have hD : va_D A (wW_X3_tellLine ak ad hr_ ra ht ta pg pa Rcoded Rtaken_3 Rtoken_4 Rplace_5 Rvalue_6 Rfault Rsn Rcn Rcode Tlen Tcnt Ttoks Tplc Tvals Pst Pce Pgi Pln Pact PstuffOf Ptarget Pfrom Pmiddle Pend) := hD.sub [10, 0, 1, 2, 11, 12, 13, 14, 3, 4, 5, 6, 7, 8, 9] (by decide) rfl
    refine lv_aload_n hx hb dX3_tellLine_24 rfl (lv_at hl 1 rfl) ?_
    refine vt_get (D := D) (ci := 3) (v := .ref pg) (C := RX3) (T := TX3) (N := 11) hx hb hts (fun w h => wm_c (wc_X3 w h)) hown hE.1 hP 0 rfl rfl 5 (by decide) tX3_5 (hts (.fieldLink RX3 35 "WornLines$Reader" "told" "LWornLines$Programme;") (wm_c hw_292)) (fun _ h9 => h9) rfl dX3_tellLine_25 ?_
    refine vt_get (D := D) (ci := 2) (v := .ref (pa 7)) (C := RX2) (T := TX2) (N := 17) hx hb hts (fun w h => wm_c (wc_X2 w h)) hown hE.1 hP 8 rfl rfl 11 (by decide) tX2_11 (hts (.fieldLink RX3 163 "WornLines$Programme" "stuffOf" "[I") (wm_c hw_497)) (fun _ h9 => h9) rfl dX3_tellLine_28 ?_
    refine lv_iload_n hx hb dX3_tellLine_31 rfl (lv_at hl 0 rfl) ?_
    refine lv_aload_n hx hb dX3_tellLine_32 rfl (lv_at hl 1 rfl) ?_
    refine kc_i (wc := (wW_X3_takeStuff ak ad hr_ ra ht ta pg pa Rcoded Rtaken_3 Rtoken_4 Rplace_5 Rvalue_6 Rfault Rsn Tlen Tcnt Ttoks Tplc Tvals Pst Pce Pgi Pln)) (wr := [((ra 1), .inl (ak 1, 6, .inr (.inl (Rcn)))), ((ra 2), .inl (ak 0, 1000, .inl (Rcode))), ((pa 6), .inl (ak 0, 16, .inl (Pact))), ((pa 7), .inl (ak 0, 16, .inl (PstuffOf))), ((pa 8), .inl (ak 0, 16, .inl (Ptarget))), ((pa 9), .inl (ak 0, 16, .inl (Pfrom))), ((pa 10), .inl (ak 0, 16, .inl (Pmiddle))), ((pa 11), .inl (ak 0, 16, .inl (Pend)))]) hP hD hS hA [0, 1, 4, 5, 6, 7, 8] [2, 3, 9, 10, 11, 12, 13, 14] rfl rfl (by decide) (by decide) (va_runV (As := []) (rest := [.int (Pln), .ref (pa 7)]) ⟨hx, hb, hml, hown, hts⟩ (c_X3_takeStuff l D ak ad _ hr_ ra ht ta pg pa Rcoded Rtaken_3 Rtoken_4 Rplace_5 Rvalue_6 Rfault Rsn Tlen Tcnt Ttoks Tplc Tvals Pst Pce Pgi Pln _ hw) (cwV 0 hts gX3_tellLine_X3_takeStuff rfl rfl rfl hv_X3_takeStuff ⟨(Nat.le_trans (Nat.le_of_ble_eq_true rfl) hRf), (Nat.le_trans (Nat.le_of_ble_eq_true rfl) hRl)⟩) (kc_preV (As := []) (wc := (wW_X3_takeStuff ak ad hr_ ra ht ta pg pa Rcoded Rtaken_3 Rtoken_4 Rplace_5 Rvalue_6 Rfault Rsn Tlen Tcnt Ttoks Tplc Tvals Pst Pce Pgi Pln)) hE hT hP hD hS hA [0, 1, 4, 5, 6, 7, 8] (by decide) rfl rfl 0 3 rfl rfl rfl) rfl rfl hl.1 rfl (lv_room (Nat.le_of_ble_eq_true rfl)) dX3_tellLine_33 ⟨hRc.1, hRc.2⟩) (fun r_14 u_8 H locs hw hP hD hS => ?_)
    obtain ⟨Rtaken_9, Rtoken_10, Rplace_11, Rvalue_12, Rfault_13⟩ := u_8
    try dsimp -zeta only at hw
    have hP : va_P D vwCl (wW_X3_tellLine ak ad hr_ ra ht ta pg pa Rcoded Rtaken_9 Rtoken_10 Rplace_11 Rvalue_12 Rfault_13 Rsn Rcn Rcode Tlen Tcnt Ttoks Tplc Tvals Pst Pce Pgi Pln Pact PstuffOf Ptarget Pfrom Pmiddle Pend) H := hP.sub [8, 9, 0, 1, 10, 11, 12, 13, 14, 2, 3, 4, 5, 6, 7] rfl
    have hD : va_D A (wW_X3_tellLine ak ad hr_ ra ht ta pg pa Rcoded Rtaken_9 Rtoken_10 Rplace_11 Rvalue_12 Rfault_13 Rsn Rcn Rcode Tlen Tcnt Ttoks Tplc Tvals Pst Pce Pgi Pln Pact PstuffOf Ptarget Pfrom Pmiddle Pend) := hD.sub [8, 9, 0, 1, 10, 11, 12, 13, 14, 2, 3, 4, 5, 6, 7] (by decide) rfl
    obtain ⟨h_15, hw⟩ := hw
    refine va_iast hx hb hE.1 hP hD hS 10 0 rfl rfl (h_15) dX3_tellLine_36 (fun H locs hP hD hS => ?_)
    have hP : va_P D vwCl (wW_X3_tellLine ak ad hr_ ra ht ta pg pa Rcoded Rtaken_9 Rtoken_10 Rplace_11 Rvalue_12 Rfault_13 Rsn Rcn Rcode Tlen Tcnt Ttoks Tplc Tvals Pst Pce Pgi Pln Pact (upd PstuffOf (Pln).toNatClampNeg r_14) Ptarget Pfrom Pmiddle Pend) H := hP
    have hD : va_D A (wW_X3_tellLine ak ad hr_ ra ht ta pg pa Rcoded Rtaken_9 Rtoken_10 Rplace_11 Rvalue_12 Rfault_13 Rsn Rcn Rcode Tlen Tcnt Ttoks Tplc Tvals Pst Pce Pgi Pln Pact (upd PstuffOf (Pln).toNatClampNeg r_14) Ptarget Pfrom Pmiddle Pend) := hD
    refine lv_aload_n hx hb dX3_tellLine_37 rfl (lv_at hl 1 rfl) ?_
    refine vt_get (D := D) (ci := 3) (v := .ref pg) (C := RX3) (T := TX3) (N := 11) hx hb hts (fun w h => wm_c (wc_X3 w h)) hown hE.1 hP 0 rfl rfl 5 (by decide) tX3_5 (hts (.fieldLink RX3 35 "WornLines$Reader" "told" "LWornLines$Programme;") (wm_c hw_292)) (fun _ h9 => h9) rfl dX3_tellLine_38 ?_
    refine vt_get (D := D) (ci := 2) (v := .ref (pa 9)) (C := RX2) (T := TX2) (N := 17) hx hb hts (fun w h => wm_c (wc_X2 w h)) hown hE.1 hP 8 rfl rfl 13 (by decide) tX2_13 (hts (.fieldLink RX3 169 "WornLines$Programme" "from" "[I") (wm_c hw_498)) (fun _ h9 => h9) rfl dX3_tellLine_41 ?_
    refine lv_iload_n hx hb dX3_tellLine_44 rfl (lv_at hl 0 rfl) ?_
    refine lv_aload_n hx hb dX3_tellLine_45 rfl (lv_at hl 1 rfl) ?_
    refine vt_get (D := D) (ci := 3) (v := .int (Rcoded)) (C := RX3) (T := TX3) (N := 11) hx hb hts (fun w h => wm_c (wc_X3 w h)) hown hE.1 hP 0 rfl rfl 4 (by decide) tX3_4 (hts (.fieldLink RX3 51 "WornLines$Reader" "coded" "I") (wm_c hw_424)) (fun _ h9 => h9) rfl dX3_tellLine_46 ?_
    obtain ⟨h_16, hw⟩ := hw
    refine va_iast hx hb hE.1 hP hD hS 12 0 rfl rfl (h_16) dX3_tellLine_49 (fun H locs hP hD hS => ?_)
    have hP : va_P D vwCl (wW_X3_tellLine ak ad hr_ ra ht ta pg pa Rcoded Rtaken_9 Rtoken_10 Rplace_11 Rvalue_12 Rfault_13 Rsn Rcn Rcode Tlen Tcnt Ttoks Tplc Tvals Pst Pce Pgi Pln Pact (upd PstuffOf (Pln).toNatClampNeg r_14) Ptarget (upd Pfrom (Pln).toNatClampNeg Rcoded) Pmiddle Pend) H := hP
    have hD : va_D A (wW_X3_tellLine ak ad hr_ ra ht ta pg pa Rcoded Rtaken_9 Rtoken_10 Rplace_11 Rvalue_12 Rfault_13 Rsn Rcn Rcode Tlen Tcnt Ttoks Tplc Tvals Pst Pce Pgi Pln Pact (upd PstuffOf (Pln).toNatClampNeg r_14) Ptarget (upd Pfrom (Pln).toNatClampNeg Rcoded) Pmiddle Pend) := hD
    refine lv_aload_n hx hb dX3_tellLine_50 rfl (lv_at hl 1 rfl) ?_
    refine lv_iload_n hx hb dX3_tellLine_51 rfl (lv_at hl 0 rfl) ?_
    refine kc_v (wc := (wW_X3_tellAct ak ad hr_ ra ht ta pg pa Rcoded Rtaken_9 Rtoken_10 Rplace_11 Rvalue_12 Rfault_13 Rcn Rcode Tlen Tcnt Ttoks Tplc Tvals Pst Pce Pgi Pln Pact Ptarget Pmiddle)) (wr := [((ra 0), .inl (ak 1, 4, .inr (.inl (Rsn)))), ((pa 7), .inl (ak 0, 16, .inl (upd PstuffOf (Pln).toNatClampNeg r_14))), ((pa 9), .inl (ak 0, 16, .inl (upd Pfrom (Pln).toNatClampNeg Rcoded))), ((pa 11), .inl (ak 0, 16, .inl (Pend)))]) hP hD hS hA [0, 2, 3, 4, 5, 6, 7, 8, 9, 11, 13] [1, 10, 12, 14] rfl rfl (by decide) (by decide) (va_runV (As := [.int (Pln)]) (rest := []) ⟨hx, hb, hml, hown, hts⟩ (c_X3_tellAct l D ak ad _ hr_ ra ht ta pg pa Rcoded Rtaken_9 Rtoken_10 Rplace_11 Rvalue_12 Rfault_13 Rcn Rcode Tlen Tcnt Ttoks Tplc Tvals Pst Pce Pgi Pln Pact Ptarget Pmiddle Pln _ hw) (cwV 1 hts gX3_tellLine_X3_tellAct rfl rfl rfl hv_X3_tellAct ⟨(Nat.le_trans (Nat.le_of_ble_eq_true rfl) hRf), (Nat.le_trans (Nat.le_of_ble_eq_true rfl) hRl)⟩) (kc_preV (As := [.int (Pln)]) (wc := (wW_X3_tellAct ak ad hr_ ra ht ta pg pa Rcoded Rtaken_9 Rtoken_10 Rplace_11 Rvalue_12 Rfault_13 Rcn Rcode Tlen Tcnt Ttoks Tplc Tvals Pst Pce Pgi Pln Pact Ptarget Pmiddle)) hE hT hP hD hS hA [0, 2, 3, 4, 5, 6, 7, 8, 9, 11, 13] (by decide) rfl rfl 0 3 rfl rfl rfl) rfl rfl hl.1 rfl (lv_room (Nat.le_of_ble_eq_true rfl)) dX3_tellLine_52 ⟨hRc.1, hRc.2⟩) (fun u_17 H locs hw hP hD hS => ?_)
    obtain ⟨Rcoded_18, Rtaken_19, Rtoken_20, Rplace_21, Rvalue_22, Rfault_23, Rcode_24, Pact_25, Ptarget_26, Pmiddle_27⟩ := u_17
    try dsimp -zeta only at hw
    have hP : va_P D vwCl (wW_X3_tellLine ak ad hr_ ra ht ta pg pa Rcoded_18 Rtaken_19 Rtoken_20 Rplace_21 Rvalue_22 Rfault_23 Rsn Rcn Rcode_24 Tlen Tcnt Ttoks Tplc Tvals Pst Pce Pgi Pln Pact_25 (upd PstuffOf (Pln).toNatClampNeg r_14) Ptarget_26 (upd Pfrom (Pln).toNatClampNeg Rcoded) Pmiddle_27 Pend) H := hP.sub [4, 0, 5, 6, 7, 8, 9, 10, 11, 12, 1, 13, 2, 14, 3] rfl
    have hD : va_D A (wW_X3_tellLine ak ad hr_ ra ht ta pg pa Rcoded_18 Rtaken_19 Rtoken_20 Rplace_21 Rvalue_22 Rfault_23 Rsn Rcn Rcode_24 Tlen Tcnt Ttoks Tplc Tvals Pst Pce Pgi Pln Pact_25 (upd PstuffOf (Pln).toNatClampNeg r_14) Ptarget_26 (upd Pfrom (Pln).toNatClampNeg Rcoded) Pmiddle_27 Pend) := hD.sub [4, 0, 5, 6, 7, 8, 9, 10, 11, 12, 1, 13, 2, 14, 3] (by decide) rfl
    refine lv_aload_n hx hb dX3_tellLine_55 rfl (lv_at hl 1 rfl) ?_
    refine vt_get (D := D) (ci := 3) (v := .ref pg) (C := RX3) (T := TX3) (N := 11) hx hb hts (fun w h => wm_c (wc_X3 w h)) hown hE.1 hP 0 rfl rfl 5 (by decide) tX3_5 (hts (.fieldLink RX3 35 "WornLines$Reader" "told" "LWornLines$Programme;") (wm_c hw_292)) (fun _ h9 => h9) rfl dX3_tellLine_56 ?_
    refine vt_get (D := D) (ci := 2) (v := .ref (pa 11)) (C := RX2) (T := TX2) (N := 17) hx hb hts (fun w h => wm_c (wc_X2 w h)) hown hE.1 hP 8 rfl rfl 15 (by decide) tX2_15 (hts (.fieldLink RX3 175 "WornLines$Programme" "end" "[I") (wm_c hw_499)) (fun _ h9 => h9) rfl dX3_tellLine_59 ?_
    refine lv_iload_n hx hb dX3_tellLine_62 rfl (lv_at hl 0 rfl) ?_
    refine lv_aload_n hx hb dX3_tellLine_63 rfl (lv_at hl 1 rfl) ?_
    refine vt_get (D := D) (ci := 3) (v := .int (Rcoded_18)) (C := RX3) (T := TX3) (N := 11) hx hb hts (fun w h => wm_c (wc_X3 w h)) hown hE.1 hP 0 rfl rfl 4 (by decide) tX3_4 (hts (.fieldLink RX3 51 "WornLines$Reader" "coded" "I") (wm_c hw_424)) (fun _ h9 => h9) rfl dX3_tellLine_64 ?_
    obtain ⟨h_29, hw⟩ := hw
    refine va_iast hx hb hE.1 hP hD hS 14 0 rfl rfl (h_29) dX3_tellLine_67 (fun H locs hP hD hS => ?_)
    have hP : va_P D vwCl (wW_X3_tellLine ak ad hr_ ra ht ta pg pa Rcoded_18 Rtaken_19 Rtoken_20 Rplace_21 Rvalue_22 Rfault_23 Rsn Rcn Rcode_24 Tlen Tcnt Ttoks Tplc Tvals Pst Pce Pgi Pln Pact_25 (upd PstuffOf (Pln).toNatClampNeg r_14) Ptarget_26 (upd Pfrom (Pln).toNatClampNeg Rcoded) Pmiddle_27 (upd Pend (Pln).toNatClampNeg Rcoded_18)) H := hP
    have hD : va_D A (wW_X3_tellLine ak ad hr_ ra ht ta pg pa Rcoded_18 Rtaken_19 Rtoken_20 Rplace_21 Rvalue_22 Rfault_23 Rsn Rcn Rcode_24 Tlen Tcnt Ttoks Tplc Tvals Pst Pce Pgi Pln Pact_25 (upd PstuffOf (Pln).toNatClampNeg r_14) Ptarget_26 (upd Pfrom (Pln).toNatClampNeg Rcoded) Pmiddle_27 (upd Pend (Pln).toNatClampNeg Rcoded_18)) := hD
    refine lv_aload_n hx hb dX3_tellLine_68 rfl (lv_at hl 1 rfl) ?_
    refine vt_get (D := D) (ci := 3) (v := .ref pg) (C := RX3) (T := TX3) (N := 11) hx hb hts (fun w h => wm_c (wc_X3 w h)) hown hE.1 hP 0 rfl rfl 5 (by decide) tX3_5 (hts (.fieldLink RX3 35 "WornLines$Reader" "told" "LWornLines$Programme;") (wm_c hw_292)) (fun _ h9 => h9) rfl dX3_tellLine_69 ?_
    refine lv_iload_n hx hb dX3_tellLine_72 rfl (lv_at hl 0 rfl) ?_
    refine lv_iconst (v := 1) hx hb dX3_tellLine_73 (by decide) ?_
    refine lv_iadd hx hb dX3_tellLine_74 ?_
    refine vt_put (D := D) (ci := 2) (v := .int (Pln + 1)) (ty := .int) (C := RX2) (T := TX2) (N := 17) hx hb hts (fun w h => wm_c (wc_X2 w h)) tyX2 tyX2_ok nmX2 hown hE.1 hP hD hS 8 rfl rfl 9 (by decide) tX2_9 (hts (.fieldLink RX3 160 "WornLines$Programme" "lines" "I") (wm_c hw_496)) (fun _ h9 => h9) rfl pf_0 (rfl) rfl (Nat.le_of_ble_eq_true rfl) dX3_tellLine_75 (fun H locs hP hD hS => ?_)
    have hP : va_P D vwCl (wW_X3_tellLine ak ad hr_ ra ht ta pg pa Rcoded_18 Rtaken_19 Rtoken_20 Rplace_21 Rvalue_22 Rfault_23 Rsn Rcn Rcode_24 Tlen Tcnt Ttoks Tplc Tvals Pst Pce Pgi (Pln + 1) Pact_25 (upd PstuffOf (Pln).toNatClampNeg r_14) Ptarget_26 (upd Pfrom (Pln).toNatClampNeg Rcoded) Pmiddle_27 (upd Pend (Pln).toNatClampNeg Rcoded_18)) H := hP
    have hD : va_D A (wW_X3_tellLine ak ad hr_ ra ht ta pg pa Rcoded_18 Rtaken_19 Rtoken_20 Rplace_21 Rvalue_22 Rfault_23 Rsn Rcn Rcode_24 Tlen Tcnt Ttoks Tplc Tvals Pst Pce Pgi (Pln + 1) Pact_25 (upd PstuffOf (Pln).toNatClampNeg r_14) Ptarget_26 (upd Pfrom (Pln).toNatClampNeg Rcoded) Pmiddle_27 (upd Pend (Pln).toNatClampNeg Rcoded_18)) := hD
    exact kR78 Rcoded_18 Rtaken_19 Rtoken_20 Rplace_21 Rvalue_22 Rfault_23 Rcode_24 (Pln + 1) Pact_25 (upd PstuffOf (Pln).toNatClampNeg r_14) Ptarget_26 (upd Pfrom (Pln).toNatClampNeg Rcoded) Pmiddle_27 (upd Pend (Pln).toNatClampNeg Rcoded_18) _ _ _ hw hP hD hS
  · replace hw := hw.2 c_1
    refine lv_aload_n hx hb dX3_tellLine_14 rfl (lv_at hl 1 rfl) ?_
    refine lv_iconst (v := 5) hx hb dX3_tellLine_15 (by decide) ?_
    refine kc_v (wc := (wW_X3_fail ak ad hr_ ra ht pg Rcoded Rtaken Rtoken Rplace Rvalue Rfault)) (wr := [((ra 0), .inl (ak 1, 4, .inr (.inl (Rsn)))), ((ra 1), .inl (ak 1, 6, .inr (.inl (Rcn)))), ((ra 2), .inl (ak 0, 1000, .inl (Rcode))), (ht, .inr (5, tob ta (Tlen) (Tcnt))), ((ta 1), .inl (ak 4, 1001, .inr (.inr (.inr (.inr (tokA ad (Ttoks))))))), ((ta 2), .inl (ak 0, 1001, .inl (Tplc))), ((ta 3), .inl (ak 1, 1001, .inr (.inl (Tvals)))), (pg, .inr (2, pob pa (Pst) (Pce) (Pgi) (Pln))), ((pa 6), .inl (ak 0, 16, .inl (Pact))), ((pa 7), .inl (ak 0, 16, .inl (PstuffOf))), ((pa 8), .inl (ak 0, 16, .inl (Ptarget))), ((pa 9), .inl (ak 0, 16, .inl (Pfrom))), ((pa 10), .inl (ak 0, 16, .inl (Pmiddle))), ((pa 11), .inl (ak 0, 16, .inl (Pend)))]) hP hD hS hA [0] [1, 2, 3, 4, 5, 6, 7, 8, 9, 10, 11, 12, 13, 14] rfl rfl (by decide) (by decide) (va_runV (As := [.int (5)]) (rest := []) ⟨hx, hb, hml, hown, hts⟩ (c_X3_fail l D ak ad _ hr_ ra ht pg Rcoded Rtaken Rtoken Rplace Rvalue Rfault 5 _ hw) (cwV 1 hts gX3_tellLine_X3_fail rfl rfl rfl hv_X3_fail ⟨(Nat.le_trans (Nat.le_of_ble_eq_true rfl) hRf), (Nat.le_trans (Nat.le_of_ble_eq_true rfl) hRl)⟩) (kc_preV (As := [.int (5)]) (wc := (wW_X3_fail ak ad hr_ ra ht pg Rcoded Rtaken Rtoken Rplace Rvalue Rfault)) hE hT hP hD hS hA [0] (by decide) rfl rfl 0 3 rfl rfl rfl) rfl rfl hl.1 rfl (lv_room (Nat.le_of_ble_eq_true rfl)) dX3_tellLine_16 ⟨hRc.1, hRc.2⟩) (fun Rfault_31 H locs hw hP hD hS => ?_)
    try dsimp -zeta only at hw
    have hP : va_P D vwCl (wW_X3_tellLine ak ad hr_ ra ht ta pg pa Rcoded Rtaken Rtoken Rplace Rvalue Rfault_31 Rsn Rcn Rcode Tlen Tcnt Ttoks Tplc Tvals Pst Pce Pgi Pln Pact PstuffOf Ptarget Pfrom Pmiddle Pend) H := hP.sub [14, 0, 1, 2, 3, 4, 5, 6, 7, 8, 9, 10, 11, 12, 13] rfl
    have hD : va_D A (wW_X3_tellLine ak ad hr_ ra ht ta pg pa Rcoded Rtaken Rtoken Rplace Rvalue Rfault_31 Rsn Rcn Rcode Tlen Tcnt Ttoks Tplc Tvals Pst Pce Pgi Pln Pact PstuffOf Ptarget Pfrom Pmiddle Pend) := hD.sub [14, 0, 1, 2, 3, 4, 5, 6, 7, 8, 9, 10, 11, 12, 13] (by decide) rfl
    exact kR19 Rcoded Rtaken Rtoken Rplace Rvalue Rfault_31 Rcode Pln Pact PstuffOf Ptarget Pfrom Pmiddle Pend _ _ _ hw hP hD hS
set_option maxHeartbeats 4000000 in
set_option maxRecDepth 100000 in
theorem c_X3_tellLine (l : Launch) (D : va_G) (ak : Nat → ClassId) (ad : Nat → Nat) (sz : Nat) (hr_ : Nat) (ra : Nat → Nat) (ht : Nat) (ta : Nat → Nat) (pg : Nat) (pa : Nat → Nat) (Rcoded : Int32) (Rtaken : Int32) (Rtoken : Nat) (Rplace : Int32) (Rvalue : Int64) (Rfault : Int32) (Rsn : Nat → Int64) (Rcn : Nat → Int64) (Rcode : Nat → Int32) (Tlen : Int32) (Tcnt : Int32) (Ttoks : Nat → Nat) (Tplc : Nat → Int32) (Tvals : Nat → Int64) (Pst : Int32) (Pce : Int32) (Pgi : Int32) (Pln : Int32) (Pact : Nat → Int32) (PstuffOf : Nat → Int32) (Ptarget : Nat → Int32) (Pfrom : Nat → Int32) (Pmiddle : Nat → Int32) (Pend : Nat → Int32) (Φ : Int32 → Int32 → Nat → Int32 → Int64 → Int32 → (Nat → Int32) → Int32 → (Nat → Int32) → (Nat → Int32) → (Nat → Int32) → (Nat → Int32) → (Nat → Int32) → (Nat → Int32) → Prop) (hf : wp_X3_tellLine Rsn Rcn Tcnt Ttoks Tplc Tvals Pst Pce Rcoded Rtaken Rtoken Rplace Rvalue Rfault Rcode Pln Pact PstuffOf Ptarget Pfrom Pmiddle Pend Φ) : Met l yX3_tellLine wsX3_tellLine ({ frames := 46, cells := 0, slots := 0, locals := 2687 }) (cPre D ak ad [.ref hr_] ((wW_X3_tellLine ak ad hr_ ra ht ta pg pa Rcoded Rtaken Rtoken Rplace Rvalue Rfault Rsn Rcn Rcode Tlen Tcnt Ttoks Tplc Tvals Pst Pce Pgi Pln Pact PstuffOf Ptarget Pfrom Pmiddle Pend)) sz) (cV D (S := (Int32) × (Int32) × (Nat) × (Int32) × (Int64) × (Int32) × (Nat → Int32) × (Int32) × (Nat → Int32) × (Nat → Int32) × (Nat → Int32) × (Nat → Int32) × (Nat → Int32) × (Nat → Int32)) (fun (u : (Int32) × (Int32) × (Nat) × (Int32) × (Int64) × (Int32) × (Nat → Int32) × (Int32) × (Nat → Int32) × (Nat → Int32) × (Nat → Int32) × (Nat → Int32) × (Nat → Int32) × (Nat → Int32)) => Φ u.1 u.2.1 u.2.2.1 u.2.2.2.1 u.2.2.2.2.1 u.2.2.2.2.2.1 u.2.2.2.2.2.2.1 u.2.2.2.2.2.2.2.1 u.2.2.2.2.2.2.2.2.1 u.2.2.2.2.2.2.2.2.2.1 u.2.2.2.2.2.2.2.2.2.2.1 u.2.2.2.2.2.2.2.2.2.2.2.1 u.2.2.2.2.2.2.2.2.2.2.2.2.1 u.2.2.2.2.2.2.2.2.2.2.2.2.2) (fun u => (wW_X3_tellLine ak ad hr_ ra ht ta pg pa u.1 u.2.1 u.2.2.1 u.2.2.2.1 u.2.2.2.2.1 u.2.2.2.2.2.1 Rsn Rcn u.2.2.2.2.2.2.1 Tlen Tcnt Ttoks Tplc Tvals Pst Pce Pgi u.2.2.2.2.2.2.2.1 u.2.2.2.2.2.2.2.2.1 u.2.2.2.2.2.2.2.2.2.1 u.2.2.2.2.2.2.2.2.2.2.1 u.2.2.2.2.2.2.2.2.2.2.2.1 u.2.2.2.2.2.2.2.2.2.2.2.2.1 u.2.2.2.2.2.2.2.2.2.2.2.2.2)) ((wW_X3_tellLine ak ad hr_ ra ht ta pg pa Rcoded Rtaken Rtoken Rplace Rvalue Rfault Rsn Rcn Rcode Tlen Tcnt Ttoks Tplc Tvals Pst Pce Pgi Pln Pact PstuffOf Ptarget Pfrom Pmiddle Pend)) sz) 0 0 (va_A ((wW_X3_tellLine ak ad hr_ ra ht ta pg pa Rcoded Rtaken Rtoken Rplace Rvalue Rfault Rsn Rcn Rcode Tlen Tcnt Ttoks Tplc Tvals Pst Pce Pgi Pln Pact PstuffOf Ptarget Pfrom Pmiddle Pend)) sz) := by
  refine Met.ofW (cc := cX3_tellLine) (maxL := 2) (ret := none) (by decide) rfl ?_
  intro p e s m args below meth c s₁ B hml hv
  obtain ⟨rfl, hsz, hP, hE, hD0, hT⟩ := hv
  have hx := B.exec
  have hb := B.bytes
  have hr := B.returns
  have hts := atoms_spec (ws := wsX3_tellLine) B.pre
  have hown : s.vm.findClass RX3 = some m.cls := findClass_of_methodNamed B.named
  have hlocks := B.notSynchronized
  subst hsz
  have hD := hD0.self (sz := s.heap.size)
  generalize hAe : va_A ((wW_X3_tellLine ak ad hr_ ra ht ta pg pa Rcoded Rtaken Rtoken Rplace Rvalue Rfault Rsn Rcn Rcode Tlen Tcnt Ttoks Tplc Tvals Pst Pce Pgi Pln Pact PstuffOf Ptarget Pfrom Pmiddle Pend)) s.heap.size = A at hD hT ⊢
  have hA : ∀ q : Nat, s.heap.size ≤ q → A q := fun q h => by rw [← hAe]; exact Or.inr h
  have hS : va_S A s.heap s.heap [] := va_S.rf
  have hl := lv_entry ([.ref hr_]) (n := 2) (Nat.le_of_ble_eq_true rfl)
  rw [lg_entry_eq]
  generalize (lg_sl ([.ref hr_]) ++ List.replicate (2 - (lg_sl ([.ref hr_])).length) Slot.unset).toArray = ls at hl ⊢
  have hl : lv_has ls 2 [(0, .ref hr_)] := hl
  exact kj_X3_tellLine_e hx hb hown hts hml hE hT hA (Nat.le_of_ble_eq_true rfl) (Nat.le_of_ble_eq_true rfl) ⟨Nat.le_of_ble_eq_true rfl, Nat.le_of_ble_eq_true rfl⟩ hr_ ra ht ta pg pa Rsn Rcn Tlen Tcnt Ttoks Tplc Tvals Pst Pce Pgi Φ (fun Rcoded Rtaken Rtoken Rplace Rvalue Rfault Rcode Pln Pact PstuffOf Ptarget Pfrom Pmiddle Pend H locs ls hw hP hD hS => W.vret hx hb hr (fun t ht hW => ⟨⟨(Rcoded, Rtaken, Rtoken, Rplace, Rvalue, Rfault, Rcode, Pln, Pact, PstuffOf, Ptarget, Pfrom, Pmiddle, Pend), rfl, hw, by rw [ht]; exact hP, by rw [hAe]; exact hD⟩, by rw [hAe]; exact hS.F ht⟩) hS.2.2 dX3_tellLine_19) (fun Rcoded Rtaken Rtoken Rplace Rvalue Rfault Rcode Pln Pact PstuffOf Ptarget Pfrom Pmiddle Pend H locs ls hw hP hD hS => W.vret hx hb hr (fun t ht hW => ⟨⟨(Rcoded, Rtaken, Rtoken, Rplace, Rvalue, Rfault, Rcode, Pln, Pact, PstuffOf, Ptarget, Pfrom, Pmiddle, Pend), rfl, hw, by rw [ht]; exact hP, by rw [hAe]; exact hD⟩, by rw [hAe]; exact hS.F ht⟩) hS.2.2 dX3_tellLine_78) Rcoded Rtaken Rtoken Rplace Rvalue Rfault Rcode Pln Pact PstuffOf Ptarget Pfrom Pmiddle Pend _ _ _ hf hP hD hS hl
end
