theorem dX3_tellStuff_0 : decode cX3_tellStuff 0 = .ok (.aload_n 0, 1) := by decide +kernel
theorem dX3_tellStuff_1 : decode cX3_tellStuff 1 = .ok (.getfield 35, 3) := by decide +kernel
theorem dX3_tellStuff_4 : decode cX3_tellStuff 4 = .ok (.getfield 105, 3) := by decide +kernel
theorem dX3_tellStuff_7 : decode cX3_tellStuff 7 = .ok (.istore_n 1, 1) := by decide +kernel
theorem dX3_tellStuff_8 : decode cX3_tellStuff 8 = .ok (.iload_n 1, 1) := by decide +kernel
theorem dX3_tellStuff_9 : decode cX3_tellStuff 9 = .ok (.iconst 4, 1) := by decide +kernel
theorem dX3_tellStuff_10 : decode cX3_tellStuff 10 = .ok (.if_icmp .lt 9, 3) := by decide +kernel
theorem dX3_tellStuff_19 : decode cX3_tellStuff 19 = .ok (.aload_n 0, 1) := by decide +kernel
set_option maxRecDepth 20000 in
theorem ggX3_tellStuff_X3_advance : GoodIn wsX3_tellStuff wsX3_advance := gup gc_X3_advance
set_option maxRecDepth 20000 in
theorem gX3_tellStuff_X3_advance : GoodIn wsX3_tellStuff (wsV RX3 60 RX3 yX3_advance wsX3_advance) := gup (glV hw_437 hw_438 hw_439 hw_440 gc_X3_advance)
theorem dX3_tellStuff_20 : decode cX3_tellStuff 20 = .ok (.invokevirtual 60, 3) := by decide +kernel
theorem dX3_tellStuff_23 : decode cX3_tellStuff 23 = .ok (.aload_n 0, 1) := by decide +kernel
theorem dX3_tellStuff_24 : decode cX3_tellStuff 24 = .ok (.getfield 9, 3) := by decide +kernel
theorem dX3_tellStuff_27 : decode cX3_tellStuff 27 = .ok (.iload_n 1, 1) := by decide +kernel
theorem dX3_tellStuff_28 : decode cX3_tellStuff 28 = .ok (.aload_n 0, 1) := by decide +kernel
set_option maxRecDepth 20000 in
theorem ggX3_tellStuff_X3_takeNewName : GoodIn wsX3_tellStuff wsX3_takeNewName := gup gc_X3_takeNewName
set_option maxRecDepth 20000 in
theorem gX3_tellStuff_X3_takeNewName : GoodIn wsX3_tellStuff (wsV RX3 108 RX3 yX3_takeNewName wsX3_takeNewName) := gup (glV hw_460 hw_461 hw_462 hw_440 gc_X3_takeNewName)
theorem dX3_tellStuff_29 : decode cX3_tellStuff 29 = .ok (.invokevirtual 108, 3) := by decide +kernel
theorem dX3_tellStuff_32 : decode cX3_tellStuff 32 = .ok (.lastore, 1) := by decide +kernel
theorem dX3_tellStuff_33 : decode cX3_tellStuff 33 = .ok (.aload_n 0, 1) := by decide +kernel
theorem dX3_tellStuff_34 : decode cX3_tellStuff 34 = .ok (.getstatic 112, 3) := by decide +kernel
set_option maxRecDepth 20000 in
theorem ggX3_tellStuff_X3_expect : GoodIn wsX3_tellStuff wsX3_expect := gup gc_X3_expect
set_option maxRecDepth 20000 in
theorem gX3_tellStuff_X3_expect : GoodIn wsX3_tellStuff (wsV RX3 94 RX3 yX3_expect wsX3_expect) := gup (glV hw_463 hw_464 hw_465 hw_440 gc_X3_expect)
theorem dX3_tellStuff_37 : decode cX3_tellStuff 37 = .ok (.invokevirtual 94, 3) := by decide +kernel
theorem dX3_tellStuff_40 : decode cX3_tellStuff 40 = .ok (.aload_n 0, 1) := by decide +kernel
theorem dX3_tellStuff_41 : decode cX3_tellStuff 41 = .ok (.getfield 35, 3) := by decide +kernel
theorem dX3_tellStuff_44 : decode cX3_tellStuff 44 = .ok (.getfield 115, 3) := by decide +kernel
theorem dX3_tellStuff_47 : decode cX3_tellStuff 47 = .ok (.iload_n 1, 1) := by decide +kernel
theorem dX3_tellStuff_48 : decode cX3_tellStuff 48 = .ok (.aload_n 0, 1) := by decide +kernel
theorem dX3_tellStuff_49 : decode cX3_tellStuff 49 = .ok (.iconst 1, 1) := by decide +kernel
theorem dX3_tellStuff_50 : decode cX3_tellStuff 50 = .ok (.sipush 9999, 3) := by decide +kernel
set_option maxRecDepth 20000 in
theorem ggX3_tellStuff_X3_takeNumber : GoodIn wsX3_tellStuff wsX3_takeNumber := gup gc_X3_takeNumber
set_option maxRecDepth 20000 in
theorem gX3_tellStuff_X3_takeNumber : GoodIn wsX3_tellStuff (wsV RX3 118 RX3 yX3_takeNumber wsX3_takeNumber) := gup (glV hw_466 hw_467 hw_468 hw_440 gc_X3_takeNumber)
theorem dX3_tellStuff_53 : decode cX3_tellStuff 53 = .ok (.invokevirtual 118, 3) := by decide +kernel
theorem dX3_tellStuff_56 : decode cX3_tellStuff 56 = .ok (.iastore, 1) := by decide +kernel
theorem dX3_tellStuff_57 : decode cX3_tellStuff 57 = .ok (.aload_n 0, 1) := by decide +kernel
theorem dX3_tellStuff_58 : decode cX3_tellStuff 58 = .ok (.getstatic 122, 3) := by decide +kernel
theorem dX3_tellStuff_61 : decode cX3_tellStuff 61 = .ok (.invokevirtual 94, 3) := by decide +kernel
theorem dX3_tellStuff_64 : decode cX3_tellStuff 64 = .ok (.aload_n 0, 1) := by decide +kernel
theorem dX3_tellStuff_65 : decode cX3_tellStuff 65 = .ok (.getfield 35, 3) := by decide +kernel
theorem dX3_tellStuff_68 : decode cX3_tellStuff 68 = .ok (.getfield 125, 3) := by decide +kernel
theorem dX3_tellStuff_71 : decode cX3_tellStuff 71 = .ok (.iload_n 1, 1) := by decide +kernel
theorem dX3_tellStuff_72 : decode cX3_tellStuff 72 = .ok (.aload_n 0, 1) := by decide +kernel
theorem dX3_tellStuff_73 : decode cX3_tellStuff 73 = .ok (.iconst 0, 1) := by decide +kernel
theorem dX3_tellStuff_74 : decode cX3_tellStuff 74 = .ok (.sipush 999, 3) := by decide +kernel
theorem dX3_tellStuff_77 : decode cX3_tellStuff 77 = .ok (.invokevirtual 118, 3) := by decide +kernel
theorem dX3_tellStuff_80 : decode cX3_tellStuff 80 = .ok (.iastore, 1) := by decide +kernel
theorem dX3_tellStuff_81 : decode cX3_tellStuff 81 = .ok (.aload_n 0, 1) := by decide +kernel
theorem dX3_tellStuff_82 : decode cX3_tellStuff 82 = .ok (.getfield 35, 3) := by decide +kernel
theorem dX3_tellStuff_85 : decode cX3_tellStuff 85 = .ok (.iload_n 1, 1) := by decide +kernel
theorem dX3_tellStuff_86 : decode cX3_tellStuff 86 = .ok (.iconst 1, 1) := by decide +kernel
theorem dX3_tellStuff_87 : decode cX3_tellStuff 87 = .ok (.iadd, 1) := by decide +kernel
theorem dX3_tellStuff_88 : decode cX3_tellStuff 88 = .ok (.putfield 105, 3) := by decide +kernel
theorem dX3_tellStuff_13 : decode cX3_tellStuff 13 = .ok (.aload_n 0, 1) := by decide +kernel
theorem dX3_tellStuff_14 : decode cX3_tellStuff 14 = .ok (.iconst 5, 1) := by decide +kernel
set_option maxRecDepth 20000 in
theorem ggX3_tellStuff_X3_fail : GoodIn wsX3_tellStuff wsX3_fail := gup gc_X3_fail
set_option maxRecDepth 20000 in
theorem gX3_tellStuff_X3_fail : GoodIn wsX3_tellStuff (wsV RX3 87 RX3 yX3_fail wsX3_fail) := gup (glV hw_441 hw_442 hw_443 hw_440 gc_X3_fail)
theorem dX3_tellStuff_15 : decode cX3_tellStuff 15 = .ok (.invokevirtual 87, 3) := by decide +kernel
theorem dX3_tellStuff_18 : decode cX3_tellStuff 18 = .ok (.return_, 1) := by decide +kernel
theorem dX3_tellStuff_91 : decode cX3_tellStuff 91 = .ok (.return_, 1) := by decide +kernel
theorem dX3_tellCell_0 : decode cX3_tellCell 0 = .ok (.aload_n 0, 1) := by decide +kernel
theorem dX3_tellCell_1 : decode cX3_tellCell 1 = .ok (.getfield 35, 3) := by decide +kernel
theorem dX3_tellCell_4 : decode cX3_tellCell 4 = .ok (.getfield 128, 3) := by decide +kernel
theorem dX3_tellCell_7 : decode cX3_tellCell 7 = .ok (.istore_n 1, 1) := by decide +kernel
theorem dX3_tellCell_8 : decode cX3_tellCell 8 = .ok (.iload_n 1, 1) := by decide +kernel
theorem dX3_tellCell_9 : decode cX3_tellCell 9 = .ok (.bipush 6, 2) := by decide +kernel
theorem dX3_tellCell_11 : decode cX3_tellCell 11 = .ok (.if_icmp .lt 9, 3) := by decide +kernel
theorem dX3_tellCell_20 : decode cX3_tellCell 20 = .ok (.aload_n 0, 1) := by decide +kernel
set_option maxRecDepth 20000 in
theorem ggX3_tellCell_X3_advance : GoodIn wsX3_tellCell wsX3_advance := gup gc_X3_advance
set_option maxRecDepth 20000 in
theorem gX3_tellCell_X3_advance : GoodIn wsX3_tellCell (wsV RX3 60 RX3 yX3_advance wsX3_advance) := gup (glV hw_437 hw_438 hw_439 hw_440 gc_X3_advance)
theorem dX3_tellCell_21 : decode cX3_tellCell 21 = .ok (.invokevirtual 60, 3) := by decide +kernel
theorem dX3_tellCell_24 : decode cX3_tellCell 24 = .ok (.aload_n 0, 1) := by decide +kernel
theorem dX3_tellCell_25 : decode cX3_tellCell 25 = .ok (.getfield 15, 3) := by decide +kernel
theorem dX3_tellCell_28 : decode cX3_tellCell 28 = .ok (.iload_n 1, 1) := by decide +kernel
theorem dX3_tellCell_29 : decode cX3_tellCell 29 = .ok (.aload_n 0, 1) := by decide +kernel
set_option maxRecDepth 20000 in
theorem ggX3_tellCell_X3_takeNewName : GoodIn wsX3_tellCell wsX3_takeNewName := gup gc_X3_takeNewName
set_option maxRecDepth 20000 in
theorem gX3_tellCell_X3_takeNewName : GoodIn wsX3_tellCell (wsV RX3 108 RX3 yX3_takeNewName wsX3_takeNewName) := gup (glV hw_460 hw_461 hw_462 hw_440 gc_X3_takeNewName)
theorem dX3_tellCell_30 : decode cX3_tellCell 30 = .ok (.invokevirtual 108, 3) := by decide +kernel
theorem dX3_tellCell_33 : decode cX3_tellCell 33 = .ok (.lastore, 1) := by decide +kernel
theorem dX3_tellCell_34 : decode cX3_tellCell 34 = .ok (.aload_n 0, 1) := by decide +kernel
theorem dX3_tellCell_35 : decode cX3_tellCell 35 = .ok (.getfield 35, 3) := by decide +kernel
theorem dX3_tellCell_38 : decode cX3_tellCell 38 = .ok (.getfield 131, 3) := by decide +kernel
theorem dX3_tellCell_41 : decode cX3_tellCell 41 = .ok (.iload_n 1, 1) := by decide +kernel
theorem dX3_tellCell_42 : decode cX3_tellCell 42 = .ok (.aload_n 0, 1) := by decide +kernel
theorem dX3_tellCell_43 : decode cX3_tellCell 43 = .ok (.iconst 0, 1) := by decide +kernel
theorem dX3_tellCell_44 : decode cX3_tellCell 44 = .ok (.sipush 9999, 3) := by decide +kernel
set_option maxRecDepth 20000 in
theorem ggX3_tellCell_X3_takeNumber : GoodIn wsX3_tellCell wsX3_takeNumber := gup gc_X3_takeNumber
set_option maxRecDepth 20000 in
theorem gX3_tellCell_X3_takeNumber : GoodIn wsX3_tellCell (wsV RX3 118 RX3 yX3_takeNumber wsX3_takeNumber) := gup (glV hw_466 hw_467 hw_468 hw_440 gc_X3_takeNumber)
theorem dX3_tellCell_47 : decode cX3_tellCell 47 = .ok (.invokevirtual 118, 3) := by decide +kernel
theorem dX3_tellCell_50 : decode cX3_tellCell 50 = .ok (.iastore, 1) := by decide +kernel
theorem dX3_tellCell_51 : decode cX3_tellCell 51 = .ok (.aload_n 0, 1) := by decide +kernel
theorem dX3_tellCell_52 : decode cX3_tellCell 52 = .ok (.getfield 35, 3) := by decide +kernel
theorem dX3_tellCell_55 : decode cX3_tellCell 55 = .ok (.iload_n 1, 1) := by decide +kernel
theorem dX3_tellCell_56 : decode cX3_tellCell 56 = .ok (.iconst 1, 1) := by decide +kernel
theorem dX3_tellCell_57 : decode cX3_tellCell 57 = .ok (.iadd, 1) := by decide +kernel
theorem dX3_tellCell_58 : decode cX3_tellCell 58 = .ok (.putfield 128, 3) := by decide +kernel
theorem dX3_tellCell_14 : decode cX3_tellCell 14 = .ok (.aload_n 0, 1) := by decide +kernel
theorem dX3_tellCell_15 : decode cX3_tellCell 15 = .ok (.iconst 5, 1) := by decide +kernel
set_option maxRecDepth 20000 in
theorem ggX3_tellCell_X3_fail : GoodIn wsX3_tellCell wsX3_fail := gup gc_X3_fail
set_option maxRecDepth 20000 in
theorem gX3_tellCell_X3_fail : GoodIn wsX3_tellCell (wsV RX3 87 RX3 yX3_fail wsX3_fail) := gup (glV hw_441 hw_442 hw_443 hw_440 gc_X3_fail)
theorem dX3_tellCell_16 : decode cX3_tellCell 16 = .ok (.invokevirtual 87, 3) := by decide +kernel
theorem dX3_tellCell_19 : decode cX3_tellCell 19 = .ok (.return_, 1) := by decide +kernel
theorem dX3_tellCell_61 : decode cX3_tellCell 61 = .ok (.return_, 1) := by decide +kernel
theorem dX3_tellInput_99 : decode cX3_tellInput 99 = .ok (.aload_n 0, 1) := by decide +kernel
set_option maxRecDepth 20000 in
theorem ggX3_tellInput_X3_advance : GoodIn wsX3_tellInput wsX3_advance := gup gc_X3_advance
set_option maxRecDepth 20000 in
theorem gX3_tellInput_X3_advance : GoodIn wsX3_tellInput (wsV RX3 60 RX3 yX3_advance wsX3_advance) := gup (glV hw_437 hw_438 hw_439 hw_440 gc_X3_advance)
theorem dX3_tellInput_100 : decode cX3_tellInput 100 = .ok (.invokevirtual 60, 3) := by decide +kernel
theorem dX3_tellInput_103 : decode cX3_tellInput 103 = .ok (.aload_n 0, 1) := by decide +kernel
theorem dX3_tellInput_104 : decode cX3_tellInput 104 = .ok (.getfield 35, 3) := by decide +kernel
theorem dX3_tellInput_107 : decode cX3_tellInput 107 = .ok (.getfield 151, 3) := by decide +kernel
theorem dX3_tellInput_110 : decode cX3_tellInput 110 = .ok (.iload_n 1, 1) := by decide +kernel
theorem dX3_tellInput_111 : decode cX3_tellInput 111 = .ok (.iload_n 2, 1) := by decide +kernel
theorem dX3_tellInput_112 : decode cX3_tellInput 112 = .ok (.iastore, 1) := by decide +kernel
theorem dX3_tellInput_113 : decode cX3_tellInput 113 = .ok (.aload_n 0, 1) := by decide +kernel
theorem dX3_tellInput_114 : decode cX3_tellInput 114 = .ok (.getfield 35, 3) := by decide +kernel
theorem dX3_tellInput_117 : decode cX3_tellInput 117 = .ok (.getfield 154, 3) := by decide +kernel
theorem dX3_tellInput_120 : decode cX3_tellInput 120 = .ok (.iload_n 1, 1) := by decide +kernel
theorem dX3_tellInput_121 : decode cX3_tellInput 121 = .ok (.iload_n 3, 1) := by decide +kernel
theorem dX3_tellInput_122 : decode cX3_tellInput 122 = .ok (.iastore, 1) := by decide +kernel
theorem dX3_tellInput_123 : decode cX3_tellInput 123 = .ok (.aload_n 0, 1) := by decide +kernel
theorem dX3_tellInput_124 : decode cX3_tellInput 124 = .ok (.getfield 35, 3) := by decide +kernel
theorem dX3_tellInput_127 : decode cX3_tellInput 127 = .ok (.getfield 157, 3) := by decide +kernel
theorem dX3_tellInput_130 : decode cX3_tellInput 130 = .ok (.iload_n 1, 1) := by decide +kernel
theorem dX3_tellInput_131 : decode cX3_tellInput 131 = .ok (.iload 4, 2) := by decide +kernel
theorem dX3_tellInput_133 : decode cX3_tellInput 133 = .ok (.iastore, 1) := by decide +kernel
theorem dX3_tellInput_134 : decode cX3_tellInput 134 = .ok (.aload_n 0, 1) := by decide +kernel
theorem dX3_tellInput_135 : decode cX3_tellInput 135 = .ok (.getfield 35, 3) := by decide +kernel
theorem dX3_tellInput_138 : decode cX3_tellInput 138 = .ok (.iload_n 1, 1) := by decide +kernel
theorem dX3_tellInput_139 : decode cX3_tellInput 139 = .ok (.iconst 1, 1) := by decide +kernel
theorem dX3_tellInput_140 : decode cX3_tellInput 140 = .ok (.iadd, 1) := by decide +kernel
theorem dX3_tellInput_141 : decode cX3_tellInput 141 = .ok (.putfield 133, 3) := by decide +kernel
theorem dX3_tellInput_52 : decode cX3_tellInput 52 = .ok (.aload_n 0, 1) := by decide +kernel
theorem dX3_tellInput_53 : decode cX3_tellInput 53 = .ok (.invokevirtual 60, 3) := by decide +kernel
theorem dX3_tellInput_56 : decode cX3_tellInput 56 = .ok (.aload_n 0, 1) := by decide +kernel
theorem dX3_tellInput_57 : decode cX3_tellInput 57 = .ok (.iconst 0, 1) := by decide +kernel
theorem dX3_tellInput_58 : decode cX3_tellInput 58 = .ok (.sipush 9999, 3) := by decide +kernel
set_option maxRecDepth 20000 in
theorem ggX3_tellInput_X3_takeNumber : GoodIn wsX3_tellInput wsX3_takeNumber := gup gc_X3_takeNumber
set_option maxRecDepth 20000 in
theorem gX3_tellInput_X3_takeNumber : GoodIn wsX3_tellInput (wsV RX3 118 RX3 yX3_takeNumber wsX3_takeNumber) := gup (glV hw_466 hw_467 hw_468 hw_440 gc_X3_takeNumber)
theorem dX3_tellInput_61 : decode cX3_tellInput 61 = .ok (.invokevirtual 118, 3) := by decide +kernel
theorem dX3_tellInput_64 : decode cX3_tellInput 64 = .ok (.istore_n 3, 1) := by decide +kernel
theorem dX3_tellInput_65 : decode cX3_tellInput 65 = .ok (.aload_n 0, 1) := by decide +kernel
theorem dX3_tellInput_66 : decode cX3_tellInput 66 = .ok (.iload_n 3, 1) := by decide +kernel
theorem dX3_tellInput_67 : decode cX3_tellInput 67 = .ok (.sipush 9999, 3) := by decide +kernel
set_option maxRecDepth 20000 in
theorem ggX3_tellInput_X3_numberHere : GoodIn wsX3_tellInput wsX3_numberHere := gup gc_X3_numberHere
set_option maxRecDepth 20000 in
theorem gX3_tellInput_X3_numberHere : GoodIn wsX3_tellInput (wsV RX3 144 RX3 yX3_numberHere wsX3_numberHere) := gup (glV hw_444 hw_445 hw_446 hw_440 gc_X3_numberHere)
theorem dX3_tellInput_70 : decode cX3_tellInput 70 = .ok (.invokevirtual 144, 3) := by decide +kernel
theorem dX3_tellInput_73 : decode cX3_tellInput 73 = .ok (.istore 4, 2) := by decide +kernel
theorem dX3_tellInput_75 : decode cX3_tellInput 75 = .ok (.iload 4, 2) := by decide +kernel
theorem dX3_tellInput_77 : decode cX3_tellInput 77 = .ok (.iload_n 3, 1) := by decide +kernel
theorem dX3_tellInput_78 : decode cX3_tellInput 78 = .ok (.isub, 1) := by decide +kernel
theorem dX3_tellInput_79 : decode cX3_tellInput 79 = .ok (.iconst 1, 1) := by decide +kernel
theorem dX3_tellInput_80 : decode cX3_tellInput 80 = .ok (.iadd, 1) := by decide +kernel
theorem dX3_tellInput_81 : decode cX3_tellInput 81 = .ok (.aload_n 0, 1) := by decide +kernel
theorem dX3_tellInput_82 : decode cX3_tellInput 82 = .ok (.getfield 35, 3) := by decide +kernel
set_option maxRecDepth 20000 in
theorem ggX3_tellInput_X2_inputCount : GoodIn wsX3_tellInput wsX2_inputCount := gup gc_X2_inputCount
set_option maxRecDepth 20000 in
theorem gX3_tellInput_X2_inputCount : GoodIn wsX3_tellInput (wsV RX3 147 RX2 yX2_inputCount wsX2_inputCount) := gup (glV hw_469 hw_470 hw_471 hw_318 gc_X2_inputCount)
theorem dX3_tellInput_85 : decode cX3_tellInput 85 = .ok (.invokevirtual 147, 3) := by decide +kernel
theorem dX3_tellInput_88 : decode cX3_tellInput 88 = .ok (.imul, 1) := by decide +kernel
theorem dX3_tellInput_89 : decode cX3_tellInput 89 = .ok (.bipush 64, 2) := by decide +kernel
theorem dX3_tellInput_91 : decode cX3_tellInput 91 = .ok (.if_icmp .le 8, 3) := by decide +kernel
theorem dX3_tellInput_94 : decode cX3_tellInput 94 = .ok (.aload_n 0, 1) := by decide +kernel
theorem dX3_tellInput_95 : decode cX3_tellInput 95 = .ok (.iconst 5, 1) := by decide +kernel
set_option maxRecDepth 20000 in
theorem ggX3_tellInput_X3_fail : GoodIn wsX3_tellInput wsX3_fail := gup gc_X3_fail
set_option maxRecDepth 20000 in
theorem gX3_tellInput_X3_fail : GoodIn wsX3_tellInput (wsV RX3 87 RX3 yX3_fail wsX3_fail) := gup (glV hw_441 hw_442 hw_443 hw_440 gc_X3_fail)
theorem dX3_tellInput_96 : decode cX3_tellInput 96 = .ok (.invokevirtual 87, 3) := by decide +kernel
theorem dX3_tellInput_0 : decode cX3_tellInput 0 = .ok (.aload_n 0, 1) := by decide +kernel
theorem dX3_tellInput_1 : decode cX3_tellInput 1 = .ok (.getfield 35, 3) := by decide +kernel
theorem dX3_tellInput_4 : decode cX3_tellInput 4 = .ok (.getfield 133, 3) := by decide +kernel
theorem dX3_tellInput_7 : decode cX3_tellInput 7 = .ok (.istore_n 1, 1) := by decide +kernel
theorem dX3_tellInput_8 : decode cX3_tellInput 8 = .ok (.iload_n 1, 1) := by decide +kernel
theorem dX3_tellInput_9 : decode cX3_tellInput 9 = .ok (.iconst 2, 1) := by decide +kernel
theorem dX3_tellInput_10 : decode cX3_tellInput 10 = .ok (.if_icmp .lt 9, 3) := by decide +kernel
theorem dX3_tellInput_19 : decode cX3_tellInput 19 = .ok (.aload_n 0, 1) := by decide +kernel
theorem dX3_tellInput_20 : decode cX3_tellInput 20 = .ok (.invokevirtual 60, 3) := by decide +kernel
theorem dX3_tellInput_23 : decode cX3_tellInput 23 = .ok (.aload_n 0, 1) := by decide +kernel
theorem dX3_tellInput_24 : decode cX3_tellInput 24 = .ok (.aload_n 0, 1) := by decide +kernel
theorem dX3_tellInput_25 : decode cX3_tellInput 25 = .ok (.getfield 15, 3) := by decide +kernel
theorem dX3_tellInput_28 : decode cX3_tellInput 28 = .ok (.aload_n 0, 1) := by decide +kernel
theorem dX3_tellInput_29 : decode cX3_tellInput 29 = .ok (.getfield 35, 3) := by decide +kernel
theorem dX3_tellInput_32 : decode cX3_tellInput 32 = .ok (.getfield 128, 3) := by decide +kernel
set_option maxRecDepth 20000 in
theorem ggX3_tellInput_X3_toldHere : GoodIn wsX3_tellInput wsX3_toldHere := gup gc_X3_toldHere
set_option maxRecDepth 20000 in
theorem gX3_tellInput_X3_toldHere : GoodIn wsX3_tellInput (wsV RX3 136 RX3 yX3_toldHere wsX3_toldHere) := gup (glV hw_450 hw_451 hw_452 hw_440 gc_X3_toldHere)
theorem dX3_tellInput_35 : decode cX3_tellInput 35 = .ok (.invokevirtual 136, 3) := by decide +kernel
theorem dX3_tellInput_38 : decode cX3_tellInput 38 = .ok (.istore_n 2, 1) := by decide +kernel
theorem dX3_tellInput_39 : decode cX3_tellInput 39 = .ok (.aload_n 0, 1) := by decide +kernel
theorem dX3_tellInput_40 : decode cX3_tellInput 40 = .ok (.iload_n 2, 1) := by decide +kernel
set_option maxRecDepth 20000 in
theorem ggX3_tellInput_X3_isGiven : GoodIn wsX3_tellInput wsX3_isGiven := gup gc_X3_isGiven
set_option maxRecDepth 20000 in
theorem gX3_tellInput_X3_isGiven : GoodIn wsX3_tellInput (wsV RX3 140 RX3 yX3_isGiven wsX3_isGiven) := gup (glV hw_472 hw_473 hw_474 hw_440 gc_X3_isGiven)
theorem dX3_tellInput_41 : decode cX3_tellInput 41 = .ok (.invokevirtual 140, 3) := by decide +kernel
theorem dX3_tellInput_44 : decode cX3_tellInput 44 = .ok (.ifCond .eq 8, 3) := by decide +kernel
theorem dX3_tellInput_47 : decode cX3_tellInput 47 = .ok (.aload_n 0, 1) := by decide +kernel
theorem dX3_tellInput_48 : decode cX3_tellInput 48 = .ok (.iconst 3, 1) := by decide +kernel
theorem dX3_tellInput_49 : decode cX3_tellInput 49 = .ok (.invokevirtual 87, 3) := by decide +kernel
theorem dX3_tellInput_13 : decode cX3_tellInput 13 = .ok (.aload_n 0, 1) := by decide +kernel
theorem dX3_tellInput_14 : decode cX3_tellInput 14 = .ok (.iconst 5, 1) := by decide +kernel
theorem dX3_tellInput_15 : decode cX3_tellInput 15 = .ok (.invokevirtual 87, 3) := by decide +kernel
theorem dX3_tellInput_18 : decode cX3_tellInput 18 = .ok (.return_, 1) := by decide +kernel
theorem dX3_tellInput_144 : decode cX3_tellInput 144 = .ok (.return_, 1) := by decide +kernel
def wW_X3_tellStuff (ak : Nat → ClassId) (ad : Nat → Nat) (hr_ : Nat) (ra : Nat → Nat) (ht : Nat) (ta : Nat → Nat) (pg : Nat) (pa : Nat → Nat) (Rcoded : Int32) (Rtaken : Int32) (Rtoken : Nat) (Rplace : Int32) (Rvalue : Int64) (Rfault : Int32) (Rsn : Nat → Int64) (Rcn : Nat → Int64) (Tlen : Int32) (Tcnt : Int32) (Ttoks : Nat → Nat) (Tplc : Nat → Int32) (Tvals : Nat → Int64) (Pst : Int32) (Pce : Int32) (Pgi : Int32) (Pln : Int32) (Pbears : Nat → Int32) (Pcosts : Nat → Int32) : va_W := [(hr_, .inr (3, rob ad ra (ht) (Rcoded) (pg) (Rtaken) (Rtoken) (Rplace) (Rvalue) (Rfault))), ((ra 0), .inl (ak 1, 4, .inr (.inl (Rsn)))), ((ra 1), .inl (ak 1, 6, .inr (.inl (Rcn)))), (ht, .inr (5, tob ta (Tlen) (Tcnt))), ((ta 1), .inl (ak 4, 1001, .inr (.inr (.inr (.inr (tokA ad (Ttoks))))))), ((ta 2), .inl (ak 0, 1001, .inl (Tplc))), ((ta 3), .inl (ak 1, 1001, .inr (.inl (Tvals)))), (pg, .inr (2, pob pa (Pst) (Pce) (Pgi) (Pln))), ((pa 0), .inl (ak 0, 4, .inl (Pbears))), ((pa 1), .inl (ak 0, 4, .inl (Pcosts)))]
def wp_X3_tellStuff (Rcn : Nat → Int64) (Tcnt : Int32) (Ttoks : Nat → Nat) (Tplc : Nat → Int32) (Tvals : Nat → Int64) (Pce : Int32) (Rtaken : Int32) (Rtoken : Nat) (Rplace : Int32) (Rvalue : Int64) (Rfault : Int32) (Rsn : Nat → Int64) (Pst : Int32) (Pbears : Nat → Int32) (Pcosts : Nat → Int32) (Φ : Int32 → Nat → Int32 → Int64 → Int32 → (Nat → Int64) → Int32 → (Nat → Int32) → (Nat → Int32) → Prop) : Prop := (Pst < 4 → wp_X3_advance Tcnt Ttoks Tplc Tvals Rtaken Rtoken Rplace Rvalue (fun Rtaken_3 Rtoken_4 Rplace_5 Rvalue_6 => wp_X3_takeNewName Rsn Rcn Tcnt Ttoks Tplc Tvals Pst Pce Rtaken_3 Rtoken_4 Rplace_5 Rvalue_6 Rfault (fun r_14 Rtaken_9 Rtoken_10 Rplace_11 Rvalue_12 Rfault_13 => vp_in Pst 4 ∧ wp_X3_expect Tcnt Ttoks Tplc Tvals 13 Rtaken_9 Rtoken_10 Rplace_11 Rvalue_12 Rfault_13 (fun Rtaken_17 Rtoken_18 Rplace_19 Rvalue_20 Rfault_21 => wp_X3_takeNumber Tcnt Ttoks Tplc Tvals 1 9999 Rtaken_17 Rtoken_18 Rplace_19 Rvalue_20 Rfault_21 (fun r_29 Rtaken_24 Rtoken_25 Rplace_26 Rvalue_27 Rfault_28 => vp_in Pst 4 ∧ wp_X3_expect Tcnt Ttoks Tplc Tvals 14 Rtaken_24 Rtoken_25 Rplace_26 Rvalue_27 Rfault_28 (fun Rtaken_32 Rtoken_33 Rplace_34 Rvalue_35 Rfault_36 => wp_X3_takeNumber Tcnt Ttoks Tplc Tvals 0 999 Rtaken_32 Rtoken_33 Rplace_34 Rvalue_35 Rfault_36 (fun r_44 Rtaken_39 Rtoken_40 Rplace_41 Rvalue_42 Rfault_43 => vp_in Pst 4 ∧ Φ Rtaken_39 Rtoken_40 Rplace_41 Rvalue_42 Rfault_43 (vp_updL Rsn (Pst).toNatClampNeg r_14) (Pst + 1) (upd Pbears (Pst).toNatClampNeg r_29) (upd Pcosts (Pst).toNatClampNeg r_44)))))))) ∧ (¬ Pst < 4 → wp_X3_fail Rplace 5 Rfault (fun Rfault_47 => Φ Rtaken Rtoken Rplace Rvalue Rfault_47 Rsn Pst Pbears Pcosts))
set_option maxHeartbeats 4000000 in
set_option maxRecDepth 100000 in
theorem kj_X3_tellStuff_e {p : Program} {l : Launch} {e : Env} {R : Room} {s : State} {m : MethodId} {args : Array Value} {below : List Frame} {meth : Method} {c : Code} {cells slots : Nat} {Q : State → Prop} {A : Nat → Prop} {D : va_G} {ak : Nat → ClassId} {ad : Nat → Nat} (hx : p.tables.exec = Jvm.exec) (hb : c.code = cX3_tellStuff) (hown : s.vm.findClass RX3 = some m.cls) (hts : ∀ w ∈ wsX3_tellStuff, w.before args s = true) (hml : c.maxLocals = 2) (hE : EV D ak s) (hT : ST D ak ad A s s.heap) (hA : ∀ q, s.heap.size ≤ q → A q) (hRf : 3 ≤ R.frames) (hRl : 66 ≤ R.locals) (hRc : cells ≤ R.cells ∧ slots ≤ R.slots) (hr_ : Nat) (ra : Nat → Nat) (ht : Nat) (ta : Nat → Nat) (pg : Nat) (pa : Nat → Nat) (Rcoded : Int32) (Rcn : Nat → Int64) (Tlen : Int32) (Tcnt : Int32) (Ttoks : Nat → Nat) (Tplc : Nat → Int32) (Tvals : Nat → Int64) (Pce : Int32) (Pgi : Int32) (Pln : Int32)  (Φ : Int32 → Nat → Int32 → Int64 → Int32 → (Nat → Int64) → Int32 → (Nat → Int32) → (Nat → Int32) → Prop)
    (kR18 : ∀ (Rtaken : Int32) (Rtoken : Nat) (Rplace : Int32) (Rvalue : Int64) (Rfault : Int32) (Rsn : Nat → Int64) (Pst : Int32) (Pbears : Nat → Int32) (Pcosts : Nat → Int32) (H : Heap) (locs : List Loc) (ls : Array Slot), Φ Rtaken Rtoken Rplace Rvalue Rfault Rsn Pst Pbears Pcosts → va_P D vwCl (wW_X3_tellStuff ak ad hr_ ra ht ta pg pa Rcoded Rtaken Rtoken Rplace Rvalue Rfault Rsn Rcn Tlen Tcnt Ttoks Tplc Tvals Pst Pce Pgi Pln Pbears Pcosts) H → va_D A (wW_X3_tellStuff ak ad hr_ ra ht ta pg pa Rcoded Rtaken Rtoken Rplace Rvalue Rfault Rsn Rcn Tlen Tcnt Ttoks Tplc Tvals Pst Pce Pgi Pln Pbears Pcosts) → va_S A s.heap H locs → W p l e R s m args below meth c H locs cells slots Q (F0 m 18 ls []))
    (kR91 : ∀ (Rtaken : Int32) (Rtoken : Nat) (Rplace : Int32) (Rvalue : Int64) (Rfault : Int32) (Rsn : Nat → Int64) (Pst : Int32) (Pbears : Nat → Int32) (Pcosts : Nat → Int32) (H : Heap) (locs : List Loc) (ls : Array Slot), Φ Rtaken Rtoken Rplace Rvalue Rfault Rsn Pst Pbears Pcosts → va_P D vwCl (wW_X3_tellStuff ak ad hr_ ra ht ta pg pa Rcoded Rtaken Rtoken Rplace Rvalue Rfault Rsn Rcn Tlen Tcnt Ttoks Tplc Tvals Pst Pce Pgi Pln Pbears Pcosts) H → va_D A (wW_X3_tellStuff ak ad hr_ ra ht ta pg pa Rcoded Rtaken Rtoken Rplace Rvalue Rfault Rsn Rcn Tlen Tcnt Ttoks Tplc Tvals Pst Pce Pgi Pln Pbears Pcosts) → va_S A s.heap H locs → W p l e R s m args below meth c H locs cells slots Q (F0 m 91 ls []))
    : ∀ (Rtaken : Int32) (Rtoken : Nat) (Rplace : Int32) (Rvalue : Int64) (Rfault : Int32) (Rsn : Nat → Int64) (Pst : Int32) (Pbears : Nat → Int32) (Pcosts : Nat → Int32) (H : Heap) (locs : List Loc) (ls : Array Slot), wp_X3_tellStuff Rcn Tcnt Ttoks Tplc Tvals Pce Rtaken Rtoken Rplace Rvalue Rfault Rsn Pst Pbears Pcosts Φ → va_P D vwCl (wW_X3_tellStuff ak ad hr_ ra ht ta pg pa Rcoded Rtaken Rtoken Rplace Rvalue Rfault Rsn Rcn Tlen Tcnt Ttoks Tplc Tvals Pst Pce Pgi Pln Pbears Pcosts) H → va_D A (wW_X3_tellStuff ak ad hr_ ra ht ta pg pa Rcoded Rtaken Rtoken Rplace Rvalue Rfault Rsn Rcn Tlen Tcnt Ttoks Tplc Tvals Pst Pce Pgi Pln Pbears Pcosts) → va_S A s.heap H locs → lv_has ls 2 [(0, .ref hr_)] → W p l e R s m args below meth c H locs cells slots Q (F0 m 0 ls ([])) := by
  intro Rtaken Rtoken Rplace Rvalue Rfault Rsn Pst Pbears Pcosts H locs ls hw hP hD hS hl
  delta wp_X3_tellStuff at hw
  refine lv_aload_n hx hb dX3_tellStuff_0 rfl (lv_at hl 0 rfl) ?_
  refine va_get (D := D) (ci := 3) (v := .ref pg) (C := RX3) (T := TX3) (N := 11) hx hb hts (fun w h => wm_c (wc_X3 w h)) hown hE.1 hP 0 rfl rfl 5 (by decide) (hts (.fieldLink RX3 35 "WornLines$Reader" "told" "LWornLines$Programme;") (wm_c hw_292)) (fun _ h9 => h9) rfl dX3_tellStuff_1 ?_
  refine va_get (D := D) (ci := 2) (v := .int (Pst)) (C := RX2) (T := TX2) (N := 17) hx hb hts (fun w h => wm_c (wc_X2 w h)) hown hE.1 hP 7 rfl rfl 0 (by decide) (hts (.fieldLink RX3 105 "WornLines$Programme" "stuffs" "I") (wm_c hw_433)) (fun _ h9 => h9) rfl dX3_tellStuff_4 ?_
  refine lv_istore_n (lv' := [(1, .int (Pst)), (0, .ref hr_)]) hx hb dX3_tellStuff_7 rfl hl (by decide) rfl (fun ls hl => ?_)
  refine lv_iload_n hx hb dX3_tellStuff_8 rfl (lv_at hl 0 rfl) ?_
  refine lv_iconst (v := 4) hx hb dX3_tellStuff_9 (by decide) ?_
  refine lv_icmp_lt (tgt := 19) hx hb dX3_tellStuff_10 (by decide) (fun c_1 => ?_) (fun c_1 => ?_)
  · replace hw := hw.1 c_1
    refine lv_aload_n hx hb dX3_tellStuff_19 rfl (lv_at hl 1 rfl) ?_
    refine kc_v (wc := (wW_X3_advance ak ad hr_ ra ht ta pg Rcoded Rtaken Rtoken Rplace Rvalue Rfault Tlen Tcnt Ttoks Tplc Tvals)) (wr := [((ra 0), .inl (ak 1, 4, .inr (.inl (Rsn)))), ((ra 1), .inl (ak 1, 6, .inr (.inl (Rcn)))), (pg, .inr (2, pob pa (Pst) (Pce) (Pgi) (Pln))), ((pa 0), .inl (ak 0, 4, .inl (Pbears))), ((pa 1), .inl (ak 0, 4, .inl (Pcosts)))]) hP hD hS hA [0, 3, 4, 5, 6] [1, 2, 7, 8, 9] rfl rfl (by decide) (by decide) (va_runV (As := []) (rest := []) ⟨hx, hb, hml, hown, hts⟩ (c_X3_advance l D ak ad _ hr_ ra ht ta pg Rcoded Rtaken Rtoken Rplace Rvalue Rfault Tlen Tcnt Ttoks Tplc Tvals _ hw) (cwV 0 hts gX3_tellStuff_X3_advance rfl rfl rfl (by decide +kernel) ⟨(Nat.le_trans (Nat.le_of_ble_eq_true rfl) hRf), (Nat.le_trans (Nat.le_of_ble_eq_true rfl) hRl)⟩) (kc_preV (As := []) (wc := (wW_X3_advance ak ad hr_ ra ht ta pg Rcoded Rtaken Rtoken Rplace Rvalue Rfault Tlen Tcnt Ttoks Tplc Tvals)) hE hT hP hD hS hA [0, 3, 4, 5, 6] (by decide) rfl rfl 0 3 rfl rfl rfl) rfl rfl hl.1 rfl (lv_room (Nat.le_of_ble_eq_true rfl)) dX3_tellStuff_20 ⟨hRc.1, hRc.2⟩) (fun u_2 H locs hw hP hD hS => ?_)
    obtain ⟨Rtaken_3, Rtoken_4, Rplace_5, Rvalue_6⟩ := u_2
    try dsimp -zeta only at hw
    have hP : va_P D vwCl (wW_X3_tellStuff ak ad hr_ ra ht ta pg pa Rcoded Rtaken_3 Rtoken_4 Rplace_5 Rvalue_6 Rfault Rsn Rcn Tlen Tcnt Ttoks Tplc Tvals Pst Pce Pgi Pln Pbears Pcosts) H := hP.sub [5, 0, 1, 6, 7, 8, 9, 2, 3, 4] rfl
    have hD : va_D A (wW_X3_tellStuff ak ad hr_ ra ht ta pg pa Rcoded Rtaken_3 Rtoken_4 Rplace_5 Rvalue_6 Rfault Rsn Rcn Tlen Tcnt Ttoks Tplc Tvals Pst Pce Pgi Pln Pbears Pcosts) := hD.sub [5, 0, 1, 6, 7, 8, 9, 2, 3, 4] (by decide) rfl
    refine lv_aload_n hx hb dX3_tellStuff_23 rfl (lv_at hl 1 rfl) ?_
    refine va_get (D := D) (ci := 3) (v := .ref (ra 0)) (C := RX3) (T := TX3) (N := 11) hx hb hts (fun w h => wm_c (wc_X3 w h)) hown hE.1 hP 0 rfl rfl 1 (by decide) (hts (.fieldLink RX3 9 "WornLines$Reader" "stuffNames" "[J") (wm_c hw_286)) (fun _ h9 => h9) rfl dX3_tellStuff_24 ?_
    refine lv_iload_n hx hb dX3_tellStuff_27 rfl (lv_at hl 0 rfl) ?_
    refine lv_aload_n hx hb dX3_tellStuff_28 rfl (lv_at hl 1 rfl) ?_
    refine kc_l (wc := (wW_X3_takeNewName ak ad hr_ ra ht ta pg pa Rcoded Rtaken_3 Rtoken_4 Rplace_5 Rvalue_6 Rfault Rsn Rcn Tlen Tcnt Ttoks Tplc Tvals Pst Pce Pgi Pln)) (wr := [((pa 0), .inl (ak 0, 4, .inl (Pbears))), ((pa 1), .inl (ak 0, 4, .inl (Pcosts)))]) hP hD hS hA [0, 1, 2, 3, 4, 5, 6, 7] [8, 9] rfl rfl (by decide) (by decide) (va_runV (As := []) (rest := [.int (Pst), .ref (ra 0)]) ⟨hx, hb, hml, hown, hts⟩ (c_X3_takeNewName l D ak ad _ hr_ ra ht ta pg pa Rcoded Rtaken_3 Rtoken_4 Rplace_5 Rvalue_6 Rfault Rsn Rcn Tlen Tcnt Ttoks Tplc Tvals Pst Pce Pgi Pln _ hw) (cwV 0 hts gX3_tellStuff_X3_takeNewName rfl rfl rfl (by decide +kernel) ⟨(Nat.le_trans (Nat.le_of_ble_eq_true rfl) hRf), (Nat.le_trans (Nat.le_of_ble_eq_true rfl) hRl)⟩) (kc_preV (As := []) (wc := (wW_X3_takeNewName ak ad hr_ ra ht ta pg pa Rcoded Rtaken_3 Rtoken_4 Rplace_5 Rvalue_6 Rfault Rsn Rcn Tlen Tcnt Ttoks Tplc Tvals Pst Pce Pgi Pln)) hE hT hP hD hS hA [0, 1, 2, 3, 4, 5, 6, 7] (by decide) rfl rfl 0 3 rfl rfl rfl) rfl rfl hl.1 rfl (lv_room (Nat.le_of_ble_eq_true rfl)) dX3_tellStuff_29 ⟨hRc.1, hRc.2⟩) (fun r_14 u_8 H locs hw hP hD hS => ?_)
    obtain ⟨Rtaken_9, Rtoken_10, Rplace_11, Rvalue_12, Rfault_13⟩ := u_8
    try dsimp -zeta only at hw
    have hP : va_P D vwCl (wW_X3_tellStuff ak ad hr_ ra ht ta pg pa Rcoded Rtaken_9 Rtoken_10 Rplace_11 Rvalue_12 Rfault_13 Rsn Rcn Tlen Tcnt Ttoks Tplc Tvals Pst Pce Pgi Pln Pbears Pcosts) H := hP.sub [2, 3, 4, 5, 6, 7, 8, 9, 0, 1] rfl
    have hD : va_D A (wW_X3_tellStuff ak ad hr_ ra ht ta pg pa Rcoded Rtaken_9 Rtoken_10 Rplace_11 Rvalue_12 Rfault_13 Rsn Rcn Tlen Tcnt Ttoks Tplc Tvals Pst Pce Pgi Pln Pbears Pcosts) := hD.sub [2, 3, 4, 5, 6, 7, 8, 9, 0, 1] (by decide) rfl
    obtain ⟨h_15, hw⟩ := hw
    refine va_last hx hb hE.1 hP hD hS 1 1 rfl rfl (h_15) dX3_tellStuff_32 (fun H locs hP hD hS => ?_)
    have hP : va_P D vwCl (wW_X3_tellStuff ak ad hr_ ra ht ta pg pa Rcoded Rtaken_9 Rtoken_10 Rplace_11 Rvalue_12 Rfault_13 (vp_updL Rsn (Pst).toNatClampNeg r_14) Rcn Tlen Tcnt Ttoks Tplc Tvals Pst Pce Pgi Pln Pbears Pcosts) H := hP
    have hD : va_D A (wW_X3_tellStuff ak ad hr_ ra ht ta pg pa Rcoded Rtaken_9 Rtoken_10 Rplace_11 Rvalue_12 Rfault_13 (vp_updL Rsn (Pst).toNatClampNeg r_14) Rcn Tlen Tcnt Ttoks Tplc Tvals Pst Pce Pgi Pln Pbears Pcosts) := hD
    refine lv_aload_n hx hb dX3_tellStuff_33 rfl (lv_at hl 1 rfl) ?_
    refine va_gets hx hb (hT.1 13 (by decide)).1 hS hown (hts (.fieldLink RX3 112 "WornLines$Token" "BEARS_WORD" "LWornLines$Token;") (wm_c hw_453)) (fun _ h9 => h9) dX3_tellStuff_34 ?_
    refine kc_v (wc := (wW_X3_expect ak ad hr_ ra ht ta pg Rcoded Rtaken_9 Rtoken_10 Rplace_11 Rvalue_12 Rfault_13 Tlen Tcnt Ttoks Tplc Tvals)) (wr := [((ra 0), .inl (ak 1, 4, .inr (.inl (vp_updL Rsn (Pst).toNatClampNeg r_14)))), ((ra 1), .inl (ak 1, 6, .inr (.inl (Rcn)))), (pg, .inr (2, pob pa (Pst) (Pce) (Pgi) (Pln))), ((pa 0), .inl (ak 0, 4, .inl (Pbears))), ((pa 1), .inl (ak 0, 4, .inl (Pcosts)))]) hP hD hS hA [0, 3, 4, 5, 6] [1, 2, 7, 8, 9] rfl rfl (by decide) (by decide) (va_runV (As := [.ref (ad 13)]) (rest := []) ⟨hx, hb, hml, hown, hts⟩ (c_X3_expect l D ak ad _ hr_ ra ht ta pg Rcoded Rtaken_9 Rtoken_10 Rplace_11 Rvalue_12 Rfault_13 Tlen Tcnt Ttoks Tplc Tvals 13 _ hw) (cwV 1 hts gX3_tellStuff_X3_expect rfl rfl rfl (by decide +kernel) ⟨(Nat.le_trans (Nat.le_of_ble_eq_true rfl) hRf), (Nat.le_trans (Nat.le_of_ble_eq_true rfl) hRl)⟩) (kc_preV (As := [.ref (ad 13)]) (wc := (wW_X3_expect ak ad hr_ ra ht ta pg Rcoded Rtaken_9 Rtoken_10 Rplace_11 Rvalue_12 Rfault_13 Tlen Tcnt Ttoks Tplc Tvals)) hE hT hP hD hS hA [0, 3, 4, 5, 6] (by decide) rfl rfl 0 3 rfl rfl rfl) rfl rfl hl.1 rfl (lv_room (Nat.le_of_ble_eq_true rfl)) dX3_tellStuff_37 ⟨hRc.1, hRc.2⟩) (fun u_16 H locs hw hP hD hS => ?_)
    obtain ⟨Rtaken_17, Rtoken_18, Rplace_19, Rvalue_20, Rfault_21⟩ := u_16
    try dsimp -zeta only at hw
    have hP : va_P D vwCl (wW_X3_tellStuff ak ad hr_ ra ht ta pg pa Rcoded Rtaken_17 Rtoken_18 Rplace_19 Rvalue_20 Rfault_21 (vp_updL Rsn (Pst).toNatClampNeg r_14) Rcn Tlen Tcnt Ttoks Tplc Tvals Pst Pce Pgi Pln Pbears Pcosts) H := hP.sub [5, 0, 1, 6, 7, 8, 9, 2, 3, 4] rfl
    have hD : va_D A (wW_X3_tellStuff ak ad hr_ ra ht ta pg pa Rcoded Rtaken_17 Rtoken_18 Rplace_19 Rvalue_20 Rfault_21 (vp_updL Rsn (Pst).toNatClampNeg r_14) Rcn Tlen Tcnt Ttoks Tplc Tvals Pst Pce Pgi Pln Pbears Pcosts) := hD.sub [5, 0, 1, 6, 7, 8, 9, 2, 3, 4] (by decide) rfl
    refine lv_aload_n hx hb dX3_tellStuff_40 rfl (lv_at hl 1 rfl) ?_
    refine va_get (D := D) (ci := 3) (v := .ref pg) (C := RX3) (T := TX3) (N := 11) hx hb hts (fun w h => wm_c (wc_X3 w h)) hown hE.1 hP 0 rfl rfl 5 (by decide) (hts (.fieldLink RX3 35 "WornLines$Reader" "told" "LWornLines$Programme;") (wm_c hw_292)) (fun _ h9 => h9) rfl dX3_tellStuff_41 ?_
    refine va_get (D := D) (ci := 2) (v := .ref (pa 0)) (C := RX2) (T := TX2) (N := 17) hx hb hts (fun w h => wm_c (wc_X2 w h)) hown hE.1 hP 7 rfl rfl 1 (by decide) (hts (.fieldLink RX3 115 "WornLines$Programme" "bears" "[I") (wm_c hw_454)) (fun _ h9 => h9) rfl dX3_tellStuff_44 ?_
    refine lv_iload_n hx hb dX3_tellStuff_47 rfl (lv_at hl 0 rfl) ?_
    refine lv_aload_n hx hb dX3_tellStuff_48 rfl (lv_at hl 1 rfl) ?_
    refine lv_iconst (v := 1) hx hb dX3_tellStuff_49 (by decide) ?_
    refine lv_sipush (v := 9999) hx hb dX3_tellStuff_50 (by decide) ?_
    refine kc_i (wc := (wW_X3_takeNumber ak ad hr_ ra ht ta pg Rcoded Rtaken_17 Rtoken_18 Rplace_19 Rvalue_20 Rfault_21 Tlen Tcnt Ttoks Tplc Tvals)) (wr := [((ra 0), .inl (ak 1, 4, .inr (.inl (vp_updL Rsn (Pst).toNatClampNeg r_14)))), ((ra 1), .inl (ak 1, 6, .inr (.inl (Rcn)))), (pg, .inr (2, pob pa (Pst) (Pce) (Pgi) (Pln))), ((pa 0), .inl (ak 0, 4, .inl (Pbears))), ((pa 1), .inl (ak 0, 4, .inl (Pcosts)))]) hP hD hS hA [0, 3, 4, 5, 6] [1, 2, 7, 8, 9] rfl rfl (by decide) (by decide) (va_runV (As := [.int (1), .int (9999)]) (rest := [.int (Pst), .ref (pa 0)]) ⟨hx, hb, hml, hown, hts⟩ (c_X3_takeNumber l D ak ad _ hr_ ra ht ta pg Rcoded Rtaken_17 Rtoken_18 Rplace_19 Rvalue_20 Rfault_21 Tlen Tcnt Ttoks Tplc Tvals 1 9999 _ hw) (cwV 2 hts gX3_tellStuff_X3_takeNumber rfl rfl rfl (by decide +kernel) ⟨(Nat.le_trans (Nat.le_of_ble_eq_true rfl) hRf), (Nat.le_trans (Nat.le_of_ble_eq_true rfl) hRl)⟩) (kc_preV (As := [.int (1), .int (9999)]) (wc := (wW_X3_takeNumber ak ad hr_ ra ht ta pg Rcoded Rtaken_17 Rtoken_18 Rplace_19 Rvalue_20 Rfault_21 Tlen Tcnt Ttoks Tplc Tvals)) hE hT hP hD hS hA [0, 3, 4, 5, 6] (by decide) rfl rfl 0 3 rfl rfl rfl) rfl rfl hl.1 rfl (lv_room (Nat.le_of_ble_eq_true rfl)) dX3_tellStuff_53 ⟨hRc.1, hRc.2⟩) (fun r_29 u_23 H locs hw hP hD hS => ?_)
    obtain ⟨Rtaken_24, Rtoken_25, Rplace_26, Rvalue_27, Rfault_28⟩ := u_23
    try dsimp -zeta only at hw
    have hP : va_P D vwCl (wW_X3_tellStuff ak ad hr_ ra ht ta pg pa Rcoded Rtaken_24 Rtoken_25 Rplace_26 Rvalue_27 Rfault_28 (vp_updL Rsn (Pst).toNatClampNeg r_14) Rcn Tlen Tcnt Ttoks Tplc Tvals Pst Pce Pgi Pln Pbears Pcosts) H := hP.sub [5, 0, 1, 6, 7, 8, 9, 2, 3, 4] rfl
    have hD : va_D A (wW_X3_tellStuff ak ad hr_ ra ht ta pg pa Rcoded Rtaken_24 Rtoken_25 Rplace_26 Rvalue_27 Rfault_28 (vp_updL Rsn (Pst).toNatClampNeg r_14) Rcn Tlen Tcnt Ttoks Tplc Tvals Pst Pce Pgi Pln Pbears Pcosts) := hD.sub [5, 0, 1, 6, 7, 8, 9, 2, 3, 4] (by decide) rfl
    obtain ⟨h_30, hw⟩ := hw
    refine va_iast hx hb hE.1 hP hD hS 8 0 rfl rfl (h_30) dX3_tellStuff_56 (fun H locs hP hD hS => ?_)
    have hP : va_P D vwCl (wW_X3_tellStuff ak ad hr_ ra ht ta pg pa Rcoded Rtaken_24 Rtoken_25 Rplace_26 Rvalue_27 Rfault_28 (vp_updL Rsn (Pst).toNatClampNeg r_14) Rcn Tlen Tcnt Ttoks Tplc Tvals Pst Pce Pgi Pln (upd Pbears (Pst).toNatClampNeg r_29) Pcosts) H := hP
    have hD : va_D A (wW_X3_tellStuff ak ad hr_ ra ht ta pg pa Rcoded Rtaken_24 Rtoken_25 Rplace_26 Rvalue_27 Rfault_28 (vp_updL Rsn (Pst).toNatClampNeg r_14) Rcn Tlen Tcnt Ttoks Tplc Tvals Pst Pce Pgi Pln (upd Pbears (Pst).toNatClampNeg r_29) Pcosts) := hD
    refine lv_aload_n hx hb dX3_tellStuff_57 rfl (lv_at hl 1 rfl) ?_
    refine va_gets hx hb (hT.1 14 (by decide)).1 hS hown (hts (.fieldLink RX3 122 "WornLines$Token" "COSTS_WORD" "LWornLines$Token;") (wm_c hw_455)) (fun _ h9 => h9) dX3_tellStuff_58 ?_
    refine kc_v (wc := (wW_X3_expect ak ad hr_ ra ht ta pg Rcoded Rtaken_24 Rtoken_25 Rplace_26 Rvalue_27 Rfault_28 Tlen Tcnt Ttoks Tplc Tvals)) (wr := [((ra 0), .inl (ak 1, 4, .inr (.inl (vp_updL Rsn (Pst).toNatClampNeg r_14)))), ((ra 1), .inl (ak 1, 6, .inr (.inl (Rcn)))), (pg, .inr (2, pob pa (Pst) (Pce) (Pgi) (Pln))), ((pa 0), .inl (ak 0, 4, .inl (upd Pbears (Pst).toNatClampNeg r_29))), ((pa 1), .inl (ak 0, 4, .inl (Pcosts)))]) hP hD hS hA [0, 3, 4, 5, 6] [1, 2, 7, 8, 9] rfl rfl (by decide) (by decide) (va_runV (As := [.ref (ad 14)]) (rest := []) ⟨hx, hb, hml, hown, hts⟩ (c_X3_expect l D ak ad _ hr_ ra ht ta pg Rcoded Rtaken_24 Rtoken_25 Rplace_26 Rvalue_27 Rfault_28 Tlen Tcnt Ttoks Tplc Tvals 14 _ hw) (cwV 1 hts gX3_tellStuff_X3_expect rfl rfl rfl (by decide +kernel) ⟨(Nat.le_trans (Nat.le_of_ble_eq_true rfl) hRf), (Nat.le_trans (Nat.le_of_ble_eq_true rfl) hRl)⟩) (kc_preV (As := [.ref (ad 14)]) (wc := (wW_X3_expect ak ad hr_ ra ht ta pg Rcoded Rtaken_24 Rtoken_25 Rplace_26 Rvalue_27 Rfault_28 Tlen Tcnt Ttoks Tplc Tvals)) hE hT hP hD hS hA [0, 3, 4, 5, 6] (by decide) rfl rfl 0 3 rfl rfl rfl) rfl rfl hl.1 rfl (lv_room (Nat.le_of_ble_eq_true rfl)) dX3_tellStuff_61 ⟨hRc.1, hRc.2⟩) (fun u_31 H locs hw hP hD hS => ?_)
    obtain ⟨Rtaken_32, Rtoken_33, Rplace_34, Rvalue_35, Rfault_36⟩ := u_31
    try dsimp -zeta only at hw
    have hP : va_P D vwCl (wW_X3_tellStuff ak ad hr_ ra ht ta pg pa Rcoded Rtaken_32 Rtoken_33 Rplace_34 Rvalue_35 Rfault_36 (vp_updL Rsn (Pst).toNatClampNeg r_14) Rcn Tlen Tcnt Ttoks Tplc Tvals Pst Pce Pgi Pln (upd Pbears (Pst).toNatClampNeg r_29) Pcosts) H := hP.sub [5, 0, 1, 6, 7, 8, 9, 2, 3, 4] rfl
    have hD : va_D A (wW_X3_tellStuff ak ad hr_ ra ht ta pg pa Rcoded Rtaken_32 Rtoken_33 Rplace_34 Rvalue_35 Rfault_36 (vp_updL Rsn (Pst).toNatClampNeg r_14) Rcn Tlen Tcnt Ttoks Tplc Tvals Pst Pce Pgi Pln (upd Pbears (Pst).toNatClampNeg r_29) Pcosts) := hD.sub [5, 0, 1, 6, 7, 8, 9, 2, 3, 4] (by decide) rfl
    refine lv_aload_n hx hb dX3_tellStuff_64 rfl (lv_at hl 1 rfl) ?_
    refine va_get (D := D) (ci := 3) (v := .ref pg) (C := RX3) (T := TX3) (N := 11) hx hb hts (fun w h => wm_c (wc_X3 w h)) hown hE.1 hP 0 rfl rfl 5 (by decide) (hts (.fieldLink RX3 35 "WornLines$Reader" "told" "LWornLines$Programme;") (wm_c hw_292)) (fun _ h9 => h9) rfl dX3_tellStuff_65 ?_
    refine va_get (D := D) (ci := 2) (v := .ref (pa 1)) (C := RX2) (T := TX2) (N := 17) hx hb hts (fun w h => wm_c (wc_X2 w h)) hown hE.1 hP 7 rfl rfl 2 (by decide) (hts (.fieldLink RX3 125 "WornLines$Programme" "costs" "[I") (wm_c hw_456)) (fun _ h9 => h9) rfl dX3_tellStuff_68 ?_
    refine lv_iload_n hx hb dX3_tellStuff_71 rfl (lv_at hl 0 rfl) ?_
    refine lv_aload_n hx hb dX3_tellStuff_72 rfl (lv_at hl 1 rfl) ?_
    refine lv_iconst (v := 0) hx hb dX3_tellStuff_73 (by decide) ?_
    refine lv_sipush (v := 999) hx hb dX3_tellStuff_74 (by decide) ?_
    refine kc_i (wc := (wW_X3_takeNumber ak ad hr_ ra ht ta pg Rcoded Rtaken_32 Rtoken_33 Rplace_34 Rvalue_35 Rfault_36 Tlen Tcnt Ttoks Tplc Tvals)) (wr := [((ra 0), .inl (ak 1, 4, .inr (.inl (vp_updL Rsn (Pst).toNatClampNeg r_14)))), ((ra 1), .inl (ak 1, 6, .inr (.inl (Rcn)))), (pg, .inr (2, pob pa (Pst) (Pce) (Pgi) (Pln))), ((pa 0), .inl (ak 0, 4, .inl (upd Pbears (Pst).toNatClampNeg r_29))), ((pa 1), .inl (ak 0, 4, .inl (Pcosts)))]) hP hD hS hA [0, 3, 4, 5, 6] [1, 2, 7, 8, 9] rfl rfl (by decide) (by decide) (va_runV (As := [.int (0), .int (999)]) (rest := [.int (Pst), .ref (pa 1)]) ⟨hx, hb, hml, hown, hts⟩ (c_X3_takeNumber l D ak ad _ hr_ ra ht ta pg Rcoded Rtaken_32 Rtoken_33 Rplace_34 Rvalue_35 Rfault_36 Tlen Tcnt Ttoks Tplc Tvals 0 999 _ hw) (cwV 2 hts gX3_tellStuff_X3_takeNumber rfl rfl rfl (by decide +kernel) ⟨(Nat.le_trans (Nat.le_of_ble_eq_true rfl) hRf), (Nat.le_trans (Nat.le_of_ble_eq_true rfl) hRl)⟩) (kc_preV (As := [.int (0), .int (999)]) (wc := (wW_X3_takeNumber ak ad hr_ ra ht ta pg Rcoded Rtaken_32 Rtoken_33 Rplace_34 Rvalue_35 Rfault_36 Tlen Tcnt Ttoks Tplc Tvals)) hE hT hP hD hS hA [0, 3, 4, 5, 6] (by decide) rfl rfl 0 3 rfl rfl rfl) rfl rfl hl.1 rfl (lv_room (Nat.le_of_ble_eq_true rfl)) dX3_tellStuff_77 ⟨hRc.1, hRc.2⟩) (fun r_44 u_38 H locs hw hP hD hS => ?_)
    obtain ⟨Rtaken_39, Rtoken_40, Rplace_41, Rvalue_42, Rfault_43⟩ := u_38
    try dsimp -zeta only at hw
    have hP : va_P D vwCl (wW_X3_tellStuff ak ad hr_ ra ht ta pg pa Rcoded Rtaken_39 Rtoken_40 Rplace_41 Rvalue_42 Rfault_43 (vp_updL Rsn (Pst).toNatClampNeg r_14) Rcn Tlen Tcnt Ttoks Tplc Tvals Pst Pce Pgi Pln (upd Pbears (Pst).toNatClampNeg r_29) Pcosts) H := hP.sub [5, 0, 1, 6, 7, 8, 9, 2, 3, 4] rfl
    have hD : va_D A (wW_X3_tellStuff ak ad hr_ ra ht ta pg pa Rcoded Rtaken_39 Rtoken_40 Rplace_41 Rvalue_42 Rfault_43 (vp_updL Rsn (Pst).toNatClampNeg r_14) Rcn Tlen Tcnt Ttoks Tplc Tvals Pst Pce Pgi Pln (upd Pbears (Pst).toNatClampNeg r_29) Pcosts) := hD.sub [5, 0, 1, 6, 7, 8, 9, 2, 3, 4] (by decide) rfl
    obtain ⟨h_45, hw⟩ := hw
    refine va_iast hx hb hE.1 hP hD hS 9 0 rfl rfl (h_45) dX3_tellStuff_80 (fun H locs hP hD hS => ?_)
    have hP : va_P D vwCl (wW_X3_tellStuff ak ad hr_ ra ht ta pg pa Rcoded Rtaken_39 Rtoken_40 Rplace_41 Rvalue_42 Rfault_43 (vp_updL Rsn (Pst).toNatClampNeg r_14) Rcn Tlen Tcnt Ttoks Tplc Tvals Pst Pce Pgi Pln (upd Pbears (Pst).toNatClampNeg r_29) (upd Pcosts (Pst).toNatClampNeg r_44)) H := hP
    have hD : va_D A (wW_X3_tellStuff ak ad hr_ ra ht ta pg pa Rcoded Rtaken_39 Rtoken_40 Rplace_41 Rvalue_42 Rfault_43 (vp_updL Rsn (Pst).toNatClampNeg r_14) Rcn Tlen Tcnt Ttoks Tplc Tvals Pst Pce Pgi Pln (upd Pbears (Pst).toNatClampNeg r_29) (upd Pcosts (Pst).toNatClampNeg r_44)) := hD
    refine lv_aload_n hx hb dX3_tellStuff_81 rfl (lv_at hl 1 rfl) ?_
    refine va_get (D := D) (ci := 3) (v := .ref pg) (C := RX3) (T := TX3) (N := 11) hx hb hts (fun w h => wm_c (wc_X3 w h)) hown hE.1 hP 0 rfl rfl 5 (by decide) (hts (.fieldLink RX3 35 "WornLines$Reader" "told" "LWornLines$Programme;") (wm_c hw_292)) (fun _ h9 => h9) rfl dX3_tellStuff_82 ?_
    refine lv_iload_n hx hb dX3_tellStuff_85 rfl (lv_at hl 0 rfl) ?_
    refine lv_iconst (v := 1) hx hb dX3_tellStuff_86 (by decide) ?_
    refine lv_iadd hx hb dX3_tellStuff_87 ?_
    refine va_put (D := D) (ci := 2) (v := .int (Pst + 1)) (ty := .int) (C := RX2) (T := TX2) (N := 17) hx hb hts (fun w h => wm_c (wc_X2 w h)) tyX2 tyX2_ok nmX2 hown hE.1 hP hD hS 7 rfl rfl 0 (by decide) (hts (.fieldLink RX3 105 "WornLines$Programme" "stuffs" "I") (wm_c hw_433)) (fun _ h9 => h9) rfl (by decide +kernel) (rfl) rfl (Nat.le_of_ble_eq_true rfl) dX3_tellStuff_88 (fun H locs hP hD hS => ?_)
    have hP : va_P D vwCl (wW_X3_tellStuff ak ad hr_ ra ht ta pg pa Rcoded Rtaken_39 Rtoken_40 Rplace_41 Rvalue_42 Rfault_43 (vp_updL Rsn (Pst).toNatClampNeg r_14) Rcn Tlen Tcnt Ttoks Tplc Tvals (Pst + 1) Pce Pgi Pln (upd Pbears (Pst).toNatClampNeg r_29) (upd Pcosts (Pst).toNatClampNeg r_44)) H := hP
    have hD : va_D A (wW_X3_tellStuff ak ad hr_ ra ht ta pg pa Rcoded Rtaken_39 Rtoken_40 Rplace_41 Rvalue_42 Rfault_43 (vp_updL Rsn (Pst).toNatClampNeg r_14) Rcn Tlen Tcnt Ttoks Tplc Tvals (Pst + 1) Pce Pgi Pln (upd Pbears (Pst).toNatClampNeg r_29) (upd Pcosts (Pst).toNatClampNeg r_44)) := hD
    exact kR91 Rtaken_39 Rtoken_40 Rplace_41 Rvalue_42 Rfault_43 (vp_updL Rsn (Pst).toNatClampNeg r_14) (Pst + 1) (upd Pbears (Pst).toNatClampNeg r_29) (upd Pcosts (Pst).toNatClampNeg r_44) _ _ _ hw hP hD hS
  · replace hw := hw.2 c_1
    refine lv_aload_n hx hb dX3_tellStuff_13 rfl (lv_at hl 1 rfl) ?_
    refine lv_iconst (v := 5) hx hb dX3_tellStuff_14 (by decide) ?_
    refine kc_v (wc := (wW_X3_fail ak ad hr_ ra ht pg Rcoded Rtaken Rtoken Rplace Rvalue Rfault)) (wr := [((ra 0), .inl (ak 1, 4, .inr (.inl (Rsn)))), ((ra 1), .inl (ak 1, 6, .inr (.inl (Rcn)))), (ht, .inr (5, tob ta (Tlen) (Tcnt))), ((ta 1), .inl (ak 4, 1001, .inr (.inr (.inr (.inr (tokA ad (Ttoks))))))), ((ta 2), .inl (ak 0, 1001, .inl (Tplc))), ((ta 3), .inl (ak 1, 1001, .inr (.inl (Tvals)))), (pg, .inr (2, pob pa (Pst) (Pce) (Pgi) (Pln))), ((pa 0), .inl (ak 0, 4, .inl (Pbears))), ((pa 1), .inl (ak 0, 4, .inl (Pcosts)))]) hP hD hS hA [0] [1, 2, 3, 4, 5, 6, 7, 8, 9] rfl rfl (by decide) (by decide) (va_runV (As := [.int (5)]) (rest := []) ⟨hx, hb, hml, hown, hts⟩ (c_X3_fail l D ak ad _ hr_ ra ht pg Rcoded Rtaken Rtoken Rplace Rvalue Rfault 5 _ hw) (cwV 1 hts gX3_tellStuff_X3_fail rfl rfl rfl (by decide +kernel) ⟨(Nat.le_trans (Nat.le_of_ble_eq_true rfl) hRf), (Nat.le_trans (Nat.le_of_ble_eq_true rfl) hRl)⟩) (kc_preV (As := [.int (5)]) (wc := (wW_X3_fail ak ad hr_ ra ht pg Rcoded Rtaken Rtoken Rplace Rvalue Rfault)) hE hT hP hD hS hA [0] (by decide) rfl rfl 0 3 rfl rfl rfl) rfl rfl hl.1 rfl (lv_room (Nat.le_of_ble_eq_true rfl)) dX3_tellStuff_15 ⟨hRc.1, hRc.2⟩) (fun Rfault_47 H locs hw hP hD hS => ?_)
    try dsimp -zeta only at hw
    have hP : va_P D vwCl (wW_X3_tellStuff ak ad hr_ ra ht ta pg pa Rcoded Rtaken Rtoken Rplace Rvalue Rfault_47 Rsn Rcn Tlen Tcnt Ttoks Tplc Tvals Pst Pce Pgi Pln Pbears Pcosts) H := hP.sub [9, 0, 1, 2, 3, 4, 5, 6, 7, 8] rfl
    have hD : va_D A (wW_X3_tellStuff ak ad hr_ ra ht ta pg pa Rcoded Rtaken Rtoken Rplace Rvalue Rfault_47 Rsn Rcn Tlen Tcnt Ttoks Tplc Tvals Pst Pce Pgi Pln Pbears Pcosts) := hD.sub [9, 0, 1, 2, 3, 4, 5, 6, 7, 8] (by decide) rfl
    exact kR18 Rtaken Rtoken Rplace Rvalue Rfault_47 Rsn Pst Pbears Pcosts _ _ _ hw hP hD hS
set_option maxHeartbeats 4000000 in
set_option maxRecDepth 100000 in
theorem c_X3_tellStuff (l : Launch) (D : va_G) (ak : Nat → ClassId) (ad : Nat → Nat) (sz : Nat) (hr_ : Nat) (ra : Nat → Nat) (ht : Nat) (ta : Nat → Nat) (pg : Nat) (pa : Nat → Nat) (Rcoded : Int32) (Rtaken : Int32) (Rtoken : Nat) (Rplace : Int32) (Rvalue : Int64) (Rfault : Int32) (Rsn : Nat → Int64) (Rcn : Nat → Int64) (Tlen : Int32) (Tcnt : Int32) (Ttoks : Nat → Nat) (Tplc : Nat → Int32) (Tvals : Nat → Int64) (Pst : Int32) (Pce : Int32) (Pgi : Int32) (Pln : Int32) (Pbears : Nat → Int32) (Pcosts : Nat → Int32) (Φ : Int32 → Nat → Int32 → Int64 → Int32 → (Nat → Int64) → Int32 → (Nat → Int32) → (Nat → Int32) → Prop) (hf : wp_X3_tellStuff Rcn Tcnt Ttoks Tplc Tvals Pce Rtaken Rtoken Rplace Rvalue Rfault Rsn Pst Pbears Pcosts Φ) : Met l yX3_tellStuff wsX3_tellStuff ({ frames := 3, cells := 0, slots := 0, locals := 66 }) (cPre D ak ad [.ref hr_] ((wW_X3_tellStuff ak ad hr_ ra ht ta pg pa Rcoded Rtaken Rtoken Rplace Rvalue Rfault Rsn Rcn Tlen Tcnt Ttoks Tplc Tvals Pst Pce Pgi Pln Pbears Pcosts)) sz) (cV D (S := (Int32) × (Nat) × (Int32) × (Int64) × (Int32) × (Nat → Int64) × (Int32) × (Nat → Int32) × (Nat → Int32)) (fun (u : (Int32) × (Nat) × (Int32) × (Int64) × (Int32) × (Nat → Int64) × (Int32) × (Nat → Int32) × (Nat → Int32)) => Φ u.1 u.2.1 u.2.2.1 u.2.2.2.1 u.2.2.2.2.1 u.2.2.2.2.2.1 u.2.2.2.2.2.2.1 u.2.2.2.2.2.2.2.1 u.2.2.2.2.2.2.2.2) (fun u => (wW_X3_tellStuff ak ad hr_ ra ht ta pg pa Rcoded u.1 u.2.1 u.2.2.1 u.2.2.2.1 u.2.2.2.2.1 u.2.2.2.2.2.1 Rcn Tlen Tcnt Ttoks Tplc Tvals u.2.2.2.2.2.2.1 Pce Pgi Pln u.2.2.2.2.2.2.2.1 u.2.2.2.2.2.2.2.2)) ((wW_X3_tellStuff ak ad hr_ ra ht ta pg pa Rcoded Rtaken Rtoken Rplace Rvalue Rfault Rsn Rcn Tlen Tcnt Ttoks Tplc Tvals Pst Pce Pgi Pln Pbears Pcosts)) sz) 0 0 (va_A ((wW_X3_tellStuff ak ad hr_ ra ht ta pg pa Rcoded Rtaken Rtoken Rplace Rvalue Rfault Rsn Rcn Tlen Tcnt Ttoks Tplc Tvals Pst Pce Pgi Pln Pbears Pcosts)) sz) := by
  refine Met.ofW (cc := cX3_tellStuff) (maxL := 2) (ret := none) (by decide) rfl ?_
  intro p e s m args below meth c s₁ B hml hv
  obtain ⟨rfl, hsz, hP, hE, hD0, hT⟩ := hv
  have hx := B.exec
  have hb := B.bytes
  have hr := B.returns
  have hts := atoms_spec (ws := wsX3_tellStuff) B.pre
  have hown : s.vm.findClass RX3 = some m.cls := findClass_of_methodNamed B.named
  have hlocks := B.notSynchronized
  subst hsz
  have hD := hD0.self (sz := s.heap.size)
  generalize hAe : va_A ((wW_X3_tellStuff ak ad hr_ ra ht ta pg pa Rcoded Rtaken Rtoken Rplace Rvalue Rfault Rsn Rcn Tlen Tcnt Ttoks Tplc Tvals Pst Pce Pgi Pln Pbears Pcosts)) s.heap.size = A at hD hT ⊢
  have hA : ∀ q : Nat, s.heap.size ≤ q → A q := fun q h => by rw [← hAe]; exact Or.inr h
  have hS : va_S A s.heap s.heap [] := va_S.rf
  have hl := lv_entry ([.ref hr_]) (n := 2) (Nat.le_of_ble_eq_true rfl)
  rw [lg_entry_eq]
  generalize (lg_sl ([.ref hr_]) ++ List.replicate (2 - (lg_sl ([.ref hr_])).length) Slot.unset).toArray = ls at hl ⊢
  have hl : lv_has ls 2 [(0, .ref hr_)] := hl
  exact kj_X3_tellStuff_e hx hb hown hts hml hE hT hA (Nat.le_of_ble_eq_true rfl) (Nat.le_of_ble_eq_true rfl) ⟨Nat.le_of_ble_eq_true rfl, Nat.le_of_ble_eq_true rfl⟩ hr_ ra ht ta pg pa Rcoded Rcn Tlen Tcnt Ttoks Tplc Tvals Pce Pgi Pln Φ (fun Rtaken Rtoken Rplace Rvalue Rfault Rsn Pst Pbears Pcosts H locs ls hw hP hD hS => W.vret hx hb hr (fun t ht hW => ⟨⟨(Rtaken, Rtoken, Rplace, Rvalue, Rfault, Rsn, Pst, Pbears, Pcosts), rfl, hw, by rw [ht]; exact hP, by rw [hAe]; exact hD⟩, by rw [hAe]; exact hS.F ht⟩) hS.2.2 dX3_tellStuff_18) (fun Rtaken Rtoken Rplace Rvalue Rfault Rsn Pst Pbears Pcosts H locs ls hw hP hD hS => W.vret hx hb hr (fun t ht hW => ⟨⟨(Rtaken, Rtoken, Rplace, Rvalue, Rfault, Rsn, Pst, Pbears, Pcosts), rfl, hw, by rw [ht]; exact hP, by rw [hAe]; exact hD⟩, by rw [hAe]; exact hS.F ht⟩) hS.2.2 dX3_tellStuff_91) Rtaken Rtoken Rplace Rvalue Rfault Rsn Pst Pbears Pcosts _ _ _ hf hP hD hS hl

def wW_X3_tellCell (ak : Nat → ClassId) (ad : Nat → Nat) (hr_ : Nat) (ra : Nat → Nat) (ht : Nat) (ta : Nat → Nat) (pg : Nat) (pa : Nat → Nat) (Rcoded : Int32) (Rtaken : Int32) (Rtoken : Nat) (Rplace : Int32) (Rvalue : Int64) (Rfault : Int32) (Rsn : Nat → Int64) (Rcn : Nat → Int64) (Tlen : Int32) (Tcnt : Int32) (Ttoks : Nat → Nat) (Tplc : Nat → Int32) (Tvals : Nat → Int64) (Pst : Int32) (Pce : Int32) (Pgi : Int32) (Pln : Int32) (Ptold : Nat → Int32) : va_W := [(hr_, .inr (3, rob ad ra (ht) (Rcoded) (pg) (Rtaken) (Rtoken) (Rplace) (Rvalue) (Rfault))), ((ra 0), .inl (ak 1, 4, .inr (.inl (Rsn)))), ((ra 1), .inl (ak 1, 6, .inr (.inl (Rcn)))), (ht, .inr (5, tob ta (Tlen) (Tcnt))), ((ta 1), .inl (ak 4, 1001, .inr (.inr (.inr (.inr (tokA ad (Ttoks))))))), ((ta 2), .inl (ak 0, 1001, .inl (Tplc))), ((ta 3), .inl (ak 1, 1001, .inr (.inl (Tvals)))), (pg, .inr (2, pob pa (Pst) (Pce) (Pgi) (Pln))), ((pa 2), .inl (ak 0, 6, .inl (Ptold)))]
def wp_X3_tellCell (Rsn : Nat → Int64) (Tcnt : Int32) (Ttoks : Nat → Nat) (Tplc : Nat → Int32) (Tvals : Nat → Int64) (Pst : Int32) (Rtaken : Int32) (Rtoken : Nat) (Rplace : Int32) (Rvalue : Int64) (Rfault : Int32) (Rcn : Nat → Int64) (Pce : Int32) (Ptold : Nat → Int32) (Φ : Int32 → Nat → Int32 → Int64 → Int32 → (Nat → Int64) → Int32 → (Nat → Int32) → Prop) : Prop := (Pce < 6 → wp_X3_advance Tcnt Ttoks Tplc Tvals Rtaken Rtoken Rplace Rvalue (fun Rtaken_3 Rtoken_4 Rplace_5 Rvalue_6 => wp_X3_takeNewName Rsn Rcn Tcnt Ttoks Tplc Tvals Pst Pce Rtaken_3 Rtoken_4 Rplace_5 Rvalue_6 Rfault (fun r_14 Rtaken_9 Rtoken_10 Rplace_11 Rvalue_12 Rfault_13 => vp_in Pce 6 ∧ wp_X3_takeNumber Tcnt Ttoks Tplc Tvals 0 9999 Rtaken_9 Rtoken_10 Rplace_11 Rvalue_12 Rfault_13 (fun r_22 Rtaken_17 Rtoken_18 Rplace_19 Rvalue_20 Rfault_21 => vp_in Pce 6 ∧ Φ Rtaken_17 Rtoken_18 Rplace_19 Rvalue_20 Rfault_21 (vp_updL Rcn (Pce).toNatClampNeg r_14) (Pce + 1) (upd Ptold (Pce).toNatClampNeg r_22))))) ∧ (¬ Pce < 6 → wp_X3_fail Rplace 5 Rfault (fun Rfault_25 => Φ Rtaken Rtoken Rplace Rvalue Rfault_25 Rcn Pce Ptold))
set_option maxHeartbeats 4000000 in
set_option maxRecDepth 100000 in
theorem kj_X3_tellCell_e {p : Program} {l : Launch} {e : Env} {R : Room} {s : State} {m : MethodId} {args : Array Value} {below : List Frame} {meth : Method} {c : Code} {cells slots : Nat} {Q : State → Prop} {A : Nat → Prop} {D : va_G} {ak : Nat → ClassId} {ad : Nat → Nat} (hx : p.tables.exec = Jvm.exec) (hb : c.code = cX3_tellCell) (hown : s.vm.findClass RX3 = some m.cls) (hts : ∀ w ∈ wsX3_tellCell, w.before args s = true) (hml : c.maxLocals = 2) (hE : EV D ak s) (hT : ST D ak ad A s s.heap) (hA : ∀ q, s.heap.size ≤ q → A q) (hRf : 3 ≤ R.frames) (hRl : 66 ≤ R.locals) (hRc : cells ≤ R.cells ∧ slots ≤ R.slots) (hr_ : Nat) (ra : Nat → Nat) (ht : Nat) (ta : Nat → Nat) (pg : Nat) (pa : Nat → Nat) (Rcoded : Int32) (Rsn : Nat → Int64) (Tlen : Int32) (Tcnt : Int32) (Ttoks : Nat → Nat) (Tplc : Nat → Int32) (Tvals : Nat → Int64) (Pst : Int32) (Pgi : Int32) (Pln : Int32)  (Φ : Int32 → Nat → Int32 → Int64 → Int32 → (Nat → Int64) → Int32 → (Nat → Int32) → Prop)
    (kR19 : ∀ (Rtaken : Int32) (Rtoken : Nat) (Rplace : Int32) (Rvalue : Int64) (Rfault : Int32) (Rcn : Nat → Int64) (Pce : Int32) (Ptold : Nat → Int32) (H : Heap) (locs : List Loc) (ls : Array Slot), Φ Rtaken Rtoken Rplace Rvalue Rfault Rcn Pce Ptold → va_P D vwCl (wW_X3_tellCell ak ad hr_ ra ht ta pg pa Rcoded Rtaken Rtoken Rplace Rvalue Rfault Rsn Rcn Tlen Tcnt Ttoks Tplc Tvals Pst Pce Pgi Pln Ptold) H → va_D A (wW_X3_tellCell ak ad hr_ ra ht ta pg pa Rcoded Rtaken Rtoken Rplace Rvalue Rfault Rsn Rcn Tlen Tcnt Ttoks Tplc Tvals Pst Pce Pgi Pln Ptold) → va_S A s.heap H locs → W p l e R s m args below meth c H locs cells slots Q (F0 m 19 ls []))
    (kR61 : ∀ (Rtaken : Int32) (Rtoken : Nat) (Rplace : Int32) (Rvalue : Int64) (Rfault : Int32) (Rcn : Nat → Int64) (Pce : Int32) (Ptold : Nat → Int32) (H : Heap) (locs : List Loc) (ls : Array Slot), Φ Rtaken Rtoken Rplace Rvalue Rfault Rcn Pce Ptold → va_P D vwCl (wW_X3_tellCell ak ad hr_ ra ht ta pg pa Rcoded Rtaken Rtoken Rplace Rvalue Rfault Rsn Rcn Tlen Tcnt Ttoks Tplc Tvals Pst Pce Pgi Pln Ptold) H → va_D A (wW_X3_tellCell ak ad hr_ ra ht ta pg pa Rcoded Rtaken Rtoken Rplace Rvalue Rfault Rsn Rcn Tlen Tcnt Ttoks Tplc Tvals Pst Pce Pgi Pln Ptold) → va_S A s.heap H locs → W p l e R s m args below meth c H locs cells slots Q (F0 m 61 ls []))
    : ∀ (Rtaken : Int32) (Rtoken : Nat) (Rplace : Int32) (Rvalue : Int64) (Rfault : Int32) (Rcn : Nat → Int64) (Pce : Int32) (Ptold : Nat → Int32) (H : Heap) (locs : List Loc) (ls : Array Slot), wp_X3_tellCell Rsn Tcnt Ttoks Tplc Tvals Pst Rtaken Rtoken Rplace Rvalue Rfault Rcn Pce Ptold Φ → va_P D vwCl (wW_X3_tellCell ak ad hr_ ra ht ta pg pa Rcoded Rtaken Rtoken Rplace Rvalue Rfault Rsn Rcn Tlen Tcnt Ttoks Tplc Tvals Pst Pce Pgi Pln Ptold) H → va_D A (wW_X3_tellCell ak ad hr_ ra ht ta pg pa Rcoded Rtaken Rtoken Rplace Rvalue Rfault Rsn Rcn Tlen Tcnt Ttoks Tplc Tvals Pst Pce Pgi Pln Ptold) → va_S A s.heap H locs → lv_has ls 2 [(0, .ref hr_)] → W p l e R s m args below meth c H locs cells slots Q (F0 m 0 ls ([])) := by
  intro Rtaken Rtoken Rplace Rvalue Rfault Rcn Pce Ptold H locs ls hw hP hD hS hl
  delta wp_X3_tellCell at hw
  refine lv_aload_n hx hb dX3_tellCell_0 rfl (lv_at hl 0 rfl) ?_
  refine va_get (D := D) (ci := 3) (v := .ref pg) (C := RX3) (T := TX3) (N := 11) hx hb hts (fun w h => wm_c (wc_X3 w h)) hown hE.1 hP 0 rfl rfl 5 (by decide) (hts (.fieldLink RX3 35 "WornLines$Reader" "told" "LWornLines$Programme;") (wm_c hw_292)) (fun _ h9 => h9) rfl dX3_tellCell_1 ?_
  refine va_get (D := D) (ci := 2) (v := .int (Pce)) (C := RX2) (T := TX2) (N := 17) hx hb hts (fun w h => wm_c (wc_X2 w h)) hown hE.1 hP 7 rfl rfl 3 (by decide) (hts (.fieldLink RX3 128 "WornLines$Programme" "cells" "I") (wm_c hw_434)) (fun _ h9 => h9) rfl dX3_tellCell_4 ?_
  refine lv_istore_n (lv' := [(1, .int (Pce)), (0, .ref hr_)]) hx hb dX3_tellCell_7 rfl hl (by decide) rfl (fun ls hl => ?_)
  refine lv_iload_n hx hb dX3_tellCell_8 rfl (lv_at hl 0 rfl) ?_
  refine lv_bipush (v := 6) hx hb dX3_tellCell_9 (by decide) ?_
  refine lv_icmp_lt (tgt := 20) hx hb dX3_tellCell_11 (by decide) (fun c_1 => ?_) (fun c_1 => ?_)
  · replace hw := hw.1 c_1
    refine lv_aload_n hx hb dX3_tellCell_20 rfl (lv_at hl 1 rfl) ?_
    refine kc_v (wc := (wW_X3_advance ak ad hr_ ra ht ta pg Rcoded Rtaken Rtoken Rplace Rvalue Rfault Tlen Tcnt Ttoks Tplc Tvals)) (wr := [((ra 0), .inl (ak 1, 4, .inr (.inl (Rsn)))), ((ra 1), .inl (ak 1, 6, .inr (.inl (Rcn)))), (pg, .inr (2, pob pa (Pst) (Pce) (Pgi) (Pln))), ((pa 2), .inl (ak 0, 6, .inl (Ptold)))]) hP hD hS hA [0, 3, 4, 5, 6] [1, 2, 7, 8] rfl rfl (by decide) (by decide) (va_runV (As := []) (rest := []) ⟨hx, hb, hml, hown, hts⟩ (c_X3_advance l D ak ad _ hr_ ra ht ta pg Rcoded Rtaken Rtoken Rplace Rvalue Rfault Tlen Tcnt Ttoks Tplc Tvals _ hw) (cwV 0 hts gX3_tellCell_X3_advance rfl rfl rfl (by decide +kernel) ⟨(Nat.le_trans (Nat.le_of_ble_eq_true rfl) hRf), (Nat.le_trans (Nat.le_of_ble_eq_true rfl) hRl)⟩) (kc_preV (As := []) (wc := (wW_X3_advance ak ad hr_ ra ht ta pg Rcoded Rtaken Rtoken Rplace Rvalue Rfault Tlen Tcnt Ttoks Tplc Tvals)) hE hT hP hD hS hA [0, 3, 4, 5, 6] (by decide) rfl rfl 0 3 rfl rfl rfl) rfl rfl hl.1 rfl (lv_room (Nat.le_of_ble_eq_true rfl)) dX3_tellCell_21 ⟨hRc.1, hRc.2⟩) (fun u_2 H locs hw hP hD hS => ?_)
    obtain ⟨Rtaken_3, Rtoken_4, Rplace_5, Rvalue_6⟩ := u_2
    try dsimp -zeta only at hw
    have hP : va_P D vwCl (wW_X3_tellCell ak ad hr_ ra ht ta pg pa Rcoded Rtaken_3 Rtoken_4 Rplace_5 Rvalue_6 Rfault Rsn Rcn Tlen Tcnt Ttoks Tplc Tvals Pst Pce Pgi Pln Ptold) H := hP.sub [4, 0, 1, 5, 6, 7, 8, 2, 3] rfl
    have hD : va_D A (wW_X3_tellCell ak ad hr_ ra ht ta pg pa Rcoded Rtaken_3 Rtoken_4 Rplace_5 Rvalue_6 Rfault Rsn Rcn Tlen Tcnt Ttoks Tplc Tvals Pst Pce Pgi Pln Ptold) := hD.sub [4, 0, 1, 5, 6, 7, 8, 2, 3] (by decide) rfl
    refine lv_aload_n hx hb dX3_tellCell_24 rfl (lv_at hl 1 rfl) ?_
    refine va_get (D := D) (ci := 3) (v := .ref (ra 1)) (C := RX3) (T := TX3) (N := 11) hx hb hts (fun w h => wm_c (wc_X3 w h)) hown hE.1 hP 0 rfl rfl 2 (by decide) (hts (.fieldLink RX3 15 "WornLines$Reader" "cellNames" "[J") (wm_c hw_287)) (fun _ h9 => h9) rfl dX3_tellCell_25 ?_
    refine lv_iload_n hx hb dX3_tellCell_28 rfl (lv_at hl 0 rfl) ?_
    refine lv_aload_n hx hb dX3_tellCell_29 rfl (lv_at hl 1 rfl) ?_
    refine kc_l (wc := (wW_X3_takeNewName ak ad hr_ ra ht ta pg pa Rcoded Rtaken_3 Rtoken_4 Rplace_5 Rvalue_6 Rfault Rsn Rcn Tlen Tcnt Ttoks Tplc Tvals Pst Pce Pgi Pln)) (wr := [((pa 2), .inl (ak 0, 6, .inl (Ptold)))]) hP hD hS hA [0, 1, 2, 3, 4, 5, 6, 7] [8] rfl rfl (by decide) (by decide) (va_runV (As := []) (rest := [.int (Pce), .ref (ra 1)]) ⟨hx, hb, hml, hown, hts⟩ (c_X3_takeNewName l D ak ad _ hr_ ra ht ta pg pa Rcoded Rtaken_3 Rtoken_4 Rplace_5 Rvalue_6 Rfault Rsn Rcn Tlen Tcnt Ttoks Tplc Tvals Pst Pce Pgi Pln _ hw) (cwV 0 hts gX3_tellCell_X3_takeNewName rfl rfl rfl (by decide +kernel) ⟨(Nat.le_trans (Nat.le_of_ble_eq_true rfl) hRf), (Nat.le_trans (Nat.le_of_ble_eq_true rfl) hRl)⟩) (kc_preV (As := []) (wc := (wW_X3_takeNewName ak ad hr_ ra ht ta pg pa Rcoded Rtaken_3 Rtoken_4 Rplace_5 Rvalue_6 Rfault Rsn Rcn Tlen Tcnt Ttoks Tplc Tvals Pst Pce Pgi Pln)) hE hT hP hD hS hA [0, 1, 2, 3, 4, 5, 6, 7] (by decide) rfl rfl 0 3 rfl rfl rfl) rfl rfl hl.1 rfl (lv_room (Nat.le_of_ble_eq_true rfl)) dX3_tellCell_30 ⟨hRc.1, hRc.2⟩) (fun r_14 u_8 H locs hw hP hD hS => ?_)
    obtain ⟨Rtaken_9, Rtoken_10, Rplace_11, Rvalue_12, Rfault_13⟩ := u_8
    try dsimp -zeta only at hw
    have hP : va_P D vwCl (wW_X3_tellCell ak ad hr_ ra ht ta pg pa Rcoded Rtaken_9 Rtoken_10 Rplace_11 Rvalue_12 Rfault_13 Rsn Rcn Tlen Tcnt Ttoks Tplc Tvals Pst Pce Pgi Pln Ptold) H := hP.sub [1, 2, 3, 4, 5, 6, 7, 8, 0] rfl
    have hD : va_D A (wW_X3_tellCell ak ad hr_ ra ht ta pg pa Rcoded Rtaken_9 Rtoken_10 Rplace_11 Rvalue_12 Rfault_13 Rsn Rcn Tlen Tcnt Ttoks Tplc Tvals Pst Pce Pgi Pln Ptold) := hD.sub [1, 2, 3, 4, 5, 6, 7, 8, 0] (by decide) rfl
    obtain ⟨h_15, hw⟩ := hw
    refine va_last hx hb hE.1 hP hD hS 2 1 rfl rfl (h_15) dX3_tellCell_33 (fun H locs hP hD hS => ?_)
    have hP : va_P D vwCl (wW_X3_tellCell ak ad hr_ ra ht ta pg pa Rcoded Rtaken_9 Rtoken_10 Rplace_11 Rvalue_12 Rfault_13 Rsn (vp_updL Rcn (Pce).toNatClampNeg r_14) Tlen Tcnt Ttoks Tplc Tvals Pst Pce Pgi Pln Ptold) H := hP
    have hD : va_D A (wW_X3_tellCell ak ad hr_ ra ht ta pg pa Rcoded Rtaken_9 Rtoken_10 Rplace_11 Rvalue_12 Rfault_13 Rsn (vp_updL Rcn (Pce).toNatClampNeg r_14) Tlen Tcnt Ttoks Tplc Tvals Pst Pce Pgi Pln Ptold) := hD
    refine lv_aload_n hx hb dX3_tellCell_34 rfl (lv_at hl 1 rfl) ?_
    refine va_get (D := D) (ci := 3) (v := .ref pg) (C := RX3) (T := TX3) (N := 11) hx hb hts (fun w h => wm_c (wc_X3 w h)) hown hE.1 hP 0 rfl rfl 5 (by decide) (hts (.fieldLink RX3 35 "WornLines$Reader" "told" "LWornLines$Programme;") (wm_c hw_292)) (fun _ h9 => h9) rfl dX3_tellCell_35 ?_
    refine va_get (D := D) (ci := 2) (v := .ref (pa 2)) (C := RX2) (T := TX2) (N := 17) hx hb hts (fun w h => wm_c (wc_X2 w h)) hown hE.1 hP 7 rfl rfl 4 (by decide) (hts (.fieldLink RX3 131 "WornLines$Programme" "told" "[I") (wm_c hw_457)) (fun _ h9 => h9) rfl dX3_tellCell_38 ?_
    refine lv_iload_n hx hb dX3_tellCell_41 rfl (lv_at hl 0 rfl) ?_
    refine lv_aload_n hx hb dX3_tellCell_42 rfl (lv_at hl 1 rfl) ?_
    refine lv_iconst (v := 0) hx hb dX3_tellCell_43 (by decide) ?_
    refine lv_sipush (v := 9999) hx hb dX3_tellCell_44 (by decide) ?_
    refine kc_i (wc := (wW_X3_takeNumber ak ad hr_ ra ht ta pg Rcoded Rtaken_9 Rtoken_10 Rplace_11 Rvalue_12 Rfault_13 Tlen Tcnt Ttoks Tplc Tvals)) (wr := [((ra 0), .inl (ak 1, 4, .inr (.inl (Rsn)))), ((ra 1), .inl (ak 1, 6, .inr (.inl (vp_updL Rcn (Pce).toNatClampNeg r_14)))), (pg, .inr (2, pob pa (Pst) (Pce) (Pgi) (Pln))), ((pa 2), .inl (ak 0, 6, .inl (Ptold)))]) hP hD hS hA [0, 3, 4, 5, 6] [1, 2, 7, 8] rfl rfl (by decide) (by decide) (va_runV (As := [.int (0), .int (9999)]) (rest := [.int (Pce), .ref (pa 2)]) ⟨hx, hb, hml, hown, hts⟩ (c_X3_takeNumber l D ak ad _ hr_ ra ht ta pg Rcoded Rtaken_9 Rtoken_10 Rplace_11 Rvalue_12 Rfault_13 Tlen Tcnt Ttoks Tplc Tvals 0 9999 _ hw) (cwV 2 hts gX3_tellCell_X3_takeNumber rfl rfl rfl (by decide +kernel) ⟨(Nat.le_trans (Nat.le_of_ble_eq_true rfl) hRf), (Nat.le_trans (Nat.le_of_ble_eq_true rfl) hRl)⟩) (kc_preV (As := [.int (0), .int (9999)]) (wc := (wW_X3_takeNumber ak ad hr_ ra ht ta pg Rcoded Rtaken_9 Rtoken_10 Rplace_11 Rvalue_12 Rfault_13 Tlen Tcnt Ttoks Tplc Tvals)) hE hT hP hD hS hA [0, 3, 4, 5, 6] (by decide) rfl rfl 0 3 rfl rfl rfl) rfl rfl hl.1 rfl (lv_room (Nat.le_of_ble_eq_true rfl)) dX3_tellCell_47 ⟨hRc.1, hRc.2⟩) (fun r_22 u_16 H locs hw hP hD hS => ?_)
    obtain ⟨Rtaken_17, Rtoken_18, Rplace_19, Rvalue_20, Rfault_21⟩ := u_16
    try dsimp -zeta only at hw
    have hP : va_P D vwCl (wW_X3_tellCell ak ad hr_ ra ht ta pg pa Rcoded Rtaken_17 Rtoken_18 Rplace_19 Rvalue_20 Rfault_21 Rsn (vp_updL Rcn (Pce).toNatClampNeg r_14) Tlen Tcnt Ttoks Tplc Tvals Pst Pce Pgi Pln Ptold) H := hP.sub [4, 0, 1, 5, 6, 7, 8, 2, 3] rfl
    have hD : va_D A (wW_X3_tellCell ak ad hr_ ra ht ta pg pa Rcoded Rtaken_17 Rtoken_18 Rplace_19 Rvalue_20 Rfault_21 Rsn (vp_updL Rcn (Pce).toNatClampNeg r_14) Tlen Tcnt Ttoks Tplc Tvals Pst Pce Pgi Pln Ptold) := hD.sub [4, 0, 1, 5, 6, 7, 8, 2, 3] (by decide) rfl
    obtain ⟨h_23, hw⟩ := hw
    refine va_iast hx hb hE.1 hP hD hS 8 0 rfl rfl (h_23) dX3_tellCell_50 (fun H locs hP hD hS => ?_)
    have hP : va_P D vwCl (wW_X3_tellCell ak ad hr_ ra ht ta pg pa Rcoded Rtaken_17 Rtoken_18 Rplace_19 Rvalue_20 Rfault_21 Rsn (vp_updL Rcn (Pce).toNatClampNeg r_14) Tlen Tcnt Ttoks Tplc Tvals Pst Pce Pgi Pln (upd Ptold (Pce).toNatClampNeg r_22)) H := hP
    have hD : va_D A (wW_X3_tellCell ak ad hr_ ra ht ta pg pa Rcoded Rtaken_17 Rtoken_18 Rplace_19 Rvalue_20 Rfault_21 Rsn (vp_updL Rcn (Pce).toNatClampNeg r_14) Tlen Tcnt Ttoks Tplc Tvals Pst Pce Pgi Pln (upd Ptold (Pce).toNatClampNeg r_22)) := hD
    refine lv_aload_n hx hb dX3_tellCell_51 rfl (lv_at hl 1 rfl) ?_
    refine va_get (D := D) (ci := 3) (v := .ref pg) (C := RX3) (T := TX3) (N := 11) hx hb hts (fun w h => wm_c (wc_X3 w h)) hown hE.1 hP 0 rfl rfl 5 (by decide) (hts (.fieldLink RX3 35 "WornLines$Reader" "told" "LWornLines$Programme;") (wm_c hw_292)) (fun _ h9 => h9) rfl dX3_tellCell_52 ?_
    refine lv_iload_n hx hb dX3_tellCell_55 rfl (lv_at hl 0 rfl) ?_
    refine lv_iconst (v := 1) hx hb dX3_tellCell_56 (by decide) ?_
    refine lv_iadd hx hb dX3_tellCell_57 ?_
    refine va_put (D := D) (ci := 2) (v := .int (Pce + 1)) (ty := .int) (C := RX2) (T := TX2) (N := 17) hx hb hts (fun w h => wm_c (wc_X2 w h)) tyX2 tyX2_ok nmX2 hown hE.1 hP hD hS 7 rfl rfl 3 (by decide) (hts (.fieldLink RX3 128 "WornLines$Programme" "cells" "I") (wm_c hw_434)) (fun _ h9 => h9) rfl (by decide +kernel) (rfl) rfl (Nat.le_of_ble_eq_true rfl) dX3_tellCell_58 (fun H locs hP hD hS => ?_)
    have hP : va_P D vwCl (wW_X3_tellCell ak ad hr_ ra ht ta pg pa Rcoded Rtaken_17 Rtoken_18 Rplace_19 Rvalue_20 Rfault_21 Rsn (vp_updL Rcn (Pce).toNatClampNeg r_14) Tlen Tcnt Ttoks Tplc Tvals Pst (Pce + 1) Pgi Pln (upd Ptold (Pce).toNatClampNeg r_22)) H := hP
    have hD : va_D A (wW_X3_tellCell ak ad hr_ ra ht ta pg pa Rcoded Rtaken_17 Rtoken_18 Rplace_19 Rvalue_20 Rfault_21 Rsn (vp_updL Rcn (Pce).toNatClampNeg r_14) Tlen Tcnt Ttoks Tplc Tvals Pst (Pce + 1) Pgi Pln (upd Ptold (Pce).toNatClampNeg r_22)) := hD
    exact kR61 Rtaken_17 Rtoken_18 Rplace_19 Rvalue_20 Rfault_21 (vp_updL Rcn (Pce).toNatClampNeg r_14) (Pce + 1) (upd Ptold (Pce).toNatClampNeg r_22) _ _ _ hw hP hD hS
  · replace hw := hw.2 c_1
    refine lv_aload_n hx hb dX3_tellCell_14 rfl (lv_at hl 1 rfl) ?_
    refine lv_iconst (v := 5) hx hb dX3_tellCell_15 (by decide) ?_
    refine kc_v (wc := (wW_X3_fail ak ad hr_ ra ht pg Rcoded Rtaken Rtoken Rplace Rvalue Rfault)) (wr := [((ra 0), .inl (ak 1, 4, .inr (.inl (Rsn)))), ((ra 1), .inl (ak 1, 6, .inr (.inl (Rcn)))), (ht, .inr (5, tob ta (Tlen) (Tcnt))), ((ta 1), .inl (ak 4, 1001, .inr (.inr (.inr (.inr (tokA ad (Ttoks))))))), ((ta 2), .inl (ak 0, 1001, .inl (Tplc))), ((ta 3), .inl (ak 1, 1001, .inr (.inl (Tvals)))), (pg, .inr (2, pob pa (Pst) (Pce) (Pgi) (Pln))), ((pa 2), .inl (ak 0, 6, .inl (Ptold)))]) hP hD hS hA [0] [1, 2, 3, 4, 5, 6, 7, 8] rfl rfl (by decide) (by decide) (va_runV (As := [.int (5)]) (rest := []) ⟨hx, hb, hml, hown, hts⟩ (c_X3_fail l D ak ad _ hr_ ra ht pg Rcoded Rtaken Rtoken Rplace Rvalue Rfault 5 _ hw) (cwV 1 hts gX3_tellCell_X3_fail rfl rfl rfl (by decide +kernel) ⟨(Nat.le_trans (Nat.le_of_ble_eq_true rfl) hRf), (Nat.le_trans (Nat.le_of_ble_eq_true rfl) hRl)⟩) (kc_preV (As := [.int (5)]) (wc := (wW_X3_fail ak ad hr_ ra ht pg Rcoded Rtaken Rtoken Rplace Rvalue Rfault)) hE hT hP hD hS hA [0] (by decide) rfl rfl 0 3 rfl rfl rfl) rfl rfl hl.1 rfl (lv_room (Nat.le_of_ble_eq_true rfl)) dX3_tellCell_16 ⟨hRc.1, hRc.2⟩) (fun Rfault_25 H locs hw hP hD hS => ?_)
    try dsimp -zeta only at hw
    have hP : va_P D vwCl (wW_X3_tellCell ak ad hr_ ra ht ta pg pa Rcoded Rtaken Rtoken Rplace Rvalue Rfault_25 Rsn Rcn Tlen Tcnt Ttoks Tplc Tvals Pst Pce Pgi Pln Ptold) H := hP.sub [8, 0, 1, 2, 3, 4, 5, 6, 7] rfl
    have hD : va_D A (wW_X3_tellCell ak ad hr_ ra ht ta pg pa Rcoded Rtaken Rtoken Rplace Rvalue Rfault_25 Rsn Rcn Tlen Tcnt Ttoks Tplc Tvals Pst Pce Pgi Pln Ptold) := hD.sub [8, 0, 1, 2, 3, 4, 5, 6, 7] (by decide) rfl
    exact kR19 Rtaken Rtoken Rplace Rvalue Rfault_25 Rcn Pce Ptold _ _ _ hw hP hD hS
set_option maxHeartbeats 4000000 in
set_option maxRecDepth 100000 in
theorem c_X3_tellCell (l : Launch) (D : va_G) (ak : Nat → ClassId) (ad : Nat → Nat) (sz : Nat) (hr_ : Nat) (ra : Nat → Nat) (ht : Nat) (ta : Nat → Nat) (pg : Nat) (pa : Nat → Nat) (Rcoded : Int32) (Rtaken : Int32) (Rtoken : Nat) (Rplace : Int32) (Rvalue : Int64) (Rfault : Int32) (Rsn : Nat → Int64) (Rcn : Nat → Int64) (Tlen : Int32) (Tcnt : Int32) (Ttoks : Nat → Nat) (Tplc : Nat → Int32) (Tvals : Nat → Int64) (Pst : Int32) (Pce : Int32) (Pgi : Int32) (Pln : Int32) (Ptold : Nat → Int32) (Φ : Int32 → Nat → Int32 → Int64 → Int32 → (Nat → Int64) → Int32 → (Nat → Int32) → Prop) (hf : wp_X3_tellCell Rsn Tcnt Ttoks Tplc Tvals Pst Rtaken Rtoken Rplace Rvalue Rfault Rcn Pce Ptold Φ) : Met l yX3_tellCell wsX3_tellCell ({ frames := 3, cells := 0, slots := 0, locals := 66 }) (cPre D ak ad [.ref hr_] ((wW_X3_tellCell ak ad hr_ ra ht ta pg pa Rcoded Rtaken Rtoken Rplace Rvalue Rfault Rsn Rcn Tlen Tcnt Ttoks Tplc Tvals Pst Pce Pgi Pln Ptold)) sz) (cV D (S := (Int32) × (Nat) × (Int32) × (Int64) × (Int32) × (Nat → Int64) × (Int32) × (Nat → Int32)) (fun (u : (Int32) × (Nat) × (Int32) × (Int64) × (Int32) × (Nat → Int64) × (Int32) × (Nat → Int32)) => Φ u.1 u.2.1 u.2.2.1 u.2.2.2.1 u.2.2.2.2.1 u.2.2.2.2.2.1 u.2.2.2.2.2.2.1 u.2.2.2.2.2.2.2) (fun u => (wW_X3_tellCell ak ad hr_ ra ht ta pg pa Rcoded u.1 u.2.1 u.2.2.1 u.2.2.2.1 u.2.2.2.2.1 Rsn u.2.2.2.2.2.1 Tlen Tcnt Ttoks Tplc Tvals Pst u.2.2.2.2.2.2.1 Pgi Pln u.2.2.2.2.2.2.2)) ((wW_X3_tellCell ak ad hr_ ra ht ta pg pa Rcoded Rtaken Rtoken Rplace Rvalue Rfault Rsn Rcn Tlen Tcnt Ttoks Tplc Tvals Pst Pce Pgi Pln Ptold)) sz) 0 0 (va_A ((wW_X3_tellCell ak ad hr_ ra ht ta pg pa Rcoded Rtaken Rtoken Rplace Rvalue Rfault Rsn Rcn Tlen Tcnt Ttoks Tplc Tvals Pst Pce Pgi Pln Ptold)) sz) := by
  refine Met.ofW (cc := cX3_tellCell) (maxL := 2) (ret := none) (by decide) rfl ?_
  intro p e s m args below meth c s₁ B hml hv
  obtain ⟨rfl, hsz, hP, hE, hD0, hT⟩ := hv
  have hx := B.exec
  have hb := B.bytes
  have hr := B.returns
  have hts := atoms_spec (ws := wsX3_tellCell) B.pre
  have hown : s.vm.findClass RX3 = some m.cls := findClass_of_methodNamed B.named
  have hlocks := B.notSynchronized
  subst hsz
  have hD := hD0.self (sz := s.heap.size)
  generalize hAe : va_A ((wW_X3_tellCell ak ad hr_ ra ht ta pg pa Rcoded Rtaken Rtoken Rplace Rvalue Rfault Rsn Rcn Tlen Tcnt Ttoks Tplc Tvals Pst Pce Pgi Pln Ptold)) s.heap.size = A at hD hT ⊢
  have hA : ∀ q : Nat, s.heap.size ≤ q → A q := fun q h => by rw [← hAe]; exact Or.inr h
  have hS : va_S A s.heap s.heap [] := va_S.rf
  have hl := lv_entry ([.ref hr_]) (n := 2) (Nat.le_of_ble_eq_true rfl)
  rw [lg_entry_eq]
  generalize (lg_sl ([.ref hr_]) ++ List.replicate (2 - (lg_sl ([.ref hr_])).length) Slot.unset).toArray = ls at hl ⊢
  have hl : lv_has ls 2 [(0, .ref hr_)] := hl
  exact kj_X3_tellCell_e hx hb hown hts hml hE hT hA (Nat.le_of_ble_eq_true rfl) (Nat.le_of_ble_eq_true rfl) ⟨Nat.le_of_ble_eq_true rfl, Nat.le_of_ble_eq_true rfl⟩ hr_ ra ht ta pg pa Rcoded Rsn Tlen Tcnt Ttoks Tplc Tvals Pst Pgi Pln Φ (fun Rtaken Rtoken Rplace Rvalue Rfault Rcn Pce Ptold H locs ls hw hP hD hS => W.vret hx hb hr (fun t ht hW => ⟨⟨(Rtaken, Rtoken, Rplace, Rvalue, Rfault, Rcn, Pce, Ptold), rfl, hw, by rw [ht]; exact hP, by rw [hAe]; exact hD⟩, by rw [hAe]; exact hS.F ht⟩) hS.2.2 dX3_tellCell_19) (fun Rtaken Rtoken Rplace Rvalue Rfault Rcn Pce Ptold H locs ls hw hP hD hS => W.vret hx hb hr (fun t ht hW => ⟨⟨(Rtaken, Rtoken, Rplace, Rvalue, Rfault, Rcn, Pce, Ptold), rfl, hw, by rw [ht]; exact hP, by rw [hAe]; exact hD⟩, by rw [hAe]; exact hS.F ht⟩) hS.2.2 dX3_tellCell_61) Rtaken Rtoken Rplace Rvalue Rfault Rcn Pce Ptold _ _ _ hf hP hD hS hl

def wW_X3_tellInput (ak : Nat → ClassId) (ad : Nat → Nat) (hr_ : Nat) (ra : Nat → Nat) (ht : Nat) (ta : Nat → Nat) (pg : Nat) (pa : Nat → Nat) (Rcoded : Int32) (Rtaken : Int32) (Rtoken : Nat) (Rplace : Int32) (Rvalue : Int64) (Rfault : Int32) (Rcn : Nat → Int64) (Tlen : Int32) (Tcnt : Int32) (Ttoks : Nat → Nat) (Tplc : Nat → Int32) (Tvals : Nat → Int64) (Pst : Int32) (Pce : Int32) (Pgi : Int32) (Pln : Int32) (PgivenC : Nat → Int32) (Pleast : Nat → Int32) (Pgreat : Nat → Int32) : va_W := [(hr_, .inr (3, rob ad ra (ht) (Rcoded) (pg) (Rtaken) (Rtoken) (Rplace) (Rvalue) (Rfault))), ((ra 1), .inl (ak 1, 6, .inr (.inl (Rcn)))), (ht, .inr (5, tob ta (Tlen) (Tcnt))), ((ta 1), .inl (ak 4, 1001, .inr (.inr (.inr (.inr (tokA ad (Ttoks))))))), ((ta 2), .inl (ak 0, 1001, .inl (Tplc))), ((ta 3), .inl (ak 1, 1001, .inr (.inl (Tvals)))), (pg, .inr (2, pob pa (Pst) (Pce) (Pgi) (Pln))), ((pa 3), .inl (ak 0, 2, .inl (PgivenC))), ((pa 4), .inl (ak 0, 2, .inl (Pleast))), ((pa 5), .inl (ak 0, 2, .inl (Pgreat)))]
def kf_X3_tellInput_99 (Rcn : Nat → Int64) (Tcnt : Int32) (Ttoks : Nat → Nat) (Tplc : Nat → Int32) (Tvals : Nat → Int64) (Pce : Int32)  (Φ : Int32 → Nat → Int32 → Int64 → Int32 → Int32 → (Nat → Int32) → (Nat → Int32) → (Nat → Int32) → Prop) (Rtaken : Int32) (Rtoken : Nat) (Rplace : Int32) (Rvalue : Int64) (Rfault : Int32) (Pgi : Int32) (PgivenC : Nat → Int32) (Pleast : Nat → Int32) (Pgreat : Nat → Int32) (l1 : Int32) (l2 : Int32) (l3 : Int32) (l4 : Int32) : Prop := wp_X3_advance Tcnt Ttoks Tplc Tvals Rtaken Rtoken Rplace Rvalue (fun Rtaken_34 Rtoken_35 Rplace_36 Rvalue_37 => vp_in l1 2 ∧ vp_in l1 2 ∧ vp_in l1 2 ∧ Φ Rtaken_34 Rtoken_35 Rplace_36 Rvalue_37 Rfault (l1 + 1) (upd PgivenC (l1).toNatClampNeg l2) (upd Pleast (l1).toNatClampNeg l3) (upd Pgreat (l1).toNatClampNeg l4))
set_option maxHeartbeats 4000000 in
set_option maxRecDepth 100000 in
theorem kj_X3_tellInput_99 {p : Program} {l : Launch} {e : Env} {R : Room} {s : State} {m : MethodId} {args : Array Value} {below : List Frame} {meth : Method} {c : Code} {cells slots : Nat} {Q : State → Prop} {A : Nat → Prop} {D : va_G} {ak : Nat → ClassId} {ad : Nat → Nat} (hx : p.tables.exec = Jvm.exec) (hb : c.code = cX3_tellInput) (hown : s.vm.findClass RX3 = some m.cls) (hts : ∀ w ∈ wsX3_tellInput, w.before args s = true) (hml : c.maxLocals = 5) (hE : EV D ak s) (hT : ST D ak ad A s s.heap) (hA : ∀ q, s.heap.size ≤ q → A q) (hRf : 3 ≤ R.frames) (hRl : 66 ≤ R.locals) (hRc : cells ≤ R.cells ∧ slots ≤ R.slots) (hr_ : Nat) (ra : Nat → Nat) (ht : Nat) (ta : Nat → Nat) (pg : Nat) (pa : Nat → Nat) (Rcoded : Int32) (Rcn : Nat → Int64) (Tlen : Int32) (Tcnt : Int32) (Ttoks : Nat → Nat) (Tplc : Nat → Int32) (Tvals : Nat → Int64) (Pst : Int32) (Pce : Int32) (Pln : Int32)  (Φ : Int32 → Nat → Int32 → Int64 → Int32 → Int32 → (Nat → Int32) → (Nat → Int32) → (Nat → Int32) → Prop)
    (kR18 : ∀ (Rtaken : Int32) (Rtoken : Nat) (Rplace : Int32) (Rvalue : Int64) (Rfault : Int32) (Pgi : Int32) (PgivenC : Nat → Int32) (Pleast : Nat → Int32) (Pgreat : Nat → Int32) (H : Heap) (locs : List Loc) (ls : Array Slot), Φ Rtaken Rtoken Rplace Rvalue Rfault Pgi PgivenC Pleast Pgreat → va_P D vwCl (wW_X3_tellInput ak ad hr_ ra ht ta pg pa Rcoded Rtaken Rtoken Rplace Rvalue Rfault Rcn Tlen Tcnt Ttoks Tplc Tvals Pst Pce Pgi Pln PgivenC Pleast Pgreat) H → va_D A (wW_X3_tellInput ak ad hr_ ra ht ta pg pa Rcoded Rtaken Rtoken Rplace Rvalue Rfault Rcn Tlen Tcnt Ttoks Tplc Tvals Pst Pce Pgi Pln PgivenC Pleast Pgreat) → va_S A s.heap H locs → W p l e R s m args below meth c H locs cells slots Q (F0 m 18 ls []))
    (kR144 : ∀ (Rtaken : Int32) (Rtoken : Nat) (Rplace : Int32) (Rvalue : Int64) (Rfault : Int32) (Pgi : Int32) (PgivenC : Nat → Int32) (Pleast : Nat → Int32) (Pgreat : Nat → Int32) (H : Heap) (locs : List Loc) (ls : Array Slot), Φ Rtaken Rtoken Rplace Rvalue Rfault Pgi PgivenC Pleast Pgreat → va_P D vwCl (wW_X3_tellInput ak ad hr_ ra ht ta pg pa Rcoded Rtaken Rtoken Rplace Rvalue Rfault Rcn Tlen Tcnt Ttoks Tplc Tvals Pst Pce Pgi Pln PgivenC Pleast Pgreat) H → va_D A (wW_X3_tellInput ak ad hr_ ra ht ta pg pa Rcoded Rtaken Rtoken Rplace Rvalue Rfault Rcn Tlen Tcnt Ttoks Tplc Tvals Pst Pce Pgi Pln PgivenC Pleast Pgreat) → va_S A s.heap H locs → W p l e R s m args below meth c H locs cells slots Q (F0 m 144 ls []))
    : ∀ (Rtaken : Int32) (Rtoken : Nat) (Rplace : Int32) (Rvalue : Int64) (Rfault : Int32) (Pgi : Int32) (PgivenC : Nat → Int32) (Pleast : Nat → Int32) (Pgreat : Nat → Int32) (l1 : Int32) (l2 : Int32) (l3 : Int32) (l4 : Int32) (H : Heap) (locs : List Loc) (ls : Array Slot), kf_X3_tellInput_99 Rcn Tcnt Ttoks Tplc Tvals Pce  Φ Rtaken Rtoken Rplace Rvalue Rfault Pgi PgivenC Pleast Pgreat l1 l2 l3 l4 → va_P D vwCl (wW_X3_tellInput ak ad hr_ ra ht ta pg pa Rcoded Rtaken Rtoken Rplace Rvalue Rfault Rcn Tlen Tcnt Ttoks Tplc Tvals Pst Pce Pgi Pln PgivenC Pleast Pgreat) H → va_D A (wW_X3_tellInput ak ad hr_ ra ht ta pg pa Rcoded Rtaken Rtoken Rplace Rvalue Rfault Rcn Tlen Tcnt Ttoks Tplc Tvals Pst Pce Pgi Pln PgivenC Pleast Pgreat) → va_S A s.heap H locs → lv_has ls 5 [(0, .ref hr_), (1, .int (l1)), (2, .int (l2)), (3, .int (l3)), (4, .int (l4))] → W p l e R s m args below meth c H locs cells slots Q (F0 m 99 ls ([])) := by
  intro Rtaken Rtoken Rplace Rvalue Rfault Pgi PgivenC Pleast Pgreat l1 l2 l3 l4 H locs ls hw hP hD hS hl
  delta kf_X3_tellInput_99 at hw
  refine lv_aload_n hx hb dX3_tellInput_99 rfl (lv_at hl 0 rfl) ?_
  refine kc_v (wc := (wW_X3_advance ak ad hr_ ra ht ta pg Rcoded Rtaken Rtoken Rplace Rvalue Rfault Tlen Tcnt Ttoks Tplc Tvals)) (wr := [((ra 1), .inl (ak 1, 6, .inr (.inl (Rcn)))), (pg, .inr (2, pob pa (Pst) (Pce) (Pgi) (Pln))), ((pa 3), .inl (ak 0, 2, .inl (PgivenC))), ((pa 4), .inl (ak 0, 2, .inl (Pleast))), ((pa 5), .inl (ak 0, 2, .inl (Pgreat)))]) hP hD hS hA [0, 2, 3, 4, 5] [1, 6, 7, 8, 9] rfl rfl (by decide) (by decide) (va_runV (As := []) (rest := []) ⟨hx, hb, hml, hown, hts⟩ (c_X3_advance l D ak ad _ hr_ ra ht ta pg Rcoded Rtaken Rtoken Rplace Rvalue Rfault Tlen Tcnt Ttoks Tplc Tvals _ hw) (cwV 0 hts gX3_tellInput_X3_advance rfl rfl rfl (by decide +kernel) ⟨(Nat.le_trans (Nat.le_of_ble_eq_true rfl) hRf), (Nat.le_trans (Nat.le_of_ble_eq_true rfl) hRl)⟩) (kc_preV (As := []) (wc := (wW_X3_advance ak ad hr_ ra ht ta pg Rcoded Rtaken Rtoken Rplace Rvalue Rfault Tlen Tcnt Ttoks Tplc Tvals)) hE hT hP hD hS hA [0, 2, 3, 4, 5] (by decide) rfl rfl 0 3 rfl rfl rfl) rfl rfl hl.1 rfl (lv_room (Nat.le_of_ble_eq_true rfl)) dX3_tellInput_100 ⟨hRc.1, hRc.2⟩) (fun u_33 H locs hw hP hD hS => ?_)
  obtain ⟨Rtaken_34, Rtoken_35, Rplace_36, Rvalue_37⟩ := u_33
  try dsimp -zeta only at hw
  have hP : va_P D vwCl (wW_X3_tellInput ak ad hr_ ra ht ta pg pa Rcoded Rtaken_34 Rtoken_35 Rplace_36 Rvalue_37 Rfault Rcn Tlen Tcnt Ttoks Tplc Tvals Pst Pce Pgi Pln PgivenC Pleast Pgreat) H := hP.sub [5, 0, 6, 7, 8, 9, 1, 2, 3, 4] rfl
  have hD : va_D A (wW_X3_tellInput ak ad hr_ ra ht ta pg pa Rcoded Rtaken_34 Rtoken_35 Rplace_36 Rvalue_37 Rfault Rcn Tlen Tcnt Ttoks Tplc Tvals Pst Pce Pgi Pln PgivenC Pleast Pgreat) := hD.sub [5, 0, 6, 7, 8, 9, 1, 2, 3, 4] (by decide) rfl
  refine lv_aload_n hx hb dX3_tellInput_103 rfl (lv_at hl 0 rfl) ?_
  refine va_get (D := D) (ci := 3) (v := .ref pg) (C := RX3) (T := TX3) (N := 11) hx hb hts (fun w h => wm_c (wc_X3 w h)) hown hE.1 hP 0 rfl rfl 5 (by decide) (hts (.fieldLink RX3 35 "WornLines$Reader" "told" "LWornLines$Programme;") (wm_c hw_292)) (fun _ h9 => h9) rfl dX3_tellInput_104 ?_
  refine va_get (D := D) (ci := 2) (v := .ref (pa 3)) (C := RX2) (T := TX2) (N := 17) hx hb hts (fun w h => wm_c (wc_X2 w h)) hown hE.1 hP 6 rfl rfl 6 (by decide) (hts (.fieldLink RX3 151 "WornLines$Programme" "givenCell" "[I") (wm_c hw_436)) (fun _ h9 => h9) rfl dX3_tellInput_107 ?_
  refine lv_iload_n hx hb dX3_tellInput_110 rfl (lv_at hl 1 rfl) ?_
  refine lv_iload_n hx hb dX3_tellInput_111 rfl (lv_at hl 2 rfl) ?_
  obtain ⟨h_39, hw⟩ := hw
  refine va_iast hx hb hE.1 hP hD hS 7 0 rfl rfl (h_39) dX3_tellInput_112 (fun H locs hP hD hS => ?_)
  have hP : va_P D vwCl (wW_X3_tellInput ak ad hr_ ra ht ta pg pa Rcoded Rtaken_34 Rtoken_35 Rplace_36 Rvalue_37 Rfault Rcn Tlen Tcnt Ttoks Tplc Tvals Pst Pce Pgi Pln (upd PgivenC (l1).toNatClampNeg l2) Pleast Pgreat) H := hP
  have hD : va_D A (wW_X3_tellInput ak ad hr_ ra ht ta pg pa Rcoded Rtaken_34 Rtoken_35 Rplace_36 Rvalue_37 Rfault Rcn Tlen Tcnt Ttoks Tplc Tvals Pst Pce Pgi Pln (upd PgivenC (l1).toNatClampNeg l2) Pleast Pgreat) := hD
  refine lv_aload_n hx hb dX3_tellInput_113 rfl (lv_at hl 0 rfl) ?_
  refine va_get (D := D) (ci := 3) (v := .ref pg) (C := RX3) (T := TX3) (N := 11) hx hb hts (fun w h => wm_c (wc_X3 w h)) hown hE.1 hP 0 rfl rfl 5 (by decide) (hts (.fieldLink RX3 35 "WornLines$Reader" "told" "LWornLines$Programme;") (wm_c hw_292)) (fun _ h9 => h9) rfl dX3_tellInput_114 ?_
  refine va_get (D := D) (ci := 2) (v := .ref (pa 4)) (C := RX2) (T := TX2) (N := 17) hx hb hts (fun w h => wm_c (wc_X2 w h)) hown hE.1 hP 6 rfl rfl 7 (by decide) (hts (.fieldLink RX3 154 "WornLines$Programme" "least" "[I") (wm_c hw_458)) (fun _ h9 => h9) rfl dX3_tellInput_117 ?_
  refine lv_iload_n hx hb dX3_tellInput_120 rfl (lv_at hl 1 rfl) ?_
  refine lv_iload_n hx hb dX3_tellInput_121 rfl (lv_at hl 3 rfl) ?_
  obtain ⟨h_40, hw⟩ := hw
  refine va_iast hx hb hE.1 hP hD hS 8 0 rfl rfl (h_40) dX3_tellInput_122 (fun H locs hP hD hS => ?_)
  have hP : va_P D vwCl (wW_X3_tellInput ak ad hr_ ra ht ta pg pa Rcoded Rtaken_34 Rtoken_35 Rplace_36 Rvalue_37 Rfault Rcn Tlen Tcnt Ttoks Tplc Tvals Pst Pce Pgi Pln (upd PgivenC (l1).toNatClampNeg l2) (upd Pleast (l1).toNatClampNeg l3) Pgreat) H := hP
  have hD : va_D A (wW_X3_tellInput ak ad hr_ ra ht ta pg pa Rcoded Rtaken_34 Rtoken_35 Rplace_36 Rvalue_37 Rfault Rcn Tlen Tcnt Ttoks Tplc Tvals Pst Pce Pgi Pln (upd PgivenC (l1).toNatClampNeg l2) (upd Pleast (l1).toNatClampNeg l3) Pgreat) := hD
  refine lv_aload_n hx hb dX3_tellInput_123 rfl (lv_at hl 0 rfl) ?_
  refine va_get (D := D) (ci := 3) (v := .ref pg) (C := RX3) (T := TX3) (N := 11) hx hb hts (fun w h => wm_c (wc_X3 w h)) hown hE.1 hP 0 rfl rfl 5 (by decide) (hts (.fieldLink RX3 35 "WornLines$Reader" "told" "LWornLines$Programme;") (wm_c hw_292)) (fun _ h9 => h9) rfl dX3_tellInput_124 ?_
  refine va_get (D := D) (ci := 2) (v := .ref (pa 5)) (C := RX2) (T := TX2) (N := 17) hx hb hts (fun w h => wm_c (wc_X2 w h)) hown hE.1 hP 6 rfl rfl 8 (by decide) (hts (.fieldLink RX3 157 "WornLines$Programme" "greatest" "[I") (wm_c hw_459)) (fun _ h9 => h9) rfl dX3_tellInput_127 ?_
  refine lv_iload_n hx hb dX3_tellInput_130 rfl (lv_at hl 1 rfl) ?_
  refine lv_iload hx hb dX3_tellInput_131 (lv_at hl 4 rfl) ?_
  obtain ⟨h_41, hw⟩ := hw
  refine va_iast hx hb hE.1 hP hD hS 9 0 rfl rfl (h_41) dX3_tellInput_133 (fun H locs hP hD hS => ?_)
  have hP : va_P D vwCl (wW_X3_tellInput ak ad hr_ ra ht ta pg pa Rcoded Rtaken_34 Rtoken_35 Rplace_36 Rvalue_37 Rfault Rcn Tlen Tcnt Ttoks Tplc Tvals Pst Pce Pgi Pln (upd PgivenC (l1).toNatClampNeg l2) (upd Pleast (l1).toNatClampNeg l3) (upd Pgreat (l1).toNatClampNeg l4)) H := hP
  have hD : va_D A (wW_X3_tellInput ak ad hr_ ra ht ta pg pa Rcoded Rtaken_34 Rtoken_35 Rplace_36 Rvalue_37 Rfault Rcn Tlen Tcnt Ttoks Tplc Tvals Pst Pce Pgi Pln (upd PgivenC (l1).toNatClampNeg l2) (upd Pleast (l1).toNatClampNeg l3) (upd Pgreat (l1).toNatClampNeg l4)) := hD
  refine lv_aload_n hx hb dX3_tellInput_134 rfl (lv_at hl 0 rfl) ?_
  refine va_get (D := D) (ci := 3) (v := .ref pg) (C := RX3) (T := TX3) (N := 11) hx hb hts (fun w h => wm_c (wc_X3 w h)) hown hE.1 hP 0 rfl rfl 5 (by decide) (hts (.fieldLink RX3 35 "WornLines$Reader" "told" "LWornLines$Programme;") (wm_c hw_292)) (fun _ h9 => h9) rfl dX3_tellInput_135 ?_
  refine lv_iload_n hx hb dX3_tellInput_138 rfl (lv_at hl 1 rfl) ?_
  refine lv_iconst (v := 1) hx hb dX3_tellInput_139 (by decide) ?_
  refine lv_iadd hx hb dX3_tellInput_140 ?_
  refine va_put (D := D) (ci := 2) (v := .int (l1 + 1)) (ty := .int) (C := RX2) (T := TX2) (N := 17) hx hb hts (fun w h => wm_c (wc_X2 w h)) tyX2 tyX2_ok nmX2 hown hE.1 hP hD hS 6 rfl rfl 5 (by decide) (hts (.fieldLink RX3 133 "WornLines$Programme" "given" "I") (wm_c hw_435)) (fun _ h9 => h9) rfl (by decide +kernel) (rfl) rfl (Nat.le_of_ble_eq_true rfl) dX3_tellInput_141 (fun H locs hP hD hS => ?_)
  have hP : va_P D vwCl (wW_X3_tellInput ak ad hr_ ra ht ta pg pa Rcoded Rtaken_34 Rtoken_35 Rplace_36 Rvalue_37 Rfault Rcn Tlen Tcnt Ttoks Tplc Tvals Pst Pce (l1 + 1) Pln (upd PgivenC (l1).toNatClampNeg l2) (upd Pleast (l1).toNatClampNeg l3) (upd Pgreat (l1).toNatClampNeg l4)) H := hP
  have hD : va_D A (wW_X3_tellInput ak ad hr_ ra ht ta pg pa Rcoded Rtaken_34 Rtoken_35 Rplace_36 Rvalue_37 Rfault Rcn Tlen Tcnt Ttoks Tplc Tvals Pst Pce (l1 + 1) Pln (upd PgivenC (l1).toNatClampNeg l2) (upd Pleast (l1).toNatClampNeg l3) (upd Pgreat (l1).toNatClampNeg l4)) := hD
  exact kR144 Rtaken_34 Rtoken_35 Rplace_36 Rvalue_37 Rfault (l1 + 1) (upd PgivenC (l1).toNatClampNeg l2) (upd Pleast (l1).toNatClampNeg l3) (upd Pgreat (l1).toNatClampNeg l4) _ _ _ hw hP hD hS

def kf_X3_tellInput_52 (Rcn : Nat → Int64) (Tcnt : Int32) (Ttoks : Nat → Nat) (Tplc : Nat → Int32) (Tvals : Nat → Int64) (Pce : Int32)  (Φ : Int32 → Nat → Int32 → Int64 → Int32 → Int32 → (Nat → Int32) → (Nat → Int32) → (Nat → Int32) → Prop) (Rtaken : Int32) (Rtoken : Nat) (Rplace : Int32) (Rvalue : Int64) (Rfault : Int32) (Pgi : Int32) (PgivenC : Nat → Int32) (Pleast : Nat → Int32) (Pgreat : Nat → Int32) (l1 : Int32) (l2 : Int32) : Prop := wp_X3_advance Tcnt Ttoks Tplc Tvals Rtaken Rtoken Rplace Rvalue (fun Rtaken_15 Rtoken_16 Rplace_17 Rvalue_18 => wp_X3_takeNumber Tcnt Ttoks Tplc Tvals 0 9999 Rtaken_15 Rtoken_16 Rplace_17 Rvalue_18 Rfault (fun r_26 Rtaken_21 Rtoken_22 Rplace_23 Rvalue_24 Rfault_25 => wp_X3_numberHere Rtoken_22 Rplace_23 Rvalue_24 r_26 9999 Rfault_25 (fun r_29 Rfault_28 => wp_X2_inputCountW Pgi Pleast Pgreat (fun r_31 => ((((r_29 - r_26) + 1) * r_31) ≤ 64 → kf_X3_tellInput_99 Rcn Tcnt Ttoks Tplc Tvals Pce  Φ Rtaken_21 Rtoken_22 Rplace_23 Rvalue_24 Rfault_28 Pgi PgivenC Pleast Pgreat l1 l2 r_26 r_29) ∧ (¬ (((r_29 - r_26) + 1) * r_31) ≤ 64 → wp_X3_fail Rplace_23 5 Rfault_28 (fun Rfault_43 => kf_X3_tellInput_99 Rcn Tcnt Ttoks Tplc Tvals Pce  Φ Rtaken_21 Rtoken_22 Rplace_23 Rvalue_24 Rfault_43 Pgi PgivenC Pleast Pgreat l1 l2 r_26 r_29))))))
set_option maxHeartbeats 4000000 in
set_option maxRecDepth 100000 in
theorem kj_X3_tellInput_52 {p : Program} {l : Launch} {e : Env} {R : Room} {s : State} {m : MethodId} {args : Array Value} {below : List Frame} {meth : Method} {c : Code} {cells slots : Nat} {Q : State → Prop} {A : Nat → Prop} {D : va_G} {ak : Nat → ClassId} {ad : Nat → Nat} (hx : p.tables.exec = Jvm.exec) (hb : c.code = cX3_tellInput) (hown : s.vm.findClass RX3 = some m.cls) (hts : ∀ w ∈ wsX3_tellInput, w.before args s = true) (hml : c.maxLocals = 5) (hE : EV D ak s) (hT : ST D ak ad A s s.heap) (hA : ∀ q, s.heap.size ≤ q → A q) (hRf : 3 ≤ R.frames) (hRl : 66 ≤ R.locals) (hRc : cells ≤ R.cells ∧ slots ≤ R.slots) (hr_ : Nat) (ra : Nat → Nat) (ht : Nat) (ta : Nat → Nat) (pg : Nat) (pa : Nat → Nat) (Rcoded : Int32) (Rcn : Nat → Int64) (Tlen : Int32) (Tcnt : Int32) (Ttoks : Nat → Nat) (Tplc : Nat → Int32) (Tvals : Nat → Int64) (Pst : Int32) (Pce : Int32) (Pln : Int32)  (Φ : Int32 → Nat → Int32 → Int64 → Int32 → Int32 → (Nat → Int32) → (Nat → Int32) → (Nat → Int32) → Prop)
    (kR18 : ∀ (Rtaken : Int32) (Rtoken : Nat) (Rplace : Int32) (Rvalue : Int64) (Rfault : Int32) (Pgi : Int32) (PgivenC : Nat → Int32) (Pleast : Nat → Int32) (Pgreat : Nat → Int32) (H : Heap) (locs : List Loc) (ls : Array Slot), Φ Rtaken Rtoken Rplace Rvalue Rfault Pgi PgivenC Pleast Pgreat → va_P D vwCl (wW_X3_tellInput ak ad hr_ ra ht ta pg pa Rcoded Rtaken Rtoken Rplace Rvalue Rfault Rcn Tlen Tcnt Ttoks Tplc Tvals Pst Pce Pgi Pln PgivenC Pleast Pgreat) H → va_D A (wW_X3_tellInput ak ad hr_ ra ht ta pg pa Rcoded Rtaken Rtoken Rplace Rvalue Rfault Rcn Tlen Tcnt Ttoks Tplc Tvals Pst Pce Pgi Pln PgivenC Pleast Pgreat) → va_S A s.heap H locs → W p l e R s m args below meth c H locs cells slots Q (F0 m 18 ls []))
    (kR144 : ∀ (Rtaken : Int32) (Rtoken : Nat) (Rplace : Int32) (Rvalue : Int64) (Rfault : Int32) (Pgi : Int32) (PgivenC : Nat → Int32) (Pleast : Nat → Int32) (Pgreat : Nat → Int32) (H : Heap) (locs : List Loc) (ls : Array Slot), Φ Rtaken Rtoken Rplace Rvalue Rfault Pgi PgivenC Pleast Pgreat → va_P D vwCl (wW_X3_tellInput ak ad hr_ ra ht ta pg pa Rcoded Rtaken Rtoken Rplace Rvalue Rfault Rcn Tlen Tcnt Ttoks Tplc Tvals Pst Pce Pgi Pln PgivenC Pleast Pgreat) H → va_D A (wW_X3_tellInput ak ad hr_ ra ht ta pg pa Rcoded Rtaken Rtoken Rplace Rvalue Rfault Rcn Tlen Tcnt Ttoks Tplc Tvals Pst Pce Pgi Pln PgivenC Pleast Pgreat) → va_S A s.heap H locs → W p l e R s m args below meth c H locs cells slots Q (F0 m 144 ls []))
    : ∀ (Rtaken : Int32) (Rtoken : Nat) (Rplace : Int32) (Rvalue : Int64) (Rfault : Int32) (Pgi : Int32) (PgivenC : Nat → Int32) (Pleast : Nat → Int32) (Pgreat : Nat → Int32) (l1 : Int32) (l2 : Int32) (H : Heap) (locs : List Loc) (ls : Array Slot), kf_X3_tellInput_52 Rcn Tcnt Ttoks Tplc Tvals Pce  Φ Rtaken Rtoken Rplace Rvalue Rfault Pgi PgivenC Pleast Pgreat l1 l2 → va_P D vwCl (wW_X3_tellInput ak ad hr_ ra ht ta pg pa Rcoded Rtaken Rtoken Rplace Rvalue Rfault Rcn Tlen Tcnt Ttoks Tplc Tvals Pst Pce Pgi Pln PgivenC Pleast Pgreat) H → va_D A (wW_X3_tellInput ak ad hr_ ra ht ta pg pa Rcoded Rtaken Rtoken Rplace Rvalue Rfault Rcn Tlen Tcnt Ttoks Tplc Tvals Pst Pce Pgi Pln PgivenC Pleast Pgreat) → va_S A s.heap H locs → lv_has ls 5 [(0, .ref hr_), (1, .int (l1)), (2, .int (l2))] → W p l e R s m args below meth c H locs cells slots Q (F0 m 52 ls ([])) := by
  intro Rtaken Rtoken Rplace Rvalue Rfault Pgi PgivenC Pleast Pgreat l1 l2 H locs ls hw hP hD hS hl
  delta kf_X3_tellInput_52 at hw
  refine lv_aload_n hx hb dX3_tellInput_52 rfl (lv_at hl 0 rfl) ?_
  refine kc_v (wc := (wW_X3_advance ak ad hr_ ra ht ta pg Rcoded Rtaken Rtoken Rplace Rvalue Rfault Tlen Tcnt Ttoks Tplc Tvals)) (wr := [((ra 1), .inl (ak 1, 6, .inr (.inl (Rcn)))), (pg, .inr (2, pob pa (Pst) (Pce) (Pgi) (Pln))), ((pa 3), .inl (ak 0, 2, .inl (PgivenC))), ((pa 4), .inl (ak 0, 2, .inl (Pleast))), ((pa 5), .inl (ak 0, 2, .inl (Pgreat)))]) hP hD hS hA [0, 2, 3, 4, 5] [1, 6, 7, 8, 9] rfl rfl (by decide) (by decide) (va_runV (As := []) (rest := []) ⟨hx, hb, hml, hown, hts⟩ (c_X3_advance l D ak ad _ hr_ ra ht ta pg Rcoded Rtaken Rtoken Rplace Rvalue Rfault Tlen Tcnt Ttoks Tplc Tvals _ hw) (cwV 0 hts gX3_tellInput_X3_advance rfl rfl rfl (by decide +kernel) ⟨(Nat.le_trans (Nat.le_of_ble_eq_true rfl) hRf), (Nat.le_trans (Nat.le_of_ble_eq_true rfl) hRl)⟩) (kc_preV (As := []) (wc := (wW_X3_advance ak ad hr_ ra ht ta pg Rcoded Rtaken Rtoken Rplace Rvalue Rfault Tlen Tcnt Ttoks Tplc Tvals)) hE hT hP hD hS hA [0, 2, 3, 4, 5] (by decide) rfl rfl 0 3 rfl rfl rfl) rfl rfl hl.1 rfl (lv_room (Nat.le_of_ble_eq_true rfl)) dX3_tellInput_53 ⟨hRc.1, hRc.2⟩) (fun u_14 H locs hw hP hD hS => ?_)
  obtain ⟨Rtaken_15, Rtoken_16, Rplace_17, Rvalue_18⟩ := u_14
  try dsimp -zeta only at hw
  have hP : va_P D vwCl (wW_X3_tellInput ak ad hr_ ra ht ta pg pa Rcoded Rtaken_15 Rtoken_16 Rplace_17 Rvalue_18 Rfault Rcn Tlen Tcnt Ttoks Tplc Tvals Pst Pce Pgi Pln PgivenC Pleast Pgreat) H := hP.sub [5, 0, 6, 7, 8, 9, 1, 2, 3, 4] rfl
  have hD : va_D A (wW_X3_tellInput ak ad hr_ ra ht ta pg pa Rcoded Rtaken_15 Rtoken_16 Rplace_17 Rvalue_18 Rfault Rcn Tlen Tcnt Ttoks Tplc Tvals Pst Pce Pgi Pln PgivenC Pleast Pgreat) := hD.sub [5, 0, 6, 7, 8, 9, 1, 2, 3, 4] (by decide) rfl
  refine lv_aload_n hx hb dX3_tellInput_56 rfl (lv_at hl 0 rfl) ?_
  refine lv_iconst (v := 0) hx hb dX3_tellInput_57 (by decide) ?_
  refine lv_sipush (v := 9999) hx hb dX3_tellInput_58 (by decide) ?_
  refine kc_i (wc := (wW_X3_takeNumber ak ad hr_ ra ht ta pg Rcoded Rtaken_15 Rtoken_16 Rplace_17 Rvalue_18 Rfault Tlen Tcnt Ttoks Tplc Tvals)) (wr := [((ra 1), .inl (ak 1, 6, .inr (.inl (Rcn)))), (pg, .inr (2, pob pa (Pst) (Pce) (Pgi) (Pln))), ((pa 3), .inl (ak 0, 2, .inl (PgivenC))), ((pa 4), .inl (ak 0, 2, .inl (Pleast))), ((pa 5), .inl (ak 0, 2, .inl (Pgreat)))]) hP hD hS hA [0, 2, 3, 4, 5] [1, 6, 7, 8, 9] rfl rfl (by decide) (by decide) (va_runV (As := [.int (0), .int (9999)]) (rest := []) ⟨hx, hb, hml, hown, hts⟩ (c_X3_takeNumber l D ak ad _ hr_ ra ht ta pg Rcoded Rtaken_15 Rtoken_16 Rplace_17 Rvalue_18 Rfault Tlen Tcnt Ttoks Tplc Tvals 0 9999 _ hw) (cwV 2 hts gX3_tellInput_X3_takeNumber rfl rfl rfl (by decide +kernel) ⟨(Nat.le_trans (Nat.le_of_ble_eq_true rfl) hRf), (Nat.le_trans (Nat.le_of_ble_eq_true rfl) hRl)⟩) (kc_preV (As := [.int (0), .int (9999)]) (wc := (wW_X3_takeNumber ak ad hr_ ra ht ta pg Rcoded Rtaken_15 Rtoken_16 Rplace_17 Rvalue_18 Rfault Tlen Tcnt Ttoks Tplc Tvals)) hE hT hP hD hS hA [0, 2, 3, 4, 5] (by decide) rfl rfl 0 3 rfl rfl rfl) rfl rfl hl.1 rfl (lv_room (Nat.le_of_ble_eq_true rfl)) dX3_tellInput_61 ⟨hRc.1, hRc.2⟩) (fun r_26 u_20 H locs hw hP hD hS => ?_)
  obtain ⟨Rtaken_21, Rtoken_22, Rplace_23, Rvalue_24, Rfault_25⟩ := u_20
  try dsimp -zeta only at hw
  have hP : va_P D vwCl (wW_X3_tellInput ak ad hr_ ra ht ta pg pa Rcoded Rtaken_21 Rtoken_22 Rplace_23 Rvalue_24 Rfault_25 Rcn Tlen Tcnt Ttoks Tplc Tvals Pst Pce Pgi Pln PgivenC Pleast Pgreat) H := hP.sub [5, 0, 6, 7, 8, 9, 1, 2, 3, 4] rfl
  have hD : va_D A (wW_X3_tellInput ak ad hr_ ra ht ta pg pa Rcoded Rtaken_21 Rtoken_22 Rplace_23 Rvalue_24 Rfault_25 Rcn Tlen Tcnt Ttoks Tplc Tvals Pst Pce Pgi Pln PgivenC Pleast Pgreat) := hD.sub [5, 0, 6, 7, 8, 9, 1, 2, 3, 4] (by decide) rfl
  refine lv_istore_n (lv' := [(3, .int (r_26)), (0, .ref hr_), (1, .int (l1)), (2, .int (l2))]) hx hb dX3_tellInput_64 rfl hl (by decide) rfl (fun ls hl => ?_)
  refine lv_aload_n hx hb dX3_tellInput_65 rfl (lv_at hl 1 rfl) ?_
  refine lv_iload_n hx hb dX3_tellInput_66 rfl (lv_at hl 0 rfl) ?_
  refine lv_sipush (v := 9999) hx hb dX3_tellInput_67 (by decide) ?_
  refine kc_i (wc := (wW_X3_numberHere ak ad hr_ ra ht pg Rcoded Rtaken_21 Rtoken_22 Rplace_23 Rvalue_24 Rfault_25)) (wr := [((ra 1), .inl (ak 1, 6, .inr (.inl (Rcn)))), (ht, .inr (5, tob ta (Tlen) (Tcnt))), ((ta 1), .inl (ak 4, 1001, .inr (.inr (.inr (.inr (tokA ad (Ttoks))))))), ((ta 2), .inl (ak 0, 1001, .inl (Tplc))), ((ta 3), .inl (ak 1, 1001, .inr (.inl (Tvals)))), (pg, .inr (2, pob pa (Pst) (Pce) (Pgi) (Pln))), ((pa 3), .inl (ak 0, 2, .inl (PgivenC))), ((pa 4), .inl (ak 0, 2, .inl (Pleast))), ((pa 5), .inl (ak 0, 2, .inl (Pgreat)))]) hP hD hS hA [0] [1, 2, 3, 4, 5, 6, 7, 8, 9] rfl rfl (by decide) (by decide) (va_runV (As := [.int (r_26), .int (9999)]) (rest := []) ⟨hx, hb, hml, hown, hts⟩ (c_X3_numberHere l D ak ad _ hr_ ra ht pg Rcoded Rtaken_21 Rtoken_22 Rplace_23 Rvalue_24 Rfault_25 r_26 9999 _ hw) (cwV 2 hts gX3_tellInput_X3_numberHere rfl rfl rfl (by decide +kernel) ⟨(Nat.le_trans (Nat.le_of_ble_eq_true rfl) hRf), (Nat.le_trans (Nat.le_of_ble_eq_true rfl) hRl)⟩) (kc_preV (As := [.int (r_26), .int (9999)]) (wc := (wW_X3_numberHere ak ad hr_ ra ht pg Rcoded Rtaken_21 Rtoken_22 Rplace_23 Rvalue_24 Rfault_25)) hE hT hP hD hS hA [0] (by decide) rfl rfl 0 3 rfl rfl rfl) rfl rfl hl.1 rfl (lv_room (Nat.le_of_ble_eq_true rfl)) dX3_tellInput_70 ⟨hRc.1, hRc.2⟩) (fun r_29 Rfault_28 H locs hw hP hD hS => ?_)
  try dsimp -zeta only at hw
  have hP : va_P D vwCl (wW_X3_tellInput ak ad hr_ ra ht ta pg pa Rcoded Rtaken_21 Rtoken_22 Rplace_23 Rvalue_24 Rfault_28 Rcn Tlen Tcnt Ttoks Tplc Tvals Pst Pce Pgi Pln PgivenC Pleast Pgreat) H := hP.sub [9, 0, 1, 2, 3, 4, 5, 6, 7, 8] rfl
  have hD : va_D A (wW_X3_tellInput ak ad hr_ ra ht ta pg pa Rcoded Rtaken_21 Rtoken_22 Rplace_23 Rvalue_24 Rfault_28 Rcn Tlen Tcnt Ttoks Tplc Tvals Pst Pce Pgi Pln PgivenC Pleast Pgreat) := hD.sub [9, 0, 1, 2, 3, 4, 5, 6, 7, 8] (by decide) rfl
  refine lv_istore (lv' := [(4, .int (r_29)), (3, .int (r_26)), (0, .ref hr_), (1, .int (l1)), (2, .int (l2))]) hx hb dX3_tellInput_73 hl (by decide) rfl (fun ls hl => ?_)
  refine lv_iload hx hb dX3_tellInput_75 (lv_at hl 0 rfl) ?_
  refine lv_iload_n hx hb dX3_tellInput_77 rfl (lv_at hl 1 rfl) ?_
  refine lv_isub hx hb dX3_tellInput_78 ?_
  refine lv_iconst (v := 1) hx hb dX3_tellInput_79 (by decide) ?_
  refine lv_iadd hx hb dX3_tellInput_80 ?_
  refine lv_aload_n hx hb dX3_tellInput_81 rfl (lv_at hl 2 rfl) ?_
  refine va_get (D := D) (ci := 3) (v := .ref pg) (C := RX3) (T := TX3) (N := 11) hx hb hts (fun w h => wm_c (wc_X3 w h)) hown hE.1 hP 0 rfl rfl 5 (by decide) (hts (.fieldLink RX3 35 "WornLines$Reader" "told" "LWornLines$Programme;") (wm_c hw_292)) (fun _ h9 => h9) rfl dX3_tellInput_82 ?_
  refine kc_i (wc := (wW_X2_inputCountW ak ad pg pa Pst Pce Pgi Pln Pleast Pgreat)) (wr := [(hr_, .inr (3, rob ad ra (ht) (Rcoded) (pg) (Rtaken_21) (Rtoken_22) (Rplace_23) (Rvalue_24) (Rfault_28))), ((ra 1), .inl (ak 1, 6, .inr (.inl (Rcn)))), (ht, .inr (5, tob ta (Tlen) (Tcnt))), ((ta 1), .inl (ak 4, 1001, .inr (.inr (.inr (.inr (tokA ad (Ttoks))))))), ((ta 2), .inl (ak 0, 1001, .inl (Tplc))), ((ta 3), .inl (ak 1, 1001, .inr (.inl (Tvals)))), ((pa 3), .inl (ak 0, 2, .inl (PgivenC)))]) hP hD hS hA [6, 8, 9] [0, 1, 2, 3, 4, 5, 7] rfl rfl (by decide) (by decide) (va_runV (As := []) (rest := [.int ((r_29 - r_26) + 1)]) ⟨hx, hb, hml, hown, hts⟩ (c_X2_inputCountW l D ak ad _ pg pa Pst Pce Pgi Pln Pleast Pgreat _ hw) (cwV 0 hts gX3_tellInput_X2_inputCount rfl rfl rfl (by decide +kernel) ⟨(Nat.le_trans (Nat.le_of_ble_eq_true rfl) hRf), (Nat.le_trans (Nat.le_of_ble_eq_true rfl) hRl)⟩) (kc_preV (As := []) (wc := (wW_X2_inputCountW ak ad pg pa Pst Pce Pgi Pln Pleast Pgreat)) hE hT hP hD hS hA [6, 8, 9] (by decide) rfl rfl 6 2 rfl rfl rfl) rfl rfl hl.1 rfl (lv_room (Nat.le_of_ble_eq_true rfl)) dX3_tellInput_85 ⟨hRc.1, hRc.2⟩) (fun r_31 u_30 H locs hw hP hD hS => ?_)
  try dsimp -zeta only at hw
  have hP : va_P D vwCl (wW_X3_tellInput ak ad hr_ ra ht ta pg pa Rcoded Rtaken_21 Rtoken_22 Rplace_23 Rvalue_24 Rfault_28 Rcn Tlen Tcnt Ttoks Tplc Tvals Pst Pce Pgi Pln PgivenC Pleast Pgreat) H := hP.sub [0, 1, 2, 3, 4, 5, 7, 6, 8, 9] rfl
  have hD : va_D A (wW_X3_tellInput ak ad hr_ ra ht ta pg pa Rcoded Rtaken_21 Rtoken_22 Rplace_23 Rvalue_24 Rfault_28 Rcn Tlen Tcnt Ttoks Tplc Tvals Pst Pce Pgi Pln PgivenC Pleast Pgreat) := hD.sub [0, 1, 2, 3, 4, 5, 7, 6, 8, 9] (by decide) rfl
  refine lv_imul hx hb dX3_tellInput_88 ?_
  refine lv_bipush (v := 64) hx hb dX3_tellInput_89 (by decide) ?_
  refine lv_icmp_le (tgt := 99) hx hb dX3_tellInput_91 (by decide) (fun c_32 => ?_) (fun c_32 => ?_)
  · replace hw := hw.1 c_32
    exact kj_X3_tellInput_99 hx hb hown hts hml hE hT hA hRf hRl hRc hr_ ra ht ta pg pa Rcoded Rcn Tlen Tcnt Ttoks Tplc Tvals Pst Pce Pln  Φ  kR18 kR144 Rtaken_21 Rtoken_22 Rplace_23 Rvalue_24 Rfault_28 Pgi PgivenC Pleast Pgreat l1 l2 r_26 r_29 _ _ _ hw hP hD hS (lv_sub hl [2, 3, 4, 1, 0] rfl)
  · replace hw := hw.2 c_32
    refine lv_aload_n hx hb dX3_tellInput_94 rfl (lv_at hl 2 rfl) ?_
    refine lv_iconst (v := 5) hx hb dX3_tellInput_95 (by decide) ?_
    refine kc_v (wc := (wW_X3_fail ak ad hr_ ra ht pg Rcoded Rtaken_21 Rtoken_22 Rplace_23 Rvalue_24 Rfault_28)) (wr := [((ra 1), .inl (ak 1, 6, .inr (.inl (Rcn)))), (ht, .inr (5, tob ta (Tlen) (Tcnt))), ((ta 1), .inl (ak 4, 1001, .inr (.inr (.inr (.inr (tokA ad (Ttoks))))))), ((ta 2), .inl (ak 0, 1001, .inl (Tplc))), ((ta 3), .inl (ak 1, 1001, .inr (.inl (Tvals)))), (pg, .inr (2, pob pa (Pst) (Pce) (Pgi) (Pln))), ((pa 3), .inl (ak 0, 2, .inl (PgivenC))), ((pa 4), .inl (ak 0, 2, .inl (Pleast))), ((pa 5), .inl (ak 0, 2, .inl (Pgreat)))]) hP hD hS hA [0] [1, 2, 3, 4, 5, 6, 7, 8, 9] rfl rfl (by decide) (by decide) (va_runV (As := [.int (5)]) (rest := []) ⟨hx, hb, hml, hown, hts⟩ (c_X3_fail l D ak ad _ hr_ ra ht pg Rcoded Rtaken_21 Rtoken_22 Rplace_23 Rvalue_24 Rfault_28 5 _ hw) (cwV 1 hts gX3_tellInput_X3_fail rfl rfl rfl (by decide +kernel) ⟨(Nat.le_trans (Nat.le_of_ble_eq_true rfl) hRf), (Nat.le_trans (Nat.le_of_ble_eq_true rfl) hRl)⟩) (kc_preV (As := [.int (5)]) (wc := (wW_X3_fail ak ad hr_ ra ht pg Rcoded Rtaken_21 Rtoken_22 Rplace_23 Rvalue_24 Rfault_28)) hE hT hP hD hS hA [0] (by decide) rfl rfl 0 3 rfl rfl rfl) rfl rfl hl.1 rfl (lv_room (Nat.le_of_ble_eq_true rfl)) dX3_tellInput_96 ⟨hRc.1, hRc.2⟩) (fun Rfault_43 H locs hw hP hD hS => ?_)
    try dsimp -zeta only at hw
    have hP : va_P D vwCl (wW_X3_tellInput ak ad hr_ ra ht ta pg pa Rcoded Rtaken_21 Rtoken_22 Rplace_23 Rvalue_24 Rfault_43 Rcn Tlen Tcnt Ttoks Tplc Tvals Pst Pce Pgi Pln PgivenC Pleast Pgreat) H := hP.sub [9, 0, 1, 2, 3, 4, 5, 6, 7, 8] rfl
    have hD : va_D A (wW_X3_tellInput ak ad hr_ ra ht ta pg pa Rcoded Rtaken_21 Rtoken_22 Rplace_23 Rvalue_24 Rfault_43 Rcn Tlen Tcnt Ttoks Tplc Tvals Pst Pce Pgi Pln PgivenC Pleast Pgreat) := hD.sub [9, 0, 1, 2, 3, 4, 5, 6, 7, 8] (by decide) rfl
    exact kj_X3_tellInput_99 hx hb hown hts hml hE hT hA hRf hRl hRc hr_ ra ht ta pg pa Rcoded Rcn Tlen Tcnt Ttoks Tplc Tvals Pst Pce Pln  Φ  kR18 kR144 Rtaken_21 Rtoken_22 Rplace_23 Rvalue_24 Rfault_43 Pgi PgivenC Pleast Pgreat l1 l2 r_26 r_29 _ _ _ hw hP hD hS (lv_sub hl [2, 3, 4, 1, 0] rfl)

def wp_X3_tellInput (Rcn : Nat → Int64) (Tcnt : Int32) (Ttoks : Nat → Nat) (Tplc : Nat → Int32) (Tvals : Nat → Int64) (Pce : Int32) (Rtaken : Int32) (Rtoken : Nat) (Rplace : Int32) (Rvalue : Int64) (Rfault : Int32) (Pgi : Int32) (PgivenC : Nat → Int32) (Pleast : Nat → Int32) (Pgreat : Nat → Int32) (Φ : Int32 → Nat → Int32 → Int64 → Int32 → Int32 → (Nat → Int32) → (Nat → Int32) → (Nat → Int32) → Prop) : Prop := (Pgi < 2 → wp_X3_advance Tcnt Ttoks Tplc Tvals Rtaken Rtoken Rplace Rvalue (fun Rtaken_3 Rtoken_4 Rplace_5 Rvalue_6 => wp_X3_toldHere Rtoken_4 Rplace_5 Rvalue_6 Rcn 6 Pce Rfault (fun r_10 Rfault_9 => wp_X3_isGiven Pgi PgivenC r_10 (fun r_12 => (r_12 = 0 → kf_X3_tellInput_52 Rcn Tcnt Ttoks Tplc Tvals Pce  Φ Rtaken_3 Rtoken_4 Rplace_5 Rvalue_6 Rfault_9 Pgi PgivenC Pleast Pgreat Pgi r_10) ∧ (¬ r_12 = 0 → wp_X3_fail Rplace_5 3 Rfault_9 (fun Rfault_46 => kf_X3_tellInput_52 Rcn Tcnt Ttoks Tplc Tvals Pce  Φ Rtaken_3 Rtoken_4 Rplace_5 Rvalue_6 Rfault_46 Pgi PgivenC Pleast Pgreat Pgi r_10)))))) ∧ (¬ Pgi < 2 → wp_X3_fail Rplace 5 Rfault (fun Rfault_49 => Φ Rtaken Rtoken Rplace Rvalue Rfault_49 Pgi PgivenC Pleast Pgreat))
set_option maxHeartbeats 4000000 in
set_option maxRecDepth 100000 in
theorem kj_X3_tellInput_e {p : Program} {l : Launch} {e : Env} {R : Room} {s : State} {m : MethodId} {args : Array Value} {below : List Frame} {meth : Method} {c : Code} {cells slots : Nat} {Q : State → Prop} {A : Nat → Prop} {D : va_G} {ak : Nat → ClassId} {ad : Nat → Nat} (hx : p.tables.exec = Jvm.exec) (hb : c.code = cX3_tellInput) (hown : s.vm.findClass RX3 = some m.cls) (hts : ∀ w ∈ wsX3_tellInput, w.before args s = true) (hml : c.maxLocals = 5) (hE : EV D ak s) (hT : ST D ak ad A s s.heap) (hA : ∀ q, s.heap.size ≤ q → A q) (hRf : 3 ≤ R.frames) (hRl : 66 ≤ R.locals) (hRc : cells ≤ R.cells ∧ slots ≤ R.slots) (hr_ : Nat) (ra : Nat → Nat) (ht : Nat) (ta : Nat → Nat) (pg : Nat) (pa : Nat → Nat) (Rcoded : Int32) (Rcn : Nat → Int64) (Tlen : Int32) (Tcnt : Int32) (Ttoks : Nat → Nat) (Tplc : Nat → Int32) (Tvals : Nat → Int64) (Pst : Int32) (Pce : Int32) (Pln : Int32)  (Φ : Int32 → Nat → Int32 → Int64 → Int32 → Int32 → (Nat → Int32) → (Nat → Int32) → (Nat → Int32) → Prop)
    (kR18 : ∀ (Rtaken : Int32) (Rtoken : Nat) (Rplace : Int32) (Rvalue : Int64) (Rfault : Int32) (Pgi : Int32) (PgivenC : Nat → Int32) (Pleast : Nat → Int32) (Pgreat : Nat → Int32) (H : Heap) (locs : List Loc) (ls : Array Slot), Φ Rtaken Rtoken Rplace Rvalue Rfault Pgi PgivenC Pleast Pgreat → va_P D vwCl (wW_X3_tellInput ak ad hr_ ra ht ta pg pa Rcoded Rtaken Rtoken Rplace Rvalue Rfault Rcn Tlen Tcnt Ttoks Tplc Tvals Pst Pce Pgi Pln PgivenC Pleast Pgreat) H → va_D A (wW_X3_tellInput ak ad hr_ ra ht ta pg pa Rcoded Rtaken Rtoken Rplace Rvalue Rfault Rcn Tlen Tcnt Ttoks Tplc Tvals Pst Pce Pgi Pln PgivenC Pleast Pgreat) → va_S A s.heap H locs → W p l e R s m args below meth c H locs cells slots Q (F0 m 18 ls []))
    (kR144 : ∀ (Rtaken : Int32) (Rtoken : Nat) (Rplace : Int32) (Rvalue : Int64) (Rfault : Int32) (Pgi : Int32) (PgivenC : Nat → Int32) (Pleast : Nat → Int32) (Pgreat : Nat → Int32) (H : Heap) (locs : List Loc) (ls : Array Slot), Φ Rtaken Rtoken Rplace Rvalue Rfault Pgi PgivenC Pleast Pgreat → va_P D vwCl (wW_X3_tellInput ak ad hr_ ra ht ta pg pa Rcoded Rtaken Rtoken Rplace Rvalue Rfault Rcn Tlen Tcnt Ttoks Tplc Tvals Pst Pce Pgi Pln PgivenC Pleast Pgreat) H → va_D A (wW_X3_tellInput ak ad hr_ ra ht ta pg pa Rcoded Rtaken Rtoken Rplace Rvalue Rfault Rcn Tlen Tcnt Ttoks Tplc Tvals Pst Pce Pgi Pln PgivenC Pleast Pgreat) → va_S A s.heap H locs → W p l e R s m args below meth c H locs cells slots Q (F0 m 144 ls []))
    : ∀ (Rtaken : Int32) (Rtoken : Nat) (Rplace : Int32) (Rvalue : Int64) (Rfault : Int32) (Pgi : Int32) (PgivenC : Nat → Int32) (Pleast : Nat → Int32) (Pgreat : Nat → Int32) (H : Heap) (locs : List Loc) (ls : Array Slot), wp_X3_tellInput Rcn Tcnt Ttoks Tplc Tvals Pce Rtaken Rtoken Rplace Rvalue Rfault Pgi PgivenC Pleast Pgreat Φ → va_P D vwCl (wW_X3_tellInput ak ad hr_ ra ht ta pg pa Rcoded Rtaken Rtoken Rplace Rvalue Rfault Rcn Tlen Tcnt Ttoks Tplc Tvals Pst Pce Pgi Pln PgivenC Pleast Pgreat) H → va_D A (wW_X3_tellInput ak ad hr_ ra ht ta pg pa Rcoded Rtaken Rtoken Rplace Rvalue Rfault Rcn Tlen Tcnt Ttoks Tplc Tvals Pst Pce Pgi Pln PgivenC Pleast Pgreat) → va_S A s.heap H locs → lv_has ls 5 [(0, .ref hr_)] → W p l e R s m args below meth c H locs cells slots Q (F0 m 0 ls ([])) := by
  intro Rtaken Rtoken Rplace Rvalue Rfault Pgi PgivenC Pleast Pgreat H locs ls hw hP hD hS hl
  delta wp_X3_tellInput at hw
  refine lv_aload_n hx hb dX3_tellInput_0 rfl (lv_at hl 0 rfl) ?_
  refine va_get (D := D) (ci := 3) (v := .ref pg) (C := RX3) (T := TX3) (N := 11) hx hb hts (fun w h => wm_c (wc_X3 w h)) hown hE.1 hP 0 rfl rfl 5 (by decide) (hts (.fieldLink RX3 35 "WornLines$Reader" "told" "LWornLines$Programme;") (wm_c hw_292)) (fun _ h9 => h9) rfl dX3_tellInput_1 ?_
  refine va_get (D := D) (ci := 2) (v := .int (Pgi)) (C := RX2) (T := TX2) (N := 17) hx hb hts (fun w h => wm_c (wc_X2 w h)) hown hE.1 hP 6 rfl rfl 5 (by decide) (hts (.fieldLink RX3 133 "WornLines$Programme" "given" "I") (wm_c hw_435)) (fun _ h9 => h9) rfl dX3_tellInput_4 ?_
  refine lv_istore_n (lv' := [(1, .int (Pgi)), (0, .ref hr_)]) hx hb dX3_tellInput_7 rfl hl (by decide) rfl (fun ls hl => ?_)
  refine lv_iload_n hx hb dX3_tellInput_8 rfl (lv_at hl 0 rfl) ?_
  refine lv_iconst (v := 2) hx hb dX3_tellInput_9 (by decide) ?_
  refine lv_icmp_lt (tgt := 19) hx hb dX3_tellInput_10 (by decide) (fun c_1 => ?_) (fun c_1 => ?_)
  · replace hw := hw.1 c_1
    refine lv_aload_n hx hb dX3_tellInput_19 rfl (lv_at hl 1 rfl) ?_
    refine kc_v (wc := (wW_X3_advance ak ad hr_ ra ht ta pg Rcoded Rtaken Rtoken Rplace Rvalue Rfault Tlen Tcnt Ttoks Tplc Tvals)) (wr := [((ra 1), .inl (ak 1, 6, .inr (.inl (Rcn)))), (pg, .inr (2, pob pa (Pst) (Pce) (Pgi) (Pln))), ((pa 3), .inl (ak 0, 2, .inl (PgivenC))), ((pa 4), .inl (ak 0, 2, .inl (Pleast))), ((pa 5), .inl (ak 0, 2, .inl (Pgreat)))]) hP hD hS hA [0, 2, 3, 4, 5] [1, 6, 7, 8, 9] rfl rfl (by decide) (by decide) (va_runV (As := []) (rest := []) ⟨hx, hb, hml, hown, hts⟩ (c_X3_advance l D ak ad _ hr_ ra ht ta pg Rcoded Rtaken Rtoken Rplace Rvalue Rfault Tlen Tcnt Ttoks Tplc Tvals _ hw) (cwV 0 hts gX3_tellInput_X3_advance rfl rfl rfl (by decide +kernel) ⟨(Nat.le_trans (Nat.le_of_ble_eq_true rfl) hRf), (Nat.le_trans (Nat.le_of_ble_eq_true rfl) hRl)⟩) (kc_preV (As := []) (wc := (wW_X3_advance ak ad hr_ ra ht ta pg Rcoded Rtaken Rtoken Rplace Rvalue Rfault Tlen Tcnt Ttoks Tplc Tvals)) hE hT hP hD hS hA [0, 2, 3, 4, 5] (by decide) rfl rfl 0 3 rfl rfl rfl) rfl rfl hl.1 rfl (lv_room (Nat.le_of_ble_eq_true rfl)) dX3_tellInput_20 ⟨hRc.1, hRc.2⟩) (fun u_2 H locs hw hP hD hS => ?_)
    obtain ⟨Rtaken_3, Rtoken_4, Rplace_5, Rvalue_6⟩ := u_2
    try dsimp -zeta only at hw
    have hP : va_P D vwCl (wW_X3_tellInput ak ad hr_ ra ht ta pg pa Rcoded Rtaken_3 Rtoken_4 Rplace_5 Rvalue_6 Rfault Rcn Tlen Tcnt Ttoks Tplc Tvals Pst Pce Pgi Pln PgivenC Pleast Pgreat) H := hP.sub [5, 0, 6, 7, 8, 9, 1, 2, 3, 4] rfl
    have hD : va_D A (wW_X3_tellInput ak ad hr_ ra ht ta pg pa Rcoded Rtaken_3 Rtoken_4 Rplace_5 Rvalue_6 Rfault Rcn Tlen Tcnt Ttoks Tplc Tvals Pst Pce Pgi Pln PgivenC Pleast Pgreat) := hD.sub [5, 0, 6, 7, 8, 9, 1, 2, 3, 4] (by decide) rfl
    refine lv_aload_n hx hb dX3_tellInput_23 rfl (lv_at hl 1 rfl) ?_
    refine lv_aload_n hx hb dX3_tellInput_24 rfl (lv_at hl 1 rfl) ?_
    refine va_get (D := D) (ci := 3) (v := .ref (ra 1)) (C := RX3) (T := TX3) (N := 11) hx hb hts (fun w h => wm_c (wc_X3 w h)) hown hE.1 hP 0 rfl rfl 2 (by decide) (hts (.fieldLink RX3 15 "WornLines$Reader" "cellNames" "[J") (wm_c hw_287)) (fun _ h9 => h9) rfl dX3_tellInput_25 ?_
    refine lv_aload_n hx hb dX3_tellInput_28 rfl (lv_at hl 1 rfl) ?_
    refine va_get (D := D) (ci := 3) (v := .ref pg) (C := RX3) (T := TX3) (N := 11) hx hb hts (fun w h => wm_c (wc_X3 w h)) hown hE.1 hP 0 rfl rfl 5 (by decide) (hts (.fieldLink RX3 35 "WornLines$Reader" "told" "LWornLines$Programme;") (wm_c hw_292)) (fun _ h9 => h9) rfl dX3_tellInput_29 ?_
    refine va_get (D := D) (ci := 2) (v := .int (Pce)) (C := RX2) (T := TX2) (N := 17) hx hb hts (fun w h => wm_c (wc_X2 w h)) hown hE.1 hP 6 rfl rfl 3 (by decide) (hts (.fieldLink RX3 128 "WornLines$Programme" "cells" "I") (wm_c hw_434)) (fun _ h9 => h9) rfl dX3_tellInput_32 ?_
    refine kc_i (wc := (wW_X3_toldHere ak ad hr_ ra ht pg (ra 1) 6 Rcoded Rtaken_3 Rtoken_4 Rplace_5 Rvalue_6 Rfault Rcn)) (wr := [(ht, .inr (5, tob ta (Tlen) (Tcnt))), ((ta 1), .inl (ak 4, 1001, .inr (.inr (.inr (.inr (tokA ad (Ttoks))))))), ((ta 2), .inl (ak 0, 1001, .inl (Tplc))), ((ta 3), .inl (ak 1, 1001, .inr (.inl (Tvals)))), (pg, .inr (2, pob pa (Pst) (Pce) (Pgi) (Pln))), ((pa 3), .inl (ak 0, 2, .inl (PgivenC))), ((pa 4), .inl (ak 0, 2, .inl (Pleast))), ((pa 5), .inl (ak 0, 2, .inl (Pgreat)))]) hP hD hS hA [0, 1] [2, 3, 4, 5, 6, 7, 8, 9] rfl rfl (by decide) (by decide) (va_runV (As := [.ref (ra 1), .int (Pce)]) (rest := []) ⟨hx, hb, hml, hown, hts⟩ (c_X3_toldHere l D ak ad _ hr_ ra ht pg (ra 1) 6 Rcoded Rtaken_3 Rtoken_4 Rplace_5 Rvalue_6 Rfault Rcn Pce _ hw) (cwV 2 hts gX3_tellInput_X3_toldHere rfl rfl rfl (by decide +kernel) ⟨(Nat.le_trans (Nat.le_of_ble_eq_true rfl) hRf), (Nat.le_trans (Nat.le_of_ble_eq_true rfl) hRl)⟩) (kc_preV (As := [.ref (ra 1), .int (Pce)]) (wc := (wW_X3_toldHere ak ad hr_ ra ht pg (ra 1) 6 Rcoded Rtaken_3 Rtoken_4 Rplace_5 Rvalue_6 Rfault Rcn)) hE hT hP hD hS hA [0, 1] (by decide) rfl rfl 0 3 rfl rfl rfl) rfl rfl hl.1 rfl (lv_room (Nat.le_of_ble_eq_true rfl)) dX3_tellInput_35 ⟨hRc.1, hRc.2⟩) (fun r_10 Rfault_9 H locs hw hP hD hS => ?_)
    try dsimp -zeta only at hw
    have hP : va_P D vwCl (wW_X3_tellInput ak ad hr_ ra ht ta pg pa Rcoded Rtaken_3 Rtoken_4 Rplace_5 Rvalue_6 Rfault_9 Rcn Tlen Tcnt Ttoks Tplc Tvals Pst Pce Pgi Pln PgivenC Pleast Pgreat) H := hP.sub [8, 9, 0, 1, 2, 3, 4, 5, 6, 7] rfl
    have hD : va_D A (wW_X3_tellInput ak ad hr_ ra ht ta pg pa Rcoded Rtaken_3 Rtoken_4 Rplace_5 Rvalue_6 Rfault_9 Rcn Tlen Tcnt Ttoks Tplc Tvals Pst Pce Pgi Pln PgivenC Pleast Pgreat) := hD.sub [8, 9, 0, 1, 2, 3, 4, 5, 6, 7] (by decide) rfl
    refine lv_istore_n (lv' := [(2, .int (r_10)), (1, .int (Pgi)), (0, .ref hr_)]) hx hb dX3_tellInput_38 rfl hl (by decide) rfl (fun ls hl => ?_)
    refine lv_aload_n hx hb dX3_tellInput_39 rfl (lv_at hl 2 rfl) ?_
    refine lv_iload_n hx hb dX3_tellInput_40 rfl (lv_at hl 0 rfl) ?_
    refine kc_i (wc := (wW_X3_isGiven ak ad hr_ ra ht pg pa Rcoded Rtaken_3 Rtoken_4 Rplace_5 Rvalue_6 Rfault_9 Pst Pce Pgi Pln PgivenC)) (wr := [((ra 1), .inl (ak 1, 6, .inr (.inl (Rcn)))), (ht, .inr (5, tob ta (Tlen) (Tcnt))), ((ta 1), .inl (ak 4, 1001, .inr (.inr (.inr (.inr (tokA ad (Ttoks))))))), ((ta 2), .inl (ak 0, 1001, .inl (Tplc))), ((ta 3), .inl (ak 1, 1001, .inr (.inl (Tvals)))), ((pa 4), .inl (ak 0, 2, .inl (Pleast))), ((pa 5), .inl (ak 0, 2, .inl (Pgreat)))]) hP hD hS hA [0, 6, 7] [1, 2, 3, 4, 5, 8, 9] rfl rfl (by decide) (by decide) (va_runV (As := [.int (r_10)]) (rest := []) ⟨hx, hb, hml, hown, hts⟩ (c_X3_isGiven l D ak ad _ hr_ ra ht pg pa Rcoded Rtaken_3 Rtoken_4 Rplace_5 Rvalue_6 Rfault_9 Pst Pce Pgi Pln PgivenC r_10 _ hw) (cwV 1 hts gX3_tellInput_X3_isGiven rfl rfl rfl (by decide +kernel) ⟨(Nat.le_trans (Nat.le_of_ble_eq_true rfl) hRf), (Nat.le_trans (Nat.le_of_ble_eq_true rfl) hRl)⟩) (kc_preV (As := [.int (r_10)]) (wc := (wW_X3_isGiven ak ad hr_ ra ht pg pa Rcoded Rtaken_3 Rtoken_4 Rplace_5 Rvalue_6 Rfault_9 Pst Pce Pgi Pln PgivenC)) hE hT hP hD hS hA [0, 6, 7] (by decide) rfl rfl 0 3 rfl rfl rfl) rfl rfl hl.1 rfl (lv_room (Nat.le_of_ble_eq_true rfl)) dX3_tellInput_41 ⟨hRc.1, hRc.2⟩) (fun r_12 u_11 H locs hw hP hD hS => ?_)
    try dsimp -zeta only at hw
    have hP : va_P D vwCl (wW_X3_tellInput ak ad hr_ ra ht ta pg pa Rcoded Rtaken_3 Rtoken_4 Rplace_5 Rvalue_6 Rfault_9 Rcn Tlen Tcnt Ttoks Tplc Tvals Pst Pce Pgi Pln PgivenC Pleast Pgreat) H := hP.sub [7, 0, 1, 2, 3, 4, 8, 9, 5, 6] rfl
    have hD : va_D A (wW_X3_tellInput ak ad hr_ ra ht ta pg pa Rcoded Rtaken_3 Rtoken_4 Rplace_5 Rvalue_6 Rfault_9 Rcn Tlen Tcnt Ttoks Tplc Tvals Pst Pce Pgi Pln PgivenC Pleast Pgreat) := hD.sub [7, 0, 1, 2, 3, 4, 8, 9, 5, 6] (by decide) rfl
    refine lv_if_eq (tgt := 52) hx hb dX3_tellInput_44 (by decide) (fun c_13 => ?_) (fun c_13 => ?_)
    · replace hw := hw.1 c_13
      exact kj_X3_tellInput_52 hx hb hown hts hml hE hT hA hRf hRl hRc hr_ ra ht ta pg pa Rcoded Rcn Tlen Tcnt Ttoks Tplc Tvals Pst Pce Pln  Φ  kR18 kR144 Rtaken_3 Rtoken_4 Rplace_5 Rvalue_6 Rfault_9 Pgi PgivenC Pleast Pgreat Pgi r_10 _ _ _ hw hP hD hS (lv_sub hl [2, 1, 0] rfl)
    · replace hw := hw.2 c_13
      refine lv_aload_n hx hb dX3_tellInput_47 rfl (lv_at hl 2 rfl) ?_
      refine lv_iconst (v := 3) hx hb dX3_tellInput_48 (by decide) ?_
      refine kc_v (wc := (wW_X3_fail ak ad hr_ ra ht pg Rcoded Rtaken_3 Rtoken_4 Rplace_5 Rvalue_6 Rfault_9)) (wr := [((ra 1), .inl (ak 1, 6, .inr (.inl (Rcn)))), (ht, .inr (5, tob ta (Tlen) (Tcnt))), ((ta 1), .inl (ak 4, 1001, .inr (.inr (.inr (.inr (tokA ad (Ttoks))))))), ((ta 2), .inl (ak 0, 1001, .inl (Tplc))), ((ta 3), .inl (ak 1, 1001, .inr (.inl (Tvals)))), (pg, .inr (2, pob pa (Pst) (Pce) (Pgi) (Pln))), ((pa 3), .inl (ak 0, 2, .inl (PgivenC))), ((pa 4), .inl (ak 0, 2, .inl (Pleast))), ((pa 5), .inl (ak 0, 2, .inl (Pgreat)))]) hP hD hS hA [0] [1, 2, 3, 4, 5, 6, 7, 8, 9] rfl rfl (by decide) (by decide) (va_runV (As := [.int (3)]) (rest := []) ⟨hx, hb, hml, hown, hts⟩ (c_X3_fail l D ak ad _ hr_ ra ht pg Rcoded Rtaken_3 Rtoken_4 Rplace_5 Rvalue_6 Rfault_9 3 _ hw) (cwV 1 hts gX3_tellInput_X3_fail rfl rfl rfl (by decide +kernel) ⟨(Nat.le_trans (Nat.le_of_ble_eq_true rfl) hRf), (Nat.le_trans (Nat.le_of_ble_eq_true rfl) hRl)⟩) (kc_preV (As := [.int (3)]) (wc := (wW_X3_fail ak ad hr_ ra ht pg Rcoded Rtaken_3 Rtoken_4 Rplace_5 Rvalue_6 Rfault_9)) hE hT hP hD hS hA [0] (by decide) rfl rfl 0 3 rfl rfl rfl) rfl rfl hl.1 rfl (lv_room (Nat.le_of_ble_eq_true rfl)) dX3_tellInput_49 ⟨hRc.1, hRc.2⟩) (fun Rfault_46 H locs hw hP hD hS => ?_)
      try dsimp -zeta only at hw
      have hP : va_P D vwCl (wW_X3_tellInput ak ad hr_ ra ht ta pg pa Rcoded Rtaken_3 Rtoken_4 Rplace_5 Rvalue_6 Rfault_46 Rcn Tlen Tcnt Ttoks Tplc Tvals Pst Pce Pgi Pln PgivenC Pleast Pgreat) H := hP.sub [9, 0, 1, 2, 3, 4, 5, 6, 7, 8] rfl
      have hD : va_D A (wW_X3_tellInput ak ad hr_ ra ht ta pg pa Rcoded Rtaken_3 Rtoken_4 Rplace_5 Rvalue_6 Rfault_46 Rcn Tlen Tcnt Ttoks Tplc Tvals Pst Pce Pgi Pln PgivenC Pleast Pgreat) := hD.sub [9, 0, 1, 2, 3, 4, 5, 6, 7, 8] (by decide) rfl
      exact kj_X3_tellInput_52 hx hb hown hts hml hE hT hA hRf hRl hRc hr_ ra ht ta pg pa Rcoded Rcn Tlen Tcnt Ttoks Tplc Tvals Pst Pce Pln  Φ  kR18 kR144 Rtaken_3 Rtoken_4 Rplace_5 Rvalue_6 Rfault_46 Pgi PgivenC Pleast Pgreat Pgi r_10 _ _ _ hw hP hD hS (lv_sub hl [2, 1, 0] rfl)
  · replace hw := hw.2 c_1
    refine lv_aload_n hx hb dX3_tellInput_13 rfl (lv_at hl 1 rfl) ?_
    refine lv_iconst (v := 5) hx hb dX3_tellInput_14 (by decide) ?_
    refine kc_v (wc := (wW_X3_fail ak ad hr_ ra ht pg Rcoded Rtaken Rtoken Rplace Rvalue Rfault)) (wr := [((ra 1), .inl (ak 1, 6, .inr (.inl (Rcn)))), (ht, .inr (5, tob ta (Tlen) (Tcnt))), ((ta 1), .inl (ak 4, 1001, .inr (.inr (.inr (.inr (tokA ad (Ttoks))))))), ((ta 2), .inl (ak 0, 1001, .inl (Tplc))), ((ta 3), .inl (ak 1, 1001, .inr (.inl (Tvals)))), (pg, .inr (2, pob pa (Pst) (Pce) (Pgi) (Pln))), ((pa 3), .inl (ak 0, 2, .inl (PgivenC))), ((pa 4), .inl (ak 0, 2, .inl (Pleast))), ((pa 5), .inl (ak 0, 2, .inl (Pgreat)))]) hP hD hS hA [0] [1, 2, 3, 4, 5, 6, 7, 8, 9] rfl rfl (by decide) (by decide) (va_runV (As := [.int (5)]) (rest := []) ⟨hx, hb, hml, hown, hts⟩ (c_X3_fail l D ak ad _ hr_ ra ht pg Rcoded Rtaken Rtoken Rplace Rvalue Rfault 5 _ hw) (cwV 1 hts gX3_tellInput_X3_fail rfl rfl rfl (by decide +kernel) ⟨(Nat.le_trans (Nat.le_of_ble_eq_true rfl) hRf), (Nat.le_trans (Nat.le_of_ble_eq_true rfl) hRl)⟩) (kc_preV (As := [.int (5)]) (wc := (wW_X3_fail ak ad hr_ ra ht pg Rcoded Rtaken Rtoken Rplace Rvalue Rfault)) hE hT hP hD hS hA [0] (by decide) rfl rfl 0 3 rfl rfl rfl) rfl rfl hl.1 rfl (lv_room (Nat.le_of_ble_eq_true rfl)) dX3_tellInput_15 ⟨hRc.1, hRc.2⟩) (fun Rfault_49 H locs hw hP hD hS => ?_)
    try dsimp -zeta only at hw
    have hP : va_P D vwCl (wW_X3_tellInput ak ad hr_ ra ht ta pg pa Rcoded Rtaken Rtoken Rplace Rvalue Rfault_49 Rcn Tlen Tcnt Ttoks Tplc Tvals Pst Pce Pgi Pln PgivenC Pleast Pgreat) H := hP.sub [9, 0, 1, 2, 3, 4, 5, 6, 7, 8] rfl
    have hD : va_D A (wW_X3_tellInput ak ad hr_ ra ht ta pg pa Rcoded Rtaken Rtoken Rplace Rvalue Rfault_49 Rcn Tlen Tcnt Ttoks Tplc Tvals Pst Pce Pgi Pln PgivenC Pleast Pgreat) := hD.sub [9, 0, 1, 2, 3, 4, 5, 6, 7, 8] (by decide) rfl
    exact kR18 Rtaken Rtoken Rplace Rvalue Rfault_49 Pgi PgivenC Pleast Pgreat _ _ _ hw hP hD hS
set_option maxHeartbeats 4000000 in
set_option maxRecDepth 100000 in
theorem c_X3_tellInput (l : Launch) (D : va_G) (ak : Nat → ClassId) (ad : Nat → Nat) (sz : Nat) (hr_ : Nat) (ra : Nat → Nat) (ht : Nat) (ta : Nat → Nat) (pg : Nat) (pa : Nat → Nat) (Rcoded : Int32) (Rtaken : Int32) (Rtoken : Nat) (Rplace : Int32) (Rvalue : Int64) (Rfault : Int32) (Rcn : Nat → Int64) (Tlen : Int32) (Tcnt : Int32) (Ttoks : Nat → Nat) (Tplc : Nat → Int32) (Tvals : Nat → Int64) (Pst : Int32) (Pce : Int32) (Pgi : Int32) (Pln : Int32) (PgivenC : Nat → Int32) (Pleast : Nat → Int32) (Pgreat : Nat → Int32) (Φ : Int32 → Nat → Int32 → Int64 → Int32 → Int32 → (Nat → Int32) → (Nat → Int32) → (Nat → Int32) → Prop) (hf : wp_X3_tellInput Rcn Tcnt Ttoks Tplc Tvals Pce Rtaken Rtoken Rplace Rvalue Rfault Pgi PgivenC Pleast Pgreat Φ) : Met l yX3_tellInput wsX3_tellInput ({ frames := 3, cells := 0, slots := 0, locals := 66 }) (cPre D ak ad [.ref hr_] ((wW_X3_tellInput ak ad hr_ ra ht ta pg pa Rcoded Rtaken Rtoken Rplace Rvalue Rfault Rcn Tlen Tcnt Ttoks Tplc Tvals Pst Pce Pgi Pln PgivenC Pleast Pgreat)) sz) (cV D (S := (Int32) × (Nat) × (Int32) × (Int64) × (Int32) × (Int32) × (Nat → Int32) × (Nat → Int32) × (Nat → Int32)) (fun (u : (Int32) × (Nat) × (Int32) × (Int64) × (Int32) × (Int32) × (Nat → Int32) × (Nat → Int32) × (Nat → Int32)) => Φ u.1 u.2.1 u.2.2.1 u.2.2.2.1 u.2.2.2.2.1 u.2.2.2.2.2.1 u.2.2.2.2.2.2.1 u.2.2.2.2.2.2.2.1 u.2.2.2.2.2.2.2.2) (fun u => (wW_X3_tellInput ak ad hr_ ra ht ta pg pa Rcoded u.1 u.2.1 u.2.2.1 u.2.2.2.1 u.2.2.2.2.1 Rcn Tlen Tcnt Ttoks Tplc Tvals Pst Pce u.2.2.2.2.2.1 Pln u.2.2.2.2.2.2.1 u.2.2.2.2.2.2.2.1 u.2.2.2.2.2.2.2.2)) ((wW_X3_tellInput ak ad hr_ ra ht ta pg pa Rcoded Rtaken Rtoken Rplace Rvalue Rfault Rcn Tlen Tcnt Ttoks Tplc Tvals Pst Pce Pgi Pln PgivenC Pleast Pgreat)) sz) 0 0 (va_A ((wW_X3_tellInput ak ad hr_ ra ht ta pg pa Rcoded Rtaken Rtoken Rplace Rvalue Rfault Rcn Tlen Tcnt Ttoks Tplc Tvals Pst Pce Pgi Pln PgivenC Pleast Pgreat)) sz) := by
  refine Met.ofW (cc := cX3_tellInput) (maxL := 5) (ret := none) (by decide) rfl ?_
  intro p e s m args below meth c s₁ B hml hv
  obtain ⟨rfl, hsz, hP, hE, hD0, hT⟩ := hv
  have hx := B.exec
  have hb := B.bytes
  have hr := B.returns
  have hts := atoms_spec (ws := wsX3_tellInput) B.pre
  have hown : s.vm.findClass RX3 = some m.cls := findClass_of_methodNamed B.named
  have hlocks := B.notSynchronized
  subst hsz
  have hD := hD0.self (sz := s.heap.size)
  generalize hAe : va_A ((wW_X3_tellInput ak ad hr_ ra ht ta pg pa Rcoded Rtaken Rtoken Rplace Rvalue Rfault Rcn Tlen Tcnt Ttoks Tplc Tvals Pst Pce Pgi Pln PgivenC Pleast Pgreat)) s.heap.size = A at hD hT ⊢
  have hA : ∀ q : Nat, s.heap.size ≤ q → A q := fun q h => by rw [← hAe]; exact Or.inr h
  have hS : va_S A s.heap s.heap [] := va_S.rf
  have hl := lv_entry ([.ref hr_]) (n := 5) (Nat.le_of_ble_eq_true rfl)
  rw [lg_entry_eq]
  generalize (lg_sl ([.ref hr_]) ++ List.replicate (5 - (lg_sl ([.ref hr_])).length) Slot.unset).toArray = ls at hl ⊢
  have hl : lv_has ls 5 [(0, .ref hr_)] := hl
  exact kj_X3_tellInput_e hx hb hown hts hml hE hT hA (Nat.le_of_ble_eq_true rfl) (Nat.le_of_ble_eq_true rfl) ⟨Nat.le_of_ble_eq_true rfl, Nat.le_of_ble_eq_true rfl⟩ hr_ ra ht ta pg pa Rcoded Rcn Tlen Tcnt Ttoks Tplc Tvals Pst Pce Pln Φ (fun Rtaken Rtoken Rplace Rvalue Rfault Pgi PgivenC Pleast Pgreat H locs ls hw hP hD hS => W.vret hx hb hr (fun t ht hW => ⟨⟨(Rtaken, Rtoken, Rplace, Rvalue, Rfault, Pgi, PgivenC, Pleast, Pgreat), rfl, hw, by rw [ht]; exact hP, by rw [hAe]; exact hD⟩, by rw [hAe]; exact hS.F ht⟩) hS.2.2 dX3_tellInput_18) (fun Rtaken Rtoken Rplace Rvalue Rfault Pgi PgivenC Pleast Pgreat H locs ls hw hP hD hS => W.vret hx hb hr (fun t ht hW => ⟨⟨(Rtaken, Rtoken, Rplace, Rvalue, Rfault, Pgi, PgivenC, Pleast, Pgreat), rfl, hw, by rw [ht]; exact hP, by rw [hAe]; exact hD⟩, by rw [hAe]; exact hS.F ht⟩) hS.2.2 dX3_tellInput_144) Rtaken Rtoken Rplace Rvalue Rfault Pgi PgivenC Pleast Pgreat _ _ _ hf hP hD hS hl
