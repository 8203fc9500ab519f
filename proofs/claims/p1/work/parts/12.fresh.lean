theorem dX7_steps_0 : decode cX7_steps 0 = .ok (.aload_n 0, 1) := by decide +kernel
theorem dX7_steps_1 : decode cX7_steps 1 = .ok (.iload_n 1, 1) := by decide +kernel
set_option maxRecDepth 20000 in
theorem ggX7_steps_X7_canWalk : GoodIn wsX7_steps wsX7_canWalk := goodIn_r _ [8, 2, 9, 10, 11, 12, 13, 14, 15, 16, 17, 18, 19, 20, 21, 22, 23, 24, 25, 26, 27, 28, 7, 29, 126, 127, 128, 129, 130, 131, 132, 133, 134, 135, 136, 137, 138, 139, 140, 141, 142, 143, 144, 145, 146, 147, 148, 149, 150, 151, 152, 153, 154, 155, 156, 157, 158, 159, 160, 161, 162, 163, 164] (by decide +kernel) (by decide +kernel)
set_option maxRecDepth 20000 in
theorem gX7_steps_X7_canWalk : GoodIn wsX7_steps (wsV RX7 135 RX7 yX7_canWalk wsX7_canWalk) := goodIn_app (goodIn_of _ (by decide +kernel)) ggX7_steps_X7_canWalk
theorem dX7_steps_2 : decode cX7_steps 2 = .ok (.invokevirtual 135, 3) := by decide +kernel
theorem dX7_steps_5 : decode cX7_steps 5 = .ok (.ifCond .ne 5, 3) := by decide +kernel
theorem dX7_steps_8 : decode cX7_steps 8 = .ok (.iconst (-1), 1) := by decide +kernel
theorem dX7_steps_9 : decode cX7_steps 9 = .ok (.ireturn, 1) := by decide +kernel
theorem dX7_falls_0 : decode cX7_falls 0 = .ok (.aload_n 0, 1) := by decide +kernel
theorem dX7_falls_1 : decode cX7_falls 1 = .ok (.iload_n 1, 1) := by decide +kernel
set_option maxRecDepth 20000 in
theorem ggX7_falls_X7_canWalk : GoodIn wsX7_falls wsX7_canWalk := goodIn_r _ [9, 2, 10, 11, 12, 13, 14, 15, 16, 17, 18, 19, 20, 21, 22, 23, 24, 25, 26, 27, 28, 29, 8, 30, 123, 124, 125, 126, 127, 128, 129, 130, 131, 132, 133, 134, 135, 136, 137, 138, 139, 140, 141, 142, 143, 144, 145, 146, 147, 148, 149, 150, 151, 152, 153, 154, 155, 156, 157, 158, 159, 160, 161] (by decide +kernel) (by decide +kernel)
set_option maxRecDepth 20000 in
theorem gX7_falls_X7_canWalk : GoodIn wsX7_falls (wsV RX7 135 RX7 yX7_canWalk wsX7_canWalk) := goodIn_app (goodIn_of _ (by decide +kernel)) ggX7_falls_X7_canWalk
theorem dX7_falls_2 : decode cX7_falls 2 = .ok (.invokevirtual 135, 3) := by decide +kernel
theorem dX7_falls_5 : decode cX7_falls 5 = .ok (.ifCond .ne 5, 3) := by decide +kernel
theorem dX7_falls_8 : decode cX7_falls 8 = .ok (.iconst (-1), 1) := by decide +kernel
theorem dX7_falls_9 : decode cX7_falls 9 = .ok (.ireturn, 1) := by decide +kernel
theorem dX7_most_0 : decode cX7_most 0 = .ok (.iload_n 1, 1) := by decide +kernel
theorem dX7_most_1 : decode cX7_most 1 = .ok (.aload_n 0, 1) := by decide +kernel
theorem dX7_most_2 : decode cX7_most 2 = .ok (.getfield 37, 3) := by decide +kernel
theorem dX7_most_5 : decode cX7_most 5 = .ok (.getfield 89, 3) := by decide +kernel
theorem dX7_most_8 : decode cX7_most 8 = .ok (.getfield 106, 3) := by decide +kernel
set_option maxRecDepth 20000 in
theorem ggX7_most_X7_within : GoodIn wsX7_most wsX7_within := goodIn_r _ [11] (by decide +kernel) (by decide +kernel)
set_option maxRecDepth 20000 in
theorem gX7_most_X7_within : GoodIn wsX7_most (va_wsS RX7 95 yX7_within wsX7_within) := goodIn_app (goodIn_of _ (by decide +kernel)) ggX7_most_X7_within
theorem dX7_most_11 : decode cX7_most 11 = .ok (.invokestatic 95, 3) := by decide +kernel
theorem dX7_most_14 : decode cX7_most 14 = .ok (.ifCond .eq 10, 3) := by decide +kernel
theorem dX7_most_24 : decode cX7_most 24 = .ok (.iconst (-1), 1) := by decide +kernel
theorem dX7_most_25 : decode cX7_most 25 = .ok (.ireturn, 1) := by decide +kernel
theorem dX7_surveyed_0 : decode cX7_surveyed 0 = .ok (.aload_n 0, 1) := by decide +kernel
theorem dX7_surveyed_1 : decode cX7_surveyed 1 = .ok (.getfield 37, 3) := by decide +kernel
theorem dX7_surveyed_4 : decode cX7_surveyed 4 = .ok (.getfield 89, 3) := by decide +kernel
theorem dX7_surveyed_7 : decode cX7_surveyed 7 = .ok (.getfield 106, 3) := by decide +kernel
theorem dX7_surveyed_10 : decode cX7_surveyed 10 = .ok (.ifCond .ne 5, 3) := by decide +kernel
theorem dX7_surveyed_13 : decode cX7_surveyed 13 = .ok (.iconst 0, 1) := by decide +kernel
theorem dX7_surveyed_14 : decode cX7_surveyed 14 = .ok (.ireturn, 1) := by decide +kernel
theorem dX7_never_0 : decode cX7_never 0 = .ok (.aload_n 0, 1) := by decide +kernel
set_option maxRecDepth 20000 in
theorem ggX7_never_X7_surveyed : GoodIn wsX7_never wsX7_surveyed := goodIn_r _ [10, 1, 2, 3, 4, 11, 12, 13, 14, 15, 16, 17, 18, 19, 20, 21, 22, 23, 24, 25, 26, 27, 28, 29, 30, 31, 32, 33, 34, 35, 36, 37, 38, 39, 40, 41, 42, 43, 44, 45, 46, 47, 48, 49, 50, 51, 52, 53, 54, 55, 56, 57, 58, 59, 60, 61, 62, 63, 64, 65, 66, 67, 68, 69, 70, 71, 72, 73, 74, 75, 76, 77, 78, 79, 80, 81, 82, 83, 84, 85, 86, 87, 9, 88, 89, 90, 91, 92, 93, 94, 95, 96, 97, 98, 99, 100, 101, 102, 103, 104, 105, 106, 107, 108, 109, 110, 111, 112, 113, 114, 115, 116, 117, 118, 119, 120, 121, 122, 123, 124, 125, 126, 127, 128, 129, 130, 131, 132, 133, 134, 135, 136, 137, 138, 139, 140, 141, 142, 143, 144, 145, 146, 147, 148, 149, 150, 151, 152, 153, 154, 155, 156, 157, 158, 159, 160, 161, 162, 163, 164, 165, 166, 167, 168, 169, 170, 171, 172, 173, 174, 175, 176, 177, 178, 179, 180, 181, 182, 183, 184, 185, 186, 187, 188, 189, 190, 191, 192, 193, 194, 195, 196, 197, 198, 199, 200, 201, 202, 203, 204, 205, 206, 207, 208, 209, 210, 211, 212, 213] (by decide +kernel) (by decide +kernel)
set_option maxRecDepth 20000 in
theorem gX7_never_X7_surveyed : GoodIn wsX7_never (wsV RX7 192 RX7 yX7_surveyed wsX7_surveyed) := goodIn_app (goodIn_of _ (by decide +kernel)) ggX7_never_X7_surveyed
theorem dX7_never_1 : decode cX7_never 1 = .ok (.invokevirtual 192, 3) := by decide +kernel
theorem dX7_never_4 : decode cX7_never 4 = .ok (.ifCond .ne 5, 3) := by decide +kernel
theorem dX7_never_7 : decode cX7_never 7 = .ok (.iconst (-1), 1) := by decide +kernel
theorem dX7_never_8 : decode cX7_never 8 = .ok (.ireturn, 1) := by decide +kernel
theorem dX7_firstToFall_0 : decode cX7_firstToFall 0 = .ok (.aload_n 0, 1) := by decide +kernel
theorem dX7_firstToFall_1 : decode cX7_firstToFall 1 = .ok (.getfield 37, 3) := by decide +kernel
theorem dX7_firstToFall_4 : decode cX7_firstToFall 4 = .ok (.getfield 89, 3) := by decide +kernel
theorem dX7_firstToFall_7 : decode cX7_firstToFall 7 = .ok (.getfield 106, 3) := by decide +kernel
theorem dX7_firstToFall_10 : decode cX7_firstToFall 10 = .ok (.ifCond .ne 5, 3) := by decide +kernel
theorem dX7_firstToFall_13 : decode cX7_firstToFall 13 = .ok (.iconst (-1), 1) := by decide +kernel
theorem dX7_firstToFall_14 : decode cX7_firstToFall 14 = .ok (.ireturn, 1) := by decide +kernel
theorem dX7_first_0 : decode cX7_first 0 = .ok (.aload_n 0, 1) := by decide +kernel
set_option maxRecDepth 20000 in
theorem ggX7_first_X7_firstToFall : GoodIn wsX7_first wsX7_firstToFall := goodIn_r _ [9, 2, 10, 11, 1, 12, 3, 13, 14, 15, 16, 17, 18, 19, 20, 21, 22, 23, 24, 25, 26, 27, 28, 29, 30, 8, 31, 32, 33, 34, 35, 36, 37, 38, 39, 40, 41, 42, 43, 44, 45, 46, 47, 48, 49, 50, 51, 52, 53, 54, 55, 56, 57, 58, 59, 60, 61, 62, 63, 64, 65, 66, 67, 68, 69, 70, 71, 72, 73, 74, 75, 76, 77, 78, 79, 80, 81, 82, 83, 84, 85, 86, 87, 88, 89, 90, 91, 92, 93, 94, 95, 96, 97, 98, 99, 100, 101, 102, 103, 104, 105, 106, 107, 108, 109, 110, 111, 112, 113, 114, 115, 116, 117, 118, 119, 120, 121, 122, 123, 124, 125, 126, 127, 128, 129, 130, 131, 132, 133, 134, 135, 136, 137, 138, 139, 140, 141, 142, 143, 144, 145, 146, 147, 148, 149, 150, 151, 152, 153, 154, 155, 156, 157, 158, 159, 160, 161] (by decide +kernel) (by decide +kernel)
set_option maxRecDepth 20000 in
theorem gX7_first_X7_firstToFall : GoodIn wsX7_first (wsV RX7 204 RX7 yX7_firstToFall wsX7_firstToFall) := goodIn_app (goodIn_of _ (by decide +kernel)) ggX7_first_X7_firstToFall
theorem dX7_first_1 : decode cX7_first 1 = .ok (.invokevirtual 204, 3) := by decide +kernel
theorem dX7_first_4 : decode cX7_first 4 = .ok (.istore_n 2, 1) := by decide +kernel
theorem dX7_first_5 : decode cX7_first 5 = .ok (.iload_n 2, 1) := by decide +kernel
theorem dX7_first_6 : decode cX7_first 6 = .ok (.iconst (-1), 1) := by decide +kernel
theorem dX7_first_7 : decode cX7_first 7 = .ok (.if_icmp .ne 5, 3) := by decide +kernel
theorem dX7_first_10 : decode cX7_first 10 = .ok (.iconst (-1), 1) := by decide +kernel
theorem dX7_first_11 : decode cX7_first 11 = .ok (.ireturn, 1) := by decide +kernel
theorem dX7_apart_0 : decode cX7_apart 0 = .ok (.aload_n 0, 1) := by decide +kernel
theorem dX7_apart_1 : decode cX7_apart 1 = .ok (.getfield 37, 3) := by decide +kernel
theorem dX7_apart_4 : decode cX7_apart 4 = .ok (.getfield 89, 3) := by decide +kernel
theorem dX7_apart_7 : decode cX7_apart 7 = .ok (.getfield 106, 3) := by decide +kernel
theorem dX7_apart_10 : decode cX7_apart 10 = .ok (.ifCond .ne 5, 3) := by decide +kernel
theorem dX7_apart_13 : decode cX7_apart 13 = .ok (.iconst (-1), 1) := by decide +kernel
theorem dX7_apart_14 : decode cX7_apart 14 = .ok (.ireturn, 1) := by decide +kernel
theorem dX7_rounds_0 : decode cX7_rounds 0 = .ok (.aload_n 0, 1) := by decide +kernel
theorem dX7_rounds_1 : decode cX7_rounds 1 = .ok (.iload_n 1, 1) := by decide +kernel
set_option maxRecDepth 20000 in
theorem ggX7_rounds_X7_canWalk : GoodIn wsX7_rounds wsX7_canWalk := goodIn_r _ [9, 2, 10, 11, 12, 13, 14, 15, 16, 17, 18, 19, 20, 21, 22, 23, 24, 25, 26, 27, 28, 29, 8, 30, 118, 119, 120, 121, 122, 123, 124, 125, 126, 127, 128, 129, 130, 131, 132, 133, 134, 135, 136, 137, 138, 139, 140, 141, 142, 143, 144, 145, 146, 147, 148, 149, 150, 151, 152, 153, 154, 155, 156] (by decide +kernel) (by decide +kernel)
set_option maxRecDepth 20000 in
theorem gX7_rounds_X7_canWalk : GoodIn wsX7_rounds (wsV RX7 135 RX7 yX7_canWalk wsX7_canWalk) := goodIn_app (goodIn_of _ (by decide +kernel)) ggX7_rounds_X7_canWalk
theorem dX7_rounds_2 : decode cX7_rounds 2 = .ok (.invokevirtual 135, 3) := by decide +kernel
theorem dX7_rounds_5 : decode cX7_rounds 5 = .ok (.ifCond .ne 5, 3) := by decide +kernel
theorem dX7_rounds_8 : decode cX7_rounds 8 = .ok (.iconst (-1), 1) := by decide +kernel
theorem dX7_rounds_9 : decode cX7_rounds 9 = .ok (.ireturn, 1) := by decide +kernel
theorem dX7_canLast_0 : decode cX7_canLast 0 = .ok (.iload_n 1, 1) := by decide +kernel
theorem dX7_canLast_1 : decode cX7_canLast 1 = .ok (.iconst 1, 1) := by decide +kernel
theorem dX7_canLast_2 : decode cX7_canLast 2 = .ok (.if_icmp .lt 32, 3) := by decide +kernel
theorem dX7_canLast_34 : decode cX7_canLast 34 = .ok (.iconst 0, 1) := by decide +kernel
theorem dX7_canLast_35 : decode cX7_canLast 35 = .ok (.ireturn, 1) := by decide +kernel
theorem dX7_canLast_5 : decode cX7_canLast 5 = .ok (.iload_n 1, 1) := by decide +kernel
theorem dX7_canLast_6 : decode cX7_canLast 6 = .ok (.bipush 64, 2) := by decide +kernel
theorem dX7_canLast_8 : decode cX7_canLast 8 = .ok (.if_icmp .gt 26, 3) := by decide +kernel
theorem dX7_canLast_11 : decode cX7_canLast 11 = .ok (.aload_n 0, 1) := by decide +kernel
set_option maxRecDepth 20000 in
theorem ggX7_canLast_X7_surveyed : GoodIn wsX7_canLast wsX7_surveyed := goodIn_r _ [6, 7, 8, 9, 10, 11, 12, 13, 1, 14, 15, 16, 17, 18, 19, 20, 21, 22, 23, 24, 25, 26, 27, 28, 29, 30, 31, 32, 33, 34, 35, 36, 37, 38, 39, 40, 41, 42, 43, 44, 45, 46, 47, 48, 49, 50, 51, 52, 53, 54, 55, 56, 57, 58, 59, 60, 61, 62, 63, 64, 65, 66, 67, 68, 69, 70, 71, 72, 73, 74, 75, 76, 77, 78, 79, 80, 81, 82, 83, 84, 85, 86, 5, 87, 88, 89, 90, 91, 92, 93, 94, 95, 96, 97, 98, 99, 100, 101, 102, 103, 104, 105, 106, 107, 108, 109, 110, 111, 112, 113, 114, 115, 116, 117, 118, 119, 120, 121, 122, 123, 124, 125, 126, 127, 128, 129, 130, 131, 132, 133, 134, 135, 136, 137, 138, 139, 140, 141, 142, 143, 144, 145, 146, 147, 148, 149, 150, 151, 152, 153, 154, 155, 156, 157, 158, 159, 160, 161, 162, 167, 168, 169, 170, 171, 172, 173, 174, 175, 176, 177, 178, 179, 180, 181, 182, 183, 184, 185, 186, 187, 188, 189, 190, 191, 192, 193, 194, 195, 196, 197, 198, 199, 200, 201, 202, 203, 204, 205, 206, 207, 208, 209, 210, 211, 212, 213, 214, 215, 216] (by decide +kernel) (by decide +kernel)
set_option maxRecDepth 20000 in
theorem gX7_canLast_X7_surveyed : GoodIn wsX7_canLast (wsV RX7 192 RX7 yX7_surveyed wsX7_surveyed) := goodIn_app (goodIn_of _ (by decide +kernel)) ggX7_canLast_X7_surveyed
theorem dX7_canLast_12 : decode cX7_canLast 12 = .ok (.invokevirtual 192, 3) := by decide +kernel
theorem dX7_canLast_15 : decode cX7_canLast 15 = .ok (.ifCond .eq 19, 3) := by decide +kernel
theorem dX7_lasting_0 : decode cX7_lasting 0 = .ok (.aload_n 0, 1) := by decide +kernel
theorem dX7_lasting_1 : decode cX7_lasting 1 = .ok (.iload_n 1, 1) := by decide +kernel
set_option maxRecDepth 20000 in
theorem ggX7_lasting_X7_canLast : GoodIn wsX7_lasting wsX7_canLast := goodIn_r _ [6, 1, 7, 8, 9, 5, 10, 11, 12, 13, 14, 15, 16, 17, 18, 19, 20, 21, 22, 23, 24, 25, 26, 27, 28, 29, 30, 31, 32, 33, 34, 35, 36, 37, 38, 39, 40, 41, 42, 43, 44, 45, 46, 47, 48, 49, 50, 51, 52, 53, 54, 55, 56, 57, 58, 59, 60, 61, 62, 63, 64, 65, 66, 67, 68, 69, 70, 71, 72, 73, 74, 75, 76, 77, 78, 79, 80, 81, 82, 83, 84, 85, 86, 87, 88, 89, 90, 91, 92, 93, 94, 95, 96, 97, 98, 99, 100, 101, 102, 103, 104, 105, 106, 107, 108, 109, 110, 111, 112, 113, 114, 115, 116, 117, 118, 119, 120, 121, 122, 123, 124, 125, 126, 127, 128, 129, 130, 131, 132, 133, 134, 135, 136, 137, 138, 139, 140, 141, 142, 143, 144, 145, 146, 147, 148, 149, 150, 151, 152, 153, 154, 155, 156, 157, 158, 159, 160, 161, 162, 163, 164, 165, 166, 167, 168, 169, 170, 171, 172, 173, 174, 175, 176, 177, 178, 179, 180, 181, 182, 183, 184, 185, 186, 187, 188, 189, 190, 191, 192, 193, 194, 195, 196, 197, 198, 199, 200, 201, 202, 203, 204, 205, 206, 207, 208, 209, 210, 211, 212, 213, 214, 215, 216, 217, 218, 219, 220] (by decide +kernel) (by decide +kernel)
set_option maxRecDepth 20000 in
theorem gX7_lasting_X7_canLast : GoodIn wsX7_lasting (wsV RX7 218 RX7 yX7_canLast wsX7_canLast) := goodIn_app (goodIn_of _ (by decide +kernel)) ggX7_lasting_X7_canLast
theorem dX7_lasting_2 : decode cX7_lasting 2 = .ok (.invokevirtual 218, 3) := by decide +kernel
theorem dX7_lasting_5 : decode cX7_lasting 5 = .ok (.ifCond .eq 14, 3) := by decide +kernel
theorem dX7_lasting_19 : decode cX7_lasting 19 = .ok (.iconst (-1), 1) := by decide +kernel
theorem dX7_lasting_20 : decode cX7_lasting 20 = .ok (.ireturn, 1) := by decide +kernel
theorem dX7_lasts_0 : decode cX7_lasts 0 = .ok (.aload_n 0, 1) := by decide +kernel
theorem dX7_lasts_1 : decode cX7_lasts 1 = .ok (.iload_n 1, 1) := by decide +kernel
set_option maxRecDepth 20000 in
theorem ggX7_lasts_X7_canLast : GoodIn wsX7_lasts wsX7_canLast := goodIn_r _ [11, 4, 12, 13, 14, 10, 15, 1, 2, 3, 16, 17, 18, 19, 20, 21, 22, 23, 24, 25, 26, 27, 28, 29, 30, 31, 32, 33, 34, 35, 36, 37, 38, 39, 40, 41, 42, 43, 44, 45, 46, 47, 48, 49, 50, 51, 52, 53, 54, 55, 56, 57, 58, 59, 60, 61, 62, 63, 64, 65, 66, 67, 68, 69, 70, 71, 72, 73, 74, 75, 76, 77, 78, 79, 80, 81, 82, 83, 84, 85, 86, 87, 88, 89, 90, 91, 92, 93, 94, 95, 96, 97, 98, 99, 100, 101, 102, 103, 104, 105, 106, 107, 108, 109, 110, 111, 112, 113, 114, 115, 116, 117, 118, 119, 120, 121, 122, 123, 124, 125, 126, 127, 128, 129, 130, 131, 132, 133, 134, 135, 136, 137, 138, 139, 140, 141, 142, 143, 144, 145, 146, 147, 148, 149, 150, 151, 152, 153, 154, 155, 156, 157, 158, 159, 160, 161, 162, 163, 164, 165, 166, 167, 168, 169, 170, 171, 172, 178, 179, 180, 181, 182, 183, 184, 185, 186, 187, 188, 189, 190, 191, 192, 193, 194, 195, 196, 197, 198, 199, 200, 201, 202, 203, 204, 205, 206, 207, 208, 209, 210, 211, 212, 213, 214, 215, 216, 222, 223, 224, 225, 226, 227, 217, 218, 219, 220, 221] (by decide +kernel) (by decide +kernel)
set_option maxRecDepth 20000 in
theorem gX7_lasts_X7_canLast : GoodIn wsX7_lasts (wsV RX7 218 RX7 yX7_canLast wsX7_canLast) := goodIn_app (goodIn_of _ (by decide +kernel)) ggX7_lasts_X7_canLast
theorem dX7_lasts_2 : decode cX7_lasts 2 = .ok (.invokevirtual 218, 3) := by decide +kernel
theorem dX7_lasts_5 : decode cX7_lasts 5 = .ok (.ifCond .eq 20, 3) := by decide +kernel
theorem dX7_lasts_25 : decode cX7_lasts 25 = .ok (.iconst (-1), 1) := by decide +kernel
theorem dX7_lasts_26 : decode cX7_lasts 26 = .ok (.ireturn, 1) := by decide +kernel
theorem dX7_better_0 : decode cX7_better 0 = .ok (.aload_n 0, 1) := by decide +kernel
theorem dX7_better_1 : decode cX7_better 1 = .ok (.getfield 37, 3) := by decide +kernel
theorem dX7_better_4 : decode cX7_better 4 = .ok (.getfield 155, 3) := by decide +kernel
theorem dX7_better_7 : decode cX7_better 7 = .ok (.iconst 1, 1) := by decide +kernel
theorem dX7_better_8 : decode cX7_better 8 = .ok (.if_icmp .eq 16, 3) := by decide +kernel
theorem dX7_better_11 : decode cX7_better 11 = .ok (.aload_n 0, 1) := by decide +kernel
theorem dX7_better_12 : decode cX7_better 12 = .ok (.getfield 37, 3) := by decide +kernel
theorem dX7_better_15 : decode cX7_better 15 = .ok (.getfield 155, 3) := by decide +kernel
theorem dX7_better_18 : decode cX7_better 18 = .ok (.iconst 3, 1) := by decide +kernel
theorem dX7_better_19 : decode cX7_better 19 = .ok (.if_icmp .eq 5, 3) := by decide +kernel
theorem dX7_better_22 : decode cX7_better 22 = .ok (.iconst (-1), 1) := by decide +kernel
theorem dX7_better_23 : decode cX7_better 23 = .ok (.ireturn, 1) := by decide +kernel
set_option maxHeartbeats 4000000 in
set_option maxRecDepth 100000 in
theorem c_X7_steps (l : Launch) (D : va_G) (ak : Nat → ClassId) (ad : Nat → Nat) (sz : Nat) (h0 : Nat) (xt : Nat) (xe : Nat) (xr : Nat) (xh : Nat) (xw : Nat) (xf : Nat) (xm : Nat) (xd : Nat) (xs : Nat) (xl : Nat) (b1 : Nat) (b2 : Nat) (b3 : Nat) (b4 : Nat) (b5 : Nat) (b6 : Nat) (p1 : Nat) (p2 : Nat) (p4 : Nat) (p6 : Nat) (p7 : Nat) (p8 : Nat) (p10 : Nat) (p11 : Nat) (p12 : Nat) (p13 : Nat) (p14 : Nat) (p15 : Nat) (p16 : Nat) (a0 : Int32)  : Met l yX7_steps wsX7_steps ({ frames := 1, cells := 0, slots := 0, locals := 21 }) (cPre D ak ad [.ref h0, .int (a0)] ([(h0, .inr (6, [.ref xt, .ref xe, .ref xr, .ref xh, .ref xw, .ref xf, .ref xm, .ref xd, .ref xs, .ref xl])), (xh, .inr (1, [.ref xe, .ref b1, .ref b2, .ref b3, .ref b4, .ref b5, .ref b6, .int (0), .int (0), .int (0), .int (0), .int (0)])), (xe, .inr (2, [.int (0), .ref p1, .ref p2, .int (0), .ref p4, .int (0), .ref p6, .ref p7, .ref p8, .int (0), .ref p10, .ref p11, .ref p12, .ref p13, .ref p14, .ref p15, .ref p16]))]) sz) (cI D (S := Unit) (fun (r : Int32) (u : Unit) => r = (-1)) (fun u => []) ([(h0, .inr (6, [.ref xt, .ref xe, .ref xr, .ref xh, .ref xw, .ref xf, .ref xm, .ref xd, .ref xs, .ref xl])), (xh, .inr (1, [.ref xe, .ref b1, .ref b2, .ref b3, .ref b4, .ref b5, .ref b6, .int (0), .int (0), .int (0), .int (0), .int (0)])), (xe, .inr (2, [.int (0), .ref p1, .ref p2, .int (0), .ref p4, .int (0), .ref p6, .ref p7, .ref p8, .int (0), .ref p10, .ref p11, .ref p12, .ref p13, .ref p14, .ref p15, .ref p16]))]) sz) 0 0 (va_A ([(h0, .inr (6, [.ref xt, .ref xe, .ref xr, .ref xh, .ref xw, .ref xf, .ref xm, .ref xd, .ref xs, .ref xl])), (xh, .inr (1, [.ref xe, .ref b1, .ref b2, .ref b3, .ref b4, .ref b5, .ref b6, .int (0), .int (0), .int (0), .int (0), .int (0)])), (xe, .inr (2, [.int (0), .ref p1, .ref p2, .int (0), .ref p4, .int (0), .ref p6, .ref p7, .ref p8, .int (0), .ref p10, .ref p11, .ref p12, .ref p13, .ref p14, .ref p15, .ref p16]))]) sz) := by
  refine Met.ofW (cc := cX7_steps) (maxL := 2) (ret := (some .int)) (by decide) rfl ?_
  intro p e s m args below meth c s₁ B hml hv
  obtain ⟨rfl, hsz, hP, hE, hD0, hT⟩ := hv
  have hx := B.exec
  have hb := B.bytes
  have hr := B.returns
  have hts := atoms_spec (ws := wsX7_steps) B.pre
  have hown : s.vm.findClass RX7 = some m.cls := findClass_of_methodNamed B.named
  have hlocks := B.notSynchronized
  subst hsz
  have hD := hD0.self (sz := s.heap.size)
  generalize hAe : va_A ([(h0, .inr (6, [.ref xt, .ref xe, .ref xr, .ref xh, .ref xw, .ref xf, .ref xm, .ref xd, .ref xs, .ref xl])), (xh, .inr (1, [.ref xe, .ref b1, .ref b2, .ref b3, .ref b4, .ref b5, .ref b6, .int (0), .int (0), .int (0), .int (0), .int (0)])), (xe, .inr (2, [.int (0), .ref p1, .ref p2, .int (0), .ref p4, .int (0), .ref p6, .ref p7, .ref p8, .int (0), .ref p10, .ref p11, .ref p12, .ref p13, .ref p14, .ref p15, .ref p16]))]) s.heap.size = A at hD hT ⊢
  have hA : ∀ q : Nat, s.heap.size ≤ q → A q := fun q h => by rw [← hAe]; exact Or.inr h
  have hS : va_S A s.heap s.heap [] := va_S.rf
  have hl := lv_entry ([.ref h0, .int (a0)]) (n := 2) (Nat.le_of_ble_eq_true rfl)
  rw [lg_entry_eq]
  generalize (lg_sl ([.ref h0, .int (a0)]) ++ List.replicate (2 - (lg_sl ([.ref h0, .int (a0)])).length) Slot.unset).toArray = ls at hl ⊢
  have hl : lv_has ls 2 [(0, .ref h0), (1, .int (a0))] := hl
  have hP : va_P D vwCl [(h0, .inr (6, [.ref xt, .ref xe, .ref xr, .ref xh, .ref xw, .ref xf, .ref xm, .ref xd, .ref xs, .ref xl])), (xh, .inr (1, [.ref xe, .ref b1, .ref b2, .ref b3, .ref b4, .ref b5, .ref b6, .int (0), .int (0), .int (0), .int (0), .int (0)])), (xe, .inr (2, [.int (0), .ref p1, .ref p2, .int (0), .ref p4, .int (0), .ref p6, .ref p7, .ref p8, .int (0), .ref p10, .ref p11, .ref p12, .ref p13, .ref p14, .ref p15, .ref p16]))] s.heap := hP
  refine lv_aload_n hx hb dX7_steps_0 rfl (lv_at hl 0 rfl) ?_
  refine lv_iload_n hx hb dX7_steps_1 rfl (lv_at hl 1 rfl) ?_
  refine kc_i (wc := [(h0, .inr (6, [.ref xt, .ref xe, .ref xr, .ref xh, .ref xw, .ref xf, .ref xm, .ref xd, .ref xs, .ref xl])), (xh, .inr (1, [.ref xe, .ref b1, .ref b2, .ref b3, .ref b4, .ref b5, .ref b6, .int (0), .int (0), .int (0), .int (0), .int (0)])), (xe, .inr (2, [.int (0), .ref p1, .ref p2, .int (0), .ref p4, .int (0), .ref p6, .ref p7, .ref p8, .int (0), .ref p10, .ref p11, .ref p12, .ref p13, .ref p14, .ref p15, .ref p16]))]) (wr := []) hP hD hS hA [0, 1, 2] [] rfl rfl (by decide) (by decide) (va_runV (As := [.int (a0)]) (rest := []) ⟨hx, hb, hml, hown, hts⟩ (c_X7_canWalk l D ak ad _ (h0) (xt) (xe) (xr) (xh) (xw) (xf) (xm) (xd) (xs) (xl) (b1) (b2) (b3) (b4) (b5) (b6) (p1) (p2) (p4) (p6) (p7) (p8) (p10) (p11) (p12) (p13) (p14) (p15) (p16) (a0) ) (cwV 1 hts gX7_steps_X7_canWalk rfl rfl rfl (by decide +kernel) ⟨Nat.le_of_ble_eq_true rfl, Nat.le_of_ble_eq_true rfl⟩) (kc_preV (As := [.int (a0)]) (wc := [(h0, .inr (6, [.ref xt, .ref xe, .ref xr, .ref xh, .ref xw, .ref xf, .ref xm, .ref xd, .ref xs, .ref xl])), (xh, .inr (1, [.ref xe, .ref b1, .ref b2, .ref b3, .ref b4, .ref b5, .ref b6, .int (0), .int (0), .int (0), .int (0), .int (0)])), (xe, .inr (2, [.int (0), .ref p1, .ref p2, .int (0), .ref p4, .int (0), .ref p6, .ref p7, .ref p8, .int (0), .ref p10, .ref p11, .ref p12, .ref p13, .ref p14, .ref p15, .ref p16]))]) hE hT hP hD hS hA [0, 1, 2] (by decide) rfl rfl 0 6 rfl rfl rfl) rfl rfl hl.1 rfl (lv_room (Nat.le_of_ble_eq_true rfl)) dX7_steps_2 ⟨Nat.le_of_ble_eq_true rfl, Nat.le_of_ble_eq_true rfl⟩) (fun r_2 u_0 H locs hw_2 hP hD hS => ?_)
  have hP : va_P D vwCl [(h0, .inr (6, [.ref xt, .ref xe, .ref xr, .ref xh, .ref xw, .ref xf, .ref xm, .ref xd, .ref xs, .ref xl])), (xh, .inr (1, [.ref xe, .ref b1, .ref b2, .ref b3, .ref b4, .ref b5, .ref b6, .int (0), .int (0), .int (0), .int (0), .int (0)])), (xe, .inr (2, [.int (0), .ref p1, .ref p2, .int (0), .ref p4, .int (0), .ref p6, .ref p7, .ref p8, .int (0), .ref p10, .ref p11, .ref p12, .ref p13, .ref p14, .ref p15, .ref p16]))] H := hP
  have hD : va_D A [(h0, .inr (6, [.ref xt, .ref xe, .ref xr, .ref xh, .ref xw, .ref xf, .ref xm, .ref xd, .ref xs, .ref xl])), (xh, .inr (1, [.ref xe, .ref b1, .ref b2, .ref b3, .ref b4, .ref b5, .ref b6, .int (0), .int (0), .int (0), .int (0), .int (0)])), (xe, .inr (2, [.int (0), .ref p1, .ref p2, .int (0), .ref p4, .int (0), .ref p6, .ref p7, .ref p8, .int (0), .ref p10, .ref p11, .ref p12, .ref p13, .ref p14, .ref p15, .ref p16]))] := hD
  subst hw_2
  refine lv_if_ne (tgt := 10) hx hb dX7_steps_5 (by decide) (fun c_5 => ?_) (fun c_5 => ?_)
  · exact absurd c_5 (by decide)
  · refine lv_iconst (v := (-1)) hx hb dX7_steps_8 (by decide) ?_
    have hP9 := hP.sub (ws' := []) [] rfl
    have hD9 := hD.sub (ws' := []) [] (by decide) rfl
    refine W.widen (k := 0) (n := 0) (Nat.le_of_ble_eq_true rfl) (Nat.le_of_ble_eq_true rfl) ?_
    exact W.iret (v := -1) hx hb hr (fun t ht hW => ⟨⟨-1, (()), rfl, rfl, by rw [ht]; exact hP9, by rw [hAe]; exact hD9⟩, by rw [hAe]; exact hS.F ht⟩) hS.2.2 dX7_steps_9

set_option maxHeartbeats 4000000 in
set_option maxRecDepth 100000 in
theorem c_X7_falls (l : Launch) (D : va_G) (ak : Nat → ClassId) (ad : Nat → Nat) (sz : Nat) (h0 : Nat) (xt : Nat) (xe : Nat) (xr : Nat) (xh : Nat) (xw : Nat) (xf : Nat) (xm : Nat) (xd : Nat) (xs : Nat) (xl : Nat) (b1 : Nat) (b2 : Nat) (b3 : Nat) (b4 : Nat) (b5 : Nat) (b6 : Nat) (p1 : Nat) (p2 : Nat) (p4 : Nat) (p6 : Nat) (p7 : Nat) (p8 : Nat) (p10 : Nat) (p11 : Nat) (p12 : Nat) (p13 : Nat) (p14 : Nat) (p15 : Nat) (p16 : Nat) (a0 : Int32)  : Met l yX7_falls wsX7_falls ({ frames := 1, cells := 0, slots := 0, locals := 21 }) (cPre D ak ad [.ref h0, .int (a0)] ([(h0, .inr (6, [.ref xt, .ref xe, .ref xr, .ref xh, .ref xw, .ref xf, .ref xm, .ref xd, .ref xs, .ref xl])), (xh, .inr (1, [.ref xe, .ref b1, .ref b2, .ref b3, .ref b4, .ref b5, .ref b6, .int (0), .int (0), .int (0), .int (0), .int (0)])), (xe, .inr (2, [.int (0), .ref p1, .ref p2, .int (0), .ref p4, .int (0), .ref p6, .ref p7, .ref p8, .int (0), .ref p10, .ref p11, .ref p12, .ref p13, .ref p14, .ref p15, .ref p16]))]) sz) (cI D (S := Unit) (fun (r : Int32) (u : Unit) => r = (-1)) (fun u => []) ([(h0, .inr (6, [.ref xt, .ref xe, .ref xr, .ref xh, .ref xw, .ref xf, .ref xm, .ref xd, .ref xs, .ref xl])), (xh, .inr (1, [.ref xe, .ref b1, .ref b2, .ref b3, .ref b4, .ref b5, .ref b6, .int (0), .int (0), .int (0), .int (0), .int (0)])), (xe, .inr (2, [.int (0), .ref p1, .ref p2, .int (0), .ref p4, .int (0), .ref p6, .ref p7, .ref p8, .int (0), .ref p10, .ref p11, .ref p12, .ref p13, .ref p14, .ref p15, .ref p16]))]) sz) 0 0 (va_A ([(h0, .inr (6, [.ref xt, .ref xe, .ref xr, .ref xh, .ref xw, .ref xf, .ref xm, .ref xd, .ref xs, .ref xl])), (xh, .inr (1, [.ref xe, .ref b1, .ref b2, .ref b3, .ref b4, .ref b5, .ref b6, .int (0), .int (0), .int (0), .int (0), .int (0)])), (xe, .inr (2, [.int (0), .ref p1, .ref p2, .int (0), .ref p4, .int (0), .ref p6, .ref p7, .ref p8, .int (0), .ref p10, .ref p11, .ref p12, .ref p13, .ref p14, .ref p15, .ref p16]))]) sz) := by
  refine Met.ofW (cc := cX7_falls) (maxL := 2) (ret := (some .int)) (by decide) rfl ?_
  intro p e s m args below meth c s₁ B hml hv
  obtain ⟨rfl, hsz, hP, hE, hD0, hT⟩ := hv
  have hx := B.exec
  have hb := B.bytes
  have hr := B.returns
  have hts := atoms_spec (ws := wsX7_falls) B.pre
  have hown : s.vm.findClass RX7 = some m.cls := findClass_of_methodNamed B.named
  have hlocks := B.notSynchronized
  subst hsz
  have hD := hD0.self (sz := s.heap.size)
  generalize hAe : va_A ([(h0, .inr (6, [.ref xt, .ref xe, .ref xr, .ref xh, .ref xw, .ref xf, .ref xm, .ref xd, .ref xs, .ref xl])), (xh, .inr (1, [.ref xe, .ref b1, .ref b2, .ref b3, .ref b4, .ref b5, .ref b6, .int (0), .int (0), .int (0), .int (0), .int (0)])), (xe, .inr (2, [.int (0), .ref p1, .ref p2, .int (0), .ref p4, .int (0), .ref p6, .ref p7, .ref p8, .int (0), .ref p10, .ref p11, .ref p12, .ref p13, .ref p14, .ref p15, .ref p16]))]) s.heap.size = A at hD hT ⊢
  have hA : ∀ q : Nat, s.heap.size ≤ q → A q := fun q h => by rw [← hAe]; exact Or.inr h
  have hS : va_S A s.heap s.heap [] := va_S.rf
  have hl := lv_entry ([.ref h0, .int (a0)]) (n := 2) (Nat.le_of_ble_eq_true rfl)
  rw [lg_entry_eq]
  generalize (lg_sl ([.ref h0, .int (a0)]) ++ List.replicate (2 - (lg_sl ([.ref h0, .int (a0)])).length) Slot.unset).toArray = ls at hl ⊢
  have hl : lv_has ls 2 [(0, .ref h0), (1, .int (a0))] := hl
  have hP : va_P D vwCl [(h0, .inr (6, [.ref xt, .ref xe, .ref xr, .ref xh, .ref xw, .ref xf, .ref xm, .ref xd, .ref xs, .ref xl])), (xh, .inr (1, [.ref xe, .ref b1, .ref b2, .ref b3, .ref b4, .ref b5, .ref b6, .int (0), .int (0), .int (0), .int (0), .int (0)])), (xe, .inr (2, [.int (0), .ref p1, .ref p2, .int (0), .ref p4, .int (0), .ref p6, .ref p7, .ref p8, .int (0), .ref p10, .ref p11, .ref p12, .ref p13, .ref p14, .ref p15, .ref p16]))] s.heap := hP
  refine lv_aload_n hx hb dX7_falls_0 rfl (lv_at hl 0 rfl) ?_
  refine lv_iload_n hx hb dX7_falls_1 rfl (lv_at hl 1 rfl) ?_
  refine kc_i (wc := [(h0, .inr (6, [.ref xt, .ref xe, .ref xr, .ref xh, .ref xw, .ref xf, .ref xm, .ref xd, .ref xs, .ref xl])), (xh, .inr (1, [.ref xe, .ref b1, .ref b2, .ref b3, .ref b4, .ref b5, .ref b6, .int (0), .int (0), .int (0), .int (0), .int (0)])), (xe, .inr (2, [.int (0), .ref p1, .ref p2, .int (0), .ref p4, .int (0), .ref p6, .ref p7, .ref p8, .int (0), .ref p10, .ref p11, .ref p12, .ref p13, .ref p14, .ref p15, .ref p16]))]) (wr := []) hP hD hS hA [0, 1, 2] [] rfl rfl (by decide) (by decide) (va_runV (As := [.int (a0)]) (rest := []) ⟨hx, hb, hml, hown, hts⟩ (c_X7_canWalk l D ak ad _ (h0) (xt) (xe) (xr) (xh) (xw) (xf) (xm) (xd) (xs) (xl) (b1) (b2) (b3) (b4) (b5) (b6) (p1) (p2) (p4) (p6) (p7) (p8) (p10) (p11) (p12) (p13) (p14) (p15) (p16) (a0) ) (cwV 1 hts gX7_falls_X7_canWalk rfl rfl rfl (by decide +kernel) ⟨Nat.le_of_ble_eq_true rfl, Nat.le_of_ble_eq_true rfl⟩) (kc_preV (As := [.int (a0)]) (wc := [(h0, .inr (6, [.ref xt, .ref xe, .ref xr, .ref xh, .ref xw, .ref xf, .ref xm, .ref xd, .ref xs, .ref xl])), (xh, .inr (1, [.ref xe, .ref b1, .ref b2, .ref b3, .ref b4, .ref b5, .ref b6, .int (0), .int (0), .int (0), .int (0), .int (0)])), (xe, .inr (2, [.int (0), .ref p1, .ref p2, .int (0), .ref p4, .int (0), .ref p6, .ref p7, .ref p8, .int (0), .ref p10, .ref p11, .ref p12, .ref p13, .ref p14, .ref p15, .ref p16]))]) hE hT hP hD hS hA [0, 1, 2] (by decide) rfl rfl 0 6 rfl rfl rfl) rfl rfl hl.1 rfl (lv_room (Nat.le_of_ble_eq_true rfl)) dX7_falls_2 ⟨Nat.le_of_ble_eq_true rfl, Nat.le_of_ble_eq_true rfl⟩) (fun r_2 u_0 H locs hw_2 hP hD hS => ?_)
  have hP : va_P D vwCl [(h0, .inr (6, [.ref xt, .ref xe, .ref xr, .ref xh, .ref xw, .ref xf, .ref xm, .ref xd, .ref xs, .ref xl])), (xh, .inr (1, [.ref xe, .ref b1, .ref b2, .ref b3, .ref b4, .ref b5, .ref b6, .int (0), .int (0), .int (0), .int (0), .int (0)])), (xe, .inr (2, [.int (0), .ref p1, .ref p2, .int (0), .ref p4, .int (0), .ref p6, .ref p7, .ref p8, .int (0), .ref p10, .ref p11, .ref p12, .ref p13, .ref p14, .ref p15, .ref p16]))] H := hP
  have hD : va_D A [(h0, .inr (6, [.ref xt, .ref xe, .ref xr, .ref xh, .ref xw, .ref xf, .ref xm, .ref xd, .ref xs, .ref xl])), (xh, .inr (1, [.ref xe, .ref b1, .ref b2, .ref b3, .ref b4, .ref b5, .ref b6, .int (0), .int (0), .int (0), .int (0), .int (0)])), (xe, .inr (2, [.int (0), .ref p1, .ref p2, .int (0), .ref p4, .int (0), .ref p6, .ref p7, .ref p8, .int (0), .ref p10, .ref p11, .ref p12, .ref p13, .ref p14, .ref p15, .ref p16]))] := hD
  subst hw_2
  refine lv_if_ne (tgt := 10) hx hb dX7_falls_5 (by decide) (fun c_5 => ?_) (fun c_5 => ?_)
  · exact absurd c_5 (by decide)
  · refine lv_iconst (v := (-1)) hx hb dX7_falls_8 (by decide) ?_
    have hP9 := hP.sub (ws' := []) [] rfl
    have hD9 := hD.sub (ws' := []) [] (by decide) rfl
    refine W.widen (k := 0) (n := 0) (Nat.le_of_ble_eq_true rfl) (Nat.le_of_ble_eq_true rfl) ?_
    exact W.iret (v := -1) hx hb hr (fun t ht hW => ⟨⟨-1, (()), rfl, rfl, by rw [ht]; exact hP9, by rw [hAe]; exact hD9⟩, by rw [hAe]; exact hS.F ht⟩) hS.2.2 dX7_falls_9

set_option maxHeartbeats 4000000 in
set_option maxRecDepth 100000 in
theorem c_X7_most (l : Launch) (D : va_G) (ak : Nat → ClassId) (ad : Nat → Nat) (sz : Nat) (h0 : Nat) (xt : Nat) (xe : Nat) (xr : Nat) (xh : Nat) (xw : Nat) (xf : Nat) (xm : Nat) (xd : Nat) (xs : Nat) (xl : Nat) (b1 : Nat) (b2 : Nat) (b3 : Nat) (b4 : Nat) (b5 : Nat) (b6 : Nat) (p1 : Nat) (p2 : Nat) (p4 : Nat) (p6 : Nat) (p7 : Nat) (p8 : Nat) (p10 : Nat) (p11 : Nat) (p12 : Nat) (p13 : Nat) (p14 : Nat) (p15 : Nat) (p16 : Nat) (a0 : Int32) (a1 : Int32)  : Met l yX7_most wsX7_most ({ frames := 1, cells := 0, slots := 0, locals := 21 }) (cPre D ak ad [.ref h0, .int (a0), .int (a1)] ([(h0, .inr (6, [.ref xt, .ref xe, .ref xr, .ref xh, .ref xw, .ref xf, .ref xm, .ref xd, .ref xs, .ref xl])), (xh, .inr (1, [.ref xe, .ref b1, .ref b2, .ref b3, .ref b4, .ref b5, .ref b6, .int (0), .int (0), .int (0), .int (0), .int (0)])), (xe, .inr (2, [.int (0), .ref p1, .ref p2, .int (0), .ref p4, .int (0), .ref p6, .ref p7, .ref p8, .int (0), .ref p10, .ref p11, .ref p12, .ref p13, .ref p14, .ref p15, .ref p16]))]) sz) (cI D (S := Unit) (fun (r : Int32) (u : Unit) => r = (-1)) (fun u => []) ([(h0, .inr (6, [.ref xt, .ref xe, .ref xr, .ref xh, .ref xw, .ref xf, .ref xm, .ref xd, .ref xs, .ref xl])), (xh, .inr (1, [.ref xe, .ref b1, .ref b2, .ref b3, .ref b4, .ref b5, .ref b6, .int (0), .int (0), .int (0), .int (0), .int (0)])), (xe, .inr (2, [.int (0), .ref p1, .ref p2, .int (0), .ref p4, .int (0), .ref p6, .ref p7, .ref p8, .int (0), .ref p10, .ref p11, .ref p12, .ref p13, .ref p14, .ref p15, .ref p16]))]) sz) 0 0 (va_A ([(h0, .inr (6, [.ref xt, .ref xe, .ref xr, .ref xh, .ref xw, .ref xf, .ref xm, .ref xd, .ref xs, .ref xl])), (xh, .inr (1, [.ref xe, .ref b1, .ref b2, .ref b3, .ref b4, .ref b5, .ref b6, .int (0), .int (0), .int (0), .int (0), .int (0)])), (xe, .inr (2, [.int (0), .ref p1, .ref p2, .int (0), .ref p4, .int (0), .ref p6, .ref p7, .ref p8, .int (0), .ref p10, .ref p11, .ref p12, .ref p13, .ref p14, .ref p15, .ref p16]))]) sz) := by
  refine Met.ofW (cc := cX7_most) (maxL := 3) (ret := (some .int)) (by decide) rfl ?_
  intro p e s m args below meth c s₁ B hml hv
  obtain ⟨rfl, hsz, hP, hE, hD0, hT⟩ := hv
  have hx := B.exec
  have hb := B.bytes
  have hr := B.returns
  have hts := atoms_spec (ws := wsX7_most) B.pre
  have hown : s.vm.findClass RX7 = some m.cls := findClass_of_methodNamed B.named
  have hlocks := B.notSynchronized
  subst hsz
  have hD := hD0.self (sz := s.heap.size)
  generalize hAe : va_A ([(h0, .inr (6, [.ref xt, .ref xe, .ref xr, .ref xh, .ref xw, .ref xf, .ref xm, .ref xd, .ref xs, .ref xl])), (xh, .inr (1, [.ref xe, .ref b1, .ref b2, .ref b3, .ref b4, .ref b5, .ref b6, .int (0), .int (0), .int (0), .int (0), .int (0)])), (xe, .inr (2, [.int (0), .ref p1, .ref p2, .int (0), .ref p4, .int (0), .ref p6, .ref p7, .ref p8, .int (0), .ref p10, .ref p11, .ref p12, .ref p13, .ref p14, .ref p15, .ref p16]))]) s.heap.size = A at hD hT ⊢
  have hA : ∀ q : Nat, s.heap.size ≤ q → A q := fun q h => by rw [← hAe]; exact Or.inr h
  have hS : va_S A s.heap s.heap [] := va_S.rf
  have hl := lv_entry ([.ref h0, .int (a0), .int (a1)]) (n := 3) (Nat.le_of_ble_eq_true rfl)
  rw [lg_entry_eq]
  generalize (lg_sl ([.ref h0, .int (a0), .int (a1)]) ++ List.replicate (3 - (lg_sl ([.ref h0, .int (a0), .int (a1)])).length) Slot.unset).toArray = ls at hl ⊢
  have hl : lv_has ls 3 [(0, .ref h0), (1, .int (a0)), (2, .int (a1))] := hl
  have hP : va_P D vwCl [(h0, .inr (6, [.ref xt, .ref xe, .ref xr, .ref xh, .ref xw, .ref xf, .ref xm, .ref xd, .ref xs, .ref xl])), (xh, .inr (1, [.ref xe, .ref b1, .ref b2, .ref b3, .ref b4, .ref b5, .ref b6, .int (0), .int (0), .int (0), .int (0), .int (0)])), (xe, .inr (2, [.int (0), .ref p1, .ref p2, .int (0), .ref p4, .int (0), .ref p6, .ref p7, .ref p8, .int (0), .ref p10, .ref p11, .ref p12, .ref p13, .ref p14, .ref p15, .ref p16]))] s.heap := hP
  refine lv_iload_n hx hb dX7_most_0 rfl (lv_at hl 1 rfl) ?_
  refine lv_aload_n hx hb dX7_most_1 rfl (lv_at hl 0 rfl) ?_
  refine va_get (D := D) (ci := 6) (v := .ref xh) (C := RX7) (T := TX7) (N := 10) hx hb hts (fun w h => List.mem_cons_of_mem _ (List.mem_append_left _ (List.mem_append_left _ (List.mem_append_left _ (List.mem_append_left _ (List.mem_append_right _ h)))))) hown hE.1 hP 0 rfl rfl 3 (by decide) (hts (.fieldLink RX7 37 "WornLines" "hand" "LWornLines$Machine;") (by decide +kernel)) (fun _ h9 => h9) rfl dX7_most_2 ?_
  refine va_get (D := D) (ci := 1) (v := .ref xe) (C := RX1) (T := TX1) (N := 12) hx hb hts (fun w h => List.mem_cons_of_mem _ (List.mem_append_left _ (List.mem_append_left _ (List.mem_append_left _ (List.mem_append_right _ h))))) hown hE.1 hP 1 rfl rfl 0 (by decide) (hts (.fieldLink RX7 89 "WornLines$Machine" "programme" "LWornLines$Programme;") (by decide +kernel)) (fun _ h9 => h9) rfl dX7_most_5 ?_
  refine va_get (D := D) (ci := 2) (v := .int (0)) (C := RX2) (T := TX2) (N := 17) hx hb hts (fun w h => List.mem_cons_of_mem _ (List.mem_append_left _ (List.mem_append_left _ (List.mem_append_right _ h)))) hown hE.1 hP 2 rfl rfl 9 (by decide) (hts (.fieldLink RX7 106 "WornLines$Programme" "lines" "I") (by decide +kernel)) (fun _ h9 => h9) rfl dX7_most_8 ?_
  refine kc_i (wc := []) (wr := [(h0, .inr (6, [.ref xt, .ref xe, .ref xr, .ref xh, .ref xw, .ref xf, .ref xm, .ref xd, .ref xs, .ref xl])), (xh, .inr (1, [.ref xe, .ref b1, .ref b2, .ref b3, .ref b4, .ref b5, .ref b6, .int (0), .int (0), .int (0), .int (0), .int (0)])), (xe, .inr (2, [.int (0), .ref p1, .ref p2, .int (0), .ref p4, .int (0), .ref p6, .ref p7, .ref p8, .int (0), .ref p10, .ref p11, .ref p12, .ref p13, .ref p14, .ref p15, .ref p16]))]) hP hD hS hA [] [0, 1, 2] rfl rfl (by decide) (by decide) (va_runS (As := [.int (a0), .int (0)]) (rest := []) ⟨hx, hb, hml, hown, hts⟩ (c_X7_within0 l D ak ad _ (a0) ) (va_cwS 2 hts gX7_most_X7_within rfl rfl rfl (by decide +kernel) ⟨Nat.le_of_ble_eq_true rfl, Nat.le_of_ble_eq_true rfl⟩) (kc_pre (As := [.int (a0), .int (0)]) (wc := []) hE hT hP hD hS hA [] (by decide) rfl rfl) rfl rfl hl.1 rfl (lv_room (Nat.le_of_ble_eq_true rfl)) dX7_most_11 ⟨Nat.le_of_ble_eq_true rfl, Nat.le_of_ble_eq_true rfl⟩) (fun r_2 u_0 H locs hw_2 hP hD hS => ?_)
  have hP : va_P D vwCl [(h0, .inr (6, [.ref xt, .ref xe, .ref xr, .ref xh, .ref xw, .ref xf, .ref xm, .ref xd, .ref xs, .ref xl])), (xh, .inr (1, [.ref xe, .ref b1, .ref b2, .ref b3, .ref b4, .ref b5, .ref b6, .int (0), .int (0), .int (0), .int (0), .int (0)])), (xe, .inr (2, [.int (0), .ref p1, .ref p2, .int (0), .ref p4, .int (0), .ref p6, .ref p7, .ref p8, .int (0), .ref p10, .ref p11, .ref p12, .ref p13, .ref p14, .ref p15, .ref p16]))] H := hP
  have hD : va_D A [(h0, .inr (6, [.ref xt, .ref xe, .ref xr, .ref xh, .ref xw, .ref xf, .ref xm, .ref xd, .ref xs, .ref xl])), (xh, .inr (1, [.ref xe, .ref b1, .ref b2, .ref b3, .ref b4, .ref b5, .ref b6, .int (0), .int (0), .int (0), .int (0), .int (0)])), (xe, .inr (2, [.int (0), .ref p1, .ref p2, .int (0), .ref p4, .int (0), .ref p6, .ref p7, .ref p8, .int (0), .ref p10, .ref p11, .ref p12, .ref p13, .ref p14, .ref p15, .ref p16]))] := hD
  subst hw_2
  refine lv_if_eq (tgt := 24) hx hb dX7_most_14 (by decide) (fun c_14 => ?_) (fun c_14 => ?_)
  · refine lv_iconst (v := (-1)) hx hb dX7_most_24 (by decide) ?_
    have hP9 := hP.sub (ws' := []) [] rfl
    have hD9 := hD.sub (ws' := []) [] (by decide) rfl
    refine W.widen (k := 0) (n := 0) (Nat.le_of_ble_eq_true rfl) (Nat.le_of_ble_eq_true rfl) ?_
    exact W.iret (v := -1) hx hb hr (fun t ht hW => ⟨⟨-1, (()), rfl, rfl, by rw [ht]; exact hP9, by rw [hAe]; exact hD9⟩, by rw [hAe]; exact hS.F ht⟩) hS.2.2 dX7_most_25
  · exact absurd c_14 (by decide)

set_option maxHeartbeats 4000000 in
set_option maxRecDepth 100000 in
theorem c_X7_surveyed (l : Launch) (D : va_G) (ak : Nat → ClassId) (ad : Nat → Nat) (sz : Nat) (h0 : Nat) (xt : Nat) (xe : Nat) (xr : Nat) (xh : Nat) (xw : Nat) (xf : Nat) (xm : Nat) (xd : Nat) (xs : Nat) (xl : Nat) (b1 : Nat) (b2 : Nat) (b3 : Nat) (b4 : Nat) (b5 : Nat) (b6 : Nat) (p1 : Nat) (p2 : Nat) (p4 : Nat) (p6 : Nat) (p7 : Nat) (p8 : Nat) (p10 : Nat) (p11 : Nat) (p12 : Nat) (p13 : Nat) (p14 : Nat) (p15 : Nat) (p16 : Nat)  : Met l yX7_surveyed wsX7_surveyed ({ frames := 0, cells := 0, slots := 0, locals := 0 }) (cPre D ak ad [.ref h0] ([(h0, .inr (6, [.ref xt, .ref xe, .ref xr, .ref xh, .ref xw, .ref xf, .ref xm, .ref xd, .ref xs, .ref xl])), (xh, .inr (1, [.ref xe, .ref b1, .ref b2, .ref b3, .ref b4, .ref b5, .ref b6, .int (0), .int (0), .int (0), .int (0), .int (0)])), (xe, .inr (2, [.int (0), .ref p1, .ref p2, .int (0), .ref p4, .int (0), .ref p6, .ref p7, .ref p8, .int (0), .ref p10, .ref p11, .ref p12, .ref p13, .ref p14, .ref p15, .ref p16]))]) sz) (cI D (S := Unit) (fun (r : Int32) (u : Unit) => r = 0) (fun u => [(h0, .inr (6, [.ref xt, .ref xe, .ref xr, .ref xh, .ref xw, .ref xf, .ref xm, .ref xd, .ref xs, .ref xl])), (xh, .inr (1, [.ref xe, .ref b1, .ref b2, .ref b3, .ref b4, .ref b5, .ref b6, .int (0), .int (0), .int (0), .int (0), .int (0)])), (xe, .inr (2, [.int (0), .ref p1, .ref p2, .int (0), .ref p4, .int (0), .ref p6, .ref p7, .ref p8, .int (0), .ref p10, .ref p11, .ref p12, .ref p13, .ref p14, .ref p15, .ref p16]))]) ([(h0, .inr (6, [.ref xt, .ref xe, .ref xr, .ref xh, .ref xw, .ref xf, .ref xm, .ref xd, .ref xs, .ref xl])), (xh, .inr (1, [.ref xe, .ref b1, .ref b2, .ref b3, .ref b4, .ref b5, .ref b6, .int (0), .int (0), .int (0), .int (0), .int (0)])), (xe, .inr (2, [.int (0), .ref p1, .ref p2, .int (0), .ref p4, .int (0), .ref p6, .ref p7, .ref p8, .int (0), .ref p10, .ref p11, .ref p12, .ref p13, .ref p14, .ref p15, .ref p16]))]) sz) 0 0 (va_A ([(h0, .inr (6, [.ref xt, .ref xe, .ref xr, .ref xh, .ref xw, .ref xf, .ref xm, .ref xd, .ref xs, .ref xl])), (xh, .inr (1, [.ref xe, .ref b1, .ref b2, .ref b3, .ref b4, .ref b5, .ref b6, .int (0), .int (0), .int (0), .int (0), .int (0)])), (xe, .inr (2, [.int (0), .ref p1, .ref p2, .int (0), .ref p4, .int (0), .ref p6, .ref p7, .ref p8, .int (0), .ref p10, .ref p11, .ref p12, .ref p13, .ref p14, .ref p15, .ref p16]))]) sz) := by
  refine Met.ofW (cc := cX7_surveyed) (maxL := 3) (ret := (some .boolean)) (by decide) rfl ?_
  intro p e s m args below meth c s₁ B hml hv
  obtain ⟨rfl, hsz, hP, hE, hD0, hT⟩ := hv
  have hx := B.exec
  have hb := B.bytes
  have hr := B.returns
  have hts := atoms_spec (ws := wsX7_surveyed) B.pre
  have hown : s.vm.findClass RX7 = some m.cls := findClass_of_methodNamed B.named
  have hlocks := B.notSynchronized
  subst hsz
  have hD := hD0.self (sz := s.heap.size)
  generalize hAe : va_A ([(h0, .inr (6, [.ref xt, .ref xe, .ref xr, .ref xh, .ref xw, .ref xf, .ref xm, .ref xd, .ref xs, .ref xl])), (xh, .inr (1, [.ref xe, .ref b1, .ref b2, .ref b3, .ref b4, .ref b5, .ref b6, .int (0), .int (0), .int (0), .int (0), .int (0)])), (xe, .inr (2, [.int (0), .ref p1, .ref p2, .int (0), .ref p4, .int (0), .ref p6, .ref p7, .ref p8, .int (0), .ref p10, .ref p11, .ref p12, .ref p13, .ref p14, .ref p15, .ref p16]))]) s.heap.size = A at hD hT ⊢
  have hA : ∀ q : Nat, s.heap.size ≤ q → A q := fun q h => by rw [← hAe]; exact Or.inr h
  have hS : va_S A s.heap s.heap [] := va_S.rf
  have hl := lv_entry ([.ref h0]) (n := 3) (Nat.le_of_ble_eq_true rfl)
  rw [lg_entry_eq]
  generalize (lg_sl ([.ref h0]) ++ List.replicate (3 - (lg_sl ([.ref h0])).length) Slot.unset).toArray = ls at hl ⊢
  have hl : lv_has ls 3 [(0, .ref h0)] := hl
  have hP : va_P D vwCl [(h0, .inr (6, [.ref xt, .ref xe, .ref xr, .ref xh, .ref xw, .ref xf, .ref xm, .ref xd, .ref xs, .ref xl])), (xh, .inr (1, [.ref xe, .ref b1, .ref b2, .ref b3, .ref b4, .ref b5, .ref b6, .int (0), .int (0), .int (0), .int (0), .int (0)])), (xe, .inr (2, [.int (0), .ref p1, .ref p2, .int (0), .ref p4, .int (0), .ref p6, .ref p7, .ref p8, .int (0), .ref p10, .ref p11, .ref p12, .ref p13, .ref p14, .ref p15, .ref p16]))] s.heap := hP
  refine lv_aload_n hx hb dX7_surveyed_0 rfl (lv_at hl 0 rfl) ?_
  refine va_get (D := D) (ci := 6) (v := .ref xh) (C := RX7) (T := TX7) (N := 10) hx hb hts (fun w h => List.mem_cons_of_mem _ (List.mem_append_left _ (List.mem_append_left _ (List.mem_append_left _ (List.mem_append_left _ (List.mem_append_right _ h)))))) hown hE.1 hP 0 rfl rfl 3 (by decide) (hts (.fieldLink RX7 37 "WornLines" "hand" "LWornLines$Machine;") (by decide +kernel)) (fun _ h9 => h9) rfl dX7_surveyed_1 ?_
  refine va_get (D := D) (ci := 1) (v := .ref xe) (C := RX1) (T := TX1) (N := 12) hx hb hts (fun w h => List.mem_cons_of_mem _ (List.mem_append_left _ (List.mem_append_left _ (List.mem_append_left _ (List.mem_append_right _ h))))) hown hE.1 hP 1 rfl rfl 0 (by decide) (hts (.fieldLink RX7 89 "WornLines$Machine" "programme" "LWornLines$Programme;") (by decide +kernel)) (fun _ h9 => h9) rfl dX7_surveyed_4 ?_
  refine va_get (D := D) (ci := 2) (v := .int (0)) (C := RX2) (T := TX2) (N := 17) hx hb hts (fun w h => List.mem_cons_of_mem _ (List.mem_append_left _ (List.mem_append_left _ (List.mem_append_right _ h)))) hown hE.1 hP 2 rfl rfl 9 (by decide) (hts (.fieldLink RX7 106 "WornLines$Programme" "lines" "I") (by decide +kernel)) (fun _ h9 => h9) rfl dX7_surveyed_7 ?_
  refine lv_if_ne (tgt := 15) hx hb dX7_surveyed_10 (by decide) (fun c_10 => ?_) (fun c_10 => ?_)
  · exact absurd c_10 (by decide)
  · refine lv_iconst (v := 0) hx hb dX7_surveyed_13 (by decide) ?_
    have hP9 := hP.sub (ws' := [(h0, .inr (6, [.ref xt, .ref xe, .ref xr, .ref xh, .ref xw, .ref xf, .ref xm, .ref xd, .ref xs, .ref xl])), (xh, .inr (1, [.ref xe, .ref b1, .ref b2, .ref b3, .ref b4, .ref b5, .ref b6, .int (0), .int (0), .int (0), .int (0), .int (0)])), (xe, .inr (2, [.int (0), .ref p1, .ref p2, .int (0), .ref p4, .int (0), .ref p6, .ref p7, .ref p8, .int (0), .ref p10, .ref p11, .ref p12, .ref p13, .ref p14, .ref p15, .ref p16]))]) [0, 1, 2] rfl
    have hD9 := hD.sub (ws' := [(h0, .inr (6, [.ref xt, .ref xe, .ref xr, .ref xh, .ref xw, .ref xf, .ref xm, .ref xd, .ref xs, .ref xl])), (xh, .inr (1, [.ref xe, .ref b1, .ref b2, .ref b3, .ref b4, .ref b5, .ref b6, .int (0), .int (0), .int (0), .int (0), .int (0)])), (xe, .inr (2, [.int (0), .ref p1, .ref p2, .int (0), .ref p4, .int (0), .ref p6, .ref p7, .ref p8, .int (0), .ref p10, .ref p11, .ref p12, .ref p13, .ref p14, .ref p15, .ref p16]))]) [0, 1, 2] (by decide) rfl
    refine W.widen (k := 0) (n := 0) (Nat.le_of_ble_eq_true rfl) (Nat.le_of_ble_eq_true rfl) ?_
    exact W.zret (v := 0) hx hb hr (rfl) (fun t ht hW => ⟨⟨0, (()), rfl, rfl, by rw [ht]; exact hP9, by rw [hAe]; exact hD9⟩, by rw [hAe]; exact hS.F ht⟩) hS.2.2 dX7_surveyed_14

set_option maxHeartbeats 4000000 in
set_option maxRecDepth 100000 in
theorem c_X7_never (l : Launch) (D : va_G) (ak : Nat → ClassId) (ad : Nat → Nat) (sz : Nat) (h0 : Nat) (xt : Nat) (xe : Nat) (xr : Nat) (xh : Nat) (xw : Nat) (xf : Nat) (xm : Nat) (xd : Nat) (xs : Nat) (xl : Nat) (b1 : Nat) (b2 : Nat) (b3 : Nat) (b4 : Nat) (b5 : Nat) (b6 : Nat) (p1 : Nat) (p2 : Nat) (p4 : Nat) (p6 : Nat) (p7 : Nat) (p8 : Nat) (p10 : Nat) (p11 : Nat) (p12 : Nat) (p13 : Nat) (p14 : Nat) (p15 : Nat) (p16 : Nat)  : Met l yX7_never wsX7_never ({ frames := 1, cells := 0, slots := 0, locals := 22 }) (cPre D ak ad [.ref h0] ([(h0, .inr (6, [.ref xt, .ref xe, .ref xr, .ref xh, .ref xw, .ref xf, .ref xm, .ref xd, .ref xs, .ref xl])), (xh, .inr (1, [.ref xe, .ref b1, .ref b2, .ref b3, .ref b4, .ref b5, .ref b6, .int (0), .int (0), .int (0), .int (0), .int (0)])), (xe, .inr (2, [.int (0), .ref p1, .ref p2, .int (0), .ref p4, .int (0), .ref p6, .ref p7, .ref p8, .int (0), .ref p10, .ref p11, .ref p12, .ref p13, .ref p14, .ref p15, .ref p16]))]) sz) (cI D (S := Unit) (fun (r : Int32) (u : Unit) => r = (-1)) (fun u => []) ([(h0, .inr (6, [.ref xt, .ref xe, .ref xr, .ref xh, .ref xw, .ref xf, .ref xm, .ref xd, .ref xs, .ref xl])), (xh, .inr (1, [.ref xe, .ref b1, .ref b2, .ref b3, .ref b4, .ref b5, .ref b6, .int (0), .int (0), .int (0), .int (0), .int (0)])), (xe, .inr (2, [.int (0), .ref p1, .ref p2, .int (0), .ref p4, .int (0), .ref p6, .ref p7, .ref p8, .int (0), .ref p10, .ref p11, .ref p12, .ref p13, .ref p14, .ref p15, .ref p16]))]) sz) 0 0 (va_A ([(h0, .inr (6, [.ref xt, .ref xe, .ref xr, .ref xh, .ref xw, .ref xf, .ref xm, .ref xd, .ref xs, .ref xl])), (xh, .inr (1, [.ref xe, .ref b1, .ref b2, .ref b3, .ref b4, .ref b5, .ref b6, .int (0), .int (0), .int (0), .int (0), .int (0)])), (xe, .inr (2, [.int (0), .ref p1, .ref p2, .int (0), .ref p4, .int (0), .ref p6, .ref p7, .ref p8, .int (0), .ref p10, .ref p11, .ref p12, .ref p13, .ref p14, .ref p15, .ref p16]))]) sz) := by
  refine Met.ofW (cc := cX7_never) (maxL := 3) (ret := (some .int)) (by decide) rfl ?_
  intro p e s m args below meth c s₁ B hml hv
  obtain ⟨rfl, hsz, hP, hE, hD0, hT⟩ := hv
  have hx := B.exec
  have hb := B.bytes
  have hr := B.returns
  have hts := atoms_spec (ws := wsX7_never) B.pre
  have hown : s.vm.findClass RX7 = some m.cls := findClass_of_methodNamed B.named
  have hlocks := B.notSynchronized
  subst hsz
  have hD := hD0.self (sz := s.heap.size)
  generalize hAe : va_A ([(h0, .inr (6, [.ref xt, .ref xe, .ref xr, .ref xh, .ref xw, .ref xf, .ref xm, .ref xd, .ref xs, .ref xl])), (xh, .inr (1, [.ref xe, .ref b1, .ref b2, .ref b3, .ref b4, .ref b5, .ref b6, .int (0), .int (0), .int (0), .int (0), .int (0)])), (xe, .inr (2, [.int (0), .ref p1, .ref p2, .int (0), .ref p4, .int (0), .ref p6, .ref p7, .ref p8, .int (0), .ref p10, .ref p11, .ref p12, .ref p13, .ref p14, .ref p15, .ref p16]))]) s.heap.size = A at hD hT ⊢
  have hA : ∀ q : Nat, s.heap.size ≤ q → A q := fun q h => by rw [← hAe]; exact Or.inr h
  have hS : va_S A s.heap s.heap [] := va_S.rf
  have hl := lv_entry ([.ref h0]) (n := 3) (Nat.le_of_ble_eq_true rfl)
  rw [lg_entry_eq]
  generalize (lg_sl ([.ref h0]) ++ List.replicate (3 - (lg_sl ([.ref h0])).length) Slot.unset).toArray = ls at hl ⊢
  have hl : lv_has ls 3 [(0, .ref h0)] := hl
  have hP : va_P D vwCl [(h0, .inr (6, [.ref xt, .ref xe, .ref xr, .ref xh, .ref xw, .ref xf, .ref xm, .ref xd, .ref xs, .ref xl])), (xh, .inr (1, [.ref xe, .ref b1, .ref b2, .ref b3, .ref b4, .ref b5, .ref b6, .int (0), .int (0), .int (0), .int (0), .int (0)])), (xe, .inr (2, [.int (0), .ref p1, .ref p2, .int (0), .ref p4, .int (0), .ref p6, .ref p7, .ref p8, .int (0), .ref p10, .ref p11, .ref p12, .ref p13, .ref p14, .ref p15, .ref p16]))] s.heap := hP
  refine lv_aload_n hx hb dX7_never_0 rfl (lv_at hl 0 rfl) ?_
  refine kc_i (wc := [(h0, .inr (6, [.ref xt, .ref xe, .ref xr, .ref xh, .ref xw, .ref xf, .ref xm, .ref xd, .ref xs, .ref xl])), (xh, .inr (1, [.ref xe, .ref b1, .ref b2, .ref b3, .ref b4, .ref b5, .ref b6, .int (0), .int (0), .int (0), .int (0), .int (0)])), (xe, .inr (2, [.int (0), .ref p1, .ref p2, .int (0), .ref p4, .int (0), .ref p6, .ref p7, .ref p8, .int (0), .ref p10, .ref p11, .ref p12, .ref p13, .ref p14, .ref p15, .ref p16]))]) (wr := []) hP hD hS hA [0, 1, 2] [] rfl rfl (by decide) (by decide) (va_runV (As := []) (rest := []) ⟨hx, hb, hml, hown, hts⟩ (c_X7_surveyed l D ak ad _ (h0) (xt) (xe) (xr) (xh) (xw) (xf) (xm) (xd) (xs) (xl) (b1) (b2) (b3) (b4) (b5) (b6) (p1) (p2) (p4) (p6) (p7) (p8) (p10) (p11) (p12) (p13) (p14) (p15) (p16) ) (cwV 0 hts gX7_never_X7_surveyed rfl rfl rfl (by decide +kernel) ⟨Nat.le_of_ble_eq_true rfl, Nat.le_of_ble_eq_true rfl⟩) (kc_preV (As := []) (wc := [(h0, .inr (6, [.ref xt, .ref xe, .ref xr, .ref xh, .ref xw, .ref xf, .ref xm, .ref xd, .ref xs, .ref xl])), (xh, .inr (1, [.ref xe, .ref b1, .ref b2, .ref b3, .ref b4, .ref b5, .ref b6, .int (0), .int (0), .int (0), .int (0), .int (0)])), (xe, .inr (2, [.int (0), .ref p1, .ref p2, .int (0), .ref p4, .int (0), .ref p6, .ref p7, .ref p8, .int (0), .ref p10, .ref p11, .ref p12, .ref p13, .ref p14, .ref p15, .ref p16]))]) hE hT hP hD hS hA [0, 1, 2] (by decide) rfl rfl 0 6 rfl rfl rfl) rfl rfl hl.1 rfl (lv_room (Nat.le_of_ble_eq_true rfl)) dX7_never_1 ⟨Nat.le_of_ble_eq_true rfl, Nat.le_of_ble_eq_true rfl⟩) (fun r_2 u_0 H locs hw_2 hP hD hS => ?_)
  have hP : va_P D vwCl [(h0, .inr (6, [.ref xt, .ref xe, .ref xr, .ref xh, .ref xw, .ref xf, .ref xm, .ref xd, .ref xs, .ref xl])), (xh, .inr (1, [.ref xe, .ref b1, .ref b2, .ref b3, .ref b4, .ref b5, .ref b6, .int (0), .int (0), .int (0), .int (0), .int (0)])), (xe, .inr (2, [.int (0), .ref p1, .ref p2, .int (0), .ref p4, .int (0), .ref p6, .ref p7, .ref p8, .int (0), .ref p10, .ref p11, .ref p12, .ref p13, .ref p14, .ref p15, .ref p16]))] H := hP
  have hD : va_D A [(h0, .inr (6, [.ref xt, .ref xe, .ref xr, .ref xh, .ref xw, .ref xf, .ref xm, .ref xd, .ref xs, .ref xl])), (xh, .inr (1, [.ref xe, .ref b1, .ref b2, .ref b3, .ref b4, .ref b5, .ref b6, .int (0), .int (0), .int (0), .int (0), .int (0)])), (xe, .inr (2, [.int (0), .ref p1, .ref p2, .int (0), .ref p4, .int (0), .ref p6, .ref p7, .ref p8, .int (0), .ref p10, .ref p11, .ref p12, .ref p13, .ref p14, .ref p15, .ref p16]))] := hD
  subst hw_2
  refine lv_if_ne (tgt := 9) hx hb dX7_never_4 (by decide) (fun c_4 => ?_) (fun c_4 => ?_)
  · exact absurd c_4 (by decide)
  · refine lv_iconst (v := (-1)) hx hb dX7_never_7 (by decide) ?_
    have hP9 := hP.sub (ws' := []) [] rfl
    have hD9 := hD.sub (ws' := []) [] (by decide) rfl
    refine W.widen (k := 0) (n := 0) (Nat.le_of_ble_eq_true rfl) (Nat.le_of_ble_eq_true rfl) ?_
    exact W.iret (v := -1) hx hb hr (fun t ht hW => ⟨⟨-1, (()), rfl, rfl, by rw [ht]; exact hP9, by rw [hAe]; exact hD9⟩, by rw [hAe]; exact hS.F ht⟩) hS.2.2 dX7_never_8

set_option maxHeartbeats 4000000 in
set_option maxRecDepth 100000 in
theorem c_X7_firstToFall (l : Launch) (D : va_G) (ak : Nat → ClassId) (ad : Nat → Nat) (sz : Nat) (h0 : Nat) (xt : Nat) (xe : Nat) (xr : Nat) (xh : Nat) (xw : Nat) (xf : Nat) (xm : Nat) (xd : Nat) (xs : Nat) (xl : Nat) (b1 : Nat) (b2 : Nat) (b3 : Nat) (b4 : Nat) (b5 : Nat) (b6 : Nat) (p1 : Nat) (p2 : Nat) (p4 : Nat) (p6 : Nat) (p7 : Nat) (p8 : Nat) (p10 : Nat) (p11 : Nat) (p12 : Nat) (p13 : Nat) (p14 : Nat) (p15 : Nat) (p16 : Nat)  : Met l yX7_firstToFall wsX7_firstToFall ({ frames := 0, cells := 0, slots := 0, locals := 0 }) (cPre D ak ad [.ref h0] ([(h0, .inr (6, [.ref xt, .ref xe, .ref xr, .ref xh, .ref xw, .ref xf, .ref xm, .ref xd, .ref xs, .ref xl])), (xh, .inr (1, [.ref xe, .ref b1, .ref b2, .ref b3, .ref b4, .ref b5, .ref b6, .int (0), .int (0), .int (0), .int (0), .int (0)])), (xe, .inr (2, [.int (0), .ref p1, .ref p2, .int (0), .ref p4, .int (0), .ref p6, .ref p7, .ref p8, .int (0), .ref p10, .ref p11, .ref p12, .ref p13, .ref p14, .ref p15, .ref p16]))]) sz) (cI D (S := Unit) (fun (r : Int32) (u : Unit) => r = (-1)) (fun u => [(h0, .inr (6, [.ref xt, .ref xe, .ref xr, .ref xh, .ref xw, .ref xf, .ref xm, .ref xd, .ref xs, .ref xl])), (xh, .inr (1, [.ref xe, .ref b1, .ref b2, .ref b3, .ref b4, .ref b5, .ref b6, .int (0), .int (0), .int (0), .int (0), .int (0)])), (xe, .inr (2, [.int (0), .ref p1, .ref p2, .int (0), .ref p4, .int (0), .ref p6, .ref p7, .ref p8, .int (0), .ref p10, .ref p11, .ref p12, .ref p13, .ref p14, .ref p15, .ref p16]))]) ([(h0, .inr (6, [.ref xt, .ref xe, .ref xr, .ref xh, .ref xw, .ref xf, .ref xm, .ref xd, .ref xs, .ref xl])), (xh, .inr (1, [.ref xe, .ref b1, .ref b2, .ref b3, .ref b4, .ref b5, .ref b6, .int (0), .int (0), .int (0), .int (0), .int (0)])), (xe, .inr (2, [.int (0), .ref p1, .ref p2, .int (0), .ref p4, .int (0), .ref p6, .ref p7, .ref p8, .int (0), .ref p10, .ref p11, .ref p12, .ref p13, .ref p14, .ref p15, .ref p16]))]) sz) 0 0 (va_A ([(h0, .inr (6, [.ref xt, .ref xe, .ref xr, .ref xh, .ref xw, .ref xf, .ref xm, .ref xd, .ref xs, .ref xl])), (xh, .inr (1, [.ref xe, .ref b1, .ref b2, .ref b3, .ref b4, .ref b5, .ref b6, .int (0), .int (0), .int (0), .int (0), .int (0)])), (xe, .inr (2, [.int (0), .ref p1, .ref p2, .int (0), .ref p4, .int (0), .ref p6, .ref p7, .ref p8, .int (0), .ref p10, .ref p11, .ref p12, .ref p13, .ref p14, .ref p15, .ref p16]))]) sz) := by
  refine Met.ofW (cc := cX7_firstToFall) (maxL := 5) (ret := (some .int)) (by decide) rfl ?_
  intro p e s m args below meth c s₁ B hml hv
  obtain ⟨rfl, hsz, hP, hE, hD0, hT⟩ := hv
  have hx := B.exec
  have hb := B.bytes
  have hr := B.returns
  have hts := atoms_spec (ws := wsX7_firstToFall) B.pre
  have hown : s.vm.findClass RX7 = some m.cls := findClass_of_methodNamed B.named
  have hlocks := B.notSynchronized
  subst hsz
  have hD := hD0.self (sz := s.heap.size)
  generalize hAe : va_A ([(h0, .inr (6, [.ref xt, .ref xe, .ref xr, .ref xh, .ref xw, .ref xf, .ref xm, .ref xd, .ref xs, .ref xl])), (xh, .inr (1, [.ref xe, .ref b1, .ref b2, .ref b3, .ref b4, .ref b5, .ref b6, .int (0), .int (0), .int (0), .int (0), .int (0)])), (xe, .inr (2, [.int (0), .ref p1, .ref p2, .int (0), .ref p4, .int (0), .ref p6, .ref p7, .ref p8, .int (0), .ref p10, .ref p11, .ref p12, .ref p13, .ref p14, .ref p15, .ref p16]))]) s.heap.size = A at hD hT ⊢
  have hA : ∀ q : Nat, s.heap.size ≤ q → A q := fun q h => by rw [← hAe]; exact Or.inr h
  have hS : va_S A s.heap s.heap [] := va_S.rf
  have hl := lv_entry ([.ref h0]) (n := 5) (Nat.le_of_ble_eq_true rfl)
  rw [lg_entry_eq]
  generalize (lg_sl ([.ref h0]) ++ List.replicate (5 - (lg_sl ([.ref h0])).length) Slot.unset).toArray = ls at hl ⊢
  have hl : lv_has ls 5 [(0, .ref h0)] := hl
  have hP : va_P D vwCl [(h0, .inr (6, [.ref xt, .ref xe, .ref xr, .ref xh, .ref xw, .ref xf, .ref xm, .ref xd, .ref xs, .ref xl])), (xh, .inr (1, [.ref xe, .ref b1, .ref b2, .ref b3, .ref b4, .ref b5, .ref b6, .int (0), .int (0), .int (0), .int (0), .int (0)])), (xe, .inr (2, [.int (0), .ref p1, .ref p2, .int (0), .ref p4, .int (0), .ref p6, .ref p7, .ref p8, .int (0), .ref p10, .ref p11, .ref p12, .ref p13, .ref p14, .ref p15, .ref p16]))] s.heap := hP
  refine lv_aload_n hx hb dX7_firstToFall_0 rfl (lv_at hl 0 rfl) ?_
  refine va_get (D := D) (ci := 6) (v := .ref xh) (C := RX7) (T := TX7) (N := 10) hx hb hts (fun w h => List.mem_cons_of_mem _ (List.mem_append_left _ (List.mem_append_left _ (List.mem_append_right _ h)))) hown hE.1 hP 0 rfl rfl 3 (by decide) (hts (.fieldLink RX7 37 "WornLines" "hand" "LWornLines$Machine;") (by decide +kernel)) (fun _ h9 => h9) rfl dX7_firstToFall_1 ?_
  refine va_get (D := D) (ci := 1) (v := .ref xe) (C := RX1) (T := TX1) (N := 12) hx hb hts (fun w h => List.mem_cons_of_mem _ (List.mem_append_left _ (List.mem_append_right _ h))) hown hE.1 hP 1 rfl rfl 0 (by decide) (hts (.fieldLink RX7 89 "WornLines$Machine" "programme" "LWornLines$Programme;") (by decide +kernel)) (fun _ h9 => h9) rfl dX7_firstToFall_4 ?_
  refine va_get (D := D) (ci := 2) (v := .int (0)) (C := RX2) (T := TX2) (N := 17) hx hb hts (fun w h => List.mem_cons_of_mem _ (List.mem_append_right _ h)) hown hE.1 hP 2 rfl rfl 9 (by decide) (hts (.fieldLink RX7 106 "WornLines$Programme" "lines" "I") (by decide +kernel)) (fun _ h9 => h9) rfl dX7_firstToFall_7 ?_
  refine lv_if_ne (tgt := 15) hx hb dX7_firstToFall_10 (by decide) (fun c_10 => ?_) (fun c_10 => ?_)
  · exact absurd c_10 (by decide)
  · refine lv_iconst (v := (-1)) hx hb dX7_firstToFall_13 (by decide) ?_
    have hP9 := hP.sub (ws' := [(h0, .inr (6, [.ref xt, .ref xe, .ref xr, .ref xh, .ref xw, .ref xf, .ref xm, .ref xd, .ref xs, .ref xl])), (xh, .inr (1, [.ref xe, .ref b1, .ref b2, .ref b3, .ref b4, .ref b5, .ref b6, .int (0), .int (0), .int (0), .int (0), .int (0)])), (xe, .inr (2, [.int (0), .ref p1, .ref p2, .int (0), .ref p4, .int (0), .ref p6, .ref p7, .ref p8, .int (0), .ref p10, .ref p11, .ref p12, .ref p13, .ref p14, .ref p15, .ref p16]))]) [0, 1, 2] rfl
    have hD9 := hD.sub (ws' := [(h0, .inr (6, [.ref xt, .ref xe, .ref xr, .ref xh, .ref xw, .ref xf, .ref xm, .ref xd, .ref xs, .ref xl])), (xh, .inr (1, [.ref xe, .ref b1, .ref b2, .ref b3, .ref b4, .ref b5, .ref b6, .int (0), .int (0), .int (0), .int (0), .int (0)])), (xe, .inr (2, [.int (0), .ref p1, .ref p2, .int (0), .ref p4, .int (0), .ref p6, .ref p7, .ref p8, .int (0), .ref p10, .ref p11, .ref p12, .ref p13, .ref p14, .ref p15, .ref p16]))]) [0, 1, 2] (by decide) rfl
    refine W.widen (k := 0) (n := 0) (Nat.le_of_ble_eq_true rfl) (Nat.le_of_ble_eq_true rfl) ?_
    exact W.iret (v := -1) hx hb hr (fun t ht hW => ⟨⟨-1, (()), rfl, rfl, by rw [ht]; exact hP9, by rw [hAe]; exact hD9⟩, by rw [hAe]; exact hS.F ht⟩) hS.2.2 dX7_firstToFall_14

set_option maxHeartbeats 4000000 in
set_option maxRecDepth 100000 in
theorem c_X7_first (l : Launch) (D : va_G) (ak : Nat → ClassId) (ad : Nat → Nat) (sz : Nat) (h0 : Nat) (xt : Nat) (xe : Nat) (xr : Nat) (xh : Nat) (xw : Nat) (xf : Nat) (xm : Nat) (xd : Nat) (xs : Nat) (xl : Nat) (b1 : Nat) (b2 : Nat) (b3 : Nat) (b4 : Nat) (b5 : Nat) (b6 : Nat) (p1 : Nat) (p2 : Nat) (p4 : Nat) (p6 : Nat) (p7 : Nat) (p8 : Nat) (p10 : Nat) (p11 : Nat) (p12 : Nat) (p13 : Nat) (p14 : Nat) (p15 : Nat) (p16 : Nat) (a0 : Int32)  : Met l yX7_first wsX7_first ({ frames := 1, cells := 0, slots := 0, locals := 24 }) (cPre D ak ad [.ref h0, .int (a0)] ([(h0, .inr (6, [.ref xt, .ref xe, .ref xr, .ref xh, .ref xw, .ref xf, .ref xm, .ref xd, .ref xs, .ref xl])), (xh, .inr (1, [.ref xe, .ref b1, .ref b2, .ref b3, .ref b4, .ref b5, .ref b6, .int (0), .int (0), .int (0), .int (0), .int (0)])), (xe, .inr (2, [.int (0), .ref p1, .ref p2, .int (0), .ref p4, .int (0), .ref p6, .ref p7, .ref p8, .int (0), .ref p10, .ref p11, .ref p12, .ref p13, .ref p14, .ref p15, .ref p16]))]) sz) (cI D (S := Unit) (fun (r : Int32) (u : Unit) => r = (-1)) (fun u => []) ([(h0, .inr (6, [.ref xt, .ref xe, .ref xr, .ref xh, .ref xw, .ref xf, .ref xm, .ref xd, .ref xs, .ref xl])), (xh, .inr (1, [.ref xe, .ref b1, .ref b2, .ref b3, .ref b4, .ref b5, .ref b6, .int (0), .int (0), .int (0), .int (0), .int (0)])), (xe, .inr (2, [.int (0), .ref p1, .ref p2, .int (0), .ref p4, .int (0), .ref p6, .ref p7, .ref p8, .int (0), .ref p10, .ref p11, .ref p12, .ref p13, .ref p14, .ref p15, .ref p16]))]) sz) 0 0 (va_A ([(h0, .inr (6, [.ref xt, .ref xe, .ref xr, .ref xh, .ref xw, .ref xf, .ref xm, .ref xd, .ref xs, .ref xl])), (xh, .inr (1, [.ref xe, .ref b1, .ref b2, .ref b3, .ref b4, .ref b5, .ref b6, .int (0), .int (0), .int (0), .int (0), .int (0)])), (xe, .inr (2, [.int (0), .ref p1, .ref p2, .int (0), .ref p4, .int (0), .ref p6, .ref p7, .ref p8, .int (0), .ref p10, .ref p11, .ref p12, .ref p13, .ref p14, .ref p15, .ref p16]))]) sz) := by
  refine Met.ofW (cc := cX7_first) (maxL := 3) (ret := (some .int)) (by decide) rfl ?_
  intro p e s m args below meth c s₁ B hml hv
  obtain ⟨rfl, hsz, hP, hE, hD0, hT⟩ := hv
  have hx := B.exec
  have hb := B.bytes
  have hr := B.returns
  have hts := atoms_spec (ws := wsX7_first) B.pre
  have hown : s.vm.findClass RX7 = some m.cls := findClass_of_methodNamed B.named
  have hlocks := B.notSynchronized
  subst hsz
  have hD := hD0.self (sz := s.heap.size)
  generalize hAe : va_A ([(h0, .inr (6, [.ref xt, .ref xe, .ref xr, .ref xh, .ref xw, .ref xf, .ref xm, .ref xd, .ref xs, .ref xl])), (xh, .inr (1, [.ref xe, .ref b1, .ref b2, .ref b3, .ref b4, .ref b5, .ref b6, .int (0), .int (0), .int (0), .int (0), .int (0)])), (xe, .inr (2, [.int (0), .ref p1, .ref p2, .int (0), .ref p4, .int (0), .ref p6, .ref p7, .ref p8, .int (0), .ref p10, .ref p11, .ref p12, .ref p13, .ref p14, .ref p15, .ref p16]))]) s.heap.size = A at hD hT ⊢
  have hA : ∀ q : Nat, s.heap.size ≤ q → A q := fun q h => by rw [← hAe]; exact Or.inr h
  have hS : va_S A s.heap s.heap [] := va_S.rf
  have hl := lv_entry ([.ref h0, .int (a0)]) (n := 3) (Nat.le_of_ble_eq_true rfl)
  rw [lg_entry_eq]
  generalize (lg_sl ([.ref h0, .int (a0)]) ++ List.replicate (3 - (lg_sl ([.ref h0, .int (a0)])).length) Slot.unset).toArray = ls at hl ⊢
  have hl : lv_has ls 3 [(0, .ref h0), (1, .int (a0))] := hl
  have hP : va_P D vwCl [(h0, .inr (6, [.ref xt, .ref xe, .ref xr, .ref xh, .ref xw, .ref xf, .ref xm, .ref xd, .ref xs, .ref xl])), (xh, .inr (1, [.ref xe, .ref b1, .ref b2, .ref b3, .ref b4, .ref b5, .ref b6, .int (0), .int (0), .int (0), .int (0), .int (0)])), (xe, .inr (2, [.int (0), .ref p1, .ref p2, .int (0), .ref p4, .int (0), .ref p6, .ref p7, .ref p8, .int (0), .ref p10, .ref p11, .ref p12, .ref p13, .ref p14, .ref p15, .ref p16]))] s.heap := hP
  refine lv_aload_n hx hb dX7_first_0 rfl (lv_at hl 0 rfl) ?_
  refine kc_i (wc := [(h0, .inr (6, [.ref xt, .ref xe, .ref xr, .ref xh, .ref xw, .ref xf, .ref xm, .ref xd, .ref xs, .ref xl])), (xh, .inr (1, [.ref xe, .ref b1, .ref b2, .ref b3, .ref b4, .ref b5, .ref b6, .int (0), .int (0), .int (0), .int (0), .int (0)])), (xe, .inr (2, [.int (0), .ref p1, .ref p2, .int (0), .ref p4, .int (0), .ref p6, .ref p7, .ref p8, .int (0), .ref p10, .ref p11, .ref p12, .ref p13, .ref p14, .ref p15, .ref p16]))]) (wr := []) hP hD hS hA [0, 1, 2] [] rfl rfl (by decide) (by decide) (va_runV (As := []) (rest := []) ⟨hx, hb, hml, hown, hts⟩ (c_X7_firstToFall l D ak ad _ (h0) (xt) (xe) (xr) (xh) (xw) (xf) (xm) (xd) (xs) (xl) (b1) (b2) (b3) (b4) (b5) (b6) (p1) (p2) (p4) (p6) (p7) (p8) (p10) (p11) (p12) (p13) (p14) (p15) (p16) ) (cwV 0 hts gX7_first_X7_firstToFall rfl rfl rfl (by decide +kernel) ⟨Nat.le_of_ble_eq_true rfl, Nat.le_of_ble_eq_true rfl⟩) (kc_preV (As := []) (wc := [(h0, .inr (6, [.ref xt, .ref xe, .ref xr, .ref xh, .ref xw, .ref xf, .ref xm, .ref xd, .ref xs, .ref xl])), (xh, .inr (1, [.ref xe, .ref b1, .ref b2, .ref b3, .ref b4, .ref b5, .ref b6, .int (0), .int (0), .int (0), .int (0), .int (0)])), (xe, .inr (2, [.int (0), .ref p1, .ref p2, .int (0), .ref p4, .int (0), .ref p6, .ref p7, .ref p8, .int (0), .ref p10, .ref p11, .ref p12, .ref p13, .ref p14, .ref p15, .ref p16]))]) hE hT hP hD hS hA [0, 1, 2] (by decide) rfl rfl 0 6 rfl rfl rfl) rfl rfl hl.1 rfl (lv_room (Nat.le_of_ble_eq_true rfl)) dX7_first_1 ⟨Nat.le_of_ble_eq_true rfl, Nat.le_of_ble_eq_true rfl⟩) (fun r_2 u_0 H locs hw_2 hP hD hS => ?_)
  have hP : va_P D vwCl [(h0, .inr (6, [.ref xt, .ref xe, .ref xr, .ref xh, .ref xw, .ref xf, .ref xm, .ref xd, .ref xs, .ref xl])), (xh, .inr (1, [.ref xe, .ref b1, .ref b2, .ref b3, .ref b4, .ref b5, .ref b6, .int (0), .int (0), .int (0), .int (0), .int (0)])), (xe, .inr (2, [.int (0), .ref p1, .ref p2, .int (0), .ref p4, .int (0), .ref p6, .ref p7, .ref p8, .int (0), .ref p10, .ref p11, .ref p12, .ref p13, .ref p14, .ref p15, .ref p16]))] H := hP
  have hD : va_D A [(h0, .inr (6, [.ref xt, .ref xe, .ref xr, .ref xh, .ref xw, .ref xf, .ref xm, .ref xd, .ref xs, .ref xl])), (xh, .inr (1, [.ref xe, .ref b1, .ref b2, .ref b3, .ref b4, .ref b5, .ref b6, .int (0), .int (0), .int (0), .int (0), .int (0)])), (xe, .inr (2, [.int (0), .ref p1, .ref p2, .int (0), .ref p4, .int (0), .ref p6, .ref p7, .ref p8, .int (0), .ref p10, .ref p11, .ref p12, .ref p13, .ref p14, .ref p15, .ref p16]))] := hD
  subst hw_2
  refine lv_istore_n (lv' := [(2, .int (-1)), (0, .ref h0), (1, .int (a0))]) hx hb dX7_first_4 rfl hl (by decide) rfl (fun ls hl => ?_)
  refine lv_iload_n hx hb dX7_first_5 rfl (lv_at hl 0 rfl) ?_
  refine lv_iconst (v := (-1)) hx hb dX7_first_6 (by decide) ?_
  refine lv_icmp_ne (tgt := 12) hx hb dX7_first_7 (by decide) (fun c_7 => ?_) (fun c_7 => ?_)
  · exact absurd c_7 (by decide)
  · refine lv_iconst (v := (-1)) hx hb dX7_first_10 (by decide) ?_
    have hP9 := hP.sub (ws' := []) [] rfl
    have hD9 := hD.sub (ws' := []) [] (by decide) rfl
    refine W.widen (k := 0) (n := 0) (Nat.le_of_ble_eq_true rfl) (Nat.le_of_ble_eq_true rfl) ?_
    exact W.iret (v := -1) hx hb hr (fun t ht hW => ⟨⟨-1, (()), rfl, rfl, by rw [ht]; exact hP9, by rw [hAe]; exact hD9⟩, by rw [hAe]; exact hS.F ht⟩) hS.2.2 dX7_first_11

set_option maxHeartbeats 4000000 in
set_option maxRecDepth 100000 in
theorem c_X7_apart (l : Launch) (D : va_G) (ak : Nat → ClassId) (ad : Nat → Nat) (sz : Nat) (h0 : Nat) (xt : Nat) (xe : Nat) (xr : Nat) (xh : Nat) (xw : Nat) (xf : Nat) (xm : Nat) (xd : Nat) (xs : Nat) (xl : Nat) (b1 : Nat) (b2 : Nat) (b3 : Nat) (b4 : Nat) (b5 : Nat) (b6 : Nat) (p1 : Nat) (p2 : Nat) (p4 : Nat) (p6 : Nat) (p7 : Nat) (p8 : Nat) (p10 : Nat) (p11 : Nat) (p12 : Nat) (p13 : Nat) (p14 : Nat) (p15 : Nat) (p16 : Nat)  : Met l yX7_apart wsX7_apart ({ frames := 0, cells := 0, slots := 0, locals := 0 }) (cPre D ak ad [.ref h0] ([(h0, .inr (6, [.ref xt, .ref xe, .ref xr, .ref xh, .ref xw, .ref xf, .ref xm, .ref xd, .ref xs, .ref xl])), (xh, .inr (1, [.ref xe, .ref b1, .ref b2, .ref b3, .ref b4, .ref b5, .ref b6, .int (0), .int (0), .int (0), .int (0), .int (0)])), (xe, .inr (2, [.int (0), .ref p1, .ref p2, .int (0), .ref p4, .int (0), .ref p6, .ref p7, .ref p8, .int (0), .ref p10, .ref p11, .ref p12, .ref p13, .ref p14, .ref p15, .ref p16]))]) sz) (cI D (S := Unit) (fun (r : Int32) (u : Unit) => r = (-1)) (fun u => []) ([(h0, .inr (6, [.ref xt, .ref xe, .ref xr, .ref xh, .ref xw, .ref xf, .ref xm, .ref xd, .ref xs, .ref xl])), (xh, .inr (1, [.ref xe, .ref b1, .ref b2, .ref b3, .ref b4, .ref b5, .ref b6, .int (0), .int (0), .int (0), .int (0), .int (0)])), (xe, .inr (2, [.int (0), .ref p1, .ref p2, .int (0), .ref p4, .int (0), .ref p6, .ref p7, .ref p8, .int (0), .ref p10, .ref p11, .ref p12, .ref p13, .ref p14, .ref p15, .ref p16]))]) sz) 0 0 (va_A ([(h0, .inr (6, [.ref xt, .ref xe, .ref xr, .ref xh, .ref xw, .ref xf, .ref xm, .ref xd, .ref xs, .ref xl])), (xh, .inr (1, [.ref xe, .ref b1, .ref b2, .ref b3, .ref b4, .ref b5, .ref b6, .int (0), .int (0), .int (0), .int (0), .int (0)])), (xe, .inr (2, [.int (0), .ref p1, .ref p2, .int (0), .ref p4, .int (0), .ref p6, .ref p7, .ref p8, .int (0), .ref p10, .ref p11, .ref p12, .ref p13, .ref p14, .ref p15, .ref p16]))]) sz) := by
  refine Met.ofW (cc := cX7_apart) (maxL := 3) (ret := (some .int)) (by decide) rfl ?_
  intro p e s m args below meth c s₁ B hml hv
  obtain ⟨rfl, hsz, hP, hE, hD0, hT⟩ := hv
  have hx := B.exec
  have hb := B.bytes
  have hr := B.returns
  have hts := atoms_spec (ws := wsX7_apart) B.pre
  have hown : s.vm.findClass RX7 = some m.cls := findClass_of_methodNamed B.named
  have hlocks := B.notSynchronized
  subst hsz
  have hD := hD0.self (sz := s.heap.size)
  generalize hAe : va_A ([(h0, .inr (6, [.ref xt, .ref xe, .ref xr, .ref xh, .ref xw, .ref xf, .ref xm, .ref xd, .ref xs, .ref xl])), (xh, .inr (1, [.ref xe, .ref b1, .ref b2, .ref b3, .ref b4, .ref b5, .ref b6, .int (0), .int (0), .int (0), .int (0), .int (0)])), (xe, .inr (2, [.int (0), .ref p1, .ref p2, .int (0), .ref p4, .int (0), .ref p6, .ref p7, .ref p8, .int (0), .ref p10, .ref p11, .ref p12, .ref p13, .ref p14, .ref p15, .ref p16]))]) s.heap.size = A at hD hT ⊢
  have hA : ∀ q : Nat, s.heap.size ≤ q → A q := fun q h => by rw [← hAe]; exact Or.inr h
  have hS : va_S A s.heap s.heap [] := va_S.rf
  have hl := lv_entry ([.ref h0]) (n := 3) (Nat.le_of_ble_eq_true rfl)
  rw [lg_entry_eq]
  generalize (lg_sl ([.ref h0]) ++ List.replicate (3 - (lg_sl ([.ref h0])).length) Slot.unset).toArray = ls at hl ⊢
  have hl : lv_has ls 3 [(0, .ref h0)] := hl
  have hP : va_P D vwCl [(h0, .inr (6, [.ref xt, .ref xe, .ref xr, .ref xh, .ref xw, .ref xf, .ref xm, .ref xd, .ref xs, .ref xl])), (xh, .inr (1, [.ref xe, .ref b1, .ref b2, .ref b3, .ref b4, .ref b5, .ref b6, .int (0), .int (0), .int (0), .int (0), .int (0)])), (xe, .inr (2, [.int (0), .ref p1, .ref p2, .int (0), .ref p4, .int (0), .ref p6, .ref p7, .ref p8, .int (0), .ref p10, .ref p11, .ref p12, .ref p13, .ref p14, .ref p15, .ref p16]))] s.heap := hP
  refine lv_aload_n hx hb dX7_apart_0 rfl (lv_at hl 0 rfl) ?_
  refine va_get (D := D) (ci := 6) (v := .ref xh) (C := RX7) (T := TX7) (N := 10) hx hb hts (fun w h => List.mem_cons_of_mem _ (List.mem_append_left _ (List.mem_append_left _ (List.mem_append_right _ h)))) hown hE.1 hP 0 rfl rfl 3 (by decide) (hts (.fieldLink RX7 37 "WornLines" "hand" "LWornLines$Machine;") (by decide +kernel)) (fun _ h9 => h9) rfl dX7_apart_1 ?_
  refine va_get (D := D) (ci := 1) (v := .ref xe) (C := RX1) (T := TX1) (N := 12) hx hb hts (fun w h => List.mem_cons_of_mem _ (List.mem_append_left _ (List.mem_append_right _ h))) hown hE.1 hP 1 rfl rfl 0 (by decide) (hts (.fieldLink RX7 89 "WornLines$Machine" "programme" "LWornLines$Programme;") (by decide +kernel)) (fun _ h9 => h9) rfl dX7_apart_4 ?_
  refine va_get (D := D) (ci := 2) (v := .int (0)) (C := RX2) (T := TX2) (N := 17) hx hb hts (fun w h => List.mem_cons_of_mem _ (List.mem_append_right _ h)) hown hE.1 hP 2 rfl rfl 9 (by decide) (hts (.fieldLink RX7 106 "WornLines$Programme" "lines" "I") (by decide +kernel)) (fun _ h9 => h9) rfl dX7_apart_7 ?_
  refine lv_if_ne (tgt := 15) hx hb dX7_apart_10 (by decide) (fun c_10 => ?_) (fun c_10 => ?_)
  · exact absurd c_10 (by decide)
  · refine lv_iconst (v := (-1)) hx hb dX7_apart_13 (by decide) ?_
    have hP9 := hP.sub (ws' := []) [] rfl
    have hD9 := hD.sub (ws' := []) [] (by decide) rfl
    refine W.widen (k := 0) (n := 0) (Nat.le_of_ble_eq_true rfl) (Nat.le_of_ble_eq_true rfl) ?_
    exact W.iret (v := -1) hx hb hr (fun t ht hW => ⟨⟨-1, (()), rfl, rfl, by rw [ht]; exact hP9, by rw [hAe]; exact hD9⟩, by rw [hAe]; exact hS.F ht⟩) hS.2.2 dX7_apart_14

set_option maxHeartbeats 4000000 in
set_option maxRecDepth 100000 in
theorem c_X7_rounds (l : Launch) (D : va_G) (ak : Nat → ClassId) (ad : Nat → Nat) (sz : Nat) (h0 : Nat) (xt : Nat) (xe : Nat) (xr : Nat) (xh : Nat) (xw : Nat) (xf : Nat) (xm : Nat) (xd : Nat) (xs : Nat) (xl : Nat) (b1 : Nat) (b2 : Nat) (b3 : Nat) (b4 : Nat) (b5 : Nat) (b6 : Nat) (p1 : Nat) (p2 : Nat) (p4 : Nat) (p6 : Nat) (p7 : Nat) (p8 : Nat) (p10 : Nat) (p11 : Nat) (p12 : Nat) (p13 : Nat) (p14 : Nat) (p15 : Nat) (p16 : Nat) (a0 : Int32)  : Met l yX7_rounds wsX7_rounds ({ frames := 1, cells := 0, slots := 0, locals := 21 }) (cPre D ak ad [.ref h0, .int (a0)] ([(h0, .inr (6, [.ref xt, .ref xe, .ref xr, .ref xh, .ref xw, .ref xf, .ref xm, .ref xd, .ref xs, .ref xl])), (xh, .inr (1, [.ref xe, .ref b1, .ref b2, .ref b3, .ref b4, .ref b5, .ref b6, .int (0), .int (0), .int (0), .int (0), .int (0)])), (xe, .inr (2, [.int (0), .ref p1, .ref p2, .int (0), .ref p4, .int (0), .ref p6, .ref p7, .ref p8, .int (0), .ref p10, .ref p11, .ref p12, .ref p13, .ref p14, .ref p15, .ref p16]))]) sz) (cI D (S := Unit) (fun (r : Int32) (u : Unit) => r = (-1)) (fun u => []) ([(h0, .inr (6, [.ref xt, .ref xe, .ref xr, .ref xh, .ref xw, .ref xf, .ref xm, .ref xd, .ref xs, .ref xl])), (xh, .inr (1, [.ref xe, .ref b1, .ref b2, .ref b3, .ref b4, .ref b5, .ref b6, .int (0), .int (0), .int (0), .int (0), .int (0)])), (xe, .inr (2, [.int (0), .ref p1, .ref p2, .int (0), .ref p4, .int (0), .ref p6, .ref p7, .ref p8, .int (0), .ref p10, .ref p11, .ref p12, .ref p13, .ref p14, .ref p15, .ref p16]))]) sz) 0 0 (va_A ([(h0, .inr (6, [.ref xt, .ref xe, .ref xr, .ref xh, .ref xw, .ref xf, .ref xm, .ref xd, .ref xs, .ref xl])), (xh, .inr (1, [.ref xe, .ref b1, .ref b2, .ref b3, .ref b4, .ref b5, .ref b6, .int (0), .int (0), .int (0), .int (0), .int (0)])), (xe, .inr (2, [.int (0), .ref p1, .ref p2, .int (0), .ref p4, .int (0), .ref p6, .ref p7, .ref p8, .int (0), .ref p10, .ref p11, .ref p12, .ref p13, .ref p14, .ref p15, .ref p16]))]) sz) := by
  refine Met.ofW (cc := cX7_rounds) (maxL := 3) (ret := (some .int)) (by decide) rfl ?_
  intro p e s m args below meth c s₁ B hml hv
  obtain ⟨rfl, hsz, hP, hE, hD0, hT⟩ := hv
  have hx := B.exec
  have hb := B.bytes
  have hr := B.returns
  have hts := atoms_spec (ws := wsX7_rounds) B.pre
  have hown : s.vm.findClass RX7 = some m.cls := findClass_of_methodNamed B.named
  have hlocks := B.notSynchronized
  subst hsz
  have hD := hD0.self (sz := s.heap.size)
  generalize hAe : va_A ([(h0, .inr (6, [.ref xt, .ref xe, .ref xr, .ref xh, .ref xw, .ref xf, .ref xm, .ref xd, .ref xs, .ref xl])), (xh, .inr (1, [.ref xe, .ref b1, .ref b2, .ref b3, .ref b4, .ref b5, .ref b6, .int (0), .int (0), .int (0), .int (0), .int (0)])), (xe, .inr (2, [.int (0), .ref p1, .ref p2, .int (0), .ref p4, .int (0), .ref p6, .ref p7, .ref p8, .int (0), .ref p10, .ref p11, .ref p12, .ref p13, .ref p14, .ref p15, .ref p16]))]) s.heap.size = A at hD hT ⊢
  have hA : ∀ q : Nat, s.heap.size ≤ q → A q := fun q h => by rw [← hAe]; exact Or.inr h
  have hS : va_S A s.heap s.heap [] := va_S.rf
  have hl := lv_entry ([.ref h0, .int (a0)]) (n := 3) (Nat.le_of_ble_eq_true rfl)
  rw [lg_entry_eq]
  generalize (lg_sl ([.ref h0, .int (a0)]) ++ List.replicate (3 - (lg_sl ([.ref h0, .int (a0)])).length) Slot.unset).toArray = ls at hl ⊢
  have hl : lv_has ls 3 [(0, .ref h0), (1, .int (a0))] := hl
  have hP : va_P D vwCl [(h0, .inr (6, [.ref xt, .ref xe, .ref xr, .ref xh, .ref xw, .ref xf, .ref xm, .ref xd, .ref xs, .ref xl])), (xh, .inr (1, [.ref xe, .ref b1, .ref b2, .ref b3, .ref b4, .ref b5, .ref b6, .int (0), .int (0), .int (0), .int (0), .int (0)])), (xe, .inr (2, [.int (0), .ref p1, .ref p2, .int (0), .ref p4, .int (0), .ref p6, .ref p7, .ref p8, .int (0), .ref p10, .ref p11, .ref p12, .ref p13, .ref p14, .ref p15, .ref p16]))] s.heap := hP
  refine lv_aload_n hx hb dX7_rounds_0 rfl (lv_at hl 0 rfl) ?_
  refine lv_iload_n hx hb dX7_rounds_1 rfl (lv_at hl 1 rfl) ?_
  refine kc_i (wc := [(h0, .inr (6, [.ref xt, .ref xe, .ref xr, .ref xh, .ref xw, .ref xf, .ref xm, .ref xd, .ref xs, .ref xl])), (xh, .inr (1, [.ref xe, .ref b1, .ref b2, .ref b3, .ref b4, .ref b5, .ref b6, .int (0), .int (0), .int (0), .int (0), .int (0)])), (xe, .inr (2, [.int (0), .ref p1, .ref p2, .int (0), .ref p4, .int (0), .ref p6, .ref p7, .ref p8, .int (0), .ref p10, .ref p11, .ref p12, .ref p13, .ref p14, .ref p15, .ref p16]))]) (wr := []) hP hD hS hA [0, 1, 2] [] rfl rfl (by decide) (by decide) (va_runV (As := [.int (a0)]) (rest := []) ⟨hx, hb, hml, hown, hts⟩ (c_X7_canWalk l D ak ad _ (h0) (xt) (xe) (xr) (xh) (xw) (xf) (xm) (xd) (xs) (xl) (b1) (b2) (b3) (b4) (b5) (b6) (p1) (p2) (p4) (p6) (p7) (p8) (p10) (p11) (p12) (p13) (p14) (p15) (p16) (a0) ) (cwV 1 hts gX7_rounds_X7_canWalk rfl rfl rfl (by decide +kernel) ⟨Nat.le_of_ble_eq_true rfl, Nat.le_of_ble_eq_true rfl⟩) (kc_preV (As := [.int (a0)]) (wc := [(h0, .inr (6, [.ref xt, .ref xe, .ref xr, .ref xh, .ref xw, .ref xf, .ref xm, .ref xd, .ref xs, .ref xl])), (xh, .inr (1, [.ref xe, .ref b1, .ref b2, .ref b3, .ref b4, .ref b5, .ref b6, .int (0), .int (0), .int (0), .int (0), .int (0)])), (xe, .inr (2, [.int (0), .ref p1, .ref p2, .int (0), .ref p4, .int (0), .ref p6, .ref p7, .ref p8, .int (0), .ref p10, .ref p11, .ref p12, .ref p13, .ref p14, .ref p15, .ref p16]))]) hE hT hP hD hS hA [0, 1, 2] (by decide) rfl rfl 0 6 rfl rfl rfl) rfl rfl hl.1 rfl (lv_room (Nat.le_of_ble_eq_true rfl)) dX7_rounds_2 ⟨Nat.le_of_ble_eq_true rfl, Nat.le_of_ble_eq_true rfl⟩) (fun r_2 u_0 H locs hw_2 hP hD hS => ?_)
  have hP : va_P D vwCl [(h0, .inr (6, [.ref xt, .ref xe, .ref xr, .ref xh, .ref xw, .ref xf, .ref xm, .ref xd, .ref xs, .ref xl])), (xh, .inr (1, [.ref xe, .ref b1, .ref b2, .ref b3, .ref b4, .ref b5, .ref b6, .int (0), .int (0), .int (0), .int (0), .int (0)])), (xe, .inr (2, [.int (0), .ref p1, .ref p2, .int (0), .ref p4, .int (0), .ref p6, .ref p7, .ref p8, .int (0), .ref p10, .ref p11, .ref p12, .ref p13, .ref p14, .ref p15, .ref p16]))] H := hP
  have hD : va_D A [(h0, .inr (6, [.ref xt, .ref xe, .ref xr, .ref xh, .ref xw, .ref xf, .ref xm, .ref xd, .ref xs, .ref xl])), (xh, .inr (1, [.ref xe, .ref b1, .ref b2, .ref b3, .ref b4, .ref b5, .ref b6, .int (0), .int (0), .int (0), .int (0), .int (0)])), (xe, .inr (2, [.int (0), .ref p1, .ref p2, .int (0), .ref p4, .int (0), .ref p6, .ref p7, .ref p8, .int (0), .ref p10, .ref p11, .ref p12, .ref p13, .ref p14, .ref p15, .ref p16]))] := hD
  subst hw_2
  refine lv_if_ne (tgt := 10) hx hb dX7_rounds_5 (by decide) (fun c_5 => ?_) (fun c_5 => ?_)
  · exact absurd c_5 (by decide)
  · refine lv_iconst (v := (-1)) hx hb dX7_rounds_8 (by decide) ?_
    have hP9 := hP.sub (ws' := []) [] rfl
    have hD9 := hD.sub (ws' := []) [] (by decide) rfl
    refine W.widen (k := 0) (n := 0) (Nat.le_of_ble_eq_true rfl) (Nat.le_of_ble_eq_true rfl) ?_
    exact W.iret (v := -1) hx hb hr (fun t ht hW => ⟨⟨-1, (()), rfl, rfl, by rw [ht]; exact hP9, by rw [hAe]; exact hD9⟩, by rw [hAe]; exact hS.F ht⟩) hS.2.2 dX7_rounds_9

set_option maxHeartbeats 4000000 in
set_option maxRecDepth 100000 in
theorem c_X7_canLast (l : Launch) (D : va_G) (ak : Nat → ClassId) (ad : Nat → Nat) (sz : Nat) (h0 : Nat) (xt : Nat) (xe : Nat) (xr : Nat) (xh : Nat) (xw : Nat) (xf : Nat) (xm : Nat) (xd : Nat) (xs : Nat) (xl : Nat) (b1 : Nat) (b2 : Nat) (b3 : Nat) (b4 : Nat) (b5 : Nat) (b6 : Nat) (p1 : Nat) (p2 : Nat) (p4 : Nat) (p6 : Nat) (p7 : Nat) (p8 : Nat) (p10 : Nat) (p11 : Nat) (p12 : Nat) (p13 : Nat) (p14 : Nat) (p15 : Nat) (p16 : Nat) (a0 : Int32)  : Met l yX7_canLast wsX7_canLast ({ frames := 1, cells := 0, slots := 0, locals := 22 }) (cPre D ak ad [.ref h0, .int (a0)] ([(h0, .inr (6, [.ref xt, .ref xe, .ref xr, .ref xh, .ref xw, .ref xf, .ref xm, .ref xd, .ref xs, .ref xl])), (xh, .inr (1, [.ref xe, .ref b1, .ref b2, .ref b3, .ref b4, .ref b5, .ref b6, .int (0), .int (0), .int (0), .int (0), .int (0)])), (xe, .inr (2, [.int (0), .ref p1, .ref p2, .int (0), .ref p4, .int (0), .ref p6, .ref p7, .ref p8, .int (0), .ref p10, .ref p11, .ref p12, .ref p13, .ref p14, .ref p15, .ref p16]))]) sz) (cI D (S := Unit) (fun (r : Int32) (u : Unit) => r = 0) (fun u => [(h0, .inr (6, [.ref xt, .ref xe, .ref xr, .ref xh, .ref xw, .ref xf, .ref xm, .ref xd, .ref xs, .ref xl])), (xh, .inr (1, [.ref xe, .ref b1, .ref b2, .ref b3, .ref b4, .ref b5, .ref b6, .int (0), .int (0), .int (0), .int (0), .int (0)])), (xe, .inr (2, [.int (0), .ref p1, .ref p2, .int (0), .ref p4, .int (0), .ref p6, .ref p7, .ref p8, .int (0), .ref p10, .ref p11, .ref p12, .ref p13, .ref p14, .ref p15, .ref p16]))]) ([(h0, .inr (6, [.ref xt, .ref xe, .ref xr, .ref xh, .ref xw, .ref xf, .ref xm, .ref xd, .ref xs, .ref xl])), (xh, .inr (1, [.ref xe, .ref b1, .ref b2, .ref b3, .ref b4, .ref b5, .ref b6, .int (0), .int (0), .int (0), .int (0), .int (0)])), (xe, .inr (2, [.int (0), .ref p1, .ref p2, .int (0), .ref p4, .int (0), .ref p6, .ref p7, .ref p8, .int (0), .ref p10, .ref p11, .ref p12, .ref p13, .ref p14, .ref p15, .ref p16]))]) sz) 0 0 (va_A ([(h0, .inr (6, [.ref xt, .ref xe, .ref xr, .ref xh, .ref xw, .ref xf, .ref xm, .ref xd, .ref xs, .ref xl])), (xh, .inr (1, [.ref xe, .ref b1, .ref b2, .ref b3, .ref b4, .ref b5, .ref b6, .int (0), .int (0), .int (0), .int (0), .int (0)])), (xe, .inr (2, [.int (0), .ref p1, .ref p2, .int (0), .ref p4, .int (0), .ref p6, .ref p7, .ref p8, .int (0), .ref p10, .ref p11, .ref p12, .ref p13, .ref p14, .ref p15, .ref p16]))]) sz) := by
  refine Met.ofW (cc := cX7_canLast) (maxL := 2) (ret := (some .boolean)) (by decide) rfl ?_
  intro p e s m args below meth c s₁ B hml hv
  obtain ⟨rfl, hsz, hP, hE, hD0, hT⟩ := hv
  have hx := B.exec
  have hb := B.bytes
  have hr := B.returns
  have hts := atoms_spec (ws := wsX7_canLast) B.pre
  have hown : s.vm.findClass RX7 = some m.cls := findClass_of_methodNamed B.named
  have hlocks := B.notSynchronized
  subst hsz
  have hD := hD0.self (sz := s.heap.size)
  generalize hAe : va_A ([(h0, .inr (6, [.ref xt, .ref xe, .ref xr, .ref xh, .ref xw, .ref xf, .ref xm, .ref xd, .ref xs, .ref xl])), (xh, .inr (1, [.ref xe, .ref b1, .ref b2, .ref b3, .ref b4, .ref b5, .ref b6, .int (0), .int (0), .int (0), .int (0), .int (0)])), (xe, .inr (2, [.int (0), .ref p1, .ref p2, .int (0), .ref p4, .int (0), .ref p6, .ref p7, .ref p8, .int (0), .ref p10, .ref p11, .ref p12, .ref p13, .ref p14, .ref p15, .ref p16]))]) s.heap.size = A at hD hT ⊢
  have hA : ∀ q : Nat, s.heap.size ≤ q → A q := fun q h => by rw [← hAe]; exact Or.inr h
  have hS : va_S A s.heap s.heap [] := va_S.rf
  have hl := lv_entry ([.ref h0, .int (a0)]) (n := 2) (Nat.le_of_ble_eq_true rfl)
  rw [lg_entry_eq]
  generalize (lg_sl ([.ref h0, .int (a0)]) ++ List.replicate (2 - (lg_sl ([.ref h0, .int (a0)])).length) Slot.unset).toArray = ls at hl ⊢
  have hl : lv_has ls 2 [(0, .ref h0), (1, .int (a0))] := hl
  have hP : va_P D vwCl [(h0, .inr (6, [.ref xt, .ref xe, .ref xr, .ref xh, .ref xw, .ref xf, .ref xm, .ref xd, .ref xs, .ref xl])), (xh, .inr (1, [.ref xe, .ref b1, .ref b2, .ref b3, .ref b4, .ref b5, .ref b6, .int (0), .int (0), .int (0), .int (0), .int (0)])), (xe, .inr (2, [.int (0), .ref p1, .ref p2, .int (0), .ref p4, .int (0), .ref p6, .ref p7, .ref p8, .int (0), .ref p10, .ref p11, .ref p12, .ref p13, .ref p14, .ref p15, .ref p16]))] s.heap := hP
  refine lv_iload_n hx hb dX7_canLast_0 rfl (lv_at hl 1 rfl) ?_
  refine lv_iconst (v := 1) hx hb dX7_canLast_1 (by decide) ?_
  refine lv_icmp_lt (tgt := 34) hx hb dX7_canLast_2 (by decide) (fun c_2 => ?_) (fun c_2 => ?_)
  · refine lv_iconst (v := 0) hx hb dX7_canLast_34 (by decide) ?_
    have hP9 := hP.sub (ws' := [(h0, .inr (6, [.ref xt, .ref xe, .ref xr, .ref xh, .ref xw, .ref xf, .ref xm, .ref xd, .ref xs, .ref xl])), (xh, .inr (1, [.ref xe, .ref b1, .ref b2, .ref b3, .ref b4, .ref b5, .ref b6, .int (0), .int (0), .int (0), .int (0), .int (0)])), (xe, .inr (2, [.int (0), .ref p1, .ref p2, .int (0), .ref p4, .int (0), .ref p6, .ref p7, .ref p8, .int (0), .ref p10, .ref p11, .ref p12, .ref p13, .ref p14, .ref p15, .ref p16]))]) [0, 1, 2] rfl
    have hD9 := hD.sub (ws' := [(h0, .inr (6, [.ref xt, .ref xe, .ref xr, .ref xh, .ref xw, .ref xf, .ref xm, .ref xd, .ref xs, .ref xl])), (xh, .inr (1, [.ref xe, .ref b1, .ref b2, .ref b3, .ref b4, .ref b5, .ref b6, .int (0), .int (0), .int (0), .int (0), .int (0)])), (xe, .inr (2, [.int (0), .ref p1, .ref p2, .int (0), .ref p4, .int (0), .ref p6, .ref p7, .ref p8, .int (0), .ref p10, .ref p11, .ref p12, .ref p13, .ref p14, .ref p15, .ref p16]))]) [0, 1, 2] (by decide) rfl
    refine W.widen (k := 0) (n := 0) (Nat.le_of_ble_eq_true rfl) (Nat.le_of_ble_eq_true rfl) ?_
    exact W.zret (v := 0) hx hb hr (rfl) (fun t ht hW => ⟨⟨0, (()), rfl, rfl, by rw [ht]; exact hP9, by rw [hAe]; exact hD9⟩, by rw [hAe]; exact hS.F ht⟩) hS.2.2 dX7_canLast_35
  · refine lv_iload_n hx hb dX7_canLast_5 rfl (lv_at hl 1 rfl) ?_
    refine lv_bipush (v := 64) hx hb dX7_canLast_6 (by decide) ?_
    refine lv_icmp_gt (tgt := 34) hx hb dX7_canLast_8 (by decide) (fun c_8 => ?_) (fun c_8 => ?_)
    · refine lv_iconst (v := 0) hx hb dX7_canLast_34 (by decide) ?_
      have hP9 := hP.sub (ws' := [(h0, .inr (6, [.ref xt, .ref xe, .ref xr, .ref xh, .ref xw, .ref xf, .ref xm, .ref xd, .ref xs, .ref xl])), (xh, .inr (1, [.ref xe, .ref b1, .ref b2, .ref b3, .ref b4, .ref b5, .ref b6, .int (0), .int (0), .int (0), .int (0), .int (0)])), (xe, .inr (2, [.int (0), .ref p1, .ref p2, .int (0), .ref p4, .int (0), .ref p6, .ref p7, .ref p8, .int (0), .ref p10, .ref p11, .ref p12, .ref p13, .ref p14, .ref p15, .ref p16]))]) [0, 1, 2] rfl
      have hD9 := hD.sub (ws' := [(h0, .inr (6, [.ref xt, .ref xe, .ref xr, .ref xh, .ref xw, .ref xf, .ref xm, .ref xd, .ref xs, .ref xl])), (xh, .inr (1, [.ref xe, .ref b1, .ref b2, .ref b3, .ref b4, .ref b5, .ref b6, .int (0), .int (0), .int (0), .int (0), .int (0)])), (xe, .inr (2, [.int (0), .ref p1, .ref p2, .int (0), .ref p4, .int (0), .ref p6, .ref p7, .ref p8, .int (0), .ref p10, .ref p11, .ref p12, .ref p13, .ref p14, .ref p15, .ref p16]))]) [0, 1, 2] (by decide) rfl
      refine W.widen (k := 0) (n := 0) (Nat.le_of_ble_eq_true rfl) (Nat.le_of_ble_eq_true rfl) ?_
      exact W.zret (v := 0) hx hb hr (rfl) (fun t ht hW => ⟨⟨0, (()), rfl, rfl, by rw [ht]; exact hP9, by rw [hAe]; exact hD9⟩, by rw [hAe]; exact hS.F ht⟩) hS.2.2 dX7_canLast_35
    · refine lv_aload_n hx hb dX7_canLast_11 rfl (lv_at hl 0 rfl) ?_
      refine kc_i (wc := [(h0, .inr (6, [.ref xt, .ref xe, .ref xr, .ref xh, .ref xw, .ref xf, .ref xm, .ref xd, .ref xs, .ref xl])), (xh, .inr (1, [.ref xe, .ref b1, .ref b2, .ref b3, .ref b4, .ref b5, .ref b6, .int (0), .int (0), .int (0), .int (0), .int (0)])), (xe, .inr (2, [.int (0), .ref p1, .ref p2, .int (0), .ref p4, .int (0), .ref p6, .ref p7, .ref p8, .int (0), .ref p10, .ref p11, .ref p12, .ref p13, .ref p14, .ref p15, .ref p16]))]) (wr := []) hP hD hS hA [0, 1, 2] [] rfl rfl (by decide) (by decide) (va_runV (As := []) (rest := []) ⟨hx, hb, hml, hown, hts⟩ (c_X7_surveyed l D ak ad _ (h0) (xt) (xe) (xr) (xh) (xw) (xf) (xm) (xd) (xs) (xl) (b1) (b2) (b3) (b4) (b5) (b6) (p1) (p2) (p4) (p6) (p7) (p8) (p10) (p11) (p12) (p13) (p14) (p15) (p16) ) (cwV 0 hts gX7_canLast_X7_surveyed rfl rfl rfl (by decide +kernel) ⟨Nat.le_of_ble_eq_true rfl, Nat.le_of_ble_eq_true rfl⟩) (kc_preV (As := []) (wc := [(h0, .inr (6, [.ref xt, .ref xe, .ref xr, .ref xh, .ref xw, .ref xf, .ref xm, .ref xd, .ref xs, .ref xl])), (xh, .inr (1, [.ref xe, .ref b1, .ref b2, .ref b3, .ref b4, .ref b5, .ref b6, .int (0), .int (0), .int (0), .int (0), .int (0)])), (xe, .inr (2, [.int (0), .ref p1, .ref p2, .int (0), .ref p4, .int (0), .ref p6, .ref p7, .ref p8, .int (0), .ref p10, .ref p11, .ref p12, .ref p13, .ref p14, .ref p15, .ref p16]))]) hE hT hP hD hS hA [0, 1, 2] (by decide) rfl rfl 0 6 rfl rfl rfl) rfl rfl hl.1 rfl (lv_room (Nat.le_of_ble_eq_true rfl)) dX7_canLast_12 ⟨Nat.le_of_ble_eq_true rfl, Nat.le_of_ble_eq_true rfl⟩) (fun r_2 u_0 H locs hw_2 hP hD hS => ?_)
      have hP : va_P D vwCl [(h0, .inr (6, [.ref xt, .ref xe, .ref xr, .ref xh, .ref xw, .ref xf, .ref xm, .ref xd, .ref xs, .ref xl])), (xh, .inr (1, [.ref xe, .ref b1, .ref b2, .ref b3, .ref b4, .ref b5, .ref b6, .int (0), .int (0), .int (0), .int (0), .int (0)])), (xe, .inr (2, [.int (0), .ref p1, .ref p2, .int (0), .ref p4, .int (0), .ref p6, .ref p7, .ref p8, .int (0), .ref p10, .ref p11, .ref p12, .ref p13, .ref p14, .ref p15, .ref p16]))] H := hP
      have hD : va_D A [(h0, .inr (6, [.ref xt, .ref xe, .ref xr, .ref xh, .ref xw, .ref xf, .ref xm, .ref xd, .ref xs, .ref xl])), (xh, .inr (1, [.ref xe, .ref b1, .ref b2, .ref b3, .ref b4, .ref b5, .ref b6, .int (0), .int (0), .int (0), .int (0), .int (0)])), (xe, .inr (2, [.int (0), .ref p1, .ref p2, .int (0), .ref p4, .int (0), .ref p6, .ref p7, .ref p8, .int (0), .ref p10, .ref p11, .ref p12, .ref p13, .ref p14, .ref p15, .ref p16]))] := hD
      subst hw_2
      refine lv_if_eq (tgt := 34) hx hb dX7_canLast_15 (by decide) (fun c_15 => ?_) (fun c_15 => ?_)
      · refine lv_iconst (v := 0) hx hb dX7_canLast_34 (by decide) ?_
        have hP9 := hP.sub (ws' := [(h0, .inr (6, [.ref xt, .ref xe, .ref xr, .ref xh, .ref xw, .ref xf, .ref xm, .ref xd, .ref xs, .ref xl])), (xh, .inr (1, [.ref xe, .ref b1, .ref b2, .ref b3, .ref b4, .ref b5, .ref b6, .int (0), .int (0), .int (0), .int (0), .int (0)])), (xe, .inr (2, [.int (0), .ref p1, .ref p2, .int (0), .ref p4, .int (0), .ref p6, .ref p7, .ref p8, .int (0), .ref p10, .ref p11, .ref p12, .ref p13, .ref p14, .ref p15, .ref p16]))]) [0, 1, 2] rfl
        have hD9 := hD.sub (ws' := [(h0, .inr (6, [.ref xt, .ref xe, .ref xr, .ref xh, .ref xw, .ref xf, .ref xm, .ref xd, .ref xs, .ref xl])), (xh, .inr (1, [.ref xe, .ref b1, .ref b2, .ref b3, .ref b4, .ref b5, .ref b6, .int (0), .int (0), .int (0), .int (0), .int (0)])), (xe, .inr (2, [.int (0), .ref p1, .ref p2, .int (0), .ref p4, .int (0), .ref p6, .ref p7, .ref p8, .int (0), .ref p10, .ref p11, .ref p12, .ref p13, .ref p14, .ref p15, .ref p16]))]) [0, 1, 2] (by decide) rfl
        refine W.widen (k := 0) (n := 0) (Nat.le_of_ble_eq_true rfl) (Nat.le_of_ble_eq_true rfl) ?_
        exact W.zret (v := 0) hx hb hr (rfl) (fun t ht hW => ⟨⟨0, (()), rfl, rfl, by rw [ht]; exact hP9, by rw [hAe]; exact hD9⟩, by rw [hAe]; exact hS.F ht⟩) hS.2.2 dX7_canLast_35
      · exact absurd c_15 (by decide)

set_option maxHeartbeats 4000000 in
set_option maxRecDepth 100000 in
theorem c_X7_lasting (l : Launch) (D : va_G) (ak : Nat → ClassId) (ad : Nat → Nat) (sz : Nat) (h0 : Nat) (xt : Nat) (xe : Nat) (xr : Nat) (xh : Nat) (xw : Nat) (xf : Nat) (xm : Nat) (xd : Nat) (xs : Nat) (xl : Nat) (b1 : Nat) (b2 : Nat) (b3 : Nat) (b4 : Nat) (b5 : Nat) (b6 : Nat) (p1 : Nat) (p2 : Nat) (p4 : Nat) (p6 : Nat) (p7 : Nat) (p8 : Nat) (p10 : Nat) (p11 : Nat) (p12 : Nat) (p13 : Nat) (p14 : Nat) (p15 : Nat) (p16 : Nat) (a0 : Int32)  : Met l yX7_lasting wsX7_lasting ({ frames := 2, cells := 0, slots := 0, locals := 43 }) (cPre D ak ad [.ref h0, .int (a0)] ([(h0, .inr (6, [.ref xt, .ref xe, .ref xr, .ref xh, .ref xw, .ref xf, .ref xm, .ref xd, .ref xs, .ref xl])), (xh, .inr (1, [.ref xe, .ref b1, .ref b2, .ref b3, .ref b4, .ref b5, .ref b6, .int (0), .int (0), .int (0), .int (0), .int (0)])), (xe, .inr (2, [.int (0), .ref p1, .ref p2, .int (0), .ref p4, .int (0), .ref p6, .ref p7, .ref p8, .int (0), .ref p10, .ref p11, .ref p12, .ref p13, .ref p14, .ref p15, .ref p16]))]) sz) (cI D (S := Unit) (fun (r : Int32) (u : Unit) => r = (-1)) (fun u => []) ([(h0, .inr (6, [.ref xt, .ref xe, .ref xr, .ref xh, .ref xw, .ref xf, .ref xm, .ref xd, .ref xs, .ref xl])), (xh, .inr (1, [.ref xe, .ref b1, .ref b2, .ref b3, .ref b4, .ref b5, .ref b6, .int (0), .int (0), .int (0), .int (0), .int (0)])), (xe, .inr (2, [.int (0), .ref p1, .ref p2, .int (0), .ref p4, .int (0), .ref p6, .ref p7, .ref p8, .int (0), .ref p10, .ref p11, .ref p12, .ref p13, .ref p14, .ref p15, .ref p16]))]) sz) 0 0 (va_A ([(h0, .inr (6, [.ref xt, .ref xe, .ref xr, .ref xh, .ref xw, .ref xf, .ref xm, .ref xd, .ref xs, .ref xl])), (xh, .inr (1, [.ref xe, .ref b1, .ref b2, .ref b3, .ref b4, .ref b5, .ref b6, .int (0), .int (0), .int (0), .int (0), .int (0)])), (xe, .inr (2, [.int (0), .ref p1, .ref p2, .int (0), .ref p4, .int (0), .ref p6, .ref p7, .ref p8, .int (0), .ref p10, .ref p11, .ref p12, .ref p13, .ref p14, .ref p15, .ref p16]))]) sz) := by
  refine Met.ofW (cc := cX7_lasting) (maxL := 2) (ret := (some .int)) (by decide) rfl ?_
  intro p e s m args below meth c s₁ B hml hv
  obtain ⟨rfl, hsz, hP, hE, hD0, hT⟩ := hv
  have hx := B.exec
  have hb := B.bytes
  have hr := B.returns
  have hts := atoms_spec (ws := wsX7_lasting) B.pre
  have hown : s.vm.findClass RX7 = some m.cls := findClass_of_methodNamed B.named
  have hlocks := B.notSynchronized
  subst hsz
  have hD := hD0.self (sz := s.heap.size)
  generalize hAe : va_A ([(h0, .inr (6, [.ref xt, .ref xe, .ref xr, .ref xh, .ref xw, .ref xf, .ref xm, .ref xd, .ref xs, .ref xl])), (xh, .inr (1, [.ref xe, .ref b1, .ref b2, .ref b3, .ref b4, .ref b5, .ref b6, .int (0), .int (0), .int (0), .int (0), .int (0)])), (xe, .inr (2, [.int (0), .ref p1, .ref p2, .int (0), .ref p4, .int (0), .ref p6, .ref p7, .ref p8, .int (0), .ref p10, .ref p11, .ref p12, .ref p13, .ref p14, .ref p15, .ref p16]))]) s.heap.size = A at hD hT ⊢
  have hA : ∀ q : Nat, s.heap.size ≤ q → A q := fun q h => by rw [← hAe]; exact Or.inr h
  have hS : va_S A s.heap s.heap [] := va_S.rf
  have hl := lv_entry ([.ref h0, .int (a0)]) (n := 2) (Nat.le_of_ble_eq_true rfl)
  rw [lg_entry_eq]
  generalize (lg_sl ([.ref h0, .int (a0)]) ++ List.replicate (2 - (lg_sl ([.ref h0, .int (a0)])).length) Slot.unset).toArray = ls at hl ⊢
  have hl : lv_has ls 2 [(0, .ref h0), (1, .int (a0))] := hl
  have hP : va_P D vwCl [(h0, .inr (6, [.ref xt, .ref xe, .ref xr, .ref xh, .ref xw, .ref xf, .ref xm, .ref xd, .ref xs, .ref xl])), (xh, .inr (1, [.ref xe, .ref b1, .ref b2, .ref b3, .ref b4, .ref b5, .ref b6, .int (0), .int (0), .int (0), .int (0), .int (0)])), (xe, .inr (2, [.int (0), .ref p1, .ref p2, .int (0), .ref p4, .int (0), .ref p6, .ref p7, .ref p8, .int (0), .ref p10, .ref p11, .ref p12, .ref p13, .ref p14, .ref p15, .ref p16]))] s.heap := hP
  refine lv_aload_n hx hb dX7_lasting_0 rfl (lv_at hl 0 rfl) ?_
  refine lv_iload_n hx hb dX7_lasting_1 rfl (lv_at hl 1 rfl) ?_
  refine kc_i (wc := [(h0, .inr (6, [.ref xt, .ref xe, .ref xr, .ref xh, .ref xw, .ref xf, .ref xm, .ref xd, .ref xs, .ref xl])), (xh, .inr (1, [.ref xe, .ref b1, .ref b2, .ref b3, .ref b4, .ref b5, .ref b6, .int (0), .int (0), .int (0), .int (0), .int (0)])), (xe, .inr (2, [.int (0), .ref p1, .ref p2, .int (0), .ref p4, .int (0), .ref p6, .ref p7, .ref p8, .int (0), .ref p10, .ref p11, .ref p12, .ref p13, .ref p14, .ref p15, .ref p16]))]) (wr := []) hP hD hS hA [0, 1, 2] [] rfl rfl (by decide) (by decide) (va_runV (As := [.int (a0)]) (rest := []) ⟨hx, hb, hml, hown, hts⟩ (c_X7_canLast l D ak ad _ (h0) (xt) (xe) (xr) (xh) (xw) (xf) (xm) (xd) (xs) (xl) (b1) (b2) (b3) (b4) (b5) (b6) (p1) (p2) (p4) (p6) (p7) (p8) (p10) (p11) (p12) (p13) (p14) (p15) (p16) (a0) ) (cwV 1 hts gX7_lasting_X7_canLast rfl rfl rfl (by decide +kernel) ⟨Nat.le_of_ble_eq_true rfl, Nat.le_of_ble_eq_true rfl⟩) (kc_preV (As := [.int (a0)]) (wc := [(h0, .inr (6, [.ref xt, .ref xe, .ref xr, .ref xh, .ref xw, .ref xf, .ref xm, .ref xd, .ref xs, .ref xl])), (xh, .inr (1, [.ref xe, .ref b1, .ref b2, .ref b3, .ref b4, .ref b5, .ref b6, .int (0), .int (0), .int (0), .int (0), .int (0)])), (xe, .inr (2, [.int (0), .ref p1, .ref p2, .int (0), .ref p4, .int (0), .ref p6, .ref p7, .ref p8, .int (0), .ref p10, .ref p11, .ref p12, .ref p13, .ref p14, .ref p15, .ref p16]))]) hE hT hP hD hS hA [0, 1, 2] (by decide) rfl rfl 0 6 rfl rfl rfl) rfl rfl hl.1 rfl (lv_room (Nat.le_of_ble_eq_true rfl)) dX7_lasting_2 ⟨Nat.le_of_ble_eq_true rfl, Nat.le_of_ble_eq_true rfl⟩) (fun r_2 u_0 H locs hw_2 hP hD hS => ?_)
  have hP : va_P D vwCl [(h0, .inr (6, [.ref xt, .ref xe, .ref xr, .ref xh, .ref xw, .ref xf, .ref xm, .ref xd, .ref xs, .ref xl])), (xh, .inr (1, [.ref xe, .ref b1, .ref b2, .ref b3, .ref b4, .ref b5, .ref b6, .int (0), .int (0), .int (0), .int (0), .int (0)])), (xe, .inr (2, [.int (0), .ref p1, .ref p2, .int (0), .ref p4, .int (0), .ref p6, .ref p7, .ref p8, .int (0), .ref p10, .ref p11, .ref p12, .ref p13, .ref p14, .ref p15, .ref p16]))] H := hP
  have hD : va_D A [(h0, .inr (6, [.ref xt, .ref xe, .ref xr, .ref xh, .ref xw, .ref xf, .ref xm, .ref xd, .ref xs, .ref xl])), (xh, .inr (1, [.ref xe, .ref b1, .ref b2, .ref b3, .ref b4, .ref b5, .ref b6, .int (0), .int (0), .int (0), .int (0), .int (0)])), (xe, .inr (2, [.int (0), .ref p1, .ref p2, .int (0), .ref p4, .int (0), .ref p6, .ref p7, .ref p8, .int (0), .ref p10, .ref p11, .ref p12, .ref p13, .ref p14, .ref p15, .ref p16]))] := hD
  subst hw_2
  refine lv_if_eq (tgt := 19) hx hb dX7_lasting_5 (by decide) (fun c_5 => ?_) (fun c_5 => ?_)
  · refine lv_iconst (v := (-1)) hx hb dX7_lasting_19 (by decide) ?_
    have hP9 := hP.sub (ws' := []) [] rfl
    have hD9 := hD.sub (ws' := []) [] (by decide) rfl
    refine W.widen (k := 0) (n := 0) (Nat.le_of_ble_eq_true rfl) (Nat.le_of_ble_eq_true rfl) ?_
    exact W.iret (v := -1) hx hb hr (fun t ht hW => ⟨⟨-1, (()), rfl, rfl, by rw [ht]; exact hP9, by rw [hAe]; exact hD9⟩, by rw [hAe]; exact hS.F ht⟩) hS.2.2 dX7_lasting_20
  · exact absurd c_5 (by decide)

set_option maxHeartbeats 4000000 in
set_option maxRecDepth 100000 in
theorem c_X7_lasts (l : Launch) (D : va_G) (ak : Nat → ClassId) (ad : Nat → Nat) (sz : Nat) (h0 : Nat) (xt : Nat) (xe : Nat) (xr : Nat) (xh : Nat) (xw : Nat) (xf : Nat) (xm : Nat) (xd : Nat) (xs : Nat) (xl : Nat) (b1 : Nat) (b2 : Nat) (b3 : Nat) (b4 : Nat) (b5 : Nat) (b6 : Nat) (p1 : Nat) (p2 : Nat) (p4 : Nat) (p6 : Nat) (p7 : Nat) (p8 : Nat) (p10 : Nat) (p11 : Nat) (p12 : Nat) (p13 : Nat) (p14 : Nat) (p15 : Nat) (p16 : Nat) (a0 : Int32) (a1 : Int32) (a2 : Int32)  : Met l yX7_lasts wsX7_lasts ({ frames := 2, cells := 0, slots := 0, locals := 43 }) (cPre D ak ad [.ref h0, .int (a0), .int (a1), .int (a2)] ([(h0, .inr (6, [.ref xt, .ref xe, .ref xr, .ref xh, .ref xw, .ref xf, .ref xm, .ref xd, .ref xs, .ref xl])), (xh, .inr (1, [.ref xe, .ref b1, .ref b2, .ref b3, .ref b4, .ref b5, .ref b6, .int (0), .int (0), .int (0), .int (0), .int (0)])), (xe, .inr (2, [.int (0), .ref p1, .ref p2, .int (0), .ref p4, .int (0), .ref p6, .ref p7, .ref p8, .int (0), .ref p10, .ref p11, .ref p12, .ref p13, .ref p14, .ref p15, .ref p16]))]) sz) (cI D (S := Unit) (fun (r : Int32) (u : Unit) => r = (-1)) (fun u => []) ([(h0, .inr (6, [.ref xt, .ref xe, .ref xr, .ref xh, .ref xw, .ref xf, .ref xm, .ref xd, .ref xs, .ref xl])), (xh, .inr (1, [.ref xe, .ref b1, .ref b2, .ref b3, .ref b4, .ref b5, .ref b6, .int (0), .int (0), .int (0), .int (0), .int (0)])), (xe, .inr (2, [.int (0), .ref p1, .ref p2, .int (0), .ref p4, .int (0), .ref p6, .ref p7, .ref p8, .int (0), .ref p10, .ref p11, .ref p12, .ref p13, .ref p14, .ref p15, .ref p16]))]) sz) 0 0 (va_A ([(h0, .inr (6, [.ref xt, .ref xe, .ref xr, .ref xh, .ref xw, .ref xf, .ref xm, .ref xd, .ref xs, .ref xl])), (xh, .inr (1, [.ref xe, .ref b1, .ref b2, .ref b3, .ref b4, .ref b5, .ref b6, .int (0), .int (0), .int (0), .int (0), .int (0)])), (xe, .inr (2, [.int (0), .ref p1, .ref p2, .int (0), .ref p4, .int (0), .ref p6, .ref p7, .ref p8, .int (0), .ref p10, .ref p11, .ref p12, .ref p13, .ref p14, .ref p15, .ref p16]))]) sz) := by
  refine Met.ofW (cc := cX7_lasts) (maxL := 4) (ret := (some .int)) (by decide) rfl ?_
  intro p e s m args below meth c s₁ B hml hv
  obtain ⟨rfl, hsz, hP, hE, hD0, hT⟩ := hv
  have hx := B.exec
  have hb := B.bytes
  have hr := B.returns
  have hts := atoms_spec (ws := wsX7_lasts) B.pre
  have hown : s.vm.findClass RX7 = some m.cls := findClass_of_methodNamed B.named
  have hlocks := B.notSynchronized
  subst hsz
  have hD := hD0.self (sz := s.heap.size)
  generalize hAe : va_A ([(h0, .inr (6, [.ref xt, .ref xe, .ref xr, .ref xh, .ref xw, .ref xf, .ref xm, .ref xd, .ref xs, .ref xl])), (xh, .inr (1, [.ref xe, .ref b1, .ref b2, .ref b3, .ref b4, .ref b5, .ref b6, .int (0), .int (0), .int (0), .int (0), .int (0)])), (xe, .inr (2, [.int (0), .ref p1, .ref p2, .int (0), .ref p4, .int (0), .ref p6, .ref p7, .ref p8, .int (0), .ref p10, .ref p11, .ref p12, .ref p13, .ref p14, .ref p15, .ref p16]))]) s.heap.size = A at hD hT ⊢
  have hA : ∀ q : Nat, s.heap.size ≤ q → A q := fun q h => by rw [← hAe]; exact Or.inr h
  have hS : va_S A s.heap s.heap [] := va_S.rf
  have hl := lv_entry ([.ref h0, .int (a0), .int (a1), .int (a2)]) (n := 4) (Nat.le_of_ble_eq_true rfl)
  rw [lg_entry_eq]
  generalize (lg_sl ([.ref h0, .int (a0), .int (a1), .int (a2)]) ++ List.replicate (4 - (lg_sl ([.ref h0, .int (a0), .int (a1), .int (a2)])).length) Slot.unset).toArray = ls at hl ⊢
  have hl : lv_has ls 4 [(0, .ref h0), (1, .int (a0)), (2, .int (a1)), (3, .int (a2))] := hl
  have hP : va_P D vwCl [(h0, .inr (6, [.ref xt, .ref xe, .ref xr, .ref xh, .ref xw, .ref xf, .ref xm, .ref xd, .ref xs, .ref xl])), (xh, .inr (1, [.ref xe, .ref b1, .ref b2, .ref b3, .ref b4, .ref b5, .ref b6, .int (0), .int (0), .int (0), .int (0), .int (0)])), (xe, .inr (2, [.int (0), .ref p1, .ref p2, .int (0), .ref p4, .int (0), .ref p6, .ref p7, .ref p8, .int (0), .ref p10, .ref p11, .ref p12, .ref p13, .ref p14, .ref p15, .ref p16]))] s.heap := hP
  refine lv_aload_n hx hb dX7_lasts_0 rfl (lv_at hl 0 rfl) ?_
  refine lv_iload_n hx hb dX7_lasts_1 rfl (lv_at hl 1 rfl) ?_
  refine kc_i (wc := [(h0, .inr (6, [.ref xt, .ref xe, .ref xr, .ref xh, .ref xw, .ref xf, .ref xm, .ref xd, .ref xs, .ref xl])), (xh, .inr (1, [.ref xe, .ref b1, .ref b2, .ref b3, .ref b4, .ref b5, .ref b6, .int (0), .int (0), .int (0), .int (0), .int (0)])), (xe, .inr (2, [.int (0), .ref p1, .ref p2, .int (0), .ref p4, .int (0), .ref p6, .ref p7, .ref p8, .int (0), .ref p10, .ref p11, .ref p12, .ref p13, .ref p14, .ref p15, .ref p16]))]) (wr := []) hP hD hS hA [0, 1, 2] [] rfl rfl (by decide) (by decide) (va_runV (As := [.int (a0)]) (rest := []) ⟨hx, hb, hml, hown, hts⟩ (c_X7_canLast l D ak ad _ (h0) (xt) (xe) (xr) (xh) (xw) (xf) (xm) (xd) (xs) (xl) (b1) (b2) (b3) (b4) (b5) (b6) (p1) (p2) (p4) (p6) (p7) (p8) (p10) (p11) (p12) (p13) (p14) (p15) (p16) (a0) ) (cwV 1 hts gX7_lasts_X7_canLast rfl rfl rfl (by decide +kernel) ⟨Nat.le_of_ble_eq_true rfl, Nat.le_of_ble_eq_true rfl⟩) (kc_preV (As := [.int (a0)]) (wc := [(h0, .inr (6, [.ref xt, .ref xe, .ref xr, .ref xh, .ref xw, .ref xf, .ref xm, .ref xd, .ref xs, .ref xl])), (xh, .inr (1, [.ref xe, .ref b1, .ref b2, .ref b3, .ref b4, .ref b5, .ref b6, .int (0), .int (0), .int (0), .int (0), .int (0)])), (xe, .inr (2, [.int (0), .ref p1, .ref p2, .int (0), .ref p4, .int (0), .ref p6, .ref p7, .ref p8, .int (0), .ref p10, .ref p11, .ref p12, .ref p13, .ref p14, .ref p15, .ref p16]))]) hE hT hP hD hS hA [0, 1, 2] (by decide) rfl rfl 0 6 rfl rfl rfl) rfl rfl hl.1 rfl (lv_room (Nat.le_of_ble_eq_true rfl)) dX7_lasts_2 ⟨Nat.le_of_ble_eq_true rfl, Nat.le_of_ble_eq_true rfl⟩) (fun r_2 u_0 H locs hw_2 hP hD hS => ?_)
  have hP : va_P D vwCl [(h0, .inr (6, [.ref xt, .ref xe, .ref xr, .ref xh, .ref xw, .ref xf, .ref xm, .ref xd, .ref xs, .ref xl])), (xh, .inr (1, [.ref xe, .ref b1, .ref b2, .ref b3, .ref b4, .ref b5, .ref b6, .int (0), .int (0), .int (0), .int (0), .int (0)])), (xe, .inr (2, [.int (0), .ref p1, .ref p2, .int (0), .ref p4, .int (0), .ref p6, .ref p7, .ref p8, .int (0), .ref p10, .ref p11, .ref p12, .ref p13, .ref p14, .ref p15, .ref p16]))] H := hP
  have hD : va_D A [(h0, .inr (6, [.ref xt, .ref xe, .ref xr, .ref xh, .ref xw, .ref xf, .ref xm, .ref xd, .ref xs, .ref xl])), (xh, .inr (1, [.ref xe, .ref b1, .ref b2, .ref b3, .ref b4, .ref b5, .ref b6, .int (0), .int (0), .int (0), .int (0), .int (0)])), (xe, .inr (2, [.int (0), .ref p1, .ref p2, .int (0), .ref p4, .int (0), .ref p6, .ref p7, .ref p8, .int (0), .ref p10, .ref p11, .ref p12, .ref p13, .ref p14, .ref p15, .ref p16]))] := hD
  subst hw_2
  refine lv_if_eq (tgt := 25) hx hb dX7_lasts_5 (by decide) (fun c_5 => ?_) (fun c_5 => ?_)
  · refine lv_iconst (v := (-1)) hx hb dX7_lasts_25 (by decide) ?_
    have hP9 := hP.sub (ws' := []) [] rfl
    have hD9 := hD.sub (ws' := []) [] (by decide) rfl
    refine W.widen (k := 0) (n := 0) (Nat.le_of_ble_eq_true rfl) (Nat.le_of_ble_eq_true rfl) ?_
    exact W.iret (v := -1) hx hb hr (fun t ht hW => ⟨⟨-1, (()), rfl, rfl, by rw [ht]; exact hP9, by rw [hAe]; exact hD9⟩, by rw [hAe]; exact hS.F ht⟩) hS.2.2 dX7_lasts_26
  · exact absurd c_5 (by decide)

set_option maxHeartbeats 4000000 in
set_option maxRecDepth 100000 in
theorem c_X7_better (l : Launch) (D : va_G) (ak : Nat → ClassId) (ad : Nat → Nat) (sz : Nat) (h0 : Nat) (xt : Nat) (xe : Nat) (xr : Nat) (xh : Nat) (xw : Nat) (xf : Nat) (xm : Nat) (xd : Nat) (xs : Nat) (xl : Nat) (b1 : Nat) (b2 : Nat) (b3 : Nat) (b4 : Nat) (b5 : Nat) (b6 : Nat) (p1 : Nat) (p2 : Nat) (p4 : Nat) (p6 : Nat) (p7 : Nat) (p8 : Nat) (p10 : Nat) (p11 : Nat) (p12 : Nat) (p13 : Nat) (p14 : Nat) (p15 : Nat) (p16 : Nat) (a0 : Int32)  : Met l yX7_better wsX7_better ({ frames := 0, cells := 0, slots := 0, locals := 0 }) (cPre D ak ad [.ref h0, .int (a0)] ([(h0, .inr (6, [.ref xt, .ref xe, .ref xr, .ref xh, .ref xw, .ref xf, .ref xm, .ref xd, .ref xs, .ref xl])), (xh, .inr (1, [.ref xe, .ref b1, .ref b2, .ref b3, .ref b4, .ref b5, .ref b6, .int (0), .int (0), .int (0), .int (0), .int (0)])), (xe, .inr (2, [.int (0), .ref p1, .ref p2, .int (0), .ref p4, .int (0), .ref p6, .ref p7, .ref p8, .int (0), .ref p10, .ref p11, .ref p12, .ref p13, .ref p14, .ref p15, .ref p16]))]) sz) (cI D (S := Unit) (fun (r : Int32) (u : Unit) => r = (-1)) (fun u => []) ([(h0, .inr (6, [.ref xt, .ref xe, .ref xr, .ref xh, .ref xw, .ref xf, .ref xm, .ref xd, .ref xs, .ref xl])), (xh, .inr (1, [.ref xe, .ref b1, .ref b2, .ref b3, .ref b4, .ref b5, .ref b6, .int (0), .int (0), .int (0), .int (0), .int (0)])), (xe, .inr (2, [.int (0), .ref p1, .ref p2, .int (0), .ref p4, .int (0), .ref p6, .ref p7, .ref p8, .int (0), .ref p10, .ref p11, .ref p12, .ref p13, .ref p14, .ref p15, .ref p16]))]) sz) 0 0 (va_A ([(h0, .inr (6, [.ref xt, .ref xe, .ref xr, .ref xh, .ref xw, .ref xf, .ref xm, .ref xd, .ref xs, .ref xl])), (xh, .inr (1, [.ref xe, .ref b1, .ref b2, .ref b3, .ref b4, .ref b5, .ref b6, .int (0), .int (0), .int (0), .int (0), .int (0)])), (xe, .inr (2, [.int (0), .ref p1, .ref p2, .int (0), .ref p4, .int (0), .ref p6, .ref p7, .ref p8, .int (0), .ref p10, .ref p11, .ref p12, .ref p13, .ref p14, .ref p15, .ref p16]))]) sz) := by
  refine Met.ofW (cc := cX7_better) (maxL := 6) (ret := (some .int)) (by decide) rfl ?_
  intro p e s m args below meth c s₁ B hml hv
  obtain ⟨rfl, hsz, hP, hE, hD0, hT⟩ := hv
  have hx := B.exec
  have hb := B.bytes
  have hr := B.returns
  have hts := atoms_spec (ws := wsX7_better) B.pre
  have hown : s.vm.findClass RX7 = some m.cls := findClass_of_methodNamed B.named
  have hlocks := B.notSynchronized
  subst hsz
  have hD := hD0.self (sz := s.heap.size)
  generalize hAe : va_A ([(h0, .inr (6, [.ref xt, .ref xe, .ref xr, .ref xh, .ref xw, .ref xf, .ref xm, .ref xd, .ref xs, .ref xl])), (xh, .inr (1, [.ref xe, .ref b1, .ref b2, .ref b3, .ref b4, .ref b5, .ref b6, .int (0), .int (0), .int (0), .int (0), .int (0)])), (xe, .inr (2, [.int (0), .ref p1, .ref p2, .int (0), .ref p4, .int (0), .ref p6, .ref p7, .ref p8, .int (0), .ref p10, .ref p11, .ref p12, .ref p13, .ref p14, .ref p15, .ref p16]))]) s.heap.size = A at hD hT ⊢
  have hA : ∀ q : Nat, s.heap.size ≤ q → A q := fun q h => by rw [← hAe]; exact Or.inr h
  have hS : va_S A s.heap s.heap [] := va_S.rf
  have hl := lv_entry ([.ref h0, .int (a0)]) (n := 6) (Nat.le_of_ble_eq_true rfl)
  rw [lg_entry_eq]
  generalize (lg_sl ([.ref h0, .int (a0)]) ++ List.replicate (6 - (lg_sl ([.ref h0, .int (a0)])).length) Slot.unset).toArray = ls at hl ⊢
  have hl : lv_has ls 6 [(0, .ref h0), (1, .int (a0))] := hl
  have hP : va_P D vwCl [(h0, .inr (6, [.ref xt, .ref xe, .ref xr, .ref xh, .ref xw, .ref xf, .ref xm, .ref xd, .ref xs, .ref xl])), (xh, .inr (1, [.ref xe, .ref b1, .ref b2, .ref b3, .ref b4, .ref b5, .ref b6, .int (0), .int (0), .int (0), .int (0), .int (0)])), (xe, .inr (2, [.int (0), .ref p1, .ref p2, .int (0), .ref p4, .int (0), .ref p6, .ref p7, .ref p8, .int (0), .ref p10, .ref p11, .ref p12, .ref p13, .ref p14, .ref p15, .ref p16]))] s.heap := hP
  refine lv_aload_n hx hb dX7_better_0 rfl (lv_at hl 0 rfl) ?_
  refine va_get (D := D) (ci := 6) (v := .ref xh) (C := RX7) (T := TX7) (N := 10) hx hb hts (fun w h => List.mem_cons_of_mem _ (List.mem_append_left _ (List.mem_append_left _ (List.mem_append_right _ h)))) hown hE.1 hP 0 rfl rfl 3 (by decide) (hts (.fieldLink RX7 37 "WornLines" "hand" "LWornLines$Machine;") (by decide +kernel)) (fun _ h9 => h9) rfl dX7_better_1 ?_
  refine va_get (D := D) (ci := 1) (v := .int (0)) (C := RX1) (T := TX1) (N := 12) hx hb hts (fun w h => List.mem_cons_of_mem _ (List.mem_append_left _ (List.mem_append_right _ h))) hown hE.1 hP 1 rfl rfl 8 (by decide) (hts (.fieldLink RX7 155 "WornLines$Machine" "state" "I") (by decide +kernel)) (fun _ h9 => h9) rfl dX7_better_4 ?_
  refine lv_iconst (v := 1) hx hb dX7_better_7 (by decide) ?_
  refine lv_icmp_eq (tgt := 24) hx hb dX7_better_8 (by decide) (fun c_8 => ?_) (fun c_8 => ?_)
  · exact absurd c_8 (by decide)
  · refine lv_aload_n hx hb dX7_better_11 rfl (lv_at hl 0 rfl) ?_
    refine va_get (D := D) (ci := 6) (v := .ref xh) (C := RX7) (T := TX7) (N := 10) hx hb hts (fun w h => List.mem_cons_of_mem _ (List.mem_append_left _ (List.mem_append_left _ (List.mem_append_right _ h)))) hown hE.1 hP 0 rfl rfl 3 (by decide) (hts (.fieldLink RX7 37 "WornLines" "hand" "LWornLines$Machine;") (by decide +kernel)) (fun _ h9 => h9) rfl dX7_better_12 ?_
    refine va_get (D := D) (ci := 1) (v := .int (0)) (C := RX1) (T := TX1) (N := 12) hx hb hts (fun w h => List.mem_cons_of_mem _ (List.mem_append_left _ (List.mem_append_right _ h))) hown hE.1 hP 1 rfl rfl 8 (by decide) (hts (.fieldLink RX7 155 "WornLines$Machine" "state" "I") (by decide +kernel)) (fun _ h9 => h9) rfl dX7_better_15 ?_
    refine lv_iconst (v := 3) hx hb dX7_better_18 (by decide) ?_
    refine lv_icmp_eq (tgt := 24) hx hb dX7_better_19 (by decide) (fun c_19 => ?_) (fun c_19 => ?_)
    · exact absurd c_19 (by decide)
    · refine lv_iconst (v := (-1)) hx hb dX7_better_22 (by decide) ?_
      have hP9 := hP.sub (ws' := []) [] rfl
      have hD9 := hD.sub (ws' := []) [] (by decide) rfl
      refine W.widen (k := 0) (n := 0) (Nat.le_of_ble_eq_true rfl) (Nat.le_of_ble_eq_true rfl) ?_
      exact W.iret (v := -1) hx hb hr (fun t ht hW => ⟨⟨-1, (()), rfl, rfl, by rw [ht]; exact hP9, by rw [hAe]; exact hD9⟩, by rw [hAe]; exact hS.F ht⟩) hS.2.2 dX7_better_23
