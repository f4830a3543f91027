set_option maxRecDepth 20000 in
theorem gX11_best_X11_gradeUnder : GoodIn wsX11_best (wsV RX11 174 RX11 yX11_gradeUnder wsX11_gradeUnder) := goodIn_app (goodIn_of _ (by decide +kernel)) ggX11_best_X11_gradeUnder
theorem dX11_best_0 : decode cX11_best 0 = .ok (.aload_n 0, 1) := by decide +kernel
theorem dX11_best_1 : decode cX11_best 1 = .ok (.getfield 12, 3) := by decide +kernel
theorem dX11_best_4 : decode cX11_best 4 = .ok (.iload_n 1, 1) := by decide +kernel
theorem dX11_best_5 : decode cX11_best 5 = .ok (.invokevirtual 122, 3) := by decide +kernel
theorem dX11_best_8 : decode cX11_best 8 = .ok (.ifCond .eq 12, 3) := by decide +kernel
theorem dX11_best_11 : decode cX11_best 11 = .ok (.iload_n 2, 1) := by decide +kernel
theorem dX11_best_12 : decode cX11_best 12 = .ok (.ifCond .lt 8, 3) := by decide +kernel
theorem dX11_best_15 : decode cX11_best 15 = .ok (.iload_n 2, 1) := by decide +kernel
theorem dX11_best_16 : decode cX11_best 16 = .ok (.iconst 1, 1) := by decide +kernel
theorem dX11_best_17 : decode cX11_best 17 = .ok (.if_icmp .le 5, 3) := by decide +kernel
theorem dX11_best_20 : decode cX11_best 20 = .ok (.iconst (-1), 1) := by decide +kernel
theorem dX11_best_21 : decode cX11_best 21 = .ok (.ireturn, 1) := by decide +kernel
theorem dX11_best_22 : decode cX11_best 22 = .ok (.iconst (-1), 1) := by decide +kernel
theorem dX11_best_23 : decode cX11_best 23 = .ok (.istore_n 3, 1) := by decide +kernel
theorem dX11_best_24 : decode cX11_best 24 = .ok (.iconst (-1), 1) := by decide +kernel
theorem dX11_best_25 : decode cX11_best 25 = .ok (.istore 4, 2) := by decide +kernel
theorem dX11_best_27 : decode cX11_best 27 = .ok (.iconst 0, 1) := by decide +kernel
theorem dX11_best_28 : decode cX11_best 28 = .ok (.istore 5, 2) := by decide +kernel
theorem dX11_best_30 : decode cX11_best 30 = .ok (.iload 5, 2) := by decide +kernel
theorem dX11_best_32 : decode cX11_best 32 = .ok (.iconst 4, 1) := by decide +kernel
theorem dX11_best_33 : decode cX11_best 33 = .ok (.if_icmp .ge 52, 3) := by decide +kernel
theorem dX11_best_36 : decode cX11_best 36 = .ok (.aload_n 0, 1) := by decide +kernel
theorem dX11_best_37 : decode cX11_best 37 = .ok (.getfield 12, 3) := by decide +kernel
theorem dX11_best_40 : decode cX11_best 40 = .ok (.iload 5, 2) := by decide +kernel
theorem dX11_best_42 : decode cX11_best 42 = .ok (.invokevirtual 101, 3) := by decide +kernel
theorem dX11_best_45 : decode cX11_best 45 = .ok (.astore 6, 2) := by decide +kernel
theorem dX11_best_47 : decode cX11_best 47 = .ok (.aload 6, 2) := by decide +kernel
theorem dX11_best_49 : decode cX11_best 49 = .ok (.ifnonnull 7, 3) := by decide +kernel
theorem dX11_best_52 : decode cX11_best 52 = .ok (.iconst (-1), 1) := by decide +kernel
theorem dX11_best_53 : decode cX11_best 53 = .ok (.goto 10, 3) := by decide +kernel
theorem dX11_best_56 : decode cX11_best 56 = .ok (.aload_n 0, 1) := by decide +kernel
theorem dX11_best_57 : decode cX11_best 57 = .ok (.iload_n 1, 1) := by decide +kernel
theorem dX11_best_58 : decode cX11_best 58 = .ok (.aload 6, 2) := by decide +kernel
theorem dX11_best_60 : decode cX11_best 60 = .ok (.invokevirtual 174, 3) := by decide +kernel
theorem dX11_best_63 : decode cX11_best 63 = .ok (.istore 7, 2) := by decide +kernel
theorem dX11_best_65 : decode cX11_best 65 = .ok (.iload 7, 2) := by decide +kernel
theorem dX11_best_67 : decode cX11_best 67 = .ok (.iload 4, 2) := by decide +kernel
theorem dX11_best_69 : decode cX11_best 69 = .ok (.if_icmp .le 10, 3) := by decide +kernel
theorem dX11_best_72 : decode cX11_best 72 = .ok (.iload 5, 2) := by decide +kernel
theorem dX11_best_74 : decode cX11_best 74 = .ok (.istore_n 3, 1) := by decide +kernel
theorem dX11_best_75 : decode cX11_best 75 = .ok (.iload 7, 2) := by decide +kernel
theorem dX11_best_77 : decode cX11_best 77 = .ok (.istore 4, 2) := by decide +kernel
theorem dX11_best_79 : decode cX11_best 79 = .ok (.iinc 5 1, 3) := by decide +kernel
theorem dX11_best_82 : decode cX11_best 82 = .ok (.goto (-52), 3) := by decide +kernel
theorem dX11_best_85 : decode cX11_best 85 = .ok (.iload_n 2, 1) := by decide +kernel
theorem dX11_best_86 : decode cX11_best 86 = .ok (.ifCond .ne 7, 3) := by decide +kernel
theorem dX11_best_89 : decode cX11_best 89 = .ok (.iload_n 3, 1) := by decide +kernel
theorem dX11_best_90 : decode cX11_best 90 = .ok (.goto 5, 3) := by decide +kernel
theorem dX11_best_93 : decode cX11_best 93 = .ok (.iload 4, 2) := by decide +kernel
theorem dX11_best_95 : decode cX11_best 95 = .ok (.ireturn, 1) := by decide +kernel
set_option maxRecDepth 20000 in
theorem ggX11_asked_X10_chiefAt : GoodIn wsX11_asked wsX10_chiefAt := goodIn_r _ [11, 12, 13, 254, 255, 256, 257, 258, 259, 260, 261, 262, 263, 264, 265, 266, 267, 268, 269, 270, 271, 272] (by decide +kernel) (by decide +kernel)
set_option maxRecDepth 20000 in
theorem gX11_asked_X10_chiefAt : GoodIn wsX11_asked (wsV RX11 101 RX10 yX10_chiefAt wsX10_chiefAt) := goodIn_app (goodIn_of _ (by decide +kernel)) ggX11_asked_X10_chiefAt
set_option maxRecDepth 20000 in
theorem ggX11_asked_X11_isWithin : GoodIn wsX11_asked wsX11_isWithin := goodIn_r _ [17] (by decide +kernel) (by decide +kernel)
set_option maxRecDepth 20000 in
theorem gX11_asked_X11_isWithin : GoodIn wsX11_asked (va_wsS RX11 84 yX11_isWithin wsX11_isWithin) := goodIn_app (goodIn_of _ (by decide +kernel)) ggX11_asked_X11_isWithin
set_option maxRecDepth 20000 in
theorem ggX11_asked_X0_make : GoodIn wsX11_asked wsX0_make := goodIn_r _ [21, 22, 23, 24, 25, 26, 27, 28, 29, 30, 31, 32, 33, 34, 35, 36, 37, 38, 39, 40, 41, 20, 42, 43, 44, 45, 46, 47, 48, 49, 50, 51, 52, 53, 54, 55, 56, 57, 58, 59, 60, 61, 62, 63, 64, 65, 66, 67, 68, 69, 70, 71, 72, 73, 74, 75, 238, 239, 240, 241, 250, 251, 252, 253, 234, 235, 236, 237, 242, 243, 244, 245, 230, 231, 232, 233, 246, 247, 248, 249, 226, 227, 228, 229] (by decide +kernel) (by decide +kernel)
set_option maxRecDepth 20000 in
theorem gX11_asked_X0_make : GoodIn wsX11_asked (va_wsS RX11 95 yX0_make wsX0_make) := goodIn_app (goodIn_of _ (by decide +kernel)) ggX11_asked_X0_make
set_option maxRecDepth 20000 in
theorem ggX11_asked_X1_gradeTeam : GoodIn wsX11_asked wsX1_gradeTeam := goodIn_r _ [80, 81, 82, 83, 84, 10, 85, 86, 87, 88, 89, 90, 79, 91, 92, 93, 94, 95, 96, 97, 98, 99, 100, 101, 102, 103, 104, 105, 106, 107, 108, 109, 110, 111, 112, 113, 114, 115, 116, 117, 118, 119, 120, 121, 122, 123, 20, 124, 125, 126, 127, 128, 129, 130, 30, 131, 132, 133, 134, 135, 136, 137, 138, 139, 140, 141, 142, 143, 144, 145, 146, 147, 148, 24, 149, 150, 151, 152, 153, 33, 154, 155, 156, 157, 158, 159, 160, 161, 162, 163, 164, 165, 39, 166, 167, 168, 169, 170, 171, 172, 173, 174, 175, 176, 177, 178, 179, 180, 181, 182, 183, 184, 185, 186, 187, 188, 189, 190, 191, 192, 193, 194, 195, 196, 197, 198, 199, 200, 201, 202, 203, 204, 205, 36, 206, 207, 208, 209, 210, 211, 212, 27, 213, 214, 215, 216, 217, 218, 226, 227, 228, 229, 230, 231, 232, 233, 234, 235, 236, 237, 238, 239, 240, 241, 242, 243, 244, 245, 246, 247, 248, 249, 250, 251, 252, 253, 254, 255, 256, 257, 258, 259, 260, 261, 262, 263, 264, 265, 266, 267, 268, 269, 270, 271, 272, 273, 274, 275, 276, 277, 278, 279, 280, 281, 282, 283, 284, 285, 286, 287, 288, 289, 290] (by decide +kernel) (by decide +kernel)
set_option maxRecDepth 20000 in
theorem gX11_asked_X1_gradeTeam : GoodIn wsX11_asked (wsV RX11 181 RX1 yX1_gradeTeam wsX1_gradeTeam) := goodIn_app (goodIn_of _ (by decide +kernel)) ggX11_asked_X1_gradeTeam
theorem dX11_asked_0 : decode cX11_asked 0 = .ok (.aload_n 0, 1) := by decide +kernel
theorem dX11_asked_1 : decode cX11_asked 1 = .ok (.getfield 12, 3) := by decide +kernel
theorem dX11_asked_4 : decode cX11_asked 4 = .ok (.iload_n 1, 1) := by decide +kernel
theorem dX11_asked_5 : decode cX11_asked 5 = .ok (.invokevirtual 101, 3) := by decide +kernel
theorem dX11_asked_8 : decode cX11_asked 8 = .ok (.astore_n 3, 1) := by decide +kernel
theorem dX11_asked_9 : decode cX11_asked 9 = .ok (.aload_n 3, 1) := by decide +kernel
theorem dX11_asked_10 : decode cX11_asked 10 = .ok (.ifnonnull 5, 3) := by decide +kernel
theorem dX11_asked_13 : decode cX11_asked 13 = .ok (.iconst (-1), 1) := by decide +kernel
theorem dX11_asked_14 : decode cX11_asked 14 = .ok (.ireturn, 1) := by decide +kernel
theorem dX11_asked_15 : decode cX11_asked 15 = .ok (.iload_n 2, 1) := by decide +kernel
theorem dX11_asked_16 : decode cX11_asked 16 = .ok (.bipush 50, 2) := by decide +kernel
theorem dX11_asked_18 : decode cX11_asked 18 = .ok (.invokestatic 84, 3) := by decide +kernel
theorem dX11_asked_21 : decode cX11_asked 21 = .ok (.ifCond .ne 6, 3) := by decide +kernel
theorem dX11_asked_24 : decode cX11_asked 24 = .ok (.bipush (-2), 2) := by decide +kernel
theorem dX11_asked_26 : decode cX11_asked 26 = .ok (.ireturn, 1) := by decide +kernel
theorem dX11_asked_27 : decode cX11_asked 27 = .ok (.iconst 0, 1) := by decide +kernel
theorem dX11_asked_28 : decode cX11_asked 28 = .ok (.istore 4, 2) := by decide +kernel
theorem dX11_asked_30 : decode cX11_asked 30 = .ok (.iload 4, 2) := by decide +kernel
theorem dX11_asked_32 : decode cX11_asked 32 = .ok (.bipush 9, 2) := by decide +kernel
theorem dX11_asked_34 : decode cX11_asked 34 = .ok (.aload_n 3, 1) := by decide +kernel
theorem dX11_asked_35 : decode cX11_asked 35 = .ok (.getfield 147, 3) := by decide +kernel
theorem dX11_asked_38 : decode cX11_asked 38 = .ok (.isub, 1) := by decide +kernel
theorem dX11_asked_39 : decode cX11_asked 39 = .ok (.if_icmp .gt 53, 3) := by decide +kernel
theorem dX11_asked_42 : decode cX11_asked 42 = .ok (.aload_n 3, 1) := by decide +kernel
theorem dX11_asked_43 : decode cX11_asked 43 = .ok (.getfield 144, 3) := by decide +kernel
theorem dX11_asked_46 : decode cX11_asked 46 = .ok (.aload_n 3, 1) := by decide +kernel
theorem dX11_asked_47 : decode cX11_asked 47 = .ok (.getfield 178, 3) := by decide +kernel
theorem dX11_asked_50 : decode cX11_asked 50 = .ok (.aload_n 3, 1) := by decide +kernel
theorem dX11_asked_51 : decode cX11_asked 51 = .ok (.getfield 147, 3) := by decide +kernel
theorem dX11_asked_54 : decode cX11_asked 54 = .ok (.iload 4, 2) := by decide +kernel
theorem dX11_asked_56 : decode cX11_asked 56 = .ok (.iadd, 1) := by decide +kernel
theorem dX11_asked_57 : decode cX11_asked 57 = .ok (.aload_n 3, 1) := by decide +kernel
theorem dX11_asked_58 : decode cX11_asked 58 = .ok (.getfield 150, 3) := by decide +kernel
theorem dX11_asked_61 : decode cX11_asked 61 = .ok (.invokestatic 95, 3) := by decide +kernel
theorem dX11_asked_64 : decode cX11_asked 64 = .ok (.astore 5, 2) := by decide +kernel
theorem dX11_asked_66 : decode cX11_asked 66 = .ok (.aload_n 0, 1) := by decide +kernel
theorem dX11_asked_67 : decode cX11_asked 67 = .ok (.getfield 27, 3) := by decide +kernel
theorem dX11_asked_70 : decode cX11_asked 70 = .ok (.aload_n 0, 1) := by decide +kernel
theorem dX11_asked_71 : decode cX11_asked 71 = .ok (.getfield 12, 3) := by decide +kernel
theorem dX11_asked_74 : decode cX11_asked 74 = .ok (.aload 5, 2) := by decide +kernel
theorem dX11_asked_76 : decode cX11_asked 76 = .ok (.invokevirtual 181, 3) := by decide +kernel
theorem dX11_asked_79 : decode cX11_asked 79 = .ok (.iload_n 2, 1) := by decide +kernel
theorem dX11_asked_80 : decode cX11_asked 80 = .ok (.if_icmp .lt 6, 3) := by decide +kernel
theorem dX11_asked_83 : decode cX11_asked 83 = .ok (.iload 4, 2) := by decide +kernel
theorem dX11_asked_85 : decode cX11_asked 85 = .ok (.ireturn, 1) := by decide +kernel
theorem dX11_asked_86 : decode cX11_asked 86 = .ok (.iinc 4 1, 3) := by decide +kernel
theorem dX11_asked_89 : decode cX11_asked 89 = .ok (.goto (-59), 3) := by decide +kernel
theorem dX11_asked_92 : decode cX11_asked 92 = .ok (.bipush (-5), 2) := by decide +kernel
theorem dX11_asked_94 : decode cX11_asked 94 = .ok (.ireturn, 1) := by decide +kernel
set_option maxRecDepth 20000 in
theorem ggX11_swap_X1_gradeAll : GoodIn wsX11_swap wsX1_gradeAll := goodIn_r _ [14, 15, 16, 17, 18, 19, 20, 21, 22, 23, 24, 25, 13, 26, 27, 28, 29, 30, 31, 32, 33, 34, 35, 36, 37, 38, 39, 40, 41, 42, 43, 44, 45, 46, 47, 48, 49, 50, 51, 52, 53, 54, 55, 56, 57, 58, 59, 60, 61, 62, 63, 64, 65, 66, 67, 68, 69, 70, 71, 72, 73, 74, 75, 76, 77, 78, 79, 80, 81, 82, 83, 84, 85, 86, 87, 88, 89, 90, 91, 92, 93, 94, 95, 96, 97, 98, 99, 100, 101, 102, 103, 104, 105, 106, 107, 108, 109, 110, 111, 112, 113, 114, 115, 116, 117, 118, 119, 120, 121, 122, 123, 124, 125, 126, 127, 128, 129, 130, 131, 132, 133, 134, 135, 136, 137, 138, 139, 140, 141, 142, 143, 144, 145, 146, 147, 148, 149, 150, 151, 152, 153, 154, 155, 156, 157, 158, 159, 160, 161, 162, 163, 164, 165, 166, 167, 168, 169, 170, 171, 222, 223, 224, 225, 226, 227, 228, 229, 230, 231, 232, 233, 234, 235, 236, 237, 238, 239, 240, 241, 242, 243, 244, 245, 246, 247, 248, 249, 250, 251, 252, 253, 254, 255, 256, 257, 258, 259, 260, 261, 262, 263, 264, 265, 266, 267, 268, 215, 216, 217, 218, 219, 220, 221, 269, 270, 271, 272, 273, 274, 275, 276, 277, 278, 279] (by decide +kernel) (by decide +kernel)
set_option maxRecDepth 20000 in
theorem gX11_swap_X1_gradeAll : GoodIn wsX11_swap (wsV RX11 171 RX1 yX1_gradeAll wsX1_gradeAll) := goodIn_app (goodIn_of _ (by decide +kernel)) ggX11_swap_X1_gradeAll
set_option maxRecDepth 20000 in
theorem ggX11_swap_X10_become : GoodIn wsX11_swap wsX10_become := goodIn_r _ [175, 32, 21, 176, 177, 178, 179, 180, 181, 182, 183, 184, 6, 7, 8, 185, 33, 186, 187, 188, 189, 190, 191, 22, 222, 223, 224, 225, 226, 227, 228, 229, 230, 231, 232, 233, 234, 235, 236, 237, 238, 239, 240] (by decide +kernel) (by decide +kernel)
set_option maxRecDepth 20000 in
theorem gX11_swap_X10_become : GoodIn wsX11_swap (wsV RX11 185 RX10 yX10_become wsX10_become) := goodIn_app (goodIn_of _ (by decide +kernel)) ggX11_swap_X10_become
set_option maxRecDepth 20000 in
theorem ggX11_swap_X11_bothGain : GoodIn wsX11_swap wsX11_bothGain := goodIn_r _ [196, 9, 197, 1, 4, 198, 57, 58, 19, 59, 32, 199, 200, 201, 202, 33, 186, 203, 204, 205, 13, 206, 207, 140, 56, 16, 17, 18, 20, 21, 22, 23, 24, 25, 26, 27, 28, 29, 30, 31, 34, 35, 36, 37, 38, 39, 40, 41, 42, 43, 44, 45, 46, 47, 48, 49, 50, 51, 52, 53, 54, 55, 60, 61, 62, 63, 64, 65, 66, 67, 68, 69, 70, 71, 72, 73, 74, 75, 76, 77, 78, 79, 80, 81, 82, 83, 84, 85, 86, 87, 88, 89, 90, 91, 92, 93, 94, 95, 96, 97, 98, 99, 100, 101, 102, 103, 104, 105, 106, 107, 108, 109, 110, 111, 112, 113, 114, 115, 116, 117, 118, 119, 120, 121, 122, 123, 124, 125, 126, 127, 128, 129, 130, 131, 132, 133, 134, 135, 136, 137, 138, 139, 141, 142, 143, 144, 145, 146, 147, 148, 149, 150, 151, 152, 153, 154, 155, 156, 157, 158, 159, 160, 161, 162, 163, 164, 165, 166, 167, 168, 169, 170, 171, 208, 209, 210, 211, 212, 213, 214, 222, 223, 224, 225, 226, 227, 228, 229, 230, 231, 232, 233, 234, 235, 236, 237, 238, 239, 240, 215, 216, 217, 218, 219, 220, 221, 241, 242, 243, 244, 245, 246, 247, 248, 249, 250, 251, 252, 253, 254, 255, 256, 257, 258, 259, 260, 261, 262, 263, 264, 265, 266, 267, 268, 269, 270, 271, 272, 273, 274, 275, 276, 277, 278, 279] (by decide +kernel) (by decide +kernel)
set_option maxRecDepth 20000 in
theorem gX11_swap_X11_bothGain : GoodIn wsX11_swap (wsV RX11 188 RX11 yX11_bothGain wsX11_bothGain) := goodIn_app (goodIn_of _ (by decide +kernel)) ggX11_swap_X11_bothGain
theorem dX11_swap_0 : decode cX11_swap 0 = .ok (.iload_n 1, 1) := by decide +kernel
theorem dX11_swap_1 : decode cX11_swap 1 = .ok (.ifCond .lt 8, 3) := by decide +kernel
theorem dX11_swap_4 : decode cX11_swap 4 = .ok (.iload_n 1, 1) := by decide +kernel
theorem dX11_swap_5 : decode cX11_swap 5 = .ok (.iconst 1, 1) := by decide +kernel
theorem dX11_swap_6 : decode cX11_swap 6 = .ok (.if_icmp .le 5, 3) := by decide +kernel
theorem dX11_swap_9 : decode cX11_swap 9 = .ok (.iconst (-1), 1) := by decide +kernel
theorem dX11_swap_10 : decode cX11_swap 10 = .ok (.ireturn, 1) := by decide +kernel
theorem dX11_swap_11 : decode cX11_swap 11 = .ok (.aload_n 0, 1) := by decide +kernel
theorem dX11_swap_12 : decode cX11_swap 12 = .ok (.getfield 27, 3) := by decide +kernel
theorem dX11_swap_15 : decode cX11_swap 15 = .ok (.aload_n 0, 1) := by decide +kernel
theorem dX11_swap_16 : decode cX11_swap 16 = .ok (.getfield 12, 3) := by decide +kernel
theorem dX11_swap_19 : decode cX11_swap 19 = .ok (.invokevirtual 171, 3) := by decide +kernel
theorem dX11_swap_22 : decode cX11_swap 22 = .ok (.aload_n 0, 1) := by decide +kernel
theorem dX11_swap_23 : decode cX11_swap 23 = .ok (.getfield 27, 3) := by decide +kernel
theorem dX11_swap_26 : decode cX11_swap 26 = .ok (.getfield 138, 3) := by decide +kernel
theorem dX11_swap_29 : decode cX11_swap 29 = .ok (.iconst 0, 1) := by decide +kernel
theorem dX11_swap_30 : decode cX11_swap 30 = .ok (.aload_n 0, 1) := by decide +kernel
theorem dX11_swap_31 : decode cX11_swap 31 = .ok (.getfield 38, 3) := by decide +kernel
theorem dX11_swap_34 : decode cX11_swap 34 = .ok (.iconst 0, 1) := by decide +kernel
theorem dX11_swap_35 : decode cX11_swap 35 = .ok (.bipush 10, 2) := by decide +kernel
theorem dX11_swap_37 : decode cX11_swap 37 = .ok (.invokestatic 165, 3) := by decide +kernel
theorem dX11_swap_40 : decode cX11_swap 40 = .ok (.aload_n 0, 1) := by decide +kernel
theorem dX11_swap_41 : decode cX11_swap 41 = .ok (.getfield 18, 3) := by decide +kernel
theorem dX11_swap_44 : decode cX11_swap 44 = .ok (.aload_n 0, 1) := by decide +kernel
theorem dX11_swap_45 : decode cX11_swap 45 = .ok (.getfield 12, 3) := by decide +kernel
theorem dX11_swap_48 : decode cX11_swap 48 = .ok (.invokevirtual 185, 3) := by decide +kernel
theorem dX11_swap_51 : decode cX11_swap 51 = .ok (.iconst 0, 1) := by decide +kernel
theorem dX11_swap_52 : decode cX11_swap 52 = .ok (.istore_n 2, 1) := by decide +kernel
theorem dX11_swap_53 : decode cX11_swap 53 = .ok (.bipush (-5), 2) := by decide +kernel
theorem dX11_swap_55 : decode cX11_swap 55 = .ok (.istore_n 3, 1) := by decide +kernel
theorem dX11_swap_56 : decode cX11_swap 56 = .ok (.iconst 0, 1) := by decide +kernel
theorem dX11_swap_57 : decode cX11_swap 57 = .ok (.istore 4, 2) := by decide +kernel
theorem dX11_swap_59 : decode cX11_swap 59 = .ok (.iload 4, 2) := by decide +kernel
theorem dX11_swap_61 : decode cX11_swap 61 = .ok (.bipush 10, 2) := by decide +kernel
theorem dX11_swap_63 : decode cX11_swap 63 = .ok (.if_icmp .ge 58, 3) := by decide +kernel
theorem dX11_swap_66 : decode cX11_swap 66 = .ok (.iload 4, 2) := by decide +kernel
theorem dX11_swap_68 : decode cX11_swap 68 = .ok (.iconst 1, 1) := by decide +kernel
theorem dX11_swap_69 : decode cX11_swap 69 = .ok (.iadd, 1) := by decide +kernel
theorem dX11_swap_70 : decode cX11_swap 70 = .ok (.istore 5, 2) := by decide +kernel
theorem dX11_swap_72 : decode cX11_swap 72 = .ok (.iload 5, 2) := by decide +kernel
theorem dX11_swap_74 : decode cX11_swap 74 = .ok (.bipush 10, 2) := by decide +kernel
theorem dX11_swap_76 : decode cX11_swap 76 = .ok (.if_icmp .ge 39, 3) := by decide +kernel
theorem dX11_swap_79 : decode cX11_swap 79 = .ok (.aload_n 0, 1) := by decide +kernel
theorem dX11_swap_80 : decode cX11_swap 80 = .ok (.iload 4, 2) := by decide +kernel
theorem dX11_swap_82 : decode cX11_swap 82 = .ok (.iload 5, 2) := by decide +kernel
theorem dX11_swap_84 : decode cX11_swap 84 = .ok (.invokevirtual 188, 3) := by decide +kernel
theorem dX11_swap_87 : decode cX11_swap 87 = .ok (.ifCond .ne 6, 3) := by decide +kernel
theorem dX11_swap_90 : decode cX11_swap 90 = .ok (.goto 19, 3) := by decide +kernel
theorem dX11_swap_93 : decode cX11_swap 93 = .ok (.iload_n 2, 1) := by decide +kernel
theorem dX11_swap_94 : decode cX11_swap 94 = .ok (.ifCond .ne 12, 3) := by decide +kernel
theorem dX11_swap_97 : decode cX11_swap 97 = .ok (.bipush 10, 2) := by decide +kernel
theorem dX11_swap_99 : decode cX11_swap 99 = .ok (.iload 4, 2) := by decide +kernel
theorem dX11_swap_101 : decode cX11_swap 101 = .ok (.imul, 1) := by decide +kernel
theorem dX11_swap_102 : decode cX11_swap 102 = .ok (.iload 5, 2) := by decide +kernel
theorem dX11_swap_104 : decode cX11_swap 104 = .ok (.iadd, 1) := by decide +kernel
theorem dX11_swap_105 : decode cX11_swap 105 = .ok (.istore_n 3, 1) := by decide +kernel
theorem dX11_swap_106 : decode cX11_swap 106 = .ok (.iinc 2 1, 3) := by decide +kernel
theorem dX11_swap_109 : decode cX11_swap 109 = .ok (.iinc 5 1, 3) := by decide +kernel
theorem dX11_swap_112 : decode cX11_swap 112 = .ok (.goto (-40), 3) := by decide +kernel
theorem dX11_swap_115 : decode cX11_swap 115 = .ok (.iinc 4 1, 3) := by decide +kernel
theorem dX11_swap_118 : decode cX11_swap 118 = .ok (.goto (-59), 3) := by decide +kernel
theorem dX11_swap_121 : decode cX11_swap 121 = .ok (.iload_n 1, 1) := by decide +kernel
theorem dX11_swap_122 : decode cX11_swap 122 = .ok (.ifCond .ne 7, 3) := by decide +kernel
theorem dX11_swap_125 : decode cX11_swap 125 = .ok (.iload_n 2, 1) := by decide +kernel
theorem dX11_swap_126 : decode cX11_swap 126 = .ok (.goto 4, 3) := by decide +kernel
theorem dX11_swap_129 : decode cX11_swap 129 = .ok (.iload_n 3, 1) := by decide +kernel
theorem dX11_swap_130 : decode cX11_swap 130 = .ok (.ireturn, 1) := by decide +kernel
set_option maxRecDepth 20000 in
theorem ggX11_year_X11_goYear : GoodIn wsX11_year wsX11_goYear := goodIn_r _ [7, 8, 9, 10, 11, 12, 13, 14, 15, 16, 17, 2, 18, 19, 20, 21, 22, 23, 24, 25, 26, 27, 28, 29, 30, 31, 32, 33, 34, 35, 36, 37, 38, 39, 40, 41, 42, 43, 44, 45, 46, 47, 48, 49, 50, 51, 52, 53, 54, 55, 56, 57, 58, 59, 60, 61, 62, 63, 64, 65, 66, 67, 68, 69, 70, 71, 72, 73, 74, 75, 76, 77, 78, 79, 80, 81, 82, 83, 84, 85, 86, 87, 88, 89, 90, 91, 92, 93, 94, 95, 96, 97, 98, 99, 100, 101, 102, 103, 104, 105, 106, 107, 108, 109, 110, 111, 112, 113, 114, 115, 116, 117, 118, 119, 120, 121, 122, 123, 124, 125, 126, 127, 128, 129, 130, 131, 132, 133, 134, 135, 136, 137, 138, 139, 140, 141, 142, 143, 144, 145, 146, 147, 148, 149, 150, 151, 152, 153, 154, 155, 156, 157, 158, 159, 160, 161, 162, 163, 164, 165, 166, 167, 168, 169, 170, 171, 172, 173, 174, 175, 176, 177, 178, 179, 180, 181, 182, 183, 184, 6, 185, 186, 187, 188, 189, 190, 191, 192, 193, 194, 195, 196, 197, 198, 199, 200, 201, 202, 203, 204, 205, 206, 207, 208, 209, 210, 211, 212, 213, 214, 215, 216, 217, 218, 219, 220, 221, 222, 223, 224, 225, 226, 227, 228, 229, 230, 231, 232, 233, 234, 235, 236, 237, 238, 239, 240, 241, 242, 243, 244, 245, 246, 247, 248, 249, 250, 251, 252, 253, 254, 255, 256, 257, 258, 259, 260, 261, 262, 263, 264, 265, 266, 267, 268, 269, 270, 271] (by decide +kernel) (by decide +kernel)
set_option maxRecDepth 20000 in
theorem gX11_year_X11_goYear : GoodIn wsX11_year (wsV RX11 191 RX11 yX11_goYear wsX11_goYear) := goodIn_app (goodIn_of _ (by decide +kernel)) ggX11_year_X11_goYear
theorem dX11_year_0 : decode cX11_year 0 = .ok (.aload_n 0, 1) := by decide +kernel
theorem dX11_year_1 : decode cX11_year 1 = .ok (.getfield 12, 3) := by decide +kernel
theorem dX11_year_4 : decode cX11_year 4 = .ok (.getfield 75, 3) := by decide +kernel
theorem dX11_year_7 : decode cX11_year 7 = .ok (.bipush 99, 2) := by decide +kernel
theorem dX11_year_9 : decode cX11_year 9 = .ok (.if_icmp .lt 6, 3) := by decide +kernel
theorem dX11_year_12 : decode cX11_year 12 = .ok (.bipush (-3), 2) := by decide +kernel
theorem dX11_year_14 : decode cX11_year 14 = .ok (.ireturn, 1) := by decide +kernel
theorem dX11_year_15 : decode cX11_year 15 = .ok (.aload_n 0, 1) := by decide +kernel
theorem dX11_year_16 : decode cX11_year 16 = .ok (.aload_n 0, 1) := by decide +kernel
theorem dX11_year_17 : decode cX11_year 17 = .ok (.getfield 12, 3) := by decide +kernel
theorem dX11_year_20 : decode cX11_year 20 = .ok (.iconst 0, 1) := by decide +kernel
theorem dX11_year_21 : decode cX11_year 21 = .ok (.invokevirtual 191, 3) := by decide +kernel
theorem dX11_year_24 : decode cX11_year 24 = .ok (.ireturn, 1) := by decide +kernel
set_option maxRecDepth 20000 in
theorem ggX11_years_X10_hasWorker : GoodIn wsX11_years wsX10_hasWorker := goodIn_r _ [8, 9, 234, 235, 236, 237, 238, 239, 240, 241, 242, 243, 244, 245, 246, 247, 248, 249, 250, 251, 252] (by decide +kernel) (by decide +kernel)
set_option maxRecDepth 20000 in
theorem gX11_years_X10_hasWorker : GoodIn wsX11_years (wsV RX11 122 RX10 yX10_hasWorker wsX10_hasWorker) := goodIn_app (goodIn_of _ (by decide +kernel)) ggX11_years_X10_hasWorker
set_option maxRecDepth 20000 in
theorem ggX11_years_X11_isWithin : GoodIn wsX11_years wsX11_isWithin := goodIn_r _ [13] (by decide +kernel) (by decide +kernel)
set_option maxRecDepth 20000 in
theorem gX11_years_X11_isWithin : GoodIn wsX11_years (va_wsS RX11 84 yX11_isWithin wsX11_isWithin) := goodIn_app (goodIn_of _ (by decide +kernel)) ggX11_years_X11_isWithin
set_option maxRecDepth 20000 in
theorem ggX11_years_X10_become : GoodIn wsX11_years wsX10_become := goodIn_r _ [17, 9, 18, 19, 20, 21, 22, 23, 24, 25, 26, 27, 28, 29, 30, 31, 32, 33, 34, 35, 36, 37, 38, 39, 234, 235, 236, 237, 238, 239, 240, 241, 242, 243, 244, 245, 246, 247, 248, 249, 250, 251, 252] (by decide +kernel) (by decide +kernel)
set_option maxRecDepth 20000 in
theorem gX11_years_X10_become : GoodIn wsX11_years (wsV RX11 185 RX10 yX10_become wsX10_become) := goodIn_app (goodIn_of _ (by decide +kernel)) ggX11_years_X10_become
set_option maxRecDepth 20000 in
theorem ggX11_years_X11_goYear : GoodIn wsX11_years wsX11_goYear := goodIn_r _ [43, 44, 45, 46, 3, 47, 48, 49, 50, 51, 52, 53, 54, 55, 56, 57, 58, 59, 60, 61, 62, 63, 64, 65, 66, 67, 68, 69, 70, 71, 72, 73, 74, 75, 76, 77, 78, 79, 80, 81, 82, 83, 84, 85, 86, 87, 88, 89, 90, 91, 92, 93, 94, 95, 96, 97, 98, 99, 100, 101, 102, 103, 104, 105, 106, 107, 108, 109, 110, 111, 112, 113, 114, 115, 116, 117, 118, 119, 7, 120, 18, 39, 121, 122, 123, 124, 125, 126, 127, 128, 129, 9, 32, 130, 131, 132, 133, 134, 135, 136, 137, 138, 139, 140, 141, 142, 5, 6, 8, 143, 144, 145, 146, 147, 148, 149, 150, 151, 152, 153, 154, 155, 156, 157, 158, 159, 160, 161, 162, 163, 164, 165, 166, 167, 168, 169, 170, 171, 172, 173, 174, 175, 176, 177, 178, 179, 180, 181, 182, 183, 184, 185, 186, 187, 188, 189, 190, 191, 192, 193, 194, 195, 196, 197, 198, 199, 200, 201, 202, 203, 204, 205, 206, 207, 208, 209, 210, 211, 212, 12, 213, 214, 215, 216, 217, 26, 23, 31, 24, 34, 218, 219, 220, 221, 222, 227, 228, 229, 230, 231, 232, 233, 234, 235, 236, 237, 238, 239, 240, 241, 242, 243, 244, 245, 246, 247, 248, 249, 250, 251, 252, 253, 254, 255, 256, 257, 258, 259, 260, 261, 262, 263, 264, 265, 266, 267, 268, 269, 270, 271, 272, 273, 274, 275, 276, 277, 278, 279, 280, 281, 282, 283, 284, 285, 286, 287, 288, 289, 290, 291, 292, 293, 294, 295, 296, 297, 298] (by decide +kernel) (by decide +kernel)
set_option maxRecDepth 20000 in
theorem gX11_years_X11_goYear : GoodIn wsX11_years (wsV RX11 191 RX11 yX11_goYear wsX11_goYear) := goodIn_app (goodIn_of _ (by decide +kernel)) ggX11_years_X11_goYear
set_option maxRecDepth 20000 in
theorem ggX11_years_X10_worthTogether : GoodIn wsX11_years wsX10_worthTogether := goodIn_r _ [226, 9, 26, 234, 235, 236, 237, 238, 239, 240, 241, 242, 243, 244, 245, 246, 247, 248, 249, 250, 251, 252] (by decide +kernel) (by decide +kernel)
set_option maxRecDepth 20000 in
theorem gX11_years_X10_worthTogether : GoodIn wsX11_years (wsV RX11 194 RX10 yX10_worthTogether wsX10_worthTogether) := goodIn_app (goodIn_of _ (by decide +kernel)) ggX11_years_X10_worthTogether
theorem dX11_years_0 : decode cX11_years 0 = .ok (.iload_n 2, 1) := by decide +kernel
theorem dX11_years_1 : decode cX11_years 1 = .ok (.ifCond .lt 8, 3) := by decide +kernel
theorem dX11_years_4 : decode cX11_years 4 = .ok (.iload_n 2, 1) := by decide +kernel
theorem dX11_years_5 : decode cX11_years 5 = .ok (.iconst 3, 1) := by decide +kernel
theorem dX11_years_6 : decode cX11_years 6 = .ok (.if_icmp .le 7, 3) := by decide +kernel
theorem dX11_years_9 : decode cX11_years 9 = .ok (.sipush (-1001), 3) := by decide +kernel
theorem dX11_years_12 : decode cX11_years 12 = .ok (.ireturn, 1) := by decide +kernel
theorem dX11_years_13 : decode cX11_years 13 = .ok (.iload_n 3, 1) := by decide +kernel
theorem dX11_years_14 : decode cX11_years 14 = .ok (.ifCond .lt 28, 3) := by decide +kernel
theorem dX11_years_17 : decode cX11_years 17 = .ok (.iload_n 3, 1) := by decide +kernel
theorem dX11_years_18 : decode cX11_years 18 = .ok (.iconst 1, 1) := by decide +kernel
theorem dX11_years_19 : decode cX11_years 19 = .ok (.if_icmp .le 27, 3) := by decide +kernel
theorem dX11_years_22 : decode cX11_years 22 = .ok (.iload_n 3, 1) := by decide +kernel
theorem dX11_years_23 : decode cX11_years 23 = .ok (.bipush 10, 2) := by decide +kernel
theorem dX11_years_25 : decode cX11_years 25 = .ok (.if_icmp .lt 17, 3) := by decide +kernel
theorem dX11_years_28 : decode cX11_years 28 = .ok (.aload_n 0, 1) := by decide +kernel
theorem dX11_years_29 : decode cX11_years 29 = .ok (.getfield 12, 3) := by decide +kernel
theorem dX11_years_32 : decode cX11_years 32 = .ok (.iload_n 3, 1) := by decide +kernel
theorem dX11_years_33 : decode cX11_years 33 = .ok (.bipush 10, 2) := by decide +kernel
theorem dX11_years_35 : decode cX11_years 35 = .ok (.isub, 1) := by decide +kernel
theorem dX11_years_36 : decode cX11_years 36 = .ok (.invokevirtual 122, 3) := by decide +kernel
theorem dX11_years_39 : decode cX11_years 39 = .ok (.ifCond .ne 7, 3) := by decide +kernel
theorem dX11_years_42 : decode cX11_years 42 = .ok (.sipush (-1001), 3) := by decide +kernel
theorem dX11_years_45 : decode cX11_years 45 = .ok (.ireturn, 1) := by decide +kernel
theorem dX11_years_46 : decode cX11_years 46 = .ok (.iload_n 1, 1) := by decide +kernel
theorem dX11_years_47 : decode cX11_years 47 = .ok (.bipush 20, 2) := by decide +kernel
theorem dX11_years_49 : decode cX11_years 49 = .ok (.invokestatic 84, 3) := by decide +kernel
theorem dX11_years_52 : decode cX11_years 52 = .ok (.ifCond .ne 7, 3) := by decide +kernel
theorem dX11_years_55 : decode cX11_years 55 = .ok (.sipush (-1002), 3) := by decide +kernel
theorem dX11_years_58 : decode cX11_years 58 = .ok (.ireturn, 1) := by decide +kernel
theorem dX11_years_59 : decode cX11_years 59 = .ok (.aload_n 0, 1) := by decide +kernel
theorem dX11_years_60 : decode cX11_years 60 = .ok (.getfield 18, 3) := by decide +kernel
theorem dX11_years_63 : decode cX11_years 63 = .ok (.aload_n 0, 1) := by decide +kernel
theorem dX11_years_64 : decode cX11_years 64 = .ok (.getfield 12, 3) := by decide +kernel
theorem dX11_years_67 : decode cX11_years 67 = .ok (.invokevirtual 185, 3) := by decide +kernel
theorem dX11_years_70 : decode cX11_years 70 = .ok (.iconst 0, 1) := by decide +kernel
theorem dX11_years_71 : decode cX11_years 71 = .ok (.istore 4, 2) := by decide +kernel
theorem dX11_years_73 : decode cX11_years 73 = .ok (.iconst 0, 1) := by decide +kernel
theorem dX11_years_74 : decode cX11_years 74 = .ok (.istore 5, 2) := by decide +kernel
theorem dX11_years_76 : decode cX11_years 76 = .ok (.iload 5, 2) := by decide +kernel
theorem dX11_years_78 : decode cX11_years 78 = .ok (.iload_n 1, 1) := by decide +kernel
theorem dX11_years_79 : decode cX11_years 79 = .ok (.if_icmp .ge 23, 3) := by decide +kernel
theorem dX11_years_82 : decode cX11_years 82 = .ok (.iload 4, 2) := by decide +kernel
theorem dX11_years_84 : decode cX11_years 84 = .ok (.aload_n 0, 1) := by decide +kernel
theorem dX11_years_85 : decode cX11_years 85 = .ok (.aload_n 0, 1) := by decide +kernel
theorem dX11_years_86 : decode cX11_years 86 = .ok (.getfield 18, 3) := by decide +kernel
theorem dX11_years_89 : decode cX11_years 89 = .ok (.iload_n 2, 1) := by decide +kernel
theorem dX11_years_90 : decode cX11_years 90 = .ok (.invokevirtual 191, 3) := by decide +kernel
theorem dX11_years_93 : decode cX11_years 93 = .ok (.iadd, 1) := by decide +kernel
theorem dX11_years_94 : decode cX11_years 94 = .ok (.istore 4, 2) := by decide +kernel
theorem dX11_years_96 : decode cX11_years 96 = .ok (.iinc 5 1, 3) := by decide +kernel
theorem dX11_years_99 : decode cX11_years 99 = .ok (.goto (-23), 3) := by decide +kernel
theorem dX11_years_102 : decode cX11_years 102 = .ok (.iload_n 3, 1) := by decide +kernel
theorem dX11_years_103 : decode cX11_years 103 = .ok (.iconst 1, 1) := by decide +kernel
theorem dX11_years_104 : decode cX11_years 104 = .ok (.if_icmp .ne 6, 3) := by decide +kernel
theorem dX11_years_107 : decode cX11_years 107 = .ok (.iload 4, 2) := by decide +kernel
theorem dX11_years_109 : decode cX11_years 109 = .ok (.ireturn, 1) := by decide +kernel
theorem dX11_years_110 : decode cX11_years 110 = .ok (.iload_n 3, 1) := by decide +kernel
theorem dX11_years_111 : decode cX11_years 111 = .ok (.ifCond .ne 13, 3) := by decide +kernel
theorem dX11_years_114 : decode cX11_years 114 = .ok (.aload_n 0, 1) := by decide +kernel
theorem dX11_years_115 : decode cX11_years 115 = .ok (.getfield 18, 3) := by decide +kernel
theorem dX11_years_118 : decode cX11_years 118 = .ok (.invokevirtual 194, 3) := by decide +kernel
theorem dX11_years_121 : decode cX11_years 121 = .ok (.goto 15, 3) := by decide +kernel
theorem dX11_years_124 : decode cX11_years 124 = .ok (.aload_n 0, 1) := by decide +kernel
theorem dX11_years_125 : decode cX11_years 125 = .ok (.getfield 18, 3) := by decide +kernel
theorem dX11_years_128 : decode cX11_years 128 = .ok (.getfield 120, 3) := by decide +kernel
theorem dX11_years_131 : decode cX11_years 131 = .ok (.iload_n 3, 1) := by decide +kernel
theorem dX11_years_132 : decode cX11_years 132 = .ok (.bipush 10, 2) := by decide +kernel
theorem dX11_years_134 : decode cX11_years 134 = .ok (.isub, 1) := by decide +kernel
theorem dX11_years_135 : decode cX11_years 135 = .ok (.iaload, 1) := by decide +kernel
theorem dX11_years_136 : decode cX11_years 136 = .ok (.ireturn, 1) := by decide +kernel
set_option maxRecDepth 20000 in
theorem ggX11_chance_X11_isWithin : GoodIn wsX11_chance wsX11_isWithin := goodIn_r _ [5] (by decide +kernel) (by decide +kernel)
set_option maxRecDepth 20000 in
theorem gX11_chance_X11_isWithin : GoodIn wsX11_chance (va_wsS RX11 84 yX11_isWithin wsX11_isWithin) := goodIn_app (goodIn_of _ (by decide +kernel)) ggX11_chance_X11_isWithin
set_option maxRecDepth 20000 in
theorem ggX11_chance_X11_choices : GoodIn wsX11_chance wsX11_choices := goodIn_r _ [8] (by decide +kernel) (by decide +kernel)
set_option maxRecDepth 20000 in
theorem gX11_chance_X11_choices : GoodIn wsX11_chance (va_wsS RX11 199 yX11_choices wsX11_choices) := goodIn_app (goodIn_of _ (by decide +kernel)) ggX11_chance_X11_choices
set_option maxRecDepth 20000 in
theorem ggX11_chance_X11_lowest : GoodIn wsX11_chance wsX11_lowest := goodIn_r _ [11, 1, 12, 13, 14, 15] (by decide +kernel) (by decide +kernel)
set_option maxRecDepth 20000 in
theorem gX11_chance_X11_lowest : GoodIn wsX11_chance (va_wsS RX11 203 yX11_lowest wsX11_lowest) := goodIn_app (goodIn_of _ (by decide +kernel)) ggX11_chance_X11_lowest
theorem dX11_chance_0 : decode cX11_chance 0 = .ok (.iload_n 1, 1) := by decide +kernel
theorem dX11_chance_1 : decode cX11_chance 1 = .ok (.iconst 1, 1) := by decide +kernel
theorem dX11_chance_2 : decode cX11_chance 2 = .ok (.if_icmp .lt 9, 3) := by decide +kernel
theorem dX11_chance_5 : decode cX11_chance 5 = .ok (.iload_n 1, 1) := by decide +kernel
theorem dX11_chance_6 : decode cX11_chance 6 = .ok (.bipush 30, 2) := by decide +kernel
theorem dX11_chance_8 : decode cX11_chance 8 = .ok (.if_icmp .le 7, 3) := by decide +kernel
theorem dX11_chance_11 : decode cX11_chance 11 = .ok (.ldc2_w 197, 3) := by decide +kernel
theorem dX11_chance_14 : decode cX11_chance 14 = .ok (.lreturn, 1) := by decide +kernel
theorem dX11_chance_15 : decode cX11_chance 15 = .ok (.iload_n 2, 1) := by decide +kernel
theorem dX11_chance_16 : decode cX11_chance 16 = .ok (.iload_n 1, 1) := by decide +kernel
theorem dX11_chance_17 : decode cX11_chance 17 = .ok (.invokestatic 84, 3) := by decide +kernel
theorem dX11_chance_20 : decode cX11_chance 20 = .ok (.ifCond .eq 20, 3) := by decide +kernel
theorem dX11_chance_23 : decode cX11_chance 23 = .ok (.iload_n 3, 1) := by decide +kernel
theorem dX11_chance_24 : decode cX11_chance 24 = .ok (.iload_n 1, 1) := by decide +kernel
theorem dX11_chance_25 : decode cX11_chance 25 = .ok (.invokestatic 84, 3) := by decide +kernel
theorem dX11_chance_28 : decode cX11_chance 28 = .ok (.ifCond .eq 12, 3) := by decide +kernel
theorem dX11_chance_31 : decode cX11_chance 31 = .ok (.iload 4, 2) := by decide +kernel
theorem dX11_chance_33 : decode cX11_chance 33 = .ok (.iload_n 3, 1) := by decide +kernel
theorem dX11_chance_34 : decode cX11_chance 34 = .ok (.invokestatic 84, 3) := by decide +kernel
theorem dX11_chance_37 : decode cX11_chance 37 = .ok (.ifCond .ne 7, 3) := by decide +kernel
theorem dX11_chance_40 : decode cX11_chance 40 = .ok (.ldc2_w 197, 3) := by decide +kernel
theorem dX11_chance_43 : decode cX11_chance 43 = .ok (.lreturn, 1) := by decide +kernel
theorem dX11_chance_44 : decode cX11_chance 44 = .ok (.iload_n 2, 1) := by decide +kernel
theorem dX11_chance_45 : decode cX11_chance 45 = .ok (.iload 4, 2) := by decide +kernel
theorem dX11_chance_47 : decode cX11_chance 47 = .ok (.invokestatic 199, 3) := by decide +kernel
theorem dX11_chance_50 : decode cX11_chance 50 = .ok (.iload_n 1, 1) := by decide +kernel
theorem dX11_chance_51 : decode cX11_chance 51 = .ok (.iload_n 2, 1) := by decide +kernel
theorem dX11_chance_52 : decode cX11_chance 52 = .ok (.isub, 1) := by decide +kernel
theorem dX11_chance_53 : decode cX11_chance 53 = .ok (.iload_n 3, 1) := by decide +kernel
theorem dX11_chance_54 : decode cX11_chance 54 = .ok (.iload 4, 2) := by decide +kernel
theorem dX11_chance_56 : decode cX11_chance 56 = .ok (.isub, 1) := by decide +kernel
theorem dX11_chance_57 : decode cX11_chance 57 = .ok (.invokestatic 199, 3) := by decide +kernel
theorem dX11_chance_60 : decode cX11_chance 60 = .ok (.lmul, 1) := by decide +kernel
theorem dX11_chance_61 : decode cX11_chance 61 = .ok (.iload_n 1, 1) := by decide +kernel
theorem dX11_chance_62 : decode cX11_chance 62 = .ok (.iload_n 3, 1) := by decide +kernel
theorem dX11_chance_63 : decode cX11_chance 63 = .ok (.invokestatic 199, 3) := by decide +kernel
theorem dX11_chance_66 : decode cX11_chance 66 = .ok (.iload 5, 2) := by decide +kernel
theorem dX11_chance_68 : decode cX11_chance 68 = .ok (.invokestatic 203, 3) := by decide +kernel
theorem dX11_chance_71 : decode cX11_chance 71 = .ok (.lreturn, 1) := by decide +kernel
set_option maxRecDepth 20000 in
theorem ggX11_book_X10_hasWorker : GoodIn wsX11_book wsX10_hasWorker := goodIn_r _ [10, 11, 25, 26, 27, 28, 29, 30, 31, 32, 33, 34, 35, 36, 37, 38, 39, 40, 41, 42, 43] (by decide +kernel) (by decide +kernel)
set_option maxRecDepth 20000 in
theorem gX11_book_X10_hasWorker : GoodIn wsX11_book (wsV RX11 122 RX10 yX10_hasWorker wsX10_hasWorker) := goodIn_app (goodIn_of _ (by decide +kernel)) ggX11_book_X10_hasWorker
set_option maxRecDepth 20000 in
theorem ggX11_book_X10_chiefAt : GoodIn wsX11_book wsX10_chiefAt := goodIn_r _ [15, 16, 17, 25, 26, 27, 28, 29, 30, 31, 32, 33, 34, 35, 36, 37, 38, 39, 40, 41, 42, 43] (by decide +kernel) (by decide +kernel)
set_option maxRecDepth 20000 in
theorem gX11_book_X10_chiefAt : GoodIn wsX11_book (wsV RX11 101 RX10 yX10_chiefAt wsX10_chiefAt) := goodIn_app (goodIn_of _ (by decide +kernel)) ggX11_book_X10_chiefAt
theorem dX11_book_0 : decode cX11_book 0 = .ok (.aload_n 0, 1) := by decide +kernel
theorem dX11_book_1 : decode cX11_book 1 = .ok (.getfield 12, 3) := by decide +kernel
theorem dX11_book_4 : decode cX11_book 4 = .ok (.iload_n 1, 1) := by decide +kernel
theorem dX11_book_5 : decode cX11_book 5 = .ok (.invokevirtual 122, 3) := by decide +kernel
theorem dX11_book_8 : decode cX11_book 8 = .ok (.ifCond .eq 14, 3) := by decide +kernel
theorem dX11_book_11 : decode cX11_book 11 = .ok (.aload_n 0, 1) := by decide +kernel
theorem dX11_book_12 : decode cX11_book 12 = .ok (.getfield 12, 3) := by decide +kernel
theorem dX11_book_15 : decode cX11_book 15 = .ok (.iload_n 2, 1) := by decide +kernel
theorem dX11_book_16 : decode cX11_book 16 = .ok (.invokevirtual 101, 3) := by decide +kernel
theorem dX11_book_19 : decode cX11_book 19 = .ok (.ifnonnull 5, 3) := by decide +kernel
theorem dX11_book_22 : decode cX11_book 22 = .ok (.iconst (-1), 1) := by decide +kernel
theorem dX11_book_23 : decode cX11_book 23 = .ok (.ireturn, 1) := by decide +kernel
theorem dX11_book_24 : decode cX11_book 24 = .ok (.iload_n 3, 1) := by decide +kernel
theorem dX11_book_25 : decode cX11_book 25 = .ok (.iconst 1, 1) := by decide +kernel
theorem dX11_book_26 : decode cX11_book 26 = .ok (.if_icmp .lt 8, 3) := by decide +kernel
theorem dX11_book_29 : decode cX11_book 29 = .ok (.iload_n 3, 1) := by decide +kernel
theorem dX11_book_30 : decode cX11_book 30 = .ok (.iconst 5, 1) := by decide +kernel
theorem dX11_book_31 : decode cX11_book 31 = .ok (.if_icmp .le 6, 3) := by decide +kernel
theorem dX11_book_34 : decode cX11_book 34 = .ok (.bipush (-2), 2) := by decide +kernel
theorem dX11_book_36 : decode cX11_book 36 = .ok (.ireturn, 1) := by decide +kernel
theorem dX11_book_37 : decode cX11_book 37 = .ok (.aload_n 0, 1) := by decide +kernel
theorem dX11_book_38 : decode cX11_book 38 = .ok (.getfield 12, 3) := by decide +kernel
theorem dX11_book_41 : decode cX11_book 41 = .ok (.getfield 207, 3) := by decide +kernel
theorem dX11_book_44 : decode cX11_book 44 = .ok (.bipush 20, 2) := by decide +kernel
theorem dX11_book_46 : decode cX11_book 46 = .ok (.if_icmp .lt 6, 3) := by decide +kernel
theorem dX11_book_49 : decode cX11_book 49 = .ok (.bipush (-4), 2) := by decide +kernel
theorem dX11_book_51 : decode cX11_book 51 = .ok (.ireturn, 1) := by decide +kernel
theorem dX11_book_52 : decode cX11_book 52 = .ok (.aload_n 0, 1) := by decide +kernel
theorem dX11_book_53 : decode cX11_book 53 = .ok (.getfield 12, 3) := by decide +kernel
theorem dX11_book_56 : decode cX11_book 56 = .ok (.getfield 210, 3) := by decide +kernel
theorem dX11_book_59 : decode cX11_book 59 = .ok (.aload_n 0, 1) := by decide +kernel
theorem dX11_book_60 : decode cX11_book 60 = .ok (.getfield 12, 3) := by decide +kernel
theorem dX11_book_63 : decode cX11_book 63 = .ok (.getfield 207, 3) := by decide +kernel
theorem dX11_book_66 : decode cX11_book 66 = .ok (.iload_n 1, 1) := by decide +kernel
theorem dX11_book_67 : decode cX11_book 67 = .ok (.iastore, 1) := by decide +kernel
theorem dX11_book_68 : decode cX11_book 68 = .ok (.aload_n 0, 1) := by decide +kernel
theorem dX11_book_69 : decode cX11_book 69 = .ok (.getfield 12, 3) := by decide +kernel
theorem dX11_book_72 : decode cX11_book 72 = .ok (.getfield 213, 3) := by decide +kernel
theorem dX11_book_75 : decode cX11_book 75 = .ok (.aload_n 0, 1) := by decide +kernel
theorem dX11_book_76 : decode cX11_book 76 = .ok (.getfield 12, 3) := by decide +kernel
theorem dX11_book_79 : decode cX11_book 79 = .ok (.getfield 207, 3) := by decide +kernel
theorem dX11_book_82 : decode cX11_book 82 = .ok (.iload_n 2, 1) := by decide +kernel
theorem dX11_book_83 : decode cX11_book 83 = .ok (.iastore, 1) := by decide +kernel
theorem dX11_book_84 : decode cX11_book 84 = .ok (.aload_n 0, 1) := by decide +kernel
theorem dX11_book_85 : decode cX11_book 85 = .ok (.getfield 12, 3) := by decide +kernel
theorem dX11_book_88 : decode cX11_book 88 = .ok (.getfield 216, 3) := by decide +kernel
theorem dX11_book_91 : decode cX11_book 91 = .ok (.aload_n 0, 1) := by decide +kernel
theorem dX11_book_92 : decode cX11_book 92 = .ok (.getfield 12, 3) := by decide +kernel
theorem dX11_book_95 : decode cX11_book 95 = .ok (.getfield 207, 3) := by decide +kernel
theorem dX11_book_98 : decode cX11_book 98 = .ok (.iload_n 3, 1) := by decide +kernel
theorem dX11_book_99 : decode cX11_book 99 = .ok (.iastore, 1) := by decide +kernel
theorem dX11_book_100 : decode cX11_book 100 = .ok (.aload_n 0, 1) := by decide +kernel
theorem dX11_book_101 : decode cX11_book 101 = .ok (.getfield 12, 3) := by decide +kernel
theorem dX11_book_104 : decode cX11_book 104 = .ok (.dup, 1) := by decide +kernel
theorem dX11_book_105 : decode cX11_book 105 = .ok (.getfield 207, 3) := by decide +kernel
theorem dX11_book_108 : decode cX11_book 108 = .ok (.iconst 1, 1) := by decide +kernel
theorem dX11_book_109 : decode cX11_book 109 = .ok (.iadd, 1) := by decide +kernel
theorem dX11_book_110 : decode cX11_book 110 = .ok (.putfield 207, 3) := by decide +kernel
theorem dX11_book_113 : decode cX11_book 113 = .ok (.aload_n 0, 1) := by decide +kernel
theorem dX11_book_114 : decode cX11_book 114 = .ok (.getfield 12, 3) := by decide +kernel
theorem dX11_book_117 : decode cX11_book 117 = .ok (.getfield 207, 3) := by decide +kernel
theorem dX11_book_120 : decode cX11_book 120 = .ok (.ireturn, 1) := by decide +kernel
theorem dX11_clear_0 : decode cX11_clear 0 = .ok (.aload_n 0, 1) := by decide +kernel
theorem dX11_clear_1 : decode cX11_clear 1 = .ok (.getfield 12, 3) := by decide +kernel
theorem dX11_clear_4 : decode cX11_clear 4 = .ok (.getfield 207, 3) := by decide +kernel
theorem dX11_clear_7 : decode cX11_clear 7 = .ok (.istore_n 1, 1) := by decide +kernel
theorem dX11_clear_8 : decode cX11_clear 8 = .ok (.aload_n 0, 1) := by decide +kernel
theorem dX11_clear_9 : decode cX11_clear 9 = .ok (.getfield 12, 3) := by decide +kernel
theorem dX11_clear_12 : decode cX11_clear 12 = .ok (.iconst 0, 1) := by decide +kernel
theorem dX11_clear_13 : decode cX11_clear 13 = .ok (.putfield 207, 3) := by decide +kernel
theorem dX11_clear_16 : decode cX11_clear 16 = .ok (.iload_n 1, 1) := by decide +kernel
theorem dX11_clear_17 : decode cX11_clear 17 = .ok (.ireturn, 1) := by decide +kernel
set_option maxRecDepth 20000 in
theorem ggX11_nets_X11_howManyNets : GoodIn wsX11_nets wsX11_howManyNets := goodIn_r _ [6, 1, 7, 8, 9, 10, 5, 11, 12, 13, 14, 15, 16, 17, 18, 26, 27, 28, 29, 30, 31, 32, 33, 34, 35, 36, 37, 38, 39, 40, 41, 42, 43, 44, 45, 46, 47, 48, 49, 50, 51] (by decide +kernel) (by decide +kernel)
set_option maxRecDepth 20000 in
theorem gX11_nets_X11_howManyNets : GoodIn wsX11_nets (wsV RX11 219 RX11 yX11_howManyNets wsX11_howManyNets) := goodIn_app (goodIn_of _ (by decide +kernel)) ggX11_nets_X11_howManyNets
set_option maxRecDepth 20000 in
theorem ggX11_nets_X10_chiefAt : GoodIn wsX11_nets wsX10_chiefAt := goodIn_r _ [23, 24, 25, 33, 34, 35, 36, 37, 38, 39, 40, 41, 42, 43, 44, 45, 46, 47, 48, 49, 50, 51] (by decide +kernel) (by decide +kernel)
set_option maxRecDepth 20000 in
theorem gX11_nets_X10_chiefAt : GoodIn wsX11_nets (wsV RX11 101 RX10 yX10_chiefAt wsX10_chiefAt) := goodIn_app (goodIn_of _ (by decide +kernel)) ggX11_nets_X10_chiefAt
set_option maxRecDepth 20000 in
theorem ggX11_nets_X11_netOf : GoodIn wsX11_nets wsX11_netOf := goodIn_r _ [11, 12, 13, 14, 5, 15, 1, 16, 17, 18, 26, 27, 28, 29, 30, 31, 32, 33, 34, 35, 36, 37, 38, 39, 40, 41, 42, 43, 44, 45, 46, 47, 48, 49, 50, 51] (by decide +kernel) (by decide +kernel)
set_option maxRecDepth 20000 in
theorem gX11_nets_X11_netOf : GoodIn wsX11_nets (wsV RX11 222 RX11 yX11_netOf wsX11_netOf) := goodIn_app (goodIn_of _ (by decide +kernel)) ggX11_nets_X11_netOf
theorem dX11_nets_0 : decode cX11_nets 0 = .ok (.iload_n 1, 1) := by decide +kernel
theorem dX11_nets_1 : decode cX11_nets 1 = .ok (.iconst (-1), 1) := by decide +kernel
theorem dX11_nets_2 : decode cX11_nets 2 = .ok (.if_icmp .ne 8, 3) := by decide +kernel
theorem dX11_nets_5 : decode cX11_nets 5 = .ok (.aload_n 0, 1) := by decide +kernel
theorem dX11_nets_6 : decode cX11_nets 6 = .ok (.invokevirtual 219, 3) := by decide +kernel
theorem dX11_nets_9 : decode cX11_nets 9 = .ok (.ireturn, 1) := by decide +kernel
theorem dX11_nets_10 : decode cX11_nets 10 = .ok (.aload_n 0, 1) := by decide +kernel
theorem dX11_nets_11 : decode cX11_nets 11 = .ok (.getfield 12, 3) := by decide +kernel
theorem dX11_nets_14 : decode cX11_nets 14 = .ok (.iload_n 1, 1) := by decide +kernel
theorem dX11_nets_15 : decode cX11_nets 15 = .ok (.invokevirtual 101, 3) := by decide +kernel
theorem dX11_nets_18 : decode cX11_nets 18 = .ok (.ifnonnull 7, 3) := by decide +kernel
theorem dX11_nets_21 : decode cX11_nets 21 = .ok (.iconst (-1), 1) := by decide +kernel
theorem dX11_nets_22 : decode cX11_nets 22 = .ok (.goto 8, 3) := by decide +kernel
theorem dX11_nets_25 : decode cX11_nets 25 = .ok (.aload_n 0, 1) := by decide +kernel
theorem dX11_nets_26 : decode cX11_nets 26 = .ok (.iload_n 1, 1) := by decide +kernel
theorem dX11_nets_27 : decode cX11_nets 27 = .ok (.invokevirtual 222, 3) := by decide +kernel
theorem dX11_nets_30 : decode cX11_nets 30 = .ok (.ireturn, 1) := by decide +kernel
set_option maxRecDepth 20000 in
theorem ggX11_leans_X10_chiefAt : GoodIn wsX11_leans wsX10_chiefAt := goodIn_r _ [8, 9, 10, 34, 35, 36, 37, 38, 39, 40, 41, 42, 43, 44, 45, 46, 47, 48, 49, 50, 51, 52] (by decide +kernel) (by decide +kernel)
set_option maxRecDepth 20000 in
theorem gX11_leans_X10_chiefAt : GoodIn wsX11_leans (wsV RX11 101 RX10 yX10_chiefAt wsX10_chiefAt) := goodIn_app (goodIn_of _ (by decide +kernel)) ggX11_leans_X10_chiefAt
set_option maxRecDepth 20000 in
theorem ggX11_leans_X10_firstGrade : GoodIn wsX11_leans wsX10_firstGrade := goodIn_r _ [14, 15, 16, 17, 18, 34, 35, 36, 37, 38, 39, 40, 41, 42, 43, 44, 45, 46, 47, 48, 49, 50, 51, 52] (by decide +kernel) (by decide +kernel)
set_option maxRecDepth 20000 in
theorem gX11_leans_X10_firstGrade : GoodIn wsX11_leans (wsV RX11 225 RX10 yX10_firstGrade wsX10_firstGrade) := goodIn_app (goodIn_of _ (by decide +kernel)) ggX11_leans_X10_firstGrade
set_option maxRecDepth 20000 in
theorem ggX11_leans_X11_lowest : GoodIn wsX11_leans wsX11_lowest := goodIn_r _ [22, 2, 23, 24, 25, 26] (by decide +kernel) (by decide +kernel)
set_option maxRecDepth 20000 in
theorem gX11_leans_X11_lowest : GoodIn wsX11_leans (va_wsS RX11 203 yX11_lowest wsX11_lowest) := goodIn_app (goodIn_of _ (by decide +kernel)) ggX11_leans_X11_lowest
theorem dX11_leans_0 : decode cX11_leans 0 = .ok (.aload_n 0, 1) := by decide +kernel
theorem dX11_leans_1 : decode cX11_leans 1 = .ok (.getfield 12, 3) := by decide +kernel
theorem dX11_leans_4 : decode cX11_leans 4 = .ok (.iload_n 1, 1) := by decide +kernel
theorem dX11_leans_5 : decode cX11_leans 5 = .ok (.invokevirtual 101, 3) := by decide +kernel
theorem dX11_leans_8 : decode cX11_leans 8 = .ok (.ifnull 19, 3) := by decide +kernel
theorem dX11_leans_11 : decode cX11_leans 11 = .ok (.aload_n 0, 1) := by decide +kernel
theorem dX11_leans_12 : decode cX11_leans 12 = .ok (.getfield 12, 3) := by decide +kernel
theorem dX11_leans_15 : decode cX11_leans 15 = .ok (.iload_n 2, 1) := by decide +kernel
theorem dX11_leans_16 : decode cX11_leans 16 = .ok (.invokevirtual 101, 3) := by decide +kernel
theorem dX11_leans_19 : decode cX11_leans 19 = .ok (.ifnull 8, 3) := by decide +kernel
theorem dX11_leans_22 : decode cX11_leans 22 = .ok (.iload_n 1, 1) := by decide +kernel
theorem dX11_leans_23 : decode cX11_leans 23 = .ok (.iload_n 2, 1) := by decide +kernel
theorem dX11_leans_24 : decode cX11_leans 24 = .ok (.if_icmp .ne 7, 3) := by decide +kernel
theorem dX11_leans_27 : decode cX11_leans 27 = .ok (.ldc2_w 197, 3) := by decide +kernel
theorem dX11_leans_30 : decode cX11_leans 30 = .ok (.lreturn, 1) := by decide +kernel
theorem dX11_leans_31 : decode cX11_leans 31 = .ok (.iconst 0, 1) := by decide +kernel
theorem dX11_leans_32 : decode cX11_leans 32 = .ok (.istore 4, 2) := by decide +kernel
theorem dX11_leans_34 : decode cX11_leans 34 = .ok (.iconst 0, 1) := by decide +kernel
theorem dX11_leans_35 : decode cX11_leans 35 = .ok (.istore 5, 2) := by decide +kernel
theorem dX11_leans_37 : decode cX11_leans 37 = .ok (.iconst 0, 1) := by decide +kernel
theorem dX11_leans_38 : decode cX11_leans 38 = .ok (.istore 6, 2) := by decide +kernel
theorem dX11_leans_40 : decode cX11_leans 40 = .ok (.iload 6, 2) := by decide +kernel
theorem dX11_leans_42 : decode cX11_leans 42 = .ok (.aload_n 0, 1) := by decide +kernel
theorem dX11_leans_43 : decode cX11_leans 43 = .ok (.getfield 12, 3) := by decide +kernel
theorem dX11_leans_46 : decode cX11_leans 46 = .ok (.getfield 105, 3) := by decide +kernel
theorem dX11_leans_49 : decode cX11_leans 49 = .ok (.if_icmp .ge 59, 3) := by decide +kernel
theorem dX11_leans_52 : decode cX11_leans 52 = .ok (.aload_n 0, 1) := by decide +kernel
theorem dX11_leans_53 : decode cX11_leans 53 = .ok (.getfield 12, 3) := by decide +kernel
theorem dX11_leans_56 : decode cX11_leans 56 = .ok (.iload 6, 2) := by decide +kernel
theorem dX11_leans_58 : decode cX11_leans 58 = .ok (.iload_n 1, 1) := by decide +kernel
theorem dX11_leans_59 : decode cX11_leans 59 = .ok (.invokevirtual 225, 3) := by decide +kernel
theorem dX11_leans_62 : decode cX11_leans 62 = .ok (.istore 7, 2) := by decide +kernel
theorem dX11_leans_64 : decode cX11_leans 64 = .ok (.aload_n 0, 1) := by decide +kernel
theorem dX11_leans_65 : decode cX11_leans 65 = .ok (.getfield 12, 3) := by decide +kernel
theorem dX11_leans_68 : decode cX11_leans 68 = .ok (.iload 6, 2) := by decide +kernel
theorem dX11_leans_70 : decode cX11_leans 70 = .ok (.iload_n 2, 1) := by decide +kernel
theorem dX11_leans_71 : decode cX11_leans 71 = .ok (.invokevirtual 225, 3) := by decide +kernel
theorem dX11_leans_74 : decode cX11_leans 74 = .ok (.istore 8, 2) := by decide +kernel
theorem dX11_leans_76 : decode cX11_leans 76 = .ok (.iload 7, 2) := by decide +kernel
theorem dX11_leans_78 : decode cX11_leans 78 = .ok (.ifCond .eq 24, 3) := by decide +kernel
theorem dX11_leans_81 : decode cX11_leans 81 = .ok (.iload 8, 2) := by decide +kernel
theorem dX11_leans_83 : decode cX11_leans 83 = .ok (.ifCond .ne 6, 3) := by decide +kernel
theorem dX11_leans_86 : decode cX11_leans 86 = .ok (.goto 16, 3) := by decide +kernel
theorem dX11_leans_89 : decode cX11_leans 89 = .ok (.iload 4, 2) := by decide +kernel
theorem dX11_leans_91 : decode cX11_leans 91 = .ok (.iload 7, 2) := by decide +kernel
theorem dX11_leans_93 : decode cX11_leans 93 = .ok (.iload 8, 2) := by decide +kernel
theorem dX11_leans_95 : decode cX11_leans 95 = .ok (.isub, 1) := by decide +kernel
theorem dX11_leans_96 : decode cX11_leans 96 = .ok (.iadd, 1) := by decide +kernel
theorem dX11_leans_97 : decode cX11_leans 97 = .ok (.istore 4, 2) := by decide +kernel
theorem dX11_leans_99 : decode cX11_leans 99 = .ok (.iinc 5 1, 3) := by decide +kernel
theorem dX11_leans_102 : decode cX11_leans 102 = .ok (.iinc 6 1, 3) := by decide +kernel
theorem dX11_leans_105 : decode cX11_leans 105 = .ok (.goto (-65), 3) := by decide +kernel
theorem dX11_leans_108 : decode cX11_leans 108 = .ok (.iload 4, 2) := by decide +kernel
theorem dX11_leans_110 : decode cX11_leans 110 = .ok (.i2l, 1) := by decide +kernel
theorem dX11_leans_111 : decode cX11_leans 111 = .ok (.iload 5, 2) := by decide +kernel
theorem dX11_leans_113 : decode cX11_leans 113 = .ok (.i2l, 1) := by decide +kernel
theorem dX11_leans_114 : decode cX11_leans 114 = .ok (.iload_n 3, 1) := by decide +kernel
theorem dX11_leans_115 : decode cX11_leans 115 = .ok (.invokestatic 203, 3) := by decide +kernel
theorem dX11_leans_118 : decode cX11_leans 118 = .ok (.lreturn, 1) := by decide +kernel
set_option maxRecDepth 20000 in
theorem ggX11_looked_X10_chiefAt : GoodIn wsX11_looked wsX10_chiefAt := goodIn_r _ [10, 11, 12, 208, 209, 210, 211, 212, 213, 214, 215, 216, 217, 218, 219, 220, 221, 222, 223, 224, 225, 226] (by decide +kernel) (by decide +kernel)
set_option maxRecDepth 20000 in
theorem gX11_looked_X10_chiefAt : GoodIn wsX11_looked (wsV RX11 101 RX10 yX10_chiefAt wsX10_chiefAt) := goodIn_app (goodIn_of _ (by decide +kernel)) ggX11_looked_X10_chiefAt
set_option maxRecDepth 20000 in
theorem ggX11_looked_X11_gradeUnder : GoodIn wsX11_looked wsX11_gradeUnder := goodIn_r _ [17, 18, 1, 19, 20, 21, 22, 23, 24, 9, 25, 26, 11, 27, 28, 29, 30, 31, 32, 33, 34, 35, 36, 37, 38, 39, 40, 41, 42, 43, 44, 45, 46, 12, 47, 48, 49, 50, 51, 52, 53, 54, 55, 56, 57, 58, 7, 8, 10, 59, 60, 61, 62, 63, 64, 65, 66, 67, 68, 69, 70, 71, 72, 73, 74, 75, 76, 77, 78, 79, 80, 81, 82, 83, 84, 85, 86, 87, 88, 89, 90, 91, 92, 93, 94, 95, 96, 97, 98, 99, 100, 101, 102, 103, 104, 105, 106, 107, 108, 109, 110, 111, 112, 113, 114, 115, 116, 117, 118, 119, 120, 121, 122, 123, 124, 125, 126, 127, 128, 129, 130, 131, 132, 133, 134, 135, 136, 137, 138, 139, 140, 141, 142, 143, 144, 145, 146, 147, 148, 149, 150, 151, 152, 153, 154, 155, 156, 157, 158, 159, 160, 161, 162, 163, 164, 165, 166, 167, 168, 169, 170, 171, 172, 173, 174, 175, 176, 177, 178, 179, 180, 181, 182, 183, 184, 185, 186, 187, 188, 189, 190, 191, 192, 193, 194, 195, 196, 197, 198, 199, 200, 201, 202, 203, 204, 205, 206, 207, 208, 209, 210, 211, 212, 213, 214, 215, 216, 217, 218, 219, 220, 221, 222, 223, 224, 225, 226, 227, 228, 229, 230, 231, 232, 233, 234, 235, 236, 237, 238, 239, 240, 241, 242, 243, 244, 245, 246, 247, 248, 249, 250, 251, 252, 253, 254, 255, 256, 257, 258, 259, 260, 261, 262, 263, 264, 265, 266, 267, 268, 269, 270, 271, 272] (by decide +kernel) (by decide +kernel)
set_option maxRecDepth 20000 in
theorem gX11_looked_X11_gradeUnder : GoodIn wsX11_looked (wsV RX11 174 RX11 yX11_gradeUnder wsX11_gradeUnder) := goodIn_app (goodIn_of _ (by decide +kernel)) ggX11_looked_X11_gradeUnder
theorem dX11_looked_0 : decode cX11_looked 0 = .ok (.iconst 0, 1) := by decide +kernel
theorem dX11_looked_1 : decode cX11_looked 1 = .ok (.istore_n 1, 1) := by decide +kernel
theorem dX11_looked_2 : decode cX11_looked 2 = .ok (.iload_n 1, 1) := by decide +kernel
theorem dX11_looked_3 : decode cX11_looked 3 = .ok (.aload_n 0, 1) := by decide +kernel
theorem dX11_looked_4 : decode cX11_looked 4 = .ok (.getfield 12, 3) := by decide +kernel
theorem dX11_looked_7 : decode cX11_looked 7 = .ok (.getfield 207, 3) := by decide +kernel
theorem dX11_looked_10 : decode cX11_looked 10 = .ok (.if_icmp .ge 67, 3) := by decide +kernel
theorem dX11_looked_13 : decode cX11_looked 13 = .ok (.iload_n 1, 1) := by decide +kernel
theorem dX11_looked_14 : decode cX11_looked 14 = .ok (.bipush 20, 2) := by decide +kernel
theorem dX11_looked_16 : decode cX11_looked 16 = .ok (.if_icmp .ge 61, 3) := by decide +kernel
theorem dX11_looked_19 : decode cX11_looked 19 = .ok (.aload_n 0, 1) := by decide +kernel
theorem dX11_looked_20 : decode cX11_looked 20 = .ok (.getfield 12, 3) := by decide +kernel
theorem dX11_looked_23 : decode cX11_looked 23 = .ok (.aload_n 0, 1) := by decide +kernel
theorem dX11_looked_24 : decode cX11_looked 24 = .ok (.getfield 12, 3) := by decide +kernel
theorem dX11_looked_27 : decode cX11_looked 27 = .ok (.getfield 213, 3) := by decide +kernel
theorem dX11_looked_30 : decode cX11_looked 30 = .ok (.iload_n 1, 1) := by decide +kernel
theorem dX11_looked_31 : decode cX11_looked 31 = .ok (.iaload, 1) := by decide +kernel
theorem dX11_looked_32 : decode cX11_looked 32 = .ok (.invokevirtual 101, 3) := by decide +kernel
theorem dX11_looked_35 : decode cX11_looked 35 = .ok (.astore_n 2, 1) := by decide +kernel
theorem dX11_looked_36 : decode cX11_looked 36 = .ok (.aload_n 2, 1) := by decide +kernel
theorem dX11_looked_37 : decode cX11_looked 37 = .ok (.ifnonnull 6, 3) := by decide +kernel
theorem dX11_looked_40 : decode cX11_looked 40 = .ok (.goto 31, 3) := by decide +kernel
theorem dX11_looked_43 : decode cX11_looked 43 = .ok (.aload_n 0, 1) := by decide +kernel
theorem dX11_looked_44 : decode cX11_looked 44 = .ok (.aload_n 0, 1) := by decide +kernel
theorem dX11_looked_45 : decode cX11_looked 45 = .ok (.getfield 12, 3) := by decide +kernel
theorem dX11_looked_48 : decode cX11_looked 48 = .ok (.getfield 210, 3) := by decide +kernel
theorem dX11_looked_51 : decode cX11_looked 51 = .ok (.iload_n 1, 1) := by decide +kernel
theorem dX11_looked_52 : decode cX11_looked 52 = .ok (.iaload, 1) := by decide +kernel
theorem dX11_looked_53 : decode cX11_looked 53 = .ok (.aload_n 2, 1) := by decide +kernel
theorem dX11_looked_54 : decode cX11_looked 54 = .ok (.invokevirtual 174, 3) := by decide +kernel
theorem dX11_looked_57 : decode cX11_looked 57 = .ok (.aload_n 0, 1) := by decide +kernel
theorem dX11_looked_58 : decode cX11_looked 58 = .ok (.getfield 12, 3) := by decide +kernel
theorem dX11_looked_61 : decode cX11_looked 61 = .ok (.getfield 216, 3) := by decide +kernel
theorem dX11_looked_64 : decode cX11_looked 64 = .ok (.iload_n 1, 1) := by decide +kernel
theorem dX11_looked_65 : decode cX11_looked 65 = .ok (.iaload, 1) := by decide +kernel
theorem dX11_looked_66 : decode cX11_looked 66 = .ok (.if_icmp .eq 5, 3) := by decide +kernel
theorem dX11_looked_69 : decode cX11_looked 69 = .ok (.iload_n 1, 1) := by decide +kernel
theorem dX11_looked_70 : decode cX11_looked 70 = .ok (.ireturn, 1) := by decide +kernel
theorem dX11_looked_71 : decode cX11_looked 71 = .ok (.iinc 1 1, 3) := by decide +kernel
theorem dX11_looked_74 : decode cX11_looked 74 = .ok (.goto (-72), 3) := by decide +kernel
theorem dX11_looked_77 : decode cX11_looked 77 = .ok (.bipush (-5), 2) := by decide +kernel
theorem dX11_looked_79 : decode cX11_looked 79 = .ok (.ireturn, 1) := by decide +kernel
set_option maxRecDepth 20000 in
theorem ggX11_act_X10_chiefAt : GoodIn wsX11_act wsX10_chiefAt := goodIn_r _ [8, 9, 10, 110, 111, 112, 113, 114, 115, 116, 117, 118, 119, 120, 121, 122, 123, 124, 125, 126, 127, 128] (by decide +kernel) (by decide +kernel)
set_option maxRecDepth 20000 in
theorem gX11_act_X10_chiefAt : GoodIn wsX11_act (wsV RX11 101 RX10 yX10_chiefAt wsX10_chiefAt) := goodIn_app (goodIn_of _ (by decide +kernel)) ggX11_act_X10_chiefAt
set_option maxRecDepth 20000 in
theorem ggX11_act_X0_works : GoodIn wsX11_act wsX0_works := goodIn_r _ [15, 16, 17, 18, 19, 20, 21, 22, 23, 129, 130, 131, 132, 133, 134, 135, 136, 137, 138, 139, 140, 141, 142, 143, 144, 145, 146, 147, 148, 149, 150, 151, 152, 153, 154, 155, 156, 108, 109] (by decide +kernel) (by decide +kernel)
set_option maxRecDepth 20000 in
theorem gX11_act_X0_works : GoodIn wsX11_act (wsV RX11 231 RX0 yX0_works wsX0_works) := goodIn_app (goodIn_of _ (by decide +kernel)) ggX11_act_X0_works
set_option maxRecDepth 20000 in
theorem ggX11_act_X3_works : GoodIn wsX11_act wsX3_works := goodIn_r _ [30, 31, 32, 33, 18, 19, 20, 21, 22, 23, 129, 130, 131, 132, 133, 134, 135, 136, 137, 138, 139, 140, 141, 142, 143, 144, 145, 146, 147, 148, 149, 150, 151, 152, 153, 154, 155, 156, 108, 109] (by decide +kernel) (by decide +kernel)
set_option maxRecDepth 20000 in
theorem gX11_act_X3_works_u231X3 : GoodIn wsX11_act (va_wsO RX11 231 RX3 "ChiefGrades$Chief" ⟨"ChiefGrades$Chief", "works", "(ILChiefGrades$Trace;)I"⟩ yX3_works wsX3_works) := goodIn_app (goodIn_of _ (by decide +kernel)) ggX11_act_X3_works
set_option maxRecDepth 20000 in
theorem gX11_act_X0_works_u231X4 : GoodIn wsX11_act (va_wsU RX11 231 RX4 "ChiefGrades$Chief" ⟨"ChiefGrades$Chief", "works", "(ILChiefGrades$Trace;)I"⟩ yX0_works wsX0_works) := goodIn_app (goodIn_of _ (by decide +kernel)) ggX11_act_X0_works
set_option maxRecDepth 20000 in
theorem ggX11_act_X5_works : GoodIn wsX11_act wsX5_works := goodIn_r _ [38, 39, 18, 19, 20, 21, 22, 23, 40, 25, 41, 12, 14, 15, 16, 17, 108, 109, 129, 130, 131, 132, 133, 134, 135, 136, 137, 138, 139, 140, 141, 142, 143, 144, 145, 146, 147, 148, 149, 150, 151, 152, 153, 154, 155, 156] (by decide +kernel) (by decide +kernel)
set_option maxRecDepth 20000 in
theorem gX11_act_X5_works_u231X5 : GoodIn wsX11_act (va_wsO RX11 231 RX5 "ChiefGrades$Chief" ⟨"ChiefGrades$Chief", "works", "(ILChiefGrades$Trace;)I"⟩ yX5_works wsX5_works) := goodIn_app (goodIn_of _ (by decide +kernel)) ggX11_act_X5_works
set_option maxRecDepth 20000 in
theorem gX11_act_X5_works_u231X6 : GoodIn wsX11_act (va_wsO RX11 231 RX6 "ChiefGrades$Chief" ⟨"ChiefGrades$Chief", "works", "(ILChiefGrades$Trace;)I"⟩ yX5_works wsX5_works) := goodIn_app (goodIn_of _ (by decide +kernel)) ggX11_act_X5_works
set_option maxRecDepth 20000 in
theorem gX11_act_X0_works_u231X7 : GoodIn wsX11_act (va_wsU RX11 231 RX7 "ChiefGrades$Chief" ⟨"ChiefGrades$Chief", "works", "(ILChiefGrades$Trace;)I"⟩ yX0_works wsX0_works) := goodIn_app (goodIn_of _ (by decide +kernel)) ggX11_act_X0_works
set_option maxRecDepth 20000 in
theorem gX11_act_X0_works_u231X9 : GoodIn wsX11_act (va_wsU RX11 231 RX9 "ChiefGrades$Chief" ⟨"ChiefGrades$Chief", "works", "(ILChiefGrades$Trace;)I"⟩ yX0_works wsX0_works) := goodIn_app (goodIn_of _ (by decide +kernel)) ggX11_act_X0_works
set_option maxRecDepth 20000 in
theorem ggX11_act_X0_grades : GoodIn wsX11_act wsX0_grades := goodIn_r _ [48, 49, 17, 18, 19, 20, 21, 22, 23, 50, 12, 13, 14, 15, 16, 51, 25, 26, 27, 28, 29, 30, 31, 32, 33, 34, 35, 36, 37, 38, 39, 40, 41, 42, 43, 44, 129, 130, 131, 132, 133, 134, 135, 136, 137, 138, 139, 140, 141, 142, 143, 144, 145, 146, 147, 148, 149, 150, 151, 152, 153, 154, 155, 156, 108, 109] (by decide +kernel) (by decide +kernel)
set_option maxRecDepth 20000 in
theorem gX11_act_X0_grades : GoodIn wsX11_act (wsV RX11 235 RX0 yX0_grades wsX0_grades) := goodIn_app (goodIn_of _ (by decide +kernel)) ggX11_act_X0_grades
set_option maxRecDepth 20000 in
theorem ggX11_act_X9_grades : GoodIn wsX11_act wsX9_grades := goodIn_r _ [58, 59, 18, 19, 20, 21, 22, 23, 60, 53, 61, 46, 14, 48, 49, 17, 50, 12, 13, 15, 16, 51, 25, 26, 27, 28, 29, 30, 31, 32, 33, 34, 35, 36, 37, 38, 39, 40, 41, 42, 43, 44, 108, 109, 129, 130, 131, 132, 133, 134, 135, 136, 137, 138, 139, 140, 141, 142, 143, 144, 145, 146, 147, 148, 149, 150, 151, 152, 153, 154, 155, 156] (by decide +kernel) (by decide +kernel)
set_option maxRecDepth 20000 in
theorem gX11_act_X9_grades_u235X3 : GoodIn wsX11_act (va_wsO RX11 235 RX3 "ChiefGrades$Chief" ⟨"ChiefGrades$Chief", "grades", "(ILChiefGrades$Trace;)I"⟩ yX9_grades wsX9_grades) := goodIn_app (goodIn_of _ (by decide +kernel)) ggX11_act_X9_grades
set_option maxRecDepth 20000 in
theorem gX11_act_X0_grades_u235X4 : GoodIn wsX11_act (va_wsU RX11 235 RX4 "ChiefGrades$Chief" ⟨"ChiefGrades$Chief", "grades", "(ILChiefGrades$Trace;)I"⟩ yX0_grades wsX0_grades) := goodIn_app (goodIn_of _ (by decide +kernel)) ggX11_act_X0_grades
set_option maxRecDepth 20000 in
theorem gX11_act_X0_grades_u235X5 : GoodIn wsX11_act (va_wsU RX11 235 RX5 "ChiefGrades$Chief" ⟨"ChiefGrades$Chief", "grades", "(ILChiefGrades$Trace;)I"⟩ yX0_grades wsX0_grades) := goodIn_app (goodIn_of _ (by decide +kernel)) ggX11_act_X0_grades
set_option maxRecDepth 20000 in
theorem gX11_act_X0_grades_u235X6 : GoodIn wsX11_act (va_wsU RX11 235 RX6 "ChiefGrades$Chief" ⟨"ChiefGrades$Chief", "grades", "(ILChiefGrades$Trace;)I"⟩ yX0_grades wsX0_grades) := goodIn_app (goodIn_of _ (by decide +kernel)) ggX11_act_X0_grades
set_option maxRecDepth 20000 in
theorem ggX11_act_X7_grades : GoodIn wsX11_act wsX7_grades := goodIn_r _ [68, 69, 70, 71, 18, 19, 20, 21, 22, 23, 129, 130, 131, 132, 133, 134, 135, 136, 137, 138, 139, 140, 141, 142, 143, 144, 145, 146, 147, 148, 149, 150, 151, 152, 153, 154, 155, 156, 108, 109] (by decide +kernel) (by decide +kernel)
set_option maxRecDepth 20000 in
theorem gX11_act_X7_grades_u235X7 : GoodIn wsX11_act (va_wsO RX11 235 RX7 "ChiefGrades$Chief" ⟨"ChiefGrades$Chief", "grades", "(ILChiefGrades$Trace;)I"⟩ yX7_grades wsX7_grades) := goodIn_app (goodIn_of _ (by decide +kernel)) ggX11_act_X7_grades
set_option maxRecDepth 20000 in
theorem gX11_act_X9_grades_u235X9 : GoodIn wsX11_act (va_wsO RX11 235 RX9 "ChiefGrades$Chief" ⟨"ChiefGrades$Chief", "grades", "(ILChiefGrades$Trace;)I"⟩ yX9_grades wsX9_grades) := goodIn_app (goodIn_of _ (by decide +kernel)) ggX11_act_X9_grades
set_option maxRecDepth 20000 in
theorem ggX11_act_X0_levels : GoodIn wsX11_act wsX0_levels := goodIn_r _ [76, 17, 18, 19, 20, 21, 22, 23, 77, 46, 47, 14, 48, 49, 50, 12, 13, 15, 16, 51, 25, 26, 27, 28, 29, 30, 31, 32, 33, 34, 35, 36, 37, 38, 39, 40, 41, 42, 43, 44, 78, 53, 54, 55, 56, 57, 58, 59, 60, 61, 62, 63, 64, 65, 66, 67, 68, 69, 70, 71, 72, 108, 109, 129, 130, 131, 132, 133, 134, 135, 136, 137, 138, 139, 140, 141, 142, 143, 144, 145, 146, 147, 148, 149, 150, 151, 152, 153, 154, 155, 156] (by decide +kernel) (by decide +kernel)
set_option maxRecDepth 20000 in
theorem gX11_act_X0_levels : GoodIn wsX11_act (wsV RX11 238 RX0 yX0_levels wsX0_levels) := goodIn_app (goodIn_of _ (by decide +kernel)) ggX11_act_X0_levels
set_option maxRecDepth 20000 in
theorem gX11_act_X0_levels_u238X3 : GoodIn wsX11_act (va_wsU RX11 238 RX3 "ChiefGrades$Chief" ⟨"ChiefGrades$Chief", "levels", "(ILChiefGrades$Trace;)I"⟩ yX0_levels wsX0_levels) := goodIn_app (goodIn_of _ (by decide +kernel)) ggX11_act_X0_levels
set_option maxRecDepth 20000 in
theorem ggX11_act_X4_levels : GoodIn wsX11_act wsX4_levels := goodIn_r _ [86, 87, 18, 19, 20, 21, 22, 23, 88, 80, 89, 74, 14, 76, 17, 77, 46, 47, 48, 49, 50, 12, 13, 15, 16, 51, 25, 26, 27, 28, 29, 30, 31, 32, 33, 34, 35, 36, 37, 38, 39, 40, 41, 42, 43, 44, 78, 53, 54, 55, 56, 57, 58, 59, 60, 61, 62, 63, 64, 65, 66, 67, 68, 69, 70, 71, 72, 108, 109, 129, 130, 131, 132, 133, 134, 135, 136, 137, 138, 139, 140, 141, 142, 143, 144, 145, 146, 147, 148, 149, 150, 151, 152, 153, 154, 155, 156] (by decide +kernel) (by decide +kernel)
set_option maxRecDepth 20000 in
theorem gX11_act_X4_levels_u238X4 : GoodIn wsX11_act (va_wsO RX11 238 RX4 "ChiefGrades$Chief" ⟨"ChiefGrades$Chief", "levels", "(ILChiefGrades$Trace;)I"⟩ yX4_levels wsX4_levels) := goodIn_app (goodIn_of _ (by decide +kernel)) ggX11_act_X4_levels
set_option maxRecDepth 20000 in
theorem gX11_act_X0_levels_u238X5 : GoodIn wsX11_act (va_wsU RX11 238 RX5 "ChiefGrades$Chief" ⟨"ChiefGrades$Chief", "levels", "(ILChiefGrades$Trace;)I"⟩ yX0_levels wsX0_levels) := goodIn_app (goodIn_of _ (by decide +kernel)) ggX11_act_X0_levels
set_option maxRecDepth 20000 in
theorem ggX11_act_X6_levels : GoodIn wsX11_act wsX6_levels := goodIn_r _ [94, 95, 18, 19, 20, 21, 22, 23, 96, 97, 98, 36, 37, 38, 39, 40, 25, 41, 12, 14, 15, 16, 17, 108, 109, 129, 130, 131, 132, 133, 134, 135, 136, 137, 138, 139, 140, 141, 142, 143, 144, 145, 146, 147, 148, 149, 150, 151, 152, 153, 154, 155, 156] (by decide +kernel) (by decide +kernel)
set_option maxRecDepth 20000 in
theorem gX11_act_X6_levels_u238X6 : GoodIn wsX11_act (va_wsO RX11 238 RX6 "ChiefGrades$Chief" ⟨"ChiefGrades$Chief", "levels", "(ILChiefGrades$Trace;)I"⟩ yX6_levels wsX6_levels) := goodIn_app (goodIn_of _ (by decide +kernel)) ggX11_act_X6_levels
set_option maxRecDepth 20000 in
theorem gX11_act_X4_levels_u238X7 : GoodIn wsX11_act (va_wsO RX11 238 RX7 "ChiefGrades$Chief" ⟨"ChiefGrades$Chief", "levels", "(ILChiefGrades$Trace;)I"⟩ yX4_levels wsX4_levels) := goodIn_app (goodIn_of _ (by decide +kernel)) ggX11_act_X4_levels
set_option maxRecDepth 20000 in
theorem gX11_act_X0_levels_u238X9 : GoodIn wsX11_act (va_wsU RX11 238 RX9 "ChiefGrades$Chief" ⟨"ChiefGrades$Chief", "levels", "(ILChiefGrades$Trace;)I"⟩ yX0_levels wsX0_levels) := goodIn_app (goodIn_of _ (by decide +kernel)) ggX11_act_X0_levels
theorem dX11_act_0 : decode cX11_act 0 = .ok (.aload_n 0, 1) := by decide +kernel
theorem dX11_act_1 : decode cX11_act 1 = .ok (.getfield 34, 3) := by decide +kernel
theorem dX11_act_4 : decode cX11_act 4 = .ok (.iconst 0, 1) := by decide +kernel
theorem dX11_act_5 : decode cX11_act 5 = .ok (.putfield 228, 3) := by decide +kernel
theorem dX11_act_8 : decode cX11_act 8 = .ok (.aload_n 0, 1) := by decide +kernel
theorem dX11_act_9 : decode cX11_act 9 = .ok (.getfield 12, 3) := by decide +kernel
theorem dX11_act_12 : decode cX11_act 12 = .ok (.iload_n 1, 1) := by decide +kernel
theorem dX11_act_13 : decode cX11_act 13 = .ok (.invokevirtual 101, 3) := by decide +kernel
theorem dX11_act_16 : decode cX11_act 16 = .ok (.astore 4, 2) := by decide +kernel
theorem dX11_act_18 : decode cX11_act 18 = .ok (.aload 4, 2) := by decide +kernel
theorem dX11_act_20 : decode cX11_act 20 = .ok (.ifnonnull 5, 3) := by decide +kernel
theorem dX11_act_23 : decode cX11_act 23 = .ok (.iconst 0, 1) := by decide +kernel
theorem dX11_act_24 : decode cX11_act 24 = .ok (.ireturn, 1) := by decide +kernel
theorem dX11_act_25 : decode cX11_act 25 = .ok (.iload_n 2, 1) := by decide +kernel
theorem dX11_act_26 : decode cX11_act 26 = .ok (.tableswitch 59 0 2 #[26, 37, 48], 26) := by decide +kernel
theorem dX11_act_52 : decode cX11_act 52 = .ok (.aload 4, 2) := by decide +kernel
theorem dX11_act_54 : decode cX11_act 54 = .ok (.iload_n 3, 1) := by decide +kernel
theorem dX11_act_55 : decode cX11_act 55 = .ok (.aload_n 0, 1) := by decide +kernel
theorem dX11_act_56 : decode cX11_act 56 = .ok (.getfield 34, 3) := by decide +kernel
theorem dX11_act_59 : decode cX11_act 59 = .ok (.invokevirtual 231, 3) := by decide +kernel
theorem dX11_act_62 : decode cX11_act 62 = .ok (.ireturn, 1) := by decide +kernel
theorem dX11_act_63 : decode cX11_act 63 = .ok (.aload 4, 2) := by decide +kernel
theorem dX11_act_65 : decode cX11_act 65 = .ok (.iload_n 3, 1) := by decide +kernel
theorem dX11_act_66 : decode cX11_act 66 = .ok (.aload_n 0, 1) := by decide +kernel
theorem dX11_act_67 : decode cX11_act 67 = .ok (.getfield 34, 3) := by decide +kernel
theorem dX11_act_70 : decode cX11_act 70 = .ok (.invokevirtual 235, 3) := by decide +kernel
theorem dX11_act_73 : decode cX11_act 73 = .ok (.ireturn, 1) := by decide +kernel
theorem dX11_act_74 : decode cX11_act 74 = .ok (.aload 4, 2) := by decide +kernel
theorem dX11_act_76 : decode cX11_act 76 = .ok (.iload_n 3, 1) := by decide +kernel
theorem dX11_act_77 : decode cX11_act 77 = .ok (.aload_n 0, 1) := by decide +kernel
theorem dX11_act_78 : decode cX11_act 78 = .ok (.getfield 34, 3) := by decide +kernel
theorem dX11_act_81 : decode cX11_act 81 = .ok (.invokevirtual 238, 3) := by decide +kernel
theorem dX11_act_84 : decode cX11_act 84 = .ok (.ireturn, 1) := by decide +kernel
theorem dX11_act_85 : decode cX11_act 85 = .ok (.iconst 0, 1) := by decide +kernel
theorem dX11_act_86 : decode cX11_act 86 = .ok (.ireturn, 1) := by decide +kernel
theorem dX11_trace_0 : decode cX11_trace 0 = .ok (.iload_n 1, 1) := by decide +kernel
theorem dX11_trace_1 : decode cX11_trace 1 = .ok (.ifCond .lt 20, 3) := by decide +kernel
theorem dX11_trace_4 : decode cX11_trace 4 = .ok (.iload_n 1, 1) := by decide +kernel
theorem dX11_trace_5 : decode cX11_trace 5 = .ok (.aload_n 0, 1) := by decide +kernel
theorem dX11_trace_6 : decode cX11_trace 6 = .ok (.getfield 34, 3) := by decide +kernel
theorem dX11_trace_9 : decode cX11_trace 9 = .ok (.getfield 228, 3) := by decide +kernel
theorem dX11_trace_12 : decode cX11_trace 12 = .ok (.if_icmp .ge 9, 3) := by decide +kernel
theorem dX11_trace_15 : decode cX11_trace 15 = .ok (.iload_n 1, 1) := by decide +kernel
theorem dX11_trace_16 : decode cX11_trace 16 = .ok (.bipush 20, 2) := by decide +kernel
theorem dX11_trace_18 : decode cX11_trace 18 = .ok (.if_icmp .lt 7, 3) := by decide +kernel
theorem dX11_trace_21 : decode cX11_trace 21 = .ok (.iconst (-1), 1) := by decide +kernel
theorem dX11_trace_22 : decode cX11_trace 22 = .ok (.goto 12, 3) := by decide +kernel
theorem dX11_trace_25 : decode cX11_trace 25 = .ok (.aload_n 0, 1) := by decide +kernel
theorem dX11_trace_26 : decode cX11_trace 26 = .ok (.getfield 34, 3) := by decide +kernel
theorem dX11_trace_29 : decode cX11_trace 29 = .ok (.getfield 241, 3) := by decide +kernel
theorem dX11_trace_32 : decode cX11_trace 32 = .ok (.iload_n 1, 1) := by decide +kernel
theorem dX11_trace_33 : decode cX11_trace 33 = .ok (.iaload, 1) := by decide +kernel
theorem dX11_trace_34 : decode cX11_trace 34 = .ok (.ireturn, 1) := by decide +kernel
set_option maxRecDepth 20000 in
theorem ggX11_as_X10_chiefAt : GoodIn wsX11_as wsX10_chiefAt := goodIn_r _ [7, 8, 9, 64, 65, 66, 67, 68, 69, 70, 71, 72, 73, 74, 75, 76, 77, 78, 79, 80, 81, 82] (by decide +kernel) (by decide +kernel)
set_option maxRecDepth 20000 in
theorem gX11_as_X10_chiefAt : GoodIn wsX11_as (wsV RX11 101 RX10 yX10_chiefAt wsX10_chiefAt) := goodIn_app (goodIn_of _ (by decide +kernel)) ggX11_as_X10_chiefAt
set_option maxRecDepth 20000 in
theorem ggX11_as_X0_isOfKind : GoodIn wsX11_as wsX0_isOfKind := goodIn_r _ [14, 15, 16, 17, 18, 19, 20] (by decide +kernel) (by decide +kernel)
set_option maxRecDepth 20000 in
theorem gX11_as_X0_isOfKind : GoodIn wsX11_as (wsV RX11 244 RX0 yX0_isOfKind wsX0_isOfKind) := goodIn_app (goodIn_of _ (by decide +kernel)) ggX11_as_X0_isOfKind
set_option maxRecDepth 20000 in
theorem gX11_as_X0_isOfKind_u244X3 : GoodIn wsX11_as (va_wsU RX11 244 RX3 "ChiefGrades$Chief" ⟨"ChiefGrades$Chief", "isOfKind", "(I)Z"⟩ yX0_isOfKind wsX0_isOfKind) := goodIn_app (goodIn_of _ (by decide +kernel)) ggX11_as_X0_isOfKind
set_option maxRecDepth 20000 in
theorem gX11_as_X0_isOfKind_u244X4 : GoodIn wsX11_as (va_wsU RX11 244 RX4 "ChiefGrades$Chief" ⟨"ChiefGrades$Chief", "isOfKind", "(I)Z"⟩ yX0_isOfKind wsX0_isOfKind) := goodIn_app (goodIn_of _ (by decide +kernel)) ggX11_as_X0_isOfKind
set_option maxRecDepth 20000 in
theorem gX11_as_X0_isOfKind_u244X5 : GoodIn wsX11_as (va_wsU RX11 244 RX5 "ChiefGrades$Chief" ⟨"ChiefGrades$Chief", "isOfKind", "(I)Z"⟩ yX0_isOfKind wsX0_isOfKind) := goodIn_app (goodIn_of _ (by decide +kernel)) ggX11_as_X0_isOfKind
set_option maxRecDepth 20000 in
theorem gX11_as_X0_isOfKind_u244X6 : GoodIn wsX11_as (va_wsU RX11 244 RX6 "ChiefGrades$Chief" ⟨"ChiefGrades$Chief", "isOfKind", "(I)Z"⟩ yX0_isOfKind wsX0_isOfKind) := goodIn_app (goodIn_of _ (by decide +kernel)) ggX11_as_X0_isOfKind
set_option maxRecDepth 20000 in
theorem gX11_as_X0_isOfKind_u244X7 : GoodIn wsX11_as (va_wsU RX11 244 RX7 "ChiefGrades$Chief" ⟨"ChiefGrades$Chief", "isOfKind", "(I)Z"⟩ yX0_isOfKind wsX0_isOfKind) := goodIn_app (goodIn_of _ (by decide +kernel)) ggX11_as_X0_isOfKind
set_option maxRecDepth 20000 in
theorem gX11_as_X0_isOfKind_u244X9 : GoodIn wsX11_as (va_wsU RX11 244 RX9 "ChiefGrades$Chief" ⟨"ChiefGrades$Chief", "isOfKind", "(I)Z"⟩ yX0_isOfKind wsX0_isOfKind) := goodIn_app (goodIn_of _ (by decide +kernel)) ggX11_as_X0_isOfKind
theorem dX11_as_0 : decode cX11_as 0 = .ok (.aload_n 0, 1) := by decide +kernel
theorem dX11_as_1 : decode cX11_as 1 = .ok (.getfield 12, 3) := by decide +kernel
theorem dX11_as_4 : decode cX11_as 4 = .ok (.iload_n 1, 1) := by decide +kernel
theorem dX11_as_5 : decode cX11_as 5 = .ok (.invokevirtual 101, 3) := by decide +kernel
theorem dX11_as_8 : decode cX11_as 8 = .ok (.astore_n 3, 1) := by decide +kernel
theorem dX11_as_9 : decode cX11_as 9 = .ok (.aload_n 3, 1) := by decide +kernel
theorem dX11_as_10 : decode cX11_as 10 = .ok (.ifnull 13, 3) := by decide +kernel
theorem dX11_as_13 : decode cX11_as 13 = .ok (.iload_n 2, 1) := by decide +kernel
theorem dX11_as_14 : decode cX11_as 14 = .ok (.ifCond .lt 9, 3) := by decide +kernel
theorem dX11_as_17 : decode cX11_as 17 = .ok (.iload_n 2, 1) := by decide +kernel
theorem dX11_as_18 : decode cX11_as 18 = .ok (.bipush 7, 2) := by decide +kernel
theorem dX11_as_20 : decode cX11_as 20 = .ok (.if_icmp .lt 5, 3) := by decide +kernel
theorem dX11_as_23 : decode cX11_as 23 = .ok (.iconst (-1), 1) := by decide +kernel
theorem dX11_as_24 : decode cX11_as 24 = .ok (.ireturn, 1) := by decide +kernel
theorem dX11_as_25 : decode cX11_as 25 = .ok (.aload_n 3, 1) := by decide +kernel
theorem dX11_as_26 : decode cX11_as 26 = .ok (.iload_n 2, 1) := by decide +kernel
theorem dX11_as_27 : decode cX11_as 27 = .ok (.invokevirtual 244, 3) := by decide +kernel
theorem dX11_as_30 : decode cX11_as 30 = .ok (.ifCond .eq 10, 3) := by decide +kernel
theorem dX11_as_33 : decode cX11_as 33 = .ok (.aload_n 3, 1) := by decide +kernel
theorem dX11_as_34 : decode cX11_as 34 = .ok (.getfield 147, 3) := by decide +kernel
theorem dX11_as_37 : decode cX11_as 37 = .ok (.goto 5, 3) := by decide +kernel
theorem dX11_as_40 : decode cX11_as 40 = .ok (.bipush (-6), 2) := by decide +kernel
theorem dX11_as_42 : decode cX11_as 42 = .ok (.ireturn, 1) := by decide +kernel
set_option maxRecDepth 20000 in
theorem ggX11_image_X10_become : GoodIn wsX11_image wsX10_become := goodIn_r _ [9, 10, 11, 12, 13, 14, 15, 16, 17, 18, 19, 20, 21, 22, 23, 24, 25, 26, 27, 28, 29, 30, 31, 32, 40, 41, 42, 43, 44, 45, 46, 47, 48, 49, 50, 51, 52, 53, 54, 55, 56, 57, 58] (by decide +kernel) (by decide +kernel)
set_option maxRecDepth 20000 in
theorem gX11_image_X10_become : GoodIn wsX11_image (wsV RX11 185 RX10 yX10_become wsX10_become) := goodIn_app (goodIn_of _ (by decide +kernel)) ggX11_image_X10_become
theorem dX11_image_0 : decode cX11_image 0 = .ok (.aload_n 0, 1) := by decide +kernel
theorem dX11_image_1 : decode cX11_image 1 = .ok (.getfield 21, 3) := by decide +kernel
theorem dX11_image_4 : decode cX11_image 4 = .ok (.aload_n 0, 1) := by decide +kernel
theorem dX11_image_5 : decode cX11_image 5 = .ok (.getfield 12, 3) := by decide +kernel
theorem dX11_image_8 : decode cX11_image 8 = .ok (.invokevirtual 185, 3) := by decide +kernel
theorem dX11_image_11 : decode cX11_image 11 = .ok (.aload_n 0, 1) := by decide +kernel
theorem dX11_image_12 : decode cX11_image 12 = .ok (.iconst 1, 1) := by decide +kernel
theorem dX11_image_13 : decode cX11_image 13 = .ok (.putfield 247, 3) := by decide +kernel
theorem dX11_image_16 : decode cX11_image 16 = .ok (.aload_n 0, 1) := by decide +kernel
theorem dX11_image_17 : decode cX11_image 17 = .ok (.getfield 12, 3) := by decide +kernel
theorem dX11_image_20 : decode cX11_image 20 = .ok (.getfield 105, 3) := by decide +kernel
theorem dX11_image_23 : decode cX11_image 23 = .ok (.ireturn, 1) := by decide +kernel
set_option maxRecDepth 20000 in
theorem ggX11_undo_X10_become : GoodIn wsX11_undo wsX10_become := goodIn_r _ [9, 10, 11, 12, 13, 14, 15, 16, 17, 18, 19, 20, 21, 22, 23, 24, 25, 26, 27, 28, 29, 30, 31, 32, 40, 41, 42, 43, 44, 45, 46, 47, 48, 49, 50, 51, 52, 53, 54, 55, 56, 57, 58] (by decide +kernel) (by decide +kernel)
set_option maxRecDepth 20000 in
theorem gX11_undo_X10_become : GoodIn wsX11_undo (wsV RX11 185 RX10 yX10_become wsX10_become) := goodIn_app (goodIn_of _ (by decide +kernel)) ggX11_undo_X10_become
theorem dX11_undo_0 : decode cX11_undo 0 = .ok (.aload_n 0, 1) := by decide +kernel
theorem dX11_undo_1 : decode cX11_undo 1 = .ok (.getfield 247, 3) := by decide +kernel
theorem dX11_undo_4 : decode cX11_undo 4 = .ok (.ifCond .ne 6, 3) := by decide +kernel
theorem dX11_undo_7 : decode cX11_undo 7 = .ok (.bipush (-3), 2) := by decide +kernel
theorem dX11_undo_9 : decode cX11_undo 9 = .ok (.ireturn, 1) := by decide +kernel
theorem dX11_undo_10 : decode cX11_undo 10 = .ok (.aload_n 0, 1) := by decide +kernel
theorem dX11_undo_11 : decode cX11_undo 11 = .ok (.getfield 12, 3) := by decide +kernel
theorem dX11_undo_14 : decode cX11_undo 14 = .ok (.aload_n 0, 1) := by decide +kernel
theorem dX11_undo_15 : decode cX11_undo 15 = .ok (.getfield 21, 3) := by decide +kernel
theorem dX11_undo_18 : decode cX11_undo 18 = .ok (.invokevirtual 185, 3) := by decide +kernel
theorem dX11_undo_21 : decode cX11_undo 21 = .ok (.aload_n 0, 1) := by decide +kernel
theorem dX11_undo_22 : decode cX11_undo 22 = .ok (.getfield 12, 3) := by decide +kernel
theorem dX11_undo_25 : decode cX11_undo 25 = .ok (.getfield 105, 3) := by decide +kernel
theorem dX11_undo_28 : decode cX11_undo 28 = .ok (.ireturn, 1) := by decide +kernel
theorem dX11_count_0 : decode cX11_count 0 = .ok (.iload_n 1, 1) := by decide +kernel
theorem dX11_count_1 : decode cX11_count 1 = .ok (.tableswitch 87 0 5 #[39, 47, 55, 63, 71, 79], 39) := by decide +kernel
theorem dX11_count_40 : decode cX11_count 40 = .ok (.aload_n 0, 1) := by decide +kernel
theorem dX11_count_41 : decode cX11_count 41 = .ok (.getfield 12, 3) := by decide +kernel
theorem dX11_count_44 : decode cX11_count 44 = .ok (.getfield 105, 3) := by decide +kernel
theorem dX11_count_47 : decode cX11_count 47 = .ok (.ireturn, 1) := by decide +kernel
theorem dX11_count_48 : decode cX11_count 48 = .ok (.aload_n 0, 1) := by decide +kernel
theorem dX11_count_49 : decode cX11_count 49 = .ok (.getfield 12, 3) := by decide +kernel
theorem dX11_count_52 : decode cX11_count 52 = .ok (.getfield 88, 3) := by decide +kernel
theorem dX11_count_55 : decode cX11_count 55 = .ok (.ireturn, 1) := by decide +kernel
theorem dX11_count_56 : decode cX11_count 56 = .ok (.aload_n 0, 1) := by decide +kernel
theorem dX11_count_57 : decode cX11_count 57 = .ok (.getfield 12, 3) := by decide +kernel
theorem dX11_count_60 : decode cX11_count 60 = .ok (.getfield 50, 3) := by decide +kernel
theorem dX11_count_63 : decode cX11_count 63 = .ok (.ireturn, 1) := by decide +kernel
theorem dX11_count_64 : decode cX11_count 64 = .ok (.aload_n 0, 1) := by decide +kernel
theorem dX11_count_65 : decode cX11_count 65 = .ok (.getfield 12, 3) := by decide +kernel
theorem dX11_count_68 : decode cX11_count 68 = .ok (.getfield 207, 3) := by decide +kernel
theorem dX11_count_71 : decode cX11_count 71 = .ok (.ireturn, 1) := by decide +kernel
theorem dX11_count_72 : decode cX11_count 72 = .ok (.aload_n 0, 1) := by decide +kernel
theorem dX11_count_73 : decode cX11_count 73 = .ok (.getfield 12, 3) := by decide +kernel
theorem dX11_count_76 : decode cX11_count 76 = .ok (.getfield 42, 3) := by decide +kernel
theorem dX11_count_79 : decode cX11_count 79 = .ok (.ireturn, 1) := by decide +kernel
theorem dX11_count_80 : decode cX11_count 80 = .ok (.aload_n 0, 1) := by decide +kernel
theorem dX11_count_81 : decode cX11_count 81 = .ok (.getfield 34, 3) := by decide +kernel
theorem dX11_count_84 : decode cX11_count 84 = .ok (.getfield 228, 3) := by decide +kernel
theorem dX11_count_87 : decode cX11_count 87 = .ok (.ireturn, 1) := by decide +kernel
theorem dX11_count_88 : decode cX11_count 88 = .ok (.iconst (-1), 1) := by decide +kernel
theorem dX11_count_89 : decode cX11_count 89 = .ok (.ireturn, 1) := by decide +kernel
theorem dX11_isWithin_0 : decode cX11_isWithin 0 = .ok (.iload_n 0, 1) := by decide +kernel
theorem dX11_isWithin_1 : decode cX11_isWithin 1 = .ok (.ifCond .lt 12, 3) := by decide +kernel
theorem dX11_isWithin_4 : decode cX11_isWithin 4 = .ok (.iload_n 0, 1) := by decide +kernel
theorem dX11_isWithin_5 : decode cX11_isWithin 5 = .ok (.iload_n 1, 1) := by decide +kernel
theorem dX11_isWithin_6 : decode cX11_isWithin 6 = .ok (.if_icmp .gt 7, 3) := by decide +kernel
theorem dX11_isWithin_9 : decode cX11_isWithin 9 = .ok (.iconst 1, 1) := by decide +kernel
theorem dX11_isWithin_10 : decode cX11_isWithin 10 = .ok (.goto 4, 3) := by decide +kernel
theorem dX11_isWithin_13 : decode cX11_isWithin 13 = .ok (.iconst 0, 1) := by decide +kernel
theorem dX11_isWithin_14 : decode cX11_isWithin 14 = .ok (.ireturn, 1) := by decide +kernel
set_option maxRecDepth 20000 in
theorem ggX11_gradeUnder_X10_become : GoodIn wsX11_gradeUnder wsX10_become := goodIn_r _ [10, 11, 12, 13, 14, 15, 16, 17, 18, 19, 20, 21, 22, 23, 24, 25, 26, 27, 28, 29, 30, 31, 32, 33, 198, 199, 200, 201, 202, 203, 204, 205, 206, 207, 208, 209, 210, 211, 212, 213, 214, 215, 216] (by decide +kernel) (by decide +kernel)
set_option maxRecDepth 20000 in
theorem gX11_gradeUnder_X10_become : GoodIn wsX11_gradeUnder (wsV RX11 185 RX10 yX10_become wsX10_become) := goodIn_app (goodIn_of _ (by decide +kernel)) ggX11_gradeUnder_X10_become
set_option maxRecDepth 20000 in
theorem ggX11_gradeUnder_X1_gradeHad : GoodIn wsX11_gradeUnder wsX1_gradeHad := goodIn_r _ [38, 39, 40, 41, 42, 43, 9, 44, 11, 45, 46, 47, 48, 12, 33, 49, 50, 51, 37, 52, 53, 54, 55, 56, 57, 26, 58, 59, 60, 61, 62, 63, 64, 65, 66, 67, 68, 69, 70, 71, 72, 73, 74, 75, 76, 77, 78, 79, 80, 81, 82, 83, 84, 85, 86, 87, 88, 89, 90, 91, 92, 93, 94, 95, 96, 97, 98, 99, 100, 101, 102, 103, 104, 105, 106, 107, 108, 109, 110, 111, 112, 113, 114, 115, 116, 117, 118, 119, 120, 121, 122, 123, 124, 125, 126, 127, 128, 129, 130, 131, 132, 133, 134, 135, 136, 137, 138, 139, 140, 141, 142, 143, 144, 145, 146, 147, 148, 149, 150, 151, 152, 153, 154, 155, 156, 157, 158, 159, 160, 161, 162, 163, 164, 165, 166, 167, 168, 169, 170, 171, 172, 173, 174, 175, 176, 177, 178, 179, 180, 181, 182, 183, 184, 185, 186, 187, 188, 189, 190, 198, 199, 200, 201, 202, 203, 204, 205, 206, 207, 208, 209, 210, 211, 212, 213, 214, 215, 216, 245, 246, 247, 248, 249, 250, 251, 217, 218, 219, 220, 221, 222, 223, 224, 225, 226, 227, 228, 229, 230, 231, 232, 233, 234, 235, 236, 237, 238, 239, 240, 241, 242, 243, 244, 252, 253, 254, 255, 256, 257, 258, 259, 260, 261, 262] (by decide +kernel) (by decide +kernel)
set_option maxRecDepth 20000 in
theorem gX11_gradeUnder_X1_gradeHad : GoodIn wsX11_gradeUnder (wsV RX11 130 RX1 yX1_gradeHad wsX1_gradeHad) := goodIn_app (goodIn_of _ (by decide +kernel)) ggX11_gradeUnder_X1_gradeHad
theorem dX11_gradeUnder_0 : decode cX11_gradeUnder 0 = .ok (.aload_n 0, 1) := by decide +kernel
theorem dX11_gradeUnder_1 : decode cX11_gradeUnder 1 = .ok (.getfield 18, 3) := by decide +kernel
theorem dX11_gradeUnder_4 : decode cX11_gradeUnder 4 = .ok (.aload_n 0, 1) := by decide +kernel
theorem dX11_gradeUnder_5 : decode cX11_gradeUnder 5 = .ok (.getfield 12, 3) := by decide +kernel
theorem dX11_gradeUnder_8 : decode cX11_gradeUnder 8 = .ok (.invokevirtual 185, 3) := by decide +kernel
theorem dX11_gradeUnder_11 : decode cX11_gradeUnder 11 = .ok (.aload_n 0, 1) := by decide +kernel
theorem dX11_gradeUnder_12 : decode cX11_gradeUnder 12 = .ok (.getfield 18, 3) := by decide +kernel
theorem dX11_gradeUnder_15 : decode cX11_gradeUnder 15 = .ok (.getfield 114, 3) := by decide +kernel
theorem dX11_gradeUnder_18 : decode cX11_gradeUnder 18 = .ok (.iload_n 1, 1) := by decide +kernel
theorem dX11_gradeUnder_19 : decode cX11_gradeUnder 19 = .ok (.aload_n 2, 1) := by decide +kernel
theorem dX11_gradeUnder_20 : decode cX11_gradeUnder 20 = .ok (.getfield 178, 3) := by decide +kernel
theorem dX11_gradeUnder_23 : decode cX11_gradeUnder 23 = .ok (.iastore, 1) := by decide +kernel
theorem dX11_gradeUnder_24 : decode cX11_gradeUnder 24 = .ok (.aload_n 0, 1) := by decide +kernel
theorem dX11_gradeUnder_25 : decode cX11_gradeUnder 25 = .ok (.getfield 27, 3) := by decide +kernel
theorem dX11_gradeUnder_28 : decode cX11_gradeUnder 28 = .ok (.aload_n 0, 1) := by decide +kernel
theorem dX11_gradeUnder_29 : decode cX11_gradeUnder 29 = .ok (.getfield 18, 3) := by decide +kernel
theorem dX11_gradeUnder_32 : decode cX11_gradeUnder 32 = .ok (.iload_n 1, 1) := by decide +kernel
theorem dX11_gradeUnder_33 : decode cX11_gradeUnder 33 = .ok (.invokevirtual 130, 3) := by decide +kernel
theorem dX11_gradeUnder_36 : decode cX11_gradeUnder 36 = .ok (.ireturn, 1) := by decide +kernel
set_option maxRecDepth 20000 in
theorem ggX11_bothGain_X10_hasWorker : GoodIn wsX11_bothGain wsX10_hasWorker := goodIn_r _ [9, 10, 180, 181, 182, 183, 184, 185, 186, 187, 188, 189, 190, 191, 192, 193, 194, 195, 196, 197, 198] (by decide +kernel) (by decide +kernel)
set_option maxRecDepth 20000 in
theorem gX11_bothGain_X10_hasWorker : GoodIn wsX11_bothGain (wsV RX11 122 RX10 yX10_hasWorker wsX10_hasWorker) := goodIn_app (goodIn_of _ (by decide +kernel)) ggX11_bothGain_X10_hasWorker
set_option maxRecDepth 20000 in
theorem ggX11_bothGain_X10_exchange : GoodIn wsX11_bothGain wsX10_exchange := goodIn_r _ [14, 15, 16, 180, 181, 182, 183, 184, 185, 186, 187, 188, 189, 190, 191, 192, 193, 194, 195, 196, 197, 198] (by decide +kernel) (by decide +kernel)
set_option maxRecDepth 20000 in
theorem gX11_bothGain_X10_exchange : GoodIn wsX11_bothGain (wsV RX11 251 RX10 yX10_exchange wsX10_exchange) := goodIn_app (goodIn_of _ (by decide +kernel)) ggX11_bothGain_X10_exchange
set_option maxRecDepth 20000 in
theorem ggX11_bothGain_X1_gradeHad : GoodIn wsX11_bothGain wsX1_gradeHad := goodIn_r _ [21, 22, 23, 24, 6, 7, 8, 9, 10, 25, 26, 27, 28, 29, 30, 31, 32, 33, 20, 34, 35, 36, 37, 38, 39, 15, 40, 41, 42, 43, 44, 45, 46, 47, 48, 49, 50, 51, 52, 53, 54, 55, 56, 57, 58, 59, 60, 61, 62, 63, 64, 65, 66, 67, 68, 69, 70, 71, 72, 73, 74, 75, 76, 77, 78, 79, 80, 81, 82, 83, 84, 85, 86, 87, 88, 89, 90, 91, 92, 93, 94, 95, 96, 97, 98, 99, 100, 101, 102, 103, 104, 105, 106, 107, 108, 109, 110, 111, 112, 113, 114, 115, 116, 117, 118, 119, 120, 121, 122, 123, 124, 125, 126, 127, 128, 129, 130, 131, 132, 133, 134, 135, 136, 137, 138, 139, 140, 141, 142, 143, 144, 145, 146, 147, 148, 149, 150, 151, 152, 153, 154, 155, 156, 157, 158, 159, 160, 161, 162, 163, 164, 165, 166, 167, 168, 169, 170, 171, 172, 180, 181, 182, 183, 184, 185, 186, 187, 188, 189, 190, 191, 192, 193, 194, 195, 196, 197, 198, 199, 200, 201, 202, 203, 204, 205, 206, 207, 208, 209, 210, 211, 212, 213, 214, 215, 216, 217, 218, 219, 220, 221, 222, 223, 224, 225, 226, 227, 228, 229, 230, 231, 232, 233, 234, 235, 236, 237, 238, 239, 240, 241, 242, 243, 244] (by decide +kernel) (by decide +kernel)
set_option maxRecDepth 20000 in
theorem gX11_bothGain_X1_gradeHad : GoodIn wsX11_bothGain (wsV RX11 130 RX1 yX1_gradeHad wsX1_gradeHad) := goodIn_app (goodIn_of _ (by decide +kernel)) ggX11_bothGain_X1_gradeHad
theorem dX11_bothGain_0 : decode cX11_bothGain 0 = .ok (.aload_n 0, 1) := by decide +kernel
theorem dX11_bothGain_1 : decode cX11_bothGain 1 = .ok (.getfield 18, 3) := by decide +kernel
theorem dX11_bothGain_4 : decode cX11_bothGain 4 = .ok (.iload_n 1, 1) := by decide +kernel
theorem dX11_bothGain_5 : decode cX11_bothGain 5 = .ok (.invokevirtual 122, 3) := by decide +kernel
theorem dX11_bothGain_8 : decode cX11_bothGain 8 = .ok (.ifCond .eq 14, 3) := by decide +kernel
theorem dX11_bothGain_11 : decode cX11_bothGain 11 = .ok (.aload_n 0, 1) := by decide +kernel
theorem dX11_bothGain_12 : decode cX11_bothGain 12 = .ok (.getfield 18, 3) := by decide +kernel
theorem dX11_bothGain_15 : decode cX11_bothGain 15 = .ok (.iload_n 2, 1) := by decide +kernel
theorem dX11_bothGain_16 : decode cX11_bothGain 16 = .ok (.invokevirtual 122, 3) := by decide +kernel
theorem dX11_bothGain_19 : decode cX11_bothGain 19 = .ok (.ifCond .ne 5, 3) := by decide +kernel
theorem dX11_bothGain_22 : decode cX11_bothGain 22 = .ok (.iconst 0, 1) := by decide +kernel
theorem dX11_bothGain_23 : decode cX11_bothGain 23 = .ok (.ireturn, 1) := by decide +kernel
theorem dX11_bothGain_24 : decode cX11_bothGain 24 = .ok (.aload_n 0, 1) := by decide +kernel
theorem dX11_bothGain_25 : decode cX11_bothGain 25 = .ok (.getfield 18, 3) := by decide +kernel
theorem dX11_bothGain_28 : decode cX11_bothGain 28 = .ok (.getfield 114, 3) := by decide +kernel
theorem dX11_bothGain_31 : decode cX11_bothGain 31 = .ok (.iload_n 1, 1) := by decide +kernel
theorem dX11_bothGain_32 : decode cX11_bothGain 32 = .ok (.iaload, 1) := by decide +kernel
theorem dX11_bothGain_33 : decode cX11_bothGain 33 = .ok (.aload_n 0, 1) := by decide +kernel
theorem dX11_bothGain_34 : decode cX11_bothGain 34 = .ok (.getfield 18, 3) := by decide +kernel
theorem dX11_bothGain_37 : decode cX11_bothGain 37 = .ok (.getfield 114, 3) := by decide +kernel
theorem dX11_bothGain_40 : decode cX11_bothGain 40 = .ok (.iload_n 2, 1) := by decide +kernel
theorem dX11_bothGain_41 : decode cX11_bothGain 41 = .ok (.iaload, 1) := by decide +kernel
theorem dX11_bothGain_42 : decode cX11_bothGain 42 = .ok (.if_icmp .ne 5, 3) := by decide +kernel
theorem dX11_bothGain_45 : decode cX11_bothGain 45 = .ok (.iconst 0, 1) := by decide +kernel
theorem dX11_bothGain_46 : decode cX11_bothGain 46 = .ok (.ireturn, 1) := by decide +kernel
theorem dX11_bothGain_47 : decode cX11_bothGain 47 = .ok (.aload_n 0, 1) := by decide +kernel
theorem dX11_bothGain_48 : decode cX11_bothGain 48 = .ok (.getfield 18, 3) := by decide +kernel
theorem dX11_bothGain_51 : decode cX11_bothGain 51 = .ok (.iload_n 1, 1) := by decide +kernel
theorem dX11_bothGain_52 : decode cX11_bothGain 52 = .ok (.iload_n 2, 1) := by decide +kernel
theorem dX11_bothGain_53 : decode cX11_bothGain 53 = .ok (.invokevirtual 251, 3) := by decide +kernel
theorem dX11_bothGain_56 : decode cX11_bothGain 56 = .ok (.aload_n 0, 1) := by decide +kernel
theorem dX11_bothGain_57 : decode cX11_bothGain 57 = .ok (.getfield 27, 3) := by decide +kernel
theorem dX11_bothGain_60 : decode cX11_bothGain 60 = .ok (.aload_n 0, 1) := by decide +kernel
theorem dX11_bothGain_61 : decode cX11_bothGain 61 = .ok (.getfield 18, 3) := by decide +kernel
theorem dX11_bothGain_64 : decode cX11_bothGain 64 = .ok (.iload_n 1, 1) := by decide +kernel
theorem dX11_bothGain_65 : decode cX11_bothGain 65 = .ok (.invokevirtual 130, 3) := by decide +kernel
theorem dX11_bothGain_68 : decode cX11_bothGain 68 = .ok (.aload_n 0, 1) := by decide +kernel
theorem dX11_bothGain_69 : decode cX11_bothGain 69 = .ok (.getfield 38, 3) := by decide +kernel
theorem dX11_bothGain_72 : decode cX11_bothGain 72 = .ok (.iload_n 1, 1) := by decide +kernel
theorem dX11_bothGain_73 : decode cX11_bothGain 73 = .ok (.iaload, 1) := by decide +kernel
theorem dX11_bothGain_74 : decode cX11_bothGain 74 = .ok (.if_icmp .le 28, 3) := by decide +kernel
theorem dX11_bothGain_77 : decode cX11_bothGain 77 = .ok (.aload_n 0, 1) := by decide +kernel
theorem dX11_bothGain_78 : decode cX11_bothGain 78 = .ok (.getfield 27, 3) := by decide +kernel
theorem dX11_bothGain_81 : decode cX11_bothGain 81 = .ok (.aload_n 0, 1) := by decide +kernel
theorem dX11_bothGain_82 : decode cX11_bothGain 82 = .ok (.getfield 18, 3) := by decide +kernel
theorem dX11_bothGain_85 : decode cX11_bothGain 85 = .ok (.iload_n 2, 1) := by decide +kernel
theorem dX11_bothGain_86 : decode cX11_bothGain 86 = .ok (.invokevirtual 130, 3) := by decide +kernel
theorem dX11_bothGain_89 : decode cX11_bothGain 89 = .ok (.aload_n 0, 1) := by decide +kernel
theorem dX11_bothGain_90 : decode cX11_bothGain 90 = .ok (.getfield 38, 3) := by decide +kernel
theorem dX11_bothGain_93 : decode cX11_bothGain 93 = .ok (.iload_n 2, 1) := by decide +kernel
theorem dX11_bothGain_94 : decode cX11_bothGain 94 = .ok (.iaload, 1) := by decide +kernel
theorem dX11_bothGain_95 : decode cX11_bothGain 95 = .ok (.if_icmp .le 7, 3) := by decide +kernel
theorem dX11_bothGain_98 : decode cX11_bothGain 98 = .ok (.iconst 1, 1) := by decide +kernel
theorem dX11_bothGain_99 : decode cX11_bothGain 99 = .ok (.goto 4, 3) := by decide +kernel
theorem dX11_bothGain_102 : decode cX11_bothGain 102 = .ok (.iconst 0, 1) := by decide +kernel
theorem dX11_bothGain_103 : decode cX11_bothGain 103 = .ok (.istore_n 3, 1) := by decide +kernel
theorem dX11_bothGain_104 : decode cX11_bothGain 104 = .ok (.aload_n 0, 1) := by decide +kernel
theorem dX11_bothGain_105 : decode cX11_bothGain 105 = .ok (.getfield 18, 3) := by decide +kernel
theorem dX11_bothGain_108 : decode cX11_bothGain 108 = .ok (.iload_n 1, 1) := by decide +kernel
theorem dX11_bothGain_109 : decode cX11_bothGain 109 = .ok (.iload_n 2, 1) := by decide +kernel
theorem dX11_bothGain_110 : decode cX11_bothGain 110 = .ok (.invokevirtual 251, 3) := by decide +kernel
theorem dX11_bothGain_113 : decode cX11_bothGain 113 = .ok (.iload_n 3, 1) := by decide +kernel
theorem dX11_bothGain_114 : decode cX11_bothGain 114 = .ok (.ireturn, 1) := by decide +kernel
set_option maxRecDepth 20000 in
theorem ggX11_goYear_X1_gradeDue : GoodIn wsX11_goYear wsX1_gradeDue := goodIn_r _ [16, 17, 18, 19, 20, 21, 22, 23, 24, 25, 15, 26, 27, 28, 29, 30, 31, 32, 33, 34, 8, 9, 10, 35, 36, 37, 38, 39, 40, 41, 42, 43, 44, 45, 46, 47, 48, 49, 50, 51, 52, 53, 54, 55, 56, 57, 58, 59, 60, 61, 62, 63, 64, 65, 66, 67, 68, 69, 202, 203, 204, 205, 206, 207, 208, 209, 210, 211, 212, 213, 214, 215, 216, 217, 218, 219, 220, 221, 222, 223, 224, 225, 226, 227, 228, 229, 230, 231, 232, 233, 234, 235, 236, 237, 238, 239, 240, 241, 242, 243, 244, 245, 246, 247, 248, 249, 250, 251, 252, 253, 254, 255, 256, 257, 258, 259, 260, 261, 262, 263, 264, 265, 266] (by decide +kernel) (by decide +kernel)
set_option maxRecDepth 20000 in
theorem gX11_goYear_X1_gradeDue : GoodIn wsX11_goYear (wsV RX11 134 RX1 yX1_gradeDue wsX1_gradeDue) := goodIn_app (goodIn_of _ (by decide +kernel)) ggX11_goYear_X1_gradeDue
set_option maxRecDepth 20000 in
theorem ggX11_goYear_X1_gradeAll : GoodIn wsX11_goYear wsX1_gradeAll := goodIn_r _ [73, 74, 75, 76, 77, 78, 79, 80, 81, 82, 83, 84, 15, 85, 86, 87, 88, 89, 90, 91, 92, 23, 24, 25, 26, 18, 20, 93, 94, 95, 96, 19, 97, 98, 99, 100, 101, 102, 21, 37, 103, 104, 31, 105, 106, 107, 108, 109, 110, 111, 112, 113, 114, 115, 116, 117, 118, 48, 119, 120, 121, 122, 123, 124, 125, 126, 127, 128, 129, 130, 131, 132, 133, 134, 135, 136, 137, 138, 139, 140, 141, 142, 143, 144, 145, 146, 147, 148, 149, 150, 151, 152, 153, 154, 155, 156, 9, 157, 158, 159, 160, 161, 162, 163, 164, 165, 166, 167, 168, 169, 170, 171, 172, 173, 174, 175, 176, 27, 28, 29, 30, 32, 33, 34, 8, 10, 35, 36, 38, 39, 40, 41, 42, 43, 44, 45, 46, 47, 49, 50, 51, 52, 53, 54, 55, 56, 57, 58, 59, 60, 61, 62, 63, 64, 65, 66, 67, 68, 69, 202, 203, 204, 205, 206, 207, 208, 209, 210, 211, 212, 213, 214, 215, 216, 217, 218, 219, 220, 239, 240, 241, 242, 243, 244, 245, 246, 247, 248, 249, 250, 251, 252, 253, 254, 255, 256, 257, 258, 259, 260, 261, 262, 263, 264, 265, 266, 221, 222, 223, 224, 225, 226, 227, 228, 229, 230, 231, 232, 233, 234, 235, 236, 237, 238] (by decide +kernel) (by decide +kernel)
set_option maxRecDepth 20000 in
theorem gX11_goYear_X1_gradeAll : GoodIn wsX11_goYear (wsV RX11 171 RX1 yX1_gradeAll wsX1_gradeAll) := goodIn_app (goodIn_of _ (by decide +kernel)) ggX11_goYear_X1_gradeAll
set_option maxRecDepth 20000 in
theorem ggX11_goYear_X11_outByLot : GoodIn wsX11_goYear wsX11_outByLot := goodIn_r _ [180, 2, 11, 181, 182, 183, 78, 184, 185, 186, 187, 188, 189, 190, 106, 107, 108, 91, 202, 203, 204, 205, 206, 207, 208, 209, 210, 211, 212, 213, 214, 215, 216, 217, 218, 219, 220] (by decide +kernel) (by decide +kernel)
set_option maxRecDepth 20000 in
theorem gX11_goYear_X11_outByLot : GoodIn wsX11_goYear (va_wsS RX11 260 yX11_outByLot wsX11_outByLot) := goodIn_app (goodIn_of _ (by decide +kernel)) ggX11_goYear_X11_outByLot
set_option maxRecDepth 20000 in
theorem ggX11_goYear_X11_outByGrade : GoodIn wsX11_goYear wsX11_outByGrade := goodIn_r _ [194, 2, 1, 3, 181, 182, 183, 78, 184, 185, 186, 187, 188, 189, 190, 106, 107, 108, 91, 202, 203, 204, 205, 206, 207, 208, 209, 210, 211, 212, 213, 214, 215, 216, 217, 218, 219, 220, 195, 196, 197, 198, 199, 200, 201, 221, 222, 223, 224, 225, 226, 227] (by decide +kernel) (by decide +kernel)
set_option maxRecDepth 20000 in
theorem gX11_goYear_X11_outByGrade : GoodIn wsX11_goYear (wsV RX11 264 RX11 yX11_outByGrade wsX11_outByGrade) := goodIn_app (goodIn_of _ (by decide +kernel)) ggX11_goYear_X11_outByGrade
theorem dX11_goYear_0 : decode cX11_goYear 0 = .ok (.iload_n 2, 1) := by decide +kernel
theorem dX11_goYear_1 : decode cX11_goYear 1 = .ok (.iconst 3, 1) := by decide +kernel
theorem dX11_goYear_2 : decode cX11_goYear 2 = .ok (.if_icmp .ne 14, 3) := by decide +kernel
theorem dX11_goYear_5 : decode cX11_goYear 5 = .ok (.aload_n 0, 1) := by decide +kernel
theorem dX11_goYear_6 : decode cX11_goYear 6 = .ok (.getfield 27, 3) := by decide +kernel
theorem dX11_goYear_9 : decode cX11_goYear 9 = .ok (.aload_n 1, 1) := by decide +kernel
theorem dX11_goYear_10 : decode cX11_goYear 10 = .ok (.invokevirtual 134, 3) := by decide +kernel
theorem dX11_goYear_13 : decode cX11_goYear 13 = .ok (.goto 11, 3) := by decide +kernel
theorem dX11_goYear_16 : decode cX11_goYear 16 = .ok (.aload_n 0, 1) := by decide +kernel
theorem dX11_goYear_17 : decode cX11_goYear 17 = .ok (.getfield 27, 3) := by decide +kernel
theorem dX11_goYear_20 : decode cX11_goYear 20 = .ok (.aload_n 1, 1) := by decide +kernel
theorem dX11_goYear_21 : decode cX11_goYear 21 = .ok (.invokevirtual 171, 3) := by decide +kernel
theorem dX11_goYear_24 : decode cX11_goYear 24 = .ok (.iconst 0, 1) := by decide +kernel
theorem dX11_goYear_25 : decode cX11_goYear 25 = .ok (.istore_n 3, 1) := by decide +kernel
theorem dX11_goYear_26 : decode cX11_goYear 26 = .ok (.iconst 0, 1) := by decide +kernel
theorem dX11_goYear_27 : decode cX11_goYear 27 = .ok (.istore 4, 2) := by decide +kernel
theorem dX11_goYear_29 : decode cX11_goYear 29 = .ok (.iload 4, 2) := by decide +kernel
theorem dX11_goYear_31 : decode cX11_goYear 31 = .ok (.aload_n 1, 1) := by decide +kernel
theorem dX11_goYear_32 : decode cX11_goYear 32 = .ok (.getfield 105, 3) := by decide +kernel
theorem dX11_goYear_35 : decode cX11_goYear 35 = .ok (.if_icmp .ge 61, 3) := by decide +kernel
theorem dX11_goYear_38 : decode cX11_goYear 38 = .ok (.aload_n 0, 1) := by decide +kernel
theorem dX11_goYear_39 : decode cX11_goYear 39 = .ok (.getfield 27, 3) := by decide +kernel
theorem dX11_goYear_42 : decode cX11_goYear 42 = .ok (.getfield 138, 3) := by decide +kernel
theorem dX11_goYear_45 : decode cX11_goYear 45 = .ok (.iload 4, 2) := by decide +kernel
theorem dX11_goYear_47 : decode cX11_goYear 47 = .ok (.iaload, 1) := by decide +kernel
theorem dX11_goYear_48 : decode cX11_goYear 48 = .ok (.istore 5, 2) := by decide +kernel
theorem dX11_goYear_50 : decode cX11_goYear 50 = .ok (.aload_n 1, 1) := by decide +kernel
theorem dX11_goYear_51 : decode cX11_goYear 51 = .ok (.getfield 120, 3) := by decide +kernel
theorem dX11_goYear_54 : decode cX11_goYear 54 = .ok (.iload 4, 2) := by decide +kernel
theorem dX11_goYear_56 : decode cX11_goYear 56 = .ok (.sipush 9999, 3) := by decide +kernel
theorem dX11_goYear_59 : decode cX11_goYear 59 = .ok (.aload_n 1, 1) := by decide +kernel
theorem dX11_goYear_60 : decode cX11_goYear 60 = .ok (.getfield 120, 3) := by decide +kernel
theorem dX11_goYear_63 : decode cX11_goYear 63 = .ok (.iload 4, 2) := by decide +kernel
theorem dX11_goYear_65 : decode cX11_goYear 65 = .ok (.iaload, 1) := by decide +kernel
theorem dX11_goYear_66 : decode cX11_goYear 66 = .ok (.aload_n 1, 1) := by decide +kernel
theorem dX11_goYear_67 : decode cX11_goYear 67 = .ok (.getfield 62, 3) := by decide +kernel
theorem dX11_goYear_70 : decode cX11_goYear 70 = .ok (.getfield 72, 3) := by decide +kernel
theorem dX11_goYear_73 : decode cX11_goYear 73 = .ok (.iload 5, 2) := by decide +kernel
theorem dX11_goYear_75 : decode cX11_goYear 75 = .ok (.imul, 1) := by decide +kernel
theorem dX11_goYear_76 : decode cX11_goYear 76 = .ok (.iadd, 1) := by decide +kernel
theorem dX11_goYear_77 : decode cX11_goYear 77 = .ok (.invokestatic 255, 3) := by decide +kernel
theorem dX11_goYear_80 : decode cX11_goYear 80 = .ok (.iastore, 1) := by decide +kernel
theorem dX11_goYear_81 : decode cX11_goYear 81 = .ok (.iload 5, 2) := by decide +kernel
theorem dX11_goYear_83 : decode cX11_goYear 83 = .ok (.iconst 1, 1) := by decide +kernel
theorem dX11_goYear_84 : decode cX11_goYear 84 = .ok (.if_icmp .ne 6, 3) := by decide +kernel
theorem dX11_goYear_87 : decode cX11_goYear 87 = .ok (.iinc 3 1, 3) := by decide +kernel
theorem dX11_goYear_90 : decode cX11_goYear 90 = .ok (.iinc 4 1, 3) := by decide +kernel
theorem dX11_goYear_93 : decode cX11_goYear 93 = .ok (.goto (-64), 3) := by decide +kernel
theorem dX11_goYear_96 : decode cX11_goYear 96 = .ok (.iload_n 2, 1) := by decide +kernel
theorem dX11_goYear_97 : decode cX11_goYear 97 = .ok (.iconst 1, 1) := by decide +kernel
theorem dX11_goYear_98 : decode cX11_goYear 98 = .ok (.if_icmp .ne 8, 3) := by decide +kernel
theorem dX11_goYear_101 : decode cX11_goYear 101 = .ok (.iconst 0, 1) := by decide +kernel
theorem dX11_goYear_102 : decode cX11_goYear 102 = .ok (.istore_n 3, 1) := by decide +kernel
theorem dX11_goYear_103 : decode cX11_goYear 103 = .ok (.goto 21, 3) := by decide +kernel
theorem dX11_goYear_106 : decode cX11_goYear 106 = .ok (.iload_n 2, 1) := by decide +kernel
theorem dX11_goYear_107 : decode cX11_goYear 107 = .ok (.iconst 2, 1) := by decide +kernel
theorem dX11_goYear_108 : decode cX11_goYear 108 = .ok (.if_icmp .ne 11, 3) := by decide +kernel
theorem dX11_goYear_111 : decode cX11_goYear 111 = .ok (.aload_n 1, 1) := by decide +kernel
theorem dX11_goYear_112 : decode cX11_goYear 112 = .ok (.iload_n 3, 1) := by decide +kernel
theorem dX11_goYear_113 : decode cX11_goYear 113 = .ok (.invokestatic 260, 3) := by decide +kernel
theorem dX11_goYear_116 : decode cX11_goYear 116 = .ok (.goto 8, 3) := by decide +kernel
theorem dX11_goYear_119 : decode cX11_goYear 119 = .ok (.aload_n 0, 1) := by decide +kernel
theorem dX11_goYear_120 : decode cX11_goYear 120 = .ok (.aload_n 1, 1) := by decide +kernel
theorem dX11_goYear_121 : decode cX11_goYear 121 = .ok (.invokevirtual 264, 3) := by decide +kernel
theorem dX11_goYear_124 : decode cX11_goYear 124 = .ok (.aload_n 1, 1) := by decide +kernel
theorem dX11_goYear_125 : decode cX11_goYear 125 = .ok (.dup, 1) := by decide +kernel
theorem dX11_goYear_126 : decode cX11_goYear 126 = .ok (.getfield 75, 3) := by decide +kernel
theorem dX11_goYear_129 : decode cX11_goYear 129 = .ok (.iconst 1, 1) := by decide +kernel
theorem dX11_goYear_130 : decode cX11_goYear 130 = .ok (.iadd, 1) := by decide +kernel
theorem dX11_goYear_131 : decode cX11_goYear 131 = .ok (.putfield 75, 3) := by decide +kernel
theorem dX11_goYear_134 : decode cX11_goYear 134 = .ok (.iload_n 3, 1) := by decide +kernel
theorem dX11_goYear_135 : decode cX11_goYear 135 = .ok (.ireturn, 1) := by decide +kernel
set_option maxRecDepth 20000 in
theorem ggX11_outByGrade_X10_replace : GoodIn wsX11_outByGrade wsX10_replace := goodIn_r _ [8, 9, 10, 11, 12, 13, 14, 15, 16, 7, 17, 18, 19, 20, 21, 22, 23, 24, 25, 26, 27, 28, 29, 30, 31, 32, 33, 34, 35, 36, 37] (by decide +kernel) (by decide +kernel)
set_option maxRecDepth 20000 in
theorem gX11_outByGrade_X10_replace : GoodIn wsX11_outByGrade (wsV RX11 267 RX10 yX10_replace wsX10_replace) := goodIn_app (goodIn_of _ (by decide +kernel)) ggX11_outByGrade_X10_replace
theorem dX11_outByGrade_0 : decode cX11_outByGrade 0 = .ok (.iconst 0, 1) := by decide +kernel
theorem dX11_outByGrade_1 : decode cX11_outByGrade 1 = .ok (.istore_n 2, 1) := by decide +kernel
theorem dX11_outByGrade_2 : decode cX11_outByGrade 2 = .ok (.iload_n 2, 1) := by decide +kernel
theorem dX11_outByGrade_3 : decode cX11_outByGrade 3 = .ok (.aload_n 1, 1) := by decide +kernel
theorem dX11_outByGrade_4 : decode cX11_outByGrade 4 = .ok (.getfield 105, 3) := by decide +kernel
theorem dX11_outByGrade_7 : decode cX11_outByGrade 7 = .ok (.if_icmp .ge 27, 3) := by decide +kernel
theorem dX11_outByGrade_10 : decode cX11_outByGrade 10 = .ok (.aload_n 0, 1) := by decide +kernel
theorem dX11_outByGrade_11 : decode cX11_outByGrade 11 = .ok (.getfield 27, 3) := by decide +kernel
theorem dX11_outByGrade_14 : decode cX11_outByGrade 14 = .ok (.getfield 138, 3) := by decide +kernel
theorem dX11_outByGrade_17 : decode cX11_outByGrade 17 = .ok (.iload_n 2, 1) := by decide +kernel
theorem dX11_outByGrade_18 : decode cX11_outByGrade 18 = .ok (.iaload, 1) := by decide +kernel
theorem dX11_outByGrade_19 : decode cX11_outByGrade 19 = .ok (.iconst 1, 1) := by decide +kernel
theorem dX11_outByGrade_20 : decode cX11_outByGrade 20 = .ok (.if_icmp .ne 8, 3) := by decide +kernel
theorem dX11_outByGrade_23 : decode cX11_outByGrade 23 = .ok (.aload_n 1, 1) := by decide +kernel
theorem dX11_outByGrade_24 : decode cX11_outByGrade 24 = .ok (.iload_n 2, 1) := by decide +kernel
theorem dX11_outByGrade_25 : decode cX11_outByGrade 25 = .ok (.invokevirtual 267, 3) := by decide +kernel
theorem dX11_outByGrade_28 : decode cX11_outByGrade 28 = .ok (.iinc 2 1, 3) := by decide +kernel
theorem dX11_outByGrade_31 : decode cX11_outByGrade 31 = .ok (.goto (-29), 3) := by decide +kernel
theorem dX11_outByGrade_34 : decode cX11_outByGrade 34 = .ok (.return_, 1) := by decide +kernel
set_option maxRecDepth 20000 in
theorem ggX11_outByLot_X10_replace : GoodIn wsX11_outByLot wsX10_replace := goodIn_r _ [7, 8, 9, 10, 11, 12, 13, 14, 15, 6, 16, 17, 18, 19, 20, 21, 22, 23, 24, 25, 26, 27, 28, 29, 30, 31, 32, 33, 34, 35, 36] (by decide +kernel) (by decide +kernel)
set_option maxRecDepth 20000 in
theorem gX11_outByLot_X10_replace : GoodIn wsX11_outByLot (wsV RX11 267 RX10 yX10_replace wsX10_replace) := goodIn_app (goodIn_of _ (by decide +kernel)) ggX11_outByLot_X10_replace
theorem dX11_outByLot_0 : decode cX11_outByLot 0 = .ok (.aload_n 0, 1) := by decide +kernel
theorem dX11_outByLot_1 : decode cX11_outByLot 1 = .ok (.getfield 105, 3) := by decide +kernel
theorem dX11_outByLot_4 : decode cX11_outByLot 4 = .ok (.ifCond .ne 4, 3) := by decide +kernel
theorem dX11_outByLot_7 : decode cX11_outByLot 7 = .ok (.return_, 1) := by decide +kernel
theorem dX11_outByLot_8 : decode cX11_outByLot 8 = .ok (.iconst 0, 1) := by decide +kernel
theorem dX11_outByLot_9 : decode cX11_outByLot 9 = .ok (.istore_n 2, 1) := by decide +kernel
theorem dX11_outByLot_10 : decode cX11_outByLot 10 = .ok (.iload_n 2, 1) := by decide +kernel
theorem dX11_outByLot_11 : decode cX11_outByLot 11 = .ok (.iload_n 1, 1) := by decide +kernel
theorem dX11_outByLot_12 : decode cX11_outByLot 12 = .ok (.if_icmp .ge 27, 3) := by decide +kernel
theorem dX11_outByLot_15 : decode cX11_outByLot 15 = .ok (.aload_n 0, 1) := by decide +kernel
theorem dX11_outByLot_16 : decode cX11_outByLot 16 = .ok (.aload_n 0, 1) := by decide +kernel
theorem dX11_outByLot_17 : decode cX11_outByLot 17 = .ok (.getfield 75, 3) := by decide +kernel
theorem dX11_outByLot_20 : decode cX11_outByLot 20 = .ok (.bipush 7, 2) := by decide +kernel
theorem dX11_outByLot_22 : decode cX11_outByLot 22 = .ok (.imul, 1) := by decide +kernel
theorem dX11_outByLot_23 : decode cX11_outByLot 23 = .ok (.iload_n 2, 1) := by decide +kernel
theorem dX11_outByLot_24 : decode cX11_outByLot 24 = .ok (.iadd, 1) := by decide +kernel
theorem dX11_outByLot_25 : decode cX11_outByLot 25 = .ok (.aload_n 0, 1) := by decide +kernel
theorem dX11_outByLot_26 : decode cX11_outByLot 26 = .ok (.getfield 105, 3) := by decide +kernel
theorem dX11_outByLot_29 : decode cX11_outByLot 29 = .ok (.irem, 1) := by decide +kernel
theorem dX11_outByLot_30 : decode cX11_outByLot 30 = .ok (.invokevirtual 267, 3) := by decide +kernel
theorem dX11_outByLot_33 : decode cX11_outByLot 33 = .ok (.iinc 2 1, 3) := by decide +kernel
theorem dX11_outByLot_36 : decode cX11_outByLot 36 = .ok (.goto (-26), 3) := by decide +kernel
theorem dX11_outByLot_39 : decode cX11_outByLot 39 = .ok (.return_, 1) := by decide +kernel
theorem dX11_choices_0 : decode cX11_choices 0 = .ok (.iload_n 1, 1) := by decide +kernel
theorem dX11_choices_1 : decode cX11_choices 1 = .ok (.ifCond .lt 8, 3) := by decide +kernel
theorem dX11_choices_4 : decode cX11_choices 4 = .ok (.iload_n 1, 1) := by decide +kernel
theorem dX11_choices_5 : decode cX11_choices 5 = .ok (.iload_n 0, 1) := by decide +kernel
theorem dX11_choices_6 : decode cX11_choices 6 = .ok (.if_icmp .le 5, 3) := by decide +kernel
theorem dX11_choices_9 : decode cX11_choices 9 = .ok (.lconst 0, 1) := by decide +kernel
theorem dX11_choices_10 : decode cX11_choices 10 = .ok (.lreturn, 1) := by decide +kernel
theorem dX11_choices_11 : decode cX11_choices 11 = .ok (.lconst 1, 1) := by decide +kernel
theorem dX11_choices_12 : decode cX11_choices 12 = .ok (.lstore_n 2, 1) := by decide +kernel
theorem dX11_choices_13 : decode cX11_choices 13 = .ok (.iconst 0, 1) := by decide +kernel
theorem dX11_choices_14 : decode cX11_choices 14 = .ok (.istore 4, 2) := by decide +kernel
theorem dX11_choices_16 : decode cX11_choices 16 = .ok (.iload 4, 2) := by decide +kernel
theorem dX11_choices_18 : decode cX11_choices 18 = .ok (.iload_n 1, 1) := by decide +kernel
theorem dX11_choices_19 : decode cX11_choices 19 = .ok (.if_icmp .ge 23, 3) := by decide +kernel
theorem dX11_choices_22 : decode cX11_choices 22 = .ok (.lload_n 2, 1) := by decide +kernel
theorem dX11_choices_23 : decode cX11_choices 23 = .ok (.iload_n 0, 1) := by decide +kernel
theorem dX11_choices_24 : decode cX11_choices 24 = .ok (.iload 4, 2) := by decide +kernel
theorem dX11_choices_26 : decode cX11_choices 26 = .ok (.isub, 1) := by decide +kernel
theorem dX11_choices_27 : decode cX11_choices 27 = .ok (.i2l, 1) := by decide +kernel
theorem dX11_choices_28 : decode cX11_choices 28 = .ok (.lmul, 1) := by decide +kernel
theorem dX11_choices_29 : decode cX11_choices 29 = .ok (.iload 4, 2) := by decide +kernel
theorem dX11_choices_31 : decode cX11_choices 31 = .ok (.iconst 1, 1) := by decide +kernel
theorem dX11_choices_32 : decode cX11_choices 32 = .ok (.iadd, 1) := by decide +kernel
theorem dX11_choices_33 : decode cX11_choices 33 = .ok (.i2l, 1) := by decide +kernel
theorem dX11_choices_34 : decode cX11_choices 34 = .ok (.ldiv, 1) := by decide +kernel
theorem dX11_choices_35 : decode cX11_choices 35 = .ok (.lstore_n 2, 1) := by decide +kernel
theorem dX11_choices_36 : decode cX11_choices 36 = .ok (.iinc 4 1, 3) := by decide +kernel
theorem dX11_choices_39 : decode cX11_choices 39 = .ok (.goto (-23), 3) := by decide +kernel
theorem dX11_choices_42 : decode cX11_choices 42 = .ok (.lload_n 2, 1) := by decide +kernel
theorem dX11_choices_43 : decode cX11_choices 43 = .ok (.lreturn, 1) := by decide +kernel
theorem dX11_lowest_0 : decode cX11_lowest 0 = .ok (.lload_n 2, 1) := by decide +kernel
theorem dX11_lowest_1 : decode cX11_lowest 1 = .ok (.lconst 0, 1) := by decide +kernel
theorem dX11_lowest_2 : decode cX11_lowest 2 = .ok (.lcmp, 1) := by decide +kernel
theorem dX11_lowest_3 : decode cX11_lowest 3 = .ok (.ifCond .le 14, 3) := by decide +kernel
theorem dX11_lowest_6 : decode cX11_lowest 6 = .ok (.iload 4, 2) := by decide +kernel
theorem dX11_lowest_8 : decode cX11_lowest 8 = .ok (.ifCond .lt 9, 3) := by decide +kernel
theorem dX11_lowest_11 : decode cX11_lowest 11 = .ok (.iload 4, 2) := by decide +kernel
theorem dX11_lowest_13 : decode cX11_lowest 13 = .ok (.iconst 1, 1) := by decide +kernel
theorem dX11_lowest_14 : decode cX11_lowest 14 = .ok (.if_icmp .le 7, 3) := by decide +kernel
theorem dX11_lowest_17 : decode cX11_lowest 17 = .ok (.ldc2_w 197, 3) := by decide +kernel
theorem dX11_lowest_20 : decode cX11_lowest 20 = .ok (.lreturn, 1) := by decide +kernel
theorem dX11_lowest_21 : decode cX11_lowest 21 = .ok (.lload_n 0, 1) := by decide +kernel
theorem dX11_lowest_22 : decode cX11_lowest 22 = .ok (.invokestatic 271, 3) := by decide +kernel
theorem dX11_lowest_25 : decode cX11_lowest 25 = .ok (.lstore 5, 2) := by decide +kernel
theorem dX11_lowest_27 : decode cX11_lowest 27 = .ok (.lload_n 2, 1) := by decide +kernel
theorem dX11_lowest_28 : decode cX11_lowest 28 = .ok (.lstore 7, 2) := by decide +kernel
theorem dX11_lowest_30 : decode cX11_lowest 30 = .ok (.iconst 0, 1) := by decide +kernel
theorem dX11_lowest_31 : decode cX11_lowest 31 = .ok (.istore 9, 2) := by decide +kernel
theorem dX11_lowest_33 : decode cX11_lowest 33 = .ok (.iload 9, 2) := by decide +kernel
theorem dX11_lowest_35 : decode cX11_lowest 35 = .ok (.bipush 100, 2) := by decide +kernel
theorem dX11_lowest_37 : decode cX11_lowest 37 = .ok (.if_icmp .ge 31, 3) := by decide +kernel
theorem dX11_lowest_40 : decode cX11_lowest 40 = .ok (.lload 5, 2) := by decide +kernel
theorem dX11_lowest_42 : decode cX11_lowest 42 = .ok (.lconst 0, 1) := by decide +kernel
theorem dX11_lowest_43 : decode cX11_lowest 43 = .ok (.lcmp, 1) := by decide +kernel
theorem dX11_lowest_44 : decode cX11_lowest 44 = .ok (.ifCond .eq 24, 3) := by decide +kernel
theorem dX11_lowest_47 : decode cX11_lowest 47 = .ok (.lload 7, 2) := by decide +kernel
theorem dX11_lowest_49 : decode cX11_lowest 49 = .ok (.lload 5, 2) := by decide +kernel
theorem dX11_lowest_51 : decode cX11_lowest 51 = .ok (.lrem, 1) := by decide +kernel
theorem dX11_lowest_52 : decode cX11_lowest 52 = .ok (.lstore 10, 2) := by decide +kernel
theorem dX11_lowest_54 : decode cX11_lowest 54 = .ok (.lload 5, 2) := by decide +kernel
theorem dX11_lowest_56 : decode cX11_lowest 56 = .ok (.lstore 7, 2) := by decide +kernel
theorem dX11_lowest_58 : decode cX11_lowest 58 = .ok (.lload 10, 2) := by decide +kernel
theorem dX11_lowest_60 : decode cX11_lowest 60 = .ok (.lstore 5, 2) := by decide +kernel
theorem dX11_lowest_62 : decode cX11_lowest 62 = .ok (.iinc 9 1, 3) := by decide +kernel
theorem dX11_lowest_65 : decode cX11_lowest 65 = .ok (.goto (-32), 3) := by decide +kernel
theorem dX11_lowest_68 : decode cX11_lowest 68 = .ok (.iload 4, 2) := by decide +kernel
theorem dX11_lowest_70 : decode cX11_lowest 70 = .ok (.ifCond .ne 7, 3) := by decide +kernel
theorem dX11_lowest_73 : decode cX11_lowest 73 = .ok (.lload_n 0, 1) := by decide +kernel
theorem dX11_lowest_74 : decode cX11_lowest 74 = .ok (.goto 4, 3) := by decide +kernel
theorem dX11_lowest_77 : decode cX11_lowest 77 = .ok (.lload_n 2, 1) := by decide +kernel
theorem dX11_lowest_78 : decode cX11_lowest 78 = .ok (.lload 7, 2) := by decide +kernel
theorem dX11_lowest_80 : decode cX11_lowest 80 = .ok (.ldiv, 1) := by decide +kernel
theorem dX11_lowest_81 : decode cX11_lowest 81 = .ok (.lreturn, 1) := by decide +kernel
set_option maxRecDepth 20000 in
theorem ggX11_howManyNets_X11_netOf : GoodIn wsX11_howManyNets wsX11_netOf := goodIn_r _ [7, 8, 9, 10, 6, 11, 1, 12, 13, 14, 15, 16, 17, 18, 19, 20, 21, 22, 23, 24, 25, 26, 27, 28, 29, 30, 31, 32, 33, 34, 35, 36, 37, 38, 39, 40] (by decide +kernel) (by decide +kernel)
set_option maxRecDepth 20000 in
theorem gX11_howManyNets_X11_netOf : GoodIn wsX11_howManyNets (wsV RX11 222 RX11 yX11_netOf wsX11_netOf) := goodIn_app (goodIn_of _ (by decide +kernel)) ggX11_howManyNets_X11_netOf
theorem dX11_howManyNets_0 : decode cX11_howManyNets 0 = .ok (.iconst 0, 1) := by decide +kernel
theorem dX11_howManyNets_1 : decode cX11_howManyNets 1 = .ok (.istore_n 1, 1) := by decide +kernel
theorem dX11_howManyNets_2 : decode cX11_howManyNets 2 = .ok (.iconst 0, 1) := by decide +kernel
theorem dX11_howManyNets_3 : decode cX11_howManyNets 3 = .ok (.istore_n 2, 1) := by decide +kernel
theorem dX11_howManyNets_4 : decode cX11_howManyNets 4 = .ok (.iload_n 2, 1) := by decide +kernel
theorem dX11_howManyNets_5 : decode cX11_howManyNets 5 = .ok (.aload_n 0, 1) := by decide +kernel
theorem dX11_howManyNets_6 : decode cX11_howManyNets 6 = .ok (.getfield 12, 3) := by decide +kernel
theorem dX11_howManyNets_9 : decode cX11_howManyNets 9 = .ok (.getfield 88, 3) := by decide +kernel
theorem dX11_howManyNets_12 : decode cX11_howManyNets 12 = .ok (.if_icmp .ge 36, 3) := by decide +kernel
theorem dX11_howManyNets_15 : decode cX11_howManyNets 15 = .ok (.aload_n 0, 1) := by decide +kernel
theorem dX11_howManyNets_16 : decode cX11_howManyNets 16 = .ok (.iload_n 2, 1) := by decide +kernel
theorem dX11_howManyNets_17 : decode cX11_howManyNets 17 = .ok (.invokevirtual 222, 3) := by decide +kernel
theorem dX11_howManyNets_20 : decode cX11_howManyNets 20 = .ok (.iconst 1, 1) := by decide +kernel
theorem dX11_howManyNets_21 : decode cX11_howManyNets 21 = .ok (.iload_n 2, 1) := by decide +kernel
theorem dX11_howManyNets_22 : decode cX11_howManyNets 22 = .ok (.ishl, 1) := by decide +kernel
theorem dX11_howManyNets_23 : decode cX11_howManyNets 23 = .ok (.iconst 1, 1) := by decide +kernel
theorem dX11_howManyNets_24 : decode cX11_howManyNets 24 = .ok (.isub, 1) := by decide +kernel
theorem dX11_howManyNets_25 : decode cX11_howManyNets 25 = .ok (.iand, 1) := by decide +kernel
theorem dX11_howManyNets_26 : decode cX11_howManyNets 26 = .ok (.ifCond .ne 7, 3) := by decide +kernel
theorem dX11_howManyNets_29 : decode cX11_howManyNets 29 = .ok (.iconst 1, 1) := by decide +kernel
theorem dX11_howManyNets_30 : decode cX11_howManyNets 30 = .ok (.goto 4, 3) := by decide +kernel
theorem dX11_howManyNets_33 : decode cX11_howManyNets 33 = .ok (.iconst 0, 1) := by decide +kernel
theorem dX11_howManyNets_34 : decode cX11_howManyNets 34 = .ok (.istore_n 3, 1) := by decide +kernel
theorem dX11_howManyNets_35 : decode cX11_howManyNets 35 = .ok (.iload_n 3, 1) := by decide +kernel
theorem dX11_howManyNets_36 : decode cX11_howManyNets 36 = .ok (.ifCond .eq 6, 3) := by decide +kernel
theorem dX11_howManyNets_39 : decode cX11_howManyNets 39 = .ok (.iinc 1 1, 3) := by decide +kernel
theorem dX11_howManyNets_42 : decode cX11_howManyNets 42 = .ok (.iinc 2 1, 3) := by decide +kernel
theorem dX11_howManyNets_45 : decode cX11_howManyNets 45 = .ok (.goto (-41), 3) := by decide +kernel
theorem dX11_howManyNets_48 : decode cX11_howManyNets 48 = .ok (.iload_n 1, 1) := by decide +kernel
theorem dX11_howManyNets_49 : decode cX11_howManyNets 49 = .ok (.ireturn, 1) := by decide +kernel
set_option maxRecDepth 20000 in
theorem ggX11_netOf_X11_neighbours : GoodIn wsX11_netOf wsX11_neighbours := goodIn_r _ [5, 6, 7, 8, 9, 10, 11, 12, 13, 14, 15, 16, 17, 18, 19, 20, 21, 22, 23, 24, 25, 26, 27, 28, 29, 30, 31, 32, 33, 34, 35] (by decide +kernel) (by decide +kernel)
set_option maxRecDepth 20000 in
theorem gX11_netOf_X11_neighbours : GoodIn wsX11_netOf (wsV RX11 275 RX11 yX11_neighbours wsX11_neighbours) := goodIn_app (goodIn_of _ (by decide +kernel)) ggX11_netOf_X11_neighbours
theorem dX11_netOf_0 : decode cX11_netOf 0 = .ok (.iconst 1, 1) := by decide +kernel
theorem dX11_netOf_1 : decode cX11_netOf 1 = .ok (.iload_n 1, 1) := by decide +kernel
theorem dX11_netOf_2 : decode cX11_netOf 2 = .ok (.ishl, 1) := by decide +kernel
theorem dX11_netOf_3 : decode cX11_netOf 3 = .ok (.istore_n 2, 1) := by decide +kernel
theorem dX11_netOf_4 : decode cX11_netOf 4 = .ok (.iconst 1, 1) := by decide +kernel
theorem dX11_netOf_5 : decode cX11_netOf 5 = .ok (.istore_n 3, 1) := by decide +kernel
theorem dX11_netOf_6 : decode cX11_netOf 6 = .ok (.iload_n 3, 1) := by decide +kernel
theorem dX11_netOf_7 : decode cX11_netOf 7 = .ok (.iconst 4, 1) := by decide +kernel
theorem dX11_netOf_8 : decode cX11_netOf 8 = .ok (.if_icmp .ge 17, 3) := by decide +kernel
theorem dX11_netOf_11 : decode cX11_netOf 11 = .ok (.iload_n 2, 1) := by decide +kernel
theorem dX11_netOf_12 : decode cX11_netOf 12 = .ok (.aload_n 0, 1) := by decide +kernel
theorem dX11_netOf_13 : decode cX11_netOf 13 = .ok (.iload_n 2, 1) := by decide +kernel
theorem dX11_netOf_14 : decode cX11_netOf 14 = .ok (.invokevirtual 275, 3) := by decide +kernel
theorem dX11_netOf_17 : decode cX11_netOf 17 = .ok (.ior, 1) := by decide +kernel
theorem dX11_netOf_18 : decode cX11_netOf 18 = .ok (.istore_n 2, 1) := by decide +kernel
theorem dX11_netOf_19 : decode cX11_netOf 19 = .ok (.iinc 3 1, 3) := by decide +kernel
theorem dX11_netOf_22 : decode cX11_netOf 22 = .ok (.goto (-16), 3) := by decide +kernel
theorem dX11_netOf_25 : decode cX11_netOf 25 = .ok (.iload_n 2, 1) := by decide +kernel
theorem dX11_netOf_26 : decode cX11_netOf 26 = .ok (.ireturn, 1) := by decide +kernel
theorem dX11_neighbours_0 : decode cX11_neighbours 0 = .ok (.iconst 0, 1) := by decide +kernel
theorem dX11_neighbours_1 : decode cX11_neighbours 1 = .ok (.istore_n 2, 1) := by decide +kernel
theorem dX11_neighbours_2 : decode cX11_neighbours 2 = .ok (.iconst 0, 1) := by decide +kernel
theorem dX11_neighbours_3 : decode cX11_neighbours 3 = .ok (.istore_n 3, 1) := by decide +kernel
theorem dX11_neighbours_4 : decode cX11_neighbours 4 = .ok (.iload_n 3, 1) := by decide +kernel
theorem dX11_neighbours_5 : decode cX11_neighbours 5 = .ok (.aload_n 0, 1) := by decide +kernel
theorem dX11_neighbours_6 : decode cX11_neighbours 6 = .ok (.getfield 12, 3) := by decide +kernel
theorem dX11_neighbours_9 : decode cX11_neighbours 9 = .ok (.getfield 207, 3) := by decide +kernel
theorem dX11_neighbours_12 : decode cX11_neighbours 12 = .ok (.if_icmp .ge 86, 3) := by decide +kernel
theorem dX11_neighbours_15 : decode cX11_neighbours 15 = .ok (.iload_n 1, 1) := by decide +kernel
theorem dX11_neighbours_16 : decode cX11_neighbours 16 = .ok (.iconst 1, 1) := by decide +kernel
theorem dX11_neighbours_17 : decode cX11_neighbours 17 = .ok (.aload_n 0, 1) := by decide +kernel
theorem dX11_neighbours_18 : decode cX11_neighbours 18 = .ok (.getfield 12, 3) := by decide +kernel
theorem dX11_neighbours_21 : decode cX11_neighbours 21 = .ok (.getfield 213, 3) := by decide +kernel
theorem dX11_neighbours_24 : decode cX11_neighbours 24 = .ok (.iload_n 3, 1) := by decide +kernel
theorem dX11_neighbours_25 : decode cX11_neighbours 25 = .ok (.iaload, 1) := by decide +kernel
theorem dX11_neighbours_26 : decode cX11_neighbours 26 = .ok (.ishl, 1) := by decide +kernel
theorem dX11_neighbours_27 : decode cX11_neighbours 27 = .ok (.iand, 1) := by decide +kernel
theorem dX11_neighbours_28 : decode cX11_neighbours 28 = .ok (.ifCond .ne 6, 3) := by decide +kernel
theorem dX11_neighbours_31 : decode cX11_neighbours 31 = .ok (.goto 61, 3) := by decide +kernel
theorem dX11_neighbours_34 : decode cX11_neighbours 34 = .ok (.iconst 0, 1) := by decide +kernel
theorem dX11_neighbours_35 : decode cX11_neighbours 35 = .ok (.istore 4, 2) := by decide +kernel
theorem dX11_neighbours_37 : decode cX11_neighbours 37 = .ok (.iload 4, 2) := by decide +kernel
theorem dX11_neighbours_39 : decode cX11_neighbours 39 = .ok (.aload_n 0, 1) := by decide +kernel
theorem dX11_neighbours_40 : decode cX11_neighbours 40 = .ok (.getfield 12, 3) := by decide +kernel
theorem dX11_neighbours_43 : decode cX11_neighbours 43 = .ok (.getfield 207, 3) := by decide +kernel
theorem dX11_neighbours_46 : decode cX11_neighbours 46 = .ok (.if_icmp .ge 46, 3) := by decide +kernel
theorem dX11_neighbours_49 : decode cX11_neighbours 49 = .ok (.aload_n 0, 1) := by decide +kernel
theorem dX11_neighbours_50 : decode cX11_neighbours 50 = .ok (.getfield 12, 3) := by decide +kernel
theorem dX11_neighbours_53 : decode cX11_neighbours 53 = .ok (.getfield 210, 3) := by decide +kernel
theorem dX11_neighbours_56 : decode cX11_neighbours 56 = .ok (.iload 4, 2) := by decide +kernel
theorem dX11_neighbours_58 : decode cX11_neighbours 58 = .ok (.iaload, 1) := by decide +kernel
theorem dX11_neighbours_59 : decode cX11_neighbours 59 = .ok (.aload_n 0, 1) := by decide +kernel
theorem dX11_neighbours_60 : decode cX11_neighbours 60 = .ok (.getfield 12, 3) := by decide +kernel
theorem dX11_neighbours_63 : decode cX11_neighbours 63 = .ok (.getfield 210, 3) := by decide +kernel
theorem dX11_neighbours_66 : decode cX11_neighbours 66 = .ok (.iload_n 3, 1) := by decide +kernel
theorem dX11_neighbours_67 : decode cX11_neighbours 67 = .ok (.iaload, 1) := by decide +kernel
theorem dX11_neighbours_68 : decode cX11_neighbours 68 = .ok (.if_icmp .ne 18, 3) := by decide +kernel
theorem dX11_neighbours_71 : decode cX11_neighbours 71 = .ok (.iload_n 2, 1) := by decide +kernel
theorem dX11_neighbours_72 : decode cX11_neighbours 72 = .ok (.iconst 1, 1) := by decide +kernel
theorem dX11_neighbours_73 : decode cX11_neighbours 73 = .ok (.aload_n 0, 1) := by decide +kernel
theorem dX11_neighbours_74 : decode cX11_neighbours 74 = .ok (.getfield 12, 3) := by decide +kernel
theorem dX11_neighbours_77 : decode cX11_neighbours 77 = .ok (.getfield 213, 3) := by decide +kernel
theorem dX11_neighbours_80 : decode cX11_neighbours 80 = .ok (.iload 4, 2) := by decide +kernel
theorem dX11_neighbours_82 : decode cX11_neighbours 82 = .ok (.iaload, 1) := by decide +kernel
theorem dX11_neighbours_83 : decode cX11_neighbours 83 = .ok (.ishl, 1) := by decide +kernel
theorem dX11_neighbours_84 : decode cX11_neighbours 84 = .ok (.ior, 1) := by decide +kernel
theorem dX11_neighbours_85 : decode cX11_neighbours 85 = .ok (.istore_n 2, 1) := by decide +kernel
theorem dX11_neighbours_86 : decode cX11_neighbours 86 = .ok (.iinc 4 1, 3) := by decide +kernel
theorem dX11_neighbours_89 : decode cX11_neighbours 89 = .ok (.goto (-52), 3) := by decide +kernel
theorem dX11_neighbours_92 : decode cX11_neighbours 92 = .ok (.iinc 3 1, 3) := by decide +kernel
theorem dX11_neighbours_95 : decode cX11_neighbours 95 = .ok (.goto (-91), 3) := by decide +kernel
theorem dX11_neighbours_98 : decode cX11_neighbours 98 = .ok (.iload_n 2, 1) := by decide +kernel
theorem dX11_neighbours_99 : decode cX11_neighbours 99 = .ok (.ireturn, 1) := by decide +kernel
theorem dX12_init_0 : decode cX12_init 0 = .ok (.aload_n 0, 1) := by decide +kernel
theorem dX12_init_1 : decode cX12_init 1 = .ok (.invokespecial 3, 3) := by decide +kernel
theorem dX12_init_4 : decode cX12_init 4 = .ok (.aload_n 0, 1) := by decide +kernel
theorem dX12_init_5 : decode cX12_init 5 = .ok (.sipush 952, 3) := by decide +kernel
theorem dX12_init_8 : decode cX12_init 8 = .ok (.newarray .int, 2) := by decide +kernel
theorem dX12_init_10 : decode cX12_init 10 = .ok (.putfield 9, 3) := by decide +kernel
theorem dX12_init_13 : decode cX12_init 13 = .ok (.aload_n 0, 1) := by decide +kernel
theorem dX12_init_14 : decode cX12_init 14 = .ok (.sipush 952, 3) := by decide +kernel
theorem dX12_init_17 : decode cX12_init 17 = .ok (.newarray .int, 2) := by decide +kernel
theorem dX12_init_19 : decode cX12_init 19 = .ok (.putfield 15, 3) := by decide +kernel
theorem dX12_init_22 : decode cX12_init 22 = .ok (.aload_n 0, 1) := by decide +kernel
theorem dX12_init_23 : decode cX12_init 23 = .ok (.bipush 51, 2) := by decide +kernel
theorem dX12_init_25 : decode cX12_init 25 = .ok (.newarray .int, 2) := by decide +kernel
theorem dX12_init_27 : decode cX12_init 27 = .ok (.putfield 18, 3) := by decide +kernel
theorem dX12_init_30 : decode cX12_init 30 = .ok (.aload_n 0, 1) := by decide +kernel
theorem dX12_init_31 : decode cX12_init 31 = .ok (.bipush 6, 2) := by decide +kernel
theorem dX12_init_33 : decode cX12_init 33 = .ok (.newarray .int, 2) := by decide +kernel
theorem dX12_init_35 : decode cX12_init 35 = .ok (.putfield 21, 3) := by decide +kernel
theorem dX12_init_38 : decode cX12_init 38 = .ok (.aload_n 0, 1) := by decide +kernel
theorem dX12_init_39 : decode cX12_init 39 = .ok (.bipush 64, 2) := by decide +kernel
theorem dX12_init_41 : decode cX12_init 41 = .ok (.newarray .boolean, 2) := by decide +kernel
theorem dX12_init_43 : decode cX12_init 43 = .ok (.putfield 24, 3) := by decide +kernel
theorem dX12_init_46 : decode cX12_init 46 = .ok (.aload_n 0, 1) := by decide +kernel
theorem dX12_init_47 : decode cX12_init 47 = .ok (.bipush 10, 2) := by decide +kernel
theorem dX12_init_49 : decode cX12_init 49 = .ok (.newarray .int, 2) := by decide +kernel
theorem dX12_init_51 : decode cX12_init 51 = .ok (.putfield 28, 3) := by decide +kernel
theorem dX12_init_54 : decode cX12_init 54 = .ok (.aload_n 0, 1) := by decide +kernel
theorem dX12_init_55 : decode cX12_init 55 = .ok (.bipush 10, 2) := by decide +kernel
theorem dX12_init_57 : decode cX12_init 57 = .ok (.newarray .int, 2) := by decide +kernel
theorem dX12_init_59 : decode cX12_init 59 = .ok (.putfield 31, 3) := by decide +kernel
theorem dX12_init_62 : decode cX12_init 62 = .ok (.aload_n 0, 1) := by decide +kernel
theorem dX12_init_63 : decode cX12_init 63 = .ok (.bipush 10, 2) := by decide +kernel
theorem dX12_init_65 : decode cX12_init 65 = .ok (.newarray .int, 2) := by decide +kernel
theorem dX12_init_67 : decode cX12_init 67 = .ok (.putfield 34, 3) := by decide +kernel
theorem dX12_init_70 : decode cX12_init 70 = .ok (.aload_n 0, 1) := by decide +kernel
theorem dX12_init_71 : decode cX12_init 71 = .ok (.bipush 10, 2) := by decide +kernel
theorem dX12_init_73 : decode cX12_init 73 = .ok (.newarray .boolean, 2) := by decide +kernel
theorem dX12_init_75 : decode cX12_init 75 = .ok (.putfield 37, 3) := by decide +kernel
theorem dX12_init_78 : decode cX12_init 78 = .ok (.aload_n 0, 1) := by decide +kernel
theorem dX12_init_79 : decode cX12_init 79 = .ok (.iconst 4, 1) := by decide +kernel
theorem dX12_init_80 : decode cX12_init 80 = .ok (.newarray .int, 2) := by decide +kernel
theorem dX12_init_82 : decode cX12_init 82 = .ok (.putfield 40, 3) := by decide +kernel
theorem dX12_init_85 : decode cX12_init 85 = .ok (.aload_n 0, 1) := by decide +kernel
theorem dX12_init_86 : decode cX12_init 86 = .ok (.bipush 20, 2) := by decide +kernel
theorem dX12_init_88 : decode cX12_init 88 = .ok (.newarray .int, 2) := by decide +kernel
theorem dX12_init_90 : decode cX12_init 90 = .ok (.putfield 43, 3) := by decide +kernel
theorem dX12_init_93 : decode cX12_init 93 = .ok (.aload_n 0, 1) := by decide +kernel
theorem dX12_init_94 : decode cX12_init 94 = .ok (.getfield 9, 3) := by decide +kernel
theorem dX12_init_97 : decode cX12_init 97 = .ok (.bipush 56, 2) := by decide +kernel
theorem dX12_init_99 : decode cX12_init 99 = .ok (.iconst (-1), 1) := by decide +kernel
theorem dX12_init_100 : decode cX12_init 100 = .ok (.iastore, 1) := by decide +kernel
theorem dX12_init_101 : decode cX12_init 101 = .ok (.aload_n 0, 1) := by decide +kernel
theorem dX12_init_102 : decode cX12_init 102 = .ok (.getfield 9, 3) := by decide +kernel
theorem dX12_init_105 : decode cX12_init 105 = .ok (.bipush 57, 2) := by decide +kernel
theorem dX12_init_107 : decode cX12_init 107 = .ok (.bipush 50, 2) := by decide +kernel
theorem dX12_init_109 : decode cX12_init 109 = .ok (.iastore, 1) := by decide +kernel
theorem dX12_init_110 : decode cX12_init 110 = .ok (.aload_n 0, 1) := by decide +kernel
theorem dX12_init_111 : decode cX12_init 111 = .ok (.getfield 9, 3) := by decide +kernel
theorem dX12_init_114 : decode cX12_init 114 = .ok (.bipush 58, 2) := by decide +kernel
theorem dX12_init_116 : decode cX12_init 116 = .ok (.bipush 50, 2) := by decide +kernel
theorem dX12_init_118 : decode cX12_init 118 = .ok (.iastore, 1) := by decide +kernel
theorem dX12_init_119 : decode cX12_init 119 = .ok (.return_, 1) := by decide +kernel
theorem dX12_in_0 : decode cX12_in 0 = .ok (.iload_n 0, 1) := by decide +kernel
theorem dX12_in_1 : decode cX12_in 1 = .ok (.iload_n 1, 1) := by decide +kernel
theorem dX12_in_2 : decode cX12_in 2 = .ok (.if_icmp .lt 12, 3) := by decide +kernel
theorem dX12_in_5 : decode cX12_in 5 = .ok (.iload_n 0, 1) := by decide +kernel
theorem dX12_in_6 : decode cX12_in 6 = .ok (.iload_n 2, 1) := by decide +kernel
theorem dX12_in_7 : decode cX12_in 7 = .ok (.if_icmp .gt 7, 3) := by decide +kernel
theorem dX12_in_10 : decode cX12_in 10 = .ok (.iconst 1, 1) := by decide +kernel
theorem dX12_in_11 : decode cX12_in 11 = .ok (.goto 4, 3) := by decide +kernel
theorem dX12_in_14 : decode cX12_in 14 = .ok (.iconst 0, 1) := by decide +kernel
theorem dX12_in_15 : decode cX12_in 15 = .ok (.ireturn, 1) := by decide +kernel
theorem dX12_size_0 : decode cX12_size 0 = .ok (.iload_n 0, 1) := by decide +kernel
theorem dX12_size_1 : decode cX12_size 1 = .ok (.ifCond .ge 8, 3) := by decide +kernel
theorem dX12_size_4 : decode cX12_size 4 = .ok (.iload_n 0, 1) := by decide +kernel
theorem dX12_size_5 : decode cX12_size 5 = .ok (.ineg, 1) := by decide +kernel
theorem dX12_size_6 : decode cX12_size 6 = .ok (.goto 4, 3) := by decide +kernel
theorem dX12_size_9 : decode cX12_size 9 = .ok (.iload_n 0, 1) := by decide +kernel
theorem dX12_size_10 : decode cX12_size 10 = .ok (.ireturn, 1) := by decide +kernel
set_option maxRecDepth 20000 in
theorem ggX12_isWorker_X12_in : GoodIn wsX12_isWorker wsX12_in := goodIn_r _ [5] (by decide +kernel) (by decide +kernel)
set_option maxRecDepth 20000 in
theorem gX12_isWorker_X12_in : GoodIn wsX12_isWorker (va_wsS RX12 50 yX12_in wsX12_in) := goodIn_app (goodIn_of _ (by decide +kernel)) ggX12_isWorker_X12_in
theorem dX12_isWorker_0 : decode cX12_isWorker 0 = .ok (.iload_n 1, 1) := by decide +kernel
theorem dX12_isWorker_1 : decode cX12_isWorker 1 = .ok (.iconst 0, 1) := by decide +kernel
theorem dX12_isWorker_2 : decode cX12_isWorker 2 = .ok (.aload_n 0, 1) := by decide +kernel
theorem dX12_isWorker_3 : decode cX12_isWorker 3 = .ok (.getfield 9, 3) := by decide +kernel
theorem dX12_isWorker_6 : decode cX12_isWorker 6 = .ok (.bipush 51, 2) := by decide +kernel
theorem dX12_isWorker_8 : decode cX12_isWorker 8 = .ok (.iaload, 1) := by decide +kernel
theorem dX12_isWorker_9 : decode cX12_isWorker 9 = .ok (.iconst 1, 1) := by decide +kernel
theorem dX12_isWorker_10 : decode cX12_isWorker 10 = .ok (.isub, 1) := by decide +kernel
theorem dX12_isWorker_11 : decode cX12_isWorker 11 = .ok (.invokestatic 50, 3) := by decide +kernel
theorem dX12_isWorker_14 : decode cX12_isWorker 14 = .ok (.ireturn, 1) := by decide +kernel
set_option maxRecDepth 20000 in
theorem ggX12_isChief_X12_in : GoodIn wsX12_isChief wsX12_in := goodIn_r _ [5] (by decide +kernel) (by decide +kernel)
set_option maxRecDepth 20000 in
theorem gX12_isChief_X12_in : GoodIn wsX12_isChief (va_wsS RX12 50 yX12_in wsX12_in) := goodIn_app (goodIn_of _ (by decide +kernel)) ggX12_isChief_X12_in
theorem dX12_isChief_0 : decode cX12_isChief 0 = .ok (.iload_n 1, 1) := by decide +kernel
theorem dX12_isChief_1 : decode cX12_isChief 1 = .ok (.iconst 0, 1) := by decide +kernel
theorem dX12_isChief_2 : decode cX12_isChief 2 = .ok (.aload_n 0, 1) := by decide +kernel
theorem dX12_isChief_3 : decode cX12_isChief 3 = .ok (.getfield 9, 3) := by decide +kernel
theorem dX12_isChief_6 : decode cX12_isChief 6 = .ok (.bipush 52, 2) := by decide +kernel
theorem dX12_isChief_8 : decode cX12_isChief 8 = .ok (.iaload, 1) := by decide +kernel
theorem dX12_isChief_9 : decode cX12_isChief 9 = .ok (.iconst 1, 1) := by decide +kernel
theorem dX12_isChief_10 : decode cX12_isChief 10 = .ok (.isub, 1) := by decide +kernel
theorem dX12_isChief_11 : decode cX12_isChief 11 = .ok (.invokestatic 50, 3) := by decide +kernel
theorem dX12_isChief_14 : decode cX12_isChief 14 = .ok (.ireturn, 1) := by decide +kernel
theorem dX12_keeps_0 : decode cX12_keeps 0 = .ok (.iconst 0, 1) := by decide +kernel
theorem dX12_keeps_1 : decode cX12_keeps 1 = .ok (.istore_n 1, 1) := by decide +kernel
theorem dX12_keeps_2 : decode cX12_keeps 2 = .ok (.iload_n 1, 1) := by decide +kernel
theorem dX12_keeps_3 : decode cX12_keeps 3 = .ok (.bipush 51, 2) := by decide +kernel
theorem dX12_keeps_5 : decode cX12_keeps 5 = .ok (.if_icmp .ge 21, 3) := by decide +kernel
theorem dX12_keeps_8 : decode cX12_keeps 8 = .ok (.aload_n 0, 1) := by decide +kernel
theorem dX12_keeps_9 : decode cX12_keeps 9 = .ok (.getfield 18, 3) := by decide +kernel
theorem dX12_keeps_12 : decode cX12_keeps 12 = .ok (.iload_n 1, 1) := by decide +kernel
theorem dX12_keeps_13 : decode cX12_keeps 13 = .ok (.aload_n 0, 1) := by decide +kernel
theorem dX12_keeps_14 : decode cX12_keeps 14 = .ok (.getfield 9, 3) := by decide +kernel
theorem dX12_keeps_17 : decode cX12_keeps 17 = .ok (.iload_n 1, 1) := by decide +kernel
theorem dX12_keeps_18 : decode cX12_keeps 18 = .ok (.iaload, 1) := by decide +kernel
theorem dX12_keeps_19 : decode cX12_keeps 19 = .ok (.iastore, 1) := by decide +kernel
theorem dX12_keeps_20 : decode cX12_keeps 20 = .ok (.iinc 1 1, 3) := by decide +kernel
theorem dX12_keeps_23 : decode cX12_keeps 23 = .ok (.goto (-21), 3) := by decide +kernel
theorem dX12_keeps_26 : decode cX12_keeps 26 = .ok (.return_, 1) := by decide +kernel
theorem dX12_goesBack_0 : decode cX12_goesBack 0 = .ok (.iconst 0, 1) := by decide +kernel
theorem dX12_goesBack_1 : decode cX12_goesBack 1 = .ok (.istore_n 1, 1) := by decide +kernel
theorem dX12_goesBack_2 : decode cX12_goesBack 2 = .ok (.iload_n 1, 1) := by decide +kernel
theorem dX12_goesBack_3 : decode cX12_goesBack 3 = .ok (.bipush 51, 2) := by decide +kernel
theorem dX12_goesBack_5 : decode cX12_goesBack 5 = .ok (.if_icmp .ge 21, 3) := by decide +kernel
theorem dX12_goesBack_8 : decode cX12_goesBack 8 = .ok (.aload_n 0, 1) := by decide +kernel
theorem dX12_goesBack_9 : decode cX12_goesBack 9 = .ok (.getfield 9, 3) := by decide +kernel
theorem dX12_goesBack_12 : decode cX12_goesBack 12 = .ok (.iload_n 1, 1) := by decide +kernel
theorem dX12_goesBack_13 : decode cX12_goesBack 13 = .ok (.aload_n 0, 1) := by decide +kernel
theorem dX12_goesBack_14 : decode cX12_goesBack 14 = .ok (.getfield 18, 3) := by decide +kernel
theorem dX12_goesBack_17 : decode cX12_goesBack 17 = .ok (.iload_n 1, 1) := by decide +kernel
theorem dX12_goesBack_18 : decode cX12_goesBack 18 = .ok (.iaload, 1) := by decide +kernel
theorem dX12_goesBack_19 : decode cX12_goesBack 19 = .ok (.iastore, 1) := by decide +kernel
theorem dX12_goesBack_20 : decode cX12_goesBack 20 = .ok (.iinc 1 1, 3) := by decide +kernel
theorem dX12_goesBack_23 : decode cX12_goesBack 23 = .ok (.goto (-21), 3) := by decide +kernel
theorem dX12_goesBack_26 : decode cX12_goesBack 26 = .ok (.return_, 1) := by decide +kernel
set_option maxRecDepth 20000 in
theorem ggX12_feed_X12_in : GoodIn wsX12_feed wsX12_in := goodIn_r _ [5] (by decide +kernel) (by decide +kernel)
set_option maxRecDepth 20000 in
theorem gX12_feed_X12_in : GoodIn wsX12_feed (va_wsS RX12 50 yX12_in wsX12_in) := goodIn_app (goodIn_of _ (by decide +kernel)) ggX12_feed_X12_in
theorem dX12_feed_0 : decode cX12_feed 0 = .ok (.iload_n 1, 1) := by decide +kernel
theorem dX12_feed_1 : decode cX12_feed 1 = .ok (.iconst 0, 1) := by decide +kernel
theorem dX12_feed_2 : decode cX12_feed 2 = .ok (.bipush 127, 2) := by decide +kernel
theorem dX12_feed_4 : decode cX12_feed 4 = .ok (.invokestatic 50, 3) := by decide +kernel
theorem dX12_feed_7 : decode cX12_feed 7 = .ok (.ifCond .ne 6, 3) := by decide +kernel
theorem dX12_feed_10 : decode cX12_feed 10 = .ok (.bipush (-2), 2) := by decide +kernel
theorem dX12_feed_12 : decode cX12_feed 12 = .ok (.ireturn, 1) := by decide +kernel
theorem dX12_feed_13 : decode cX12_feed 13 = .ok (.aload_n 0, 1) := by decide +kernel
theorem dX12_feed_14 : decode cX12_feed 14 = .ok (.getfield 9, 3) := by decide +kernel
theorem dX12_feed_17 : decode cX12_feed 17 = .ok (.bipush 55, 2) := by decide +kernel
theorem dX12_feed_19 : decode cX12_feed 19 = .ok (.iaload, 1) := by decide +kernel
theorem dX12_feed_20 : decode cX12_feed 20 = .ok (.bipush 100, 2) := by decide +kernel
theorem dX12_feed_22 : decode cX12_feed 22 = .ok (.if_icmp .ne 6, 3) := by decide +kernel
theorem dX12_feed_25 : decode cX12_feed 25 = .ok (.bipush (-4), 2) := by decide +kernel
theorem dX12_feed_27 : decode cX12_feed 27 = .ok (.ireturn, 1) := by decide +kernel
theorem dX12_feed_28 : decode cX12_feed 28 = .ok (.aload_n 0, 1) := by decide +kernel
theorem dX12_feed_29 : decode cX12_feed 29 = .ok (.getfield 9, 3) := by decide +kernel
theorem dX12_feed_32 : decode cX12_feed 32 = .ok (.sipush 132, 3) := by decide +kernel
theorem dX12_feed_35 : decode cX12_feed 35 = .ok (.aload_n 0, 1) := by decide +kernel
theorem dX12_feed_36 : decode cX12_feed 36 = .ok (.getfield 9, 3) := by decide +kernel
theorem dX12_feed_39 : decode cX12_feed 39 = .ok (.bipush 55, 2) := by decide +kernel
theorem dX12_feed_41 : decode cX12_feed 41 = .ok (.iaload, 1) := by decide +kernel
theorem dX12_feed_42 : decode cX12_feed 42 = .ok (.iadd, 1) := by decide +kernel
theorem dX12_feed_43 : decode cX12_feed 43 = .ok (.iload_n 1, 1) := by decide +kernel
theorem dX12_feed_44 : decode cX12_feed 44 = .ok (.iastore, 1) := by decide +kernel
theorem dX12_feed_45 : decode cX12_feed 45 = .ok (.aload_n 0, 1) := by decide +kernel
theorem dX12_feed_46 : decode cX12_feed 46 = .ok (.getfield 9, 3) := by decide +kernel
theorem dX12_feed_49 : decode cX12_feed 49 = .ok (.bipush 55, 2) := by decide +kernel
theorem dX12_feed_51 : decode cX12_feed 51 = .ok (.dup2, 1) := by decide +kernel
theorem dX12_feed_52 : decode cX12_feed 52 = .ok (.iaload, 1) := by decide +kernel
theorem dX12_feed_53 : decode cX12_feed 53 = .ok (.iconst 1, 1) := by decide +kernel
theorem dX12_feed_54 : decode cX12_feed 54 = .ok (.iadd, 1) := by decide +kernel
theorem dX12_feed_55 : decode cX12_feed 55 = .ok (.iastore, 1) := by decide +kernel
theorem dX12_feed_56 : decode cX12_feed 56 = .ok (.aload_n 0, 1) := by decide +kernel
theorem dX12_feed_57 : decode cX12_feed 57 = .ok (.getfield 9, 3) := by decide +kernel
theorem dX12_feed_60 : decode cX12_feed 60 = .ok (.bipush 55, 2) := by decide +kernel
theorem dX12_feed_62 : decode cX12_feed 62 = .ok (.iaload, 1) := by decide +kernel
theorem dX12_feed_63 : decode cX12_feed 63 = .ok (.ireturn, 1) := by decide +kernel
theorem dX12_here_0 : decode cX12_here 0 = .ok (.aload_n 0, 1) := by decide +kernel
theorem dX12_here_1 : decode cX12_here 1 = .ok (.getfield 54, 3) := by decide +kernel
theorem dX12_here_4 : decode cX12_here 4 = .ok (.aload_n 0, 1) := by decide +kernel
theorem dX12_here_5 : decode cX12_here 5 = .ok (.getfield 57, 3) := by decide +kernel
theorem dX12_here_8 : decode cX12_here 8 = .ok (.if_icmp .ge 19, 3) := by decide +kernel
theorem dX12_here_11 : decode cX12_here 11 = .ok (.aload_n 0, 1) := by decide +kernel
theorem dX12_here_12 : decode cX12_here 12 = .ok (.getfield 9, 3) := by decide +kernel
theorem dX12_here_15 : decode cX12_here 15 = .ok (.sipush 132, 3) := by decide +kernel
theorem dX12_here_18 : decode cX12_here 18 = .ok (.aload_n 0, 1) := by decide +kernel
theorem dX12_here_19 : decode cX12_here 19 = .ok (.getfield 54, 3) := by decide +kernel
theorem dX12_here_22 : decode cX12_here 22 = .ok (.iadd, 1) := by decide +kernel
theorem dX12_here_23 : decode cX12_here 23 = .ok (.iaload, 1) := by decide +kernel
theorem dX12_here_24 : decode cX12_here 24 = .ok (.goto 4, 3) := by decide +kernel
theorem dX12_here_27 : decode cX12_here 27 = .ok (.iconst (-1), 1) := by decide +kernel
theorem dX12_here_28 : decode cX12_here 28 = .ok (.ireturn, 1) := by decide +kernel
set_option maxRecDepth 20000 in
theorem ggX12_must_X12_here : GoodIn wsX12_must wsX12_here := goodIn_r _ [7, 2, 8, 9, 10, 11, 12, 13, 14, 15, 16, 17, 18, 19, 20, 21, 22, 23, 24, 25, 26, 27, 28, 29, 30, 31] (by decide +kernel) (by decide +kernel)
set_option maxRecDepth 20000 in
theorem gX12_must_X12_here : GoodIn wsX12_must (wsV RX12 64 RX12 yX12_here wsX12_here) := goodIn_app (goodIn_of _ (by decide +kernel)) ggX12_must_X12_here
theorem dX12_must_0 : decode cX12_must 0 = .ok (.aload_n 0, 1) := by decide +kernel
theorem dX12_must_1 : decode cX12_must 1 = .ok (.aload_n 0, 1) := by decide +kernel
theorem dX12_must_2 : decode cX12_must 2 = .ok (.getfield 60, 3) := by decide +kernel
theorem dX12_must_5 : decode cX12_must 5 = .ok (.ifCond .ne 11, 3) := by decide +kernel
theorem dX12_must_8 : decode cX12_must 8 = .ok (.aload_n 0, 1) := by decide +kernel
theorem dX12_must_9 : decode cX12_must 9 = .ok (.invokevirtual 64, 3) := by decide +kernel
theorem dX12_must_12 : decode cX12_must 12 = .ok (.iload_n 1, 1) := by decide +kernel
theorem dX12_must_13 : decode cX12_must 13 = .ok (.if_icmp .eq 7, 3) := by decide +kernel
theorem dX12_must_16 : decode cX12_must 16 = .ok (.iconst 1, 1) := by decide +kernel
theorem dX12_must_17 : decode cX12_must 17 = .ok (.goto 4, 3) := by decide +kernel
theorem dX12_must_20 : decode cX12_must 20 = .ok (.iconst 0, 1) := by decide +kernel
theorem dX12_must_21 : decode cX12_must 21 = .ok (.putfield 60, 3) := by decide +kernel
theorem dX12_must_24 : decode cX12_must 24 = .ok (.aload_n 0, 1) := by decide +kernel
theorem dX12_must_25 : decode cX12_must 25 = .ok (.dup, 1) := by decide +kernel
theorem dX12_must_26 : decode cX12_must 26 = .ok (.getfield 54, 3) := by decide +kernel
theorem dX12_must_29 : decode cX12_must 29 = .ok (.aload_n 0, 1) := by decide +kernel
theorem dX12_must_30 : decode cX12_must 30 = .ok (.getfield 60, 3) := by decide +kernel
theorem dX12_must_33 : decode cX12_must 33 = .ok (.ifCond .eq 7, 3) := by decide +kernel
theorem dX12_must_36 : decode cX12_must 36 = .ok (.iconst 0, 1) := by decide +kernel
theorem dX12_must_37 : decode cX12_must 37 = .ok (.goto 4, 3) := by decide +kernel
theorem dX12_must_40 : decode cX12_must 40 = .ok (.iconst 1, 1) := by decide +kernel
theorem dX12_must_41 : decode cX12_must 41 = .ok (.iadd, 1) := by decide +kernel
theorem dX12_must_42 : decode cX12_must 42 = .ok (.putfield 54, 3) := by decide +kernel
theorem dX12_must_45 : decode cX12_must 45 = .ok (.return_, 1) := by decide +kernel
set_option maxRecDepth 20000 in
theorem ggX12_spells_J0_length_8abf5 : GoodIn wsX12_spells wsJ0_length_8abf5 := goodIn_r _ [5, 6, 7, 8, 9, 4, 10, 11, 12] (by decide +kernel) (by decide +kernel)
set_option maxRecDepth 20000 in
theorem gX12_spells_J0_length_8abf5 : GoodIn wsX12_spells (wsV RX12 68 RJ0 yJ0_length_8abf5 wsJ0_length_8abf5) := goodIn_app (goodIn_of _ (by decide +kernel)) ggX12_spells_J0_length_8abf5
set_option maxRecDepth 20000 in
theorem ggX12_spells_J0_charAt_5068e : GoodIn wsX12_spells wsJ0_charAt_5068e := goodIn_r _ [16, 6, 17, 18, 19, 4, 20, 11, 12, 21, 22, 23, 24, 25, 26, 27, 28, 29, 30, 31, 32, 33, 34, 35, 36, 37, 38, 39, 40, 41, 42, 43, 44, 45, 46, 47, 48, 49] (by decide +kernel) (by decide +kernel)
set_option maxRecDepth 20000 in
theorem gX12_spells_J0_charAt_5068e : GoodIn wsX12_spells (wsV RX12 73 RJ0 yJ0_charAt_5068e wsJ0_charAt_5068e) := goodIn_app (goodIn_of _ (by decide +kernel)) ggX12_spells_J0_charAt_5068e
set_option maxRecDepth 20000 in
theorem ggX12_spells_X12_must : GoodIn wsX12_spells wsX12_must := goodIn_r _ [54, 55, 56, 57, 58, 59, 53, 60, 61, 62, 63, 64, 65, 66, 67, 68, 69, 70, 71, 72, 73, 74, 75, 76, 77, 78, 79, 80, 81, 82, 83, 84] (by decide +kernel) (by decide +kernel)
set_option maxRecDepth 20000 in
theorem gX12_spells_X12_must : GoodIn wsX12_spells (wsV RX12 77 RX12 yX12_must wsX12_must) := goodIn_app (goodIn_of _ (by decide +kernel)) ggX12_spells_X12_must
theorem dX12_spells_0 : decode cX12_spells 0 = .ok (.iconst 0, 1) := by decide +kernel
theorem dX12_spells_1 : decode cX12_spells 1 = .ok (.istore_n 2, 1) := by decide +kernel
theorem dX12_spells_2 : decode cX12_spells 2 = .ok (.iload_n 2, 1) := by decide +kernel
theorem dX12_spells_3 : decode cX12_spells 3 = .ok (.aload_n 1, 1) := by decide +kernel
theorem dX12_spells_4 : decode cX12_spells 4 = .ok (.invokevirtual 68, 3) := by decide +kernel
theorem dX12_spells_7 : decode cX12_spells 7 = .ok (.if_icmp .ge 18, 3) := by decide +kernel
theorem dX12_spells_10 : decode cX12_spells 10 = .ok (.aload_n 0, 1) := by decide +kernel
theorem dX12_spells_11 : decode cX12_spells 11 = .ok (.aload_n 1, 1) := by decide +kernel
theorem dX12_spells_12 : decode cX12_spells 12 = .ok (.iload_n 2, 1) := by decide +kernel
theorem dX12_spells_13 : decode cX12_spells 13 = .ok (.invokevirtual 73, 3) := by decide +kernel
theorem dX12_spells_16 : decode cX12_spells 16 = .ok (.invokevirtual 77, 3) := by decide +kernel
theorem dX12_spells_19 : decode cX12_spells 19 = .ok (.iinc 2 1, 3) := by decide +kernel
theorem dX12_spells_22 : decode cX12_spells 22 = .ok (.goto (-20), 3) := by decide +kernel
theorem dX12_spells_25 : decode cX12_spells 25 = .ok (.return_, 1) := by decide +kernel
set_option maxRecDepth 20000 in
theorem ggX12_figures_X12_here : GoodIn wsX12_figures wsX12_here := goodIn_r _ [7, 2, 8, 9, 13, 14, 15, 16, 17, 18, 19, 20, 21, 22, 23, 24, 25, 26, 27, 28, 29, 30, 31, 32, 33, 34] (by decide +kernel) (by decide +kernel)
set_option maxRecDepth 20000 in
theorem gX12_figures_X12_here : GoodIn wsX12_figures (wsV RX12 64 RX12 yX12_here wsX12_here) := goodIn_app (goodIn_of _ (by decide +kernel)) ggX12_figures_X12_here
set_option maxRecDepth 20000 in
theorem ggX12_figures_X12_in : GoodIn wsX12_figures wsX12_in := goodIn_r _ [12] (by decide +kernel) (by decide +kernel)
set_option maxRecDepth 20000 in
theorem gX12_figures_X12_in : GoodIn wsX12_figures (va_wsS RX12 50 yX12_in wsX12_in) := goodIn_app (goodIn_of _ (by decide +kernel)) ggX12_figures_X12_in
theorem dX12_figures_0 : decode cX12_figures 0 = .ok (.aload_n 0, 1) := by decide +kernel
theorem dX12_figures_1 : decode cX12_figures 1 = .ok (.aload_n 0, 1) := by decide +kernel
theorem dX12_figures_2 : decode cX12_figures 2 = .ok (.getfield 60, 3) := by decide +kernel
theorem dX12_figures_5 : decode cX12_figures 5 = .ok (.ifCond .ne 17, 3) := by decide +kernel
theorem dX12_figures_8 : decode cX12_figures 8 = .ok (.aload_n 0, 1) := by decide +kernel
theorem dX12_figures_9 : decode cX12_figures 9 = .ok (.invokevirtual 64, 3) := by decide +kernel
theorem dX12_figures_12 : decode cX12_figures 12 = .ok (.bipush 48, 2) := by decide +kernel
theorem dX12_figures_14 : decode cX12_figures 14 = .ok (.bipush 57, 2) := by decide +kernel
theorem dX12_figures_16 : decode cX12_figures 16 = .ok (.invokestatic 50, 3) := by decide +kernel
theorem dX12_figures_19 : decode cX12_figures 19 = .ok (.ifCond .ne 7, 3) := by decide +kernel
theorem dX12_figures_22 : decode cX12_figures 22 = .ok (.iconst 1, 1) := by decide +kernel
theorem dX12_figures_23 : decode cX12_figures 23 = .ok (.goto 4, 3) := by decide +kernel
theorem dX12_figures_26 : decode cX12_figures 26 = .ok (.iconst 0, 1) := by decide +kernel
theorem dX12_figures_27 : decode cX12_figures 27 = .ok (.putfield 60, 3) := by decide +kernel
theorem dX12_figures_30 : decode cX12_figures 30 = .ok (.iconst 0, 1) := by decide +kernel
theorem dX12_figures_31 : decode cX12_figures 31 = .ok (.istore_n 1, 1) := by decide +kernel
theorem dX12_figures_32 : decode cX12_figures 32 = .ok (.iconst 0, 1) := by decide +kernel
theorem dX12_figures_33 : decode cX12_figures 33 = .ok (.istore_n 2, 1) := by decide +kernel
theorem dX12_figures_34 : decode cX12_figures 34 = .ok (.iload_n 2, 1) := by decide +kernel
theorem dX12_figures_35 : decode cX12_figures 35 = .ok (.iconst 2, 1) := by decide +kernel
theorem dX12_figures_36 : decode cX12_figures 36 = .ok (.if_icmp .ge 61, 3) := by decide +kernel
theorem dX12_figures_39 : decode cX12_figures 39 = .ok (.aload_n 0, 1) := by decide +kernel
theorem dX12_figures_40 : decode cX12_figures 40 = .ok (.getfield 60, 3) := by decide +kernel
theorem dX12_figures_43 : decode cX12_figures 43 = .ok (.ifCond .ne 54, 3) := by decide +kernel
theorem dX12_figures_46 : decode cX12_figures 46 = .ok (.aload_n 0, 1) := by decide +kernel
theorem dX12_figures_47 : decode cX12_figures 47 = .ok (.invokevirtual 64, 3) := by decide +kernel
theorem dX12_figures_50 : decode cX12_figures 50 = .ok (.bipush 48, 2) := by decide +kernel
theorem dX12_figures_52 : decode cX12_figures 52 = .ok (.bipush 57, 2) := by decide +kernel
theorem dX12_figures_54 : decode cX12_figures 54 = .ok (.invokestatic 50, 3) := by decide +kernel
theorem dX12_figures_57 : decode cX12_figures 57 = .ok (.ifCond .eq 40, 3) := by decide +kernel
theorem dX12_figures_60 : decode cX12_figures 60 = .ok (.iload_n 2, 1) := by decide +kernel
theorem dX12_figures_61 : decode cX12_figures 61 = .ok (.ifCond .eq 7, 3) := by decide +kernel
theorem dX12_figures_64 : decode cX12_figures 64 = .ok (.iload_n 1, 1) := by decide +kernel
theorem dX12_figures_65 : decode cX12_figures 65 = .ok (.ifCond .le 32, 3) := by decide +kernel
theorem dX12_figures_68 : decode cX12_figures 68 = .ok (.bipush 10, 2) := by decide +kernel
theorem dX12_figures_70 : decode cX12_figures 70 = .ok (.iload_n 1, 1) := by decide +kernel
theorem dX12_figures_71 : decode cX12_figures 71 = .ok (.imul, 1) := by decide +kernel
theorem dX12_figures_72 : decode cX12_figures 72 = .ok (.aload_n 0, 1) := by decide +kernel
theorem dX12_figures_73 : decode cX12_figures 73 = .ok (.invokevirtual 64, 3) := by decide +kernel
theorem dX12_figures_76 : decode cX12_figures 76 = .ok (.iadd, 1) := by decide +kernel
theorem dX12_figures_77 : decode cX12_figures 77 = .ok (.bipush 48, 2) := by decide +kernel
theorem dX12_figures_79 : decode cX12_figures 79 = .ok (.isub, 1) := by decide +kernel
theorem dX12_figures_80 : decode cX12_figures 80 = .ok (.istore_n 1, 1) := by decide +kernel
theorem dX12_figures_81 : decode cX12_figures 81 = .ok (.aload_n 0, 1) := by decide +kernel
theorem dX12_figures_82 : decode cX12_figures 82 = .ok (.dup, 1) := by decide +kernel
theorem dX12_figures_83 : decode cX12_figures 83 = .ok (.getfield 54, 3) := by decide +kernel
theorem dX12_figures_86 : decode cX12_figures 86 = .ok (.iconst 1, 1) := by decide +kernel
theorem dX12_figures_87 : decode cX12_figures 87 = .ok (.iadd, 1) := by decide +kernel
theorem dX12_figures_88 : decode cX12_figures 88 = .ok (.putfield 54, 3) := by decide +kernel
theorem dX12_figures_91 : decode cX12_figures 91 = .ok (.iinc 2 1, 3) := by decide +kernel
theorem dX12_figures_94 : decode cX12_figures 94 = .ok (.goto (-60), 3) := by decide +kernel
theorem dX12_figures_97 : decode cX12_figures 97 = .ok (.iload_n 1, 1) := by decide +kernel
theorem dX12_figures_98 : decode cX12_figures 98 = .ok (.ireturn, 1) := by decide +kernel
set_option maxRecDepth 20000 in
theorem ggX12_among_J0_length_8abf5 : GoodIn wsX12_among wsJ0_length_8abf5 := goodIn_r _ [6, 7, 8, 9, 10, 5, 11, 12, 13] (by decide +kernel) (by decide +kernel)
set_option maxRecDepth 20000 in
theorem gX12_among_J0_length_8abf5 : GoodIn wsX12_among (wsV RX12 68 RJ0 yJ0_length_8abf5 wsJ0_length_8abf5) := goodIn_app (goodIn_of _ (by decide +kernel)) ggX12_among_J0_length_8abf5
set_option maxRecDepth 20000 in
theorem ggX12_among_X12_here : GoodIn wsX12_among wsX12_here := goodIn_r _ [18, 1, 19, 20, 58, 59, 60, 61, 62, 63, 64, 65, 66, 67, 68, 69, 70, 71, 72, 73, 74, 75, 76, 77, 78, 79] (by decide +kernel) (by decide +kernel)
set_option maxRecDepth 20000 in
theorem gX12_among_X12_here : GoodIn wsX12_among (wsV RX12 64 RX12 yX12_here wsX12_here) := goodIn_app (goodIn_of _ (by decide +kernel)) ggX12_among_X12_here
set_option maxRecDepth 20000 in
theorem ggX12_among_J0_charAt_5068e : GoodIn wsX12_among wsJ0_charAt_5068e := goodIn_r _ [24, 7, 25, 26, 27, 5, 28, 12, 13, 29, 30, 31, 32, 33, 34, 35, 36, 37, 38, 39, 40, 41, 42, 43, 44, 45, 46, 47, 48, 49, 50, 51, 52, 53, 54, 55, 56, 57] (by decide +kernel) (by decide +kernel)
set_option maxRecDepth 20000 in
theorem gX12_among_J0_charAt_5068e : GoodIn wsX12_among (wsV RX12 73 RJ0 yJ0_charAt_5068e wsJ0_charAt_5068e) := goodIn_app (goodIn_of _ (by decide +kernel)) ggX12_among_J0_charAt_5068e
theorem dX12_among_0 : decode cX12_among 0 = .ok (.iconst 0, 1) := by decide +kernel
theorem dX12_among_1 : decode cX12_among 1 = .ok (.istore_n 2, 1) := by decide +kernel
theorem dX12_among_2 : decode cX12_among 2 = .ok (.iload_n 2, 1) := by decide +kernel
theorem dX12_among_3 : decode cX12_among 3 = .ok (.aload_n 1, 1) := by decide +kernel
theorem dX12_among_4 : decode cX12_among 4 = .ok (.invokevirtual 68, 3) := by decide +kernel
theorem dX12_among_7 : decode cX12_among 7 = .ok (.if_icmp .ge 33, 3) := by decide +kernel
theorem dX12_among_10 : decode cX12_among 10 = .ok (.aload_n 0, 1) := by decide +kernel
theorem dX12_among_11 : decode cX12_among 11 = .ok (.invokevirtual 64, 3) := by decide +kernel
theorem dX12_among_14 : decode cX12_among 14 = .ok (.aload_n 1, 1) := by decide +kernel
theorem dX12_among_15 : decode cX12_among 15 = .ok (.iload_n 2, 1) := by decide +kernel
theorem dX12_among_16 : decode cX12_among 16 = .ok (.invokevirtual 73, 3) := by decide +kernel
theorem dX12_among_19 : decode cX12_among 19 = .ok (.if_icmp .ne 15, 3) := by decide +kernel
theorem dX12_among_22 : decode cX12_among 22 = .ok (.aload_n 0, 1) := by decide +kernel
theorem dX12_among_23 : decode cX12_among 23 = .ok (.dup, 1) := by decide +kernel
theorem dX12_among_24 : decode cX12_among 24 = .ok (.getfield 54, 3) := by decide +kernel
theorem dX12_among_27 : decode cX12_among 27 = .ok (.iconst 1, 1) := by decide +kernel
theorem dX12_among_28 : decode cX12_among 28 = .ok (.iadd, 1) := by decide +kernel
theorem dX12_among_29 : decode cX12_among 29 = .ok (.putfield 54, 3) := by decide +kernel
theorem dX12_among_32 : decode cX12_among 32 = .ok (.iload_n 2, 1) := by decide +kernel
theorem dX12_among_33 : decode cX12_among 33 = .ok (.ireturn, 1) := by decide +kernel
theorem dX12_among_34 : decode cX12_among 34 = .ok (.iinc 2 1, 3) := by decide +kernel
theorem dX12_among_37 : decode cX12_among 37 = .ok (.goto (-35), 3) := by decide +kernel
theorem dX12_among_40 : decode cX12_among 40 = .ok (.iconst (-1), 1) := by decide +kernel
theorem dX12_among_41 : decode cX12_among 41 = .ok (.ireturn, 1) := by decide +kernel
theorem dX12_emits_0 : decode cX12_emits 0 = .ok (.aload_n 0, 1) := by decide +kernel
theorem dX12_emits_1 : decode cX12_emits 1 = .ok (.getfield 60, 3) := by decide +kernel
theorem dX12_emits_4 : decode cX12_emits 4 = .ok (.ifCond .ne 52, 3) := by decide +kernel
theorem dX12_emits_7 : decode cX12_emits 7 = .ok (.aload_n 0, 1) := by decide +kernel
theorem dX12_emits_8 : decode cX12_emits 8 = .ok (.getfield 9, 3) := by decide +kernel
theorem dX12_emits_11 : decode cX12_emits 11 = .ok (.sipush 252, 3) := by decide +kernel
theorem dX12_emits_14 : decode cX12_emits 14 = .ok (.sipush 140, 3) := by decide +kernel
theorem dX12_emits_17 : decode cX12_emits 17 = .ok (.aload_n 0, 1) := by decide +kernel
theorem dX12_emits_18 : decode cX12_emits 18 = .ok (.getfield 81, 3) := by decide +kernel
theorem dX12_emits_21 : decode cX12_emits 21 = .ok (.imul, 1) := by decide +kernel
theorem dX12_emits_22 : decode cX12_emits 22 = .ok (.iadd, 1) := by decide +kernel
theorem dX12_emits_23 : decode cX12_emits 23 = .ok (.aload_n 0, 1) := by decide +kernel
theorem dX12_emits_24 : decode cX12_emits 24 = .ok (.getfield 9, 3) := by decide +kernel
theorem dX12_emits_27 : decode cX12_emits 27 = .ok (.sipush 247, 3) := by decide +kernel
theorem dX12_emits_30 : decode cX12_emits 30 = .ok (.aload_n 0, 1) := by decide +kernel
theorem dX12_emits_31 : decode cX12_emits 31 = .ok (.getfield 81, 3) := by decide +kernel
theorem dX12_emits_34 : decode cX12_emits 34 = .ok (.iadd, 1) := by decide +kernel
theorem dX12_emits_35 : decode cX12_emits 35 = .ok (.iaload, 1) := by decide +kernel
theorem dX12_emits_36 : decode cX12_emits 36 = .ok (.iadd, 1) := by decide +kernel
theorem dX12_emits_37 : decode cX12_emits 37 = .ok (.iload_n 1, 1) := by decide +kernel
theorem dX12_emits_38 : decode cX12_emits 38 = .ok (.iastore, 1) := by decide +kernel
theorem dX12_emits_39 : decode cX12_emits 39 = .ok (.aload_n 0, 1) := by decide +kernel
theorem dX12_emits_40 : decode cX12_emits 40 = .ok (.getfield 9, 3) := by decide +kernel
theorem dX12_emits_43 : decode cX12_emits 43 = .ok (.sipush 247, 3) := by decide +kernel
theorem dX12_emits_46 : decode cX12_emits 46 = .ok (.aload_n 0, 1) := by decide +kernel
theorem dX12_emits_47 : decode cX12_emits 47 = .ok (.getfield 81, 3) := by decide +kernel
theorem dX12_emits_50 : decode cX12_emits 50 = .ok (.iadd, 1) := by decide +kernel
theorem dX12_emits_51 : decode cX12_emits 51 = .ok (.dup2, 1) := by decide +kernel
theorem dX12_emits_52 : decode cX12_emits 52 = .ok (.iaload, 1) := by decide +kernel
theorem dX12_emits_53 : decode cX12_emits 53 = .ok (.iconst 1, 1) := by decide +kernel
theorem dX12_emits_54 : decode cX12_emits 54 = .ok (.iadd, 1) := by decide +kernel
theorem dX12_emits_55 : decode cX12_emits 55 = .ok (.iastore, 1) := by decide +kernel
theorem dX12_emits_56 : decode cX12_emits 56 = .ok (.return_, 1) := by decide +kernel
set_option maxRecDepth 20000 in
theorem ggX12_factor_X12_here : GoodIn wsX12_factor wsX12_here := goodIn_r _ [8, 3, 9, 10, 91, 92, 93, 94, 95, 96, 97, 98, 99, 100, 101, 102, 103, 104, 105, 106, 107, 108, 109, 110, 111, 112] (by decide +kernel) (by decide +kernel)
set_option maxRecDepth 20000 in
theorem gX12_factor_X12_here : GoodIn wsX12_factor (wsV RX12 64 RX12 yX12_here wsX12_here) := goodIn_app (goodIn_of _ (by decide +kernel)) ggX12_factor_X12_here
set_option maxRecDepth 20000 in
theorem ggX12_factor_X12_factor : GoodIn wsX12_factor wsX12_factor := goodIn_r _ [0, 1, 2, 3, 4, 5, 6, 7, 8, 9, 10, 11, 12, 13, 14, 15, 16, 17, 18, 19, 20, 21, 22, 23, 24, 25, 26, 27, 28, 29, 30, 31, 32, 33, 34, 35, 36, 37, 38, 39, 40, 41, 42, 43, 44, 45, 46, 47, 48, 49, 50, 51, 52, 53, 54, 55, 56, 57, 58, 59, 60, 61, 62, 63, 64, 65, 66, 67, 68, 69, 70, 71, 72, 73, 74, 75, 76, 77, 78, 79, 80, 81, 82, 83, 84, 85, 86, 87, 88, 89, 90, 91, 92, 93, 94, 95, 96, 97, 98, 99, 100, 101, 102, 103, 104, 105, 106, 107, 108, 109, 110, 111, 112] (by decide +kernel) (by decide +kernel)
set_option maxRecDepth 20000 in
theorem gX12_factor_X12_factor : GoodIn wsX12_factor (wsV RX12 87 RX12 yX12_factor wsX12_factor) := goodIn_app (goodIn_of _ (by decide +kernel)) ggX12_factor_X12_factor
set_option maxRecDepth 20000 in
theorem ggX12_factor_X12_emits : GoodIn wsX12_factor wsX12_emits := goodIn_r _ [17, 1, 10, 18, 91, 92, 93, 94, 95, 96, 97, 98, 99, 100, 101, 102, 103, 104, 105, 106, 107, 108, 109, 110, 111, 112] (by decide +kernel) (by decide +kernel)
set_option maxRecDepth 20000 in
theorem gX12_factor_X12_emits : GoodIn wsX12_factor (wsV RX12 90 RX12 yX12_emits wsX12_emits) := goodIn_app (goodIn_of _ (by decide +kernel)) ggX12_factor_X12_emits
set_option maxRecDepth 20000 in
theorem ggX12_factor_X12_some : GoodIn wsX12_factor wsX12_some := goodIn_r _ [87, 1, 3, 88, 89, 90, 7, 4, 5, 6, 8, 9, 10, 14, 15, 16, 17, 18, 86, 11, 12, 13, 0, 2, 19, 20, 21, 22, 23, 24, 25, 26, 27, 28, 29, 30, 31, 32, 33, 34, 35, 36, 37, 38, 39, 40, 41, 42, 43, 44, 45, 46, 47, 48, 49, 50, 51, 52, 53, 54, 55, 56, 57, 58, 59, 60, 61, 62, 63, 64, 65, 66, 67, 68, 69, 70, 71, 72, 73, 74, 75, 76, 77, 78, 79, 80, 81, 82, 83, 84, 85, 91, 92, 93, 94, 95, 96, 97, 98, 99, 100, 101, 102, 103, 104, 105, 106, 107, 108, 109, 110, 111, 112] (by decide +kernel) (by decide +kernel)
set_option maxRecDepth 20000 in
theorem gX12_factor_X12_some : GoodIn wsX12_factor (wsV RX12 93 RX12 yX12_some wsX12_some) := goodIn_app (goodIn_of _ (by decide +kernel)) ggX12_factor_X12_some
set_option maxRecDepth 20000 in
theorem ggX12_factor_X12_must : GoodIn wsX12_factor wsX12_must := goodIn_r _ [25, 1, 3, 4, 5, 6, 7, 8, 9, 10, 91, 92, 93, 94, 95, 96, 97, 98, 99, 100, 101, 102, 103, 104, 105, 106, 107, 108, 109, 110, 111, 112] (by decide +kernel) (by decide +kernel)
set_option maxRecDepth 20000 in
theorem gX12_factor_X12_must : GoodIn wsX12_factor (wsV RX12 77 RX12 yX12_must wsX12_must) := goodIn_app (goodIn_of _ (by decide +kernel)) ggX12_factor_X12_must
set_option maxRecDepth 20000 in
theorem ggX12_factor_X12_among : GoodIn wsX12_factor wsX12_among := goodIn_r _ [29, 3, 30, 31, 32, 33, 34, 35, 36, 37, 38, 39, 40, 41, 4, 5, 6, 7, 8, 9, 10, 42, 43, 44, 45, 46, 47, 48, 49, 50, 51, 52, 53, 54, 55, 56, 57, 58, 59, 60, 61, 62, 63, 64, 65, 66, 67, 68, 69, 70, 71, 72, 73, 74, 75, 76, 77, 78, 91, 92, 93, 94, 95, 96, 97, 98, 99, 100, 101, 102, 103, 104, 105, 106, 107, 108, 109, 110, 111, 112] (by decide +kernel) (by decide +kernel)
set_option maxRecDepth 20000 in
theorem gX12_factor_X12_among : GoodIn wsX12_factor (wsV RX12 98 RX12 yX12_among wsX12_among) := goodIn_app (goodIn_of _ (by decide +kernel)) ggX12_factor_X12_among
set_option maxRecDepth 20000 in
theorem ggX12_factor_X12_figures : GoodIn wsX12_factor wsX12_figures := goodIn_r _ [82, 1, 3, 4, 5, 6, 7, 8, 9, 10, 83, 84, 85, 91, 92, 93, 94, 95, 96, 97, 98, 99, 100, 101, 102, 103, 104, 105, 106, 107, 108, 109, 110, 111, 112] (by decide +kernel) (by decide +kernel)
set_option maxRecDepth 20000 in
theorem gX12_factor_X12_figures : GoodIn wsX12_factor (wsV RX12 104 RX12 yX12_figures wsX12_figures) := goodIn_app (goodIn_of _ (by decide +kernel)) ggX12_factor_X12_figures
theorem dX12_factor_0 : decode cX12_factor 0 = .ok (.aload_n 0, 1) := by decide +kernel
theorem dX12_factor_1 : decode cX12_factor 1 = .ok (.getfield 60, 3) := by decide +kernel
theorem dX12_factor_4 : decode cX12_factor 4 = .ok (.ifCond .eq 4, 3) := by decide +kernel
theorem dX12_factor_7 : decode cX12_factor 7 = .ok (.return_, 1) := by decide +kernel
theorem dX12_factor_8 : decode cX12_factor 8 = .ok (.aload_n 0, 1) := by decide +kernel
theorem dX12_factor_9 : decode cX12_factor 9 = .ok (.invokevirtual 64, 3) := by decide +kernel
theorem dX12_factor_12 : decode cX12_factor 12 = .ok (.istore_n 1, 1) := by decide +kernel
theorem dX12_factor_13 : decode cX12_factor 13 = .ok (.iload_n 1, 1) := by decide +kernel
theorem dX12_factor_14 : decode cX12_factor 14 = .ok (.bipush 33, 2) := by decide +kernel
theorem dX12_factor_16 : decode cX12_factor 16 = .ok (.if_icmp .eq 9, 3) := by decide +kernel
theorem dX12_factor_19 : decode cX12_factor 19 = .ok (.iload_n 1, 1) := by decide +kernel
theorem dX12_factor_20 : decode cX12_factor 20 = .ok (.bipush 40, 2) := by decide +kernel
theorem dX12_factor_22 : decode cX12_factor 22 = .ok (.if_icmp .ne 90, 3) := by decide +kernel
theorem dX12_factor_25 : decode cX12_factor 25 = .ok (.aload_n 0, 1) := by decide +kernel
theorem dX12_factor_26 : decode cX12_factor 26 = .ok (.aload_n 0, 1) := by decide +kernel
theorem dX12_factor_27 : decode cX12_factor 27 = .ok (.getfield 84, 3) := by decide +kernel
theorem dX12_factor_30 : decode cX12_factor 30 = .ok (.iconst 5, 1) := by decide +kernel
theorem dX12_factor_31 : decode cX12_factor 31 = .ok (.if_icmp .ne 7, 3) := by decide +kernel
theorem dX12_factor_34 : decode cX12_factor 34 = .ok (.iconst 1, 1) := by decide +kernel
theorem dX12_factor_35 : decode cX12_factor 35 = .ok (.goto 4, 3) := by decide +kernel
theorem dX12_factor_38 : decode cX12_factor 38 = .ok (.iconst 0, 1) := by decide +kernel
theorem dX12_factor_39 : decode cX12_factor 39 = .ok (.putfield 60, 3) := by decide +kernel
theorem dX12_factor_42 : decode cX12_factor 42 = .ok (.aload_n 0, 1) := by decide +kernel
theorem dX12_factor_43 : decode cX12_factor 43 = .ok (.dup, 1) := by decide +kernel
theorem dX12_factor_44 : decode cX12_factor 44 = .ok (.getfield 84, 3) := by decide +kernel
theorem dX12_factor_47 : decode cX12_factor 47 = .ok (.iconst 1, 1) := by decide +kernel
theorem dX12_factor_48 : decode cX12_factor 48 = .ok (.iadd, 1) := by decide +kernel
theorem dX12_factor_49 : decode cX12_factor 49 = .ok (.putfield 84, 3) := by decide +kernel
theorem dX12_factor_52 : decode cX12_factor 52 = .ok (.aload_n 0, 1) := by decide +kernel
theorem dX12_factor_53 : decode cX12_factor 53 = .ok (.dup, 1) := by decide +kernel
theorem dX12_factor_54 : decode cX12_factor 54 = .ok (.getfield 54, 3) := by decide +kernel
theorem dX12_factor_57 : decode cX12_factor 57 = .ok (.aload_n 0, 1) := by decide +kernel
theorem dX12_factor_58 : decode cX12_factor 58 = .ok (.getfield 60, 3) := by decide +kernel
theorem dX12_factor_61 : decode cX12_factor 61 = .ok (.ifCond .eq 7, 3) := by decide +kernel
theorem dX12_factor_64 : decode cX12_factor 64 = .ok (.iconst 0, 1) := by decide +kernel
theorem dX12_factor_65 : decode cX12_factor 65 = .ok (.goto 4, 3) := by decide +kernel
theorem dX12_factor_68 : decode cX12_factor 68 = .ok (.iconst 1, 1) := by decide +kernel
theorem dX12_factor_69 : decode cX12_factor 69 = .ok (.iadd, 1) := by decide +kernel
theorem dX12_factor_70 : decode cX12_factor 70 = .ok (.putfield 54, 3) := by decide +kernel
theorem dX12_factor_73 : decode cX12_factor 73 = .ok (.iload_n 1, 1) := by decide +kernel
theorem dX12_factor_74 : decode cX12_factor 74 = .ok (.bipush 33, 2) := by decide +kernel
theorem dX12_factor_76 : decode cX12_factor 76 = .ok (.if_icmp .ne 15, 3) := by decide +kernel
theorem dX12_factor_79 : decode cX12_factor 79 = .ok (.aload_n 0, 1) := by decide +kernel
theorem dX12_factor_80 : decode cX12_factor 80 = .ok (.invokevirtual 87, 3) := by decide +kernel
theorem dX12_factor_83 : decode cX12_factor 83 = .ok (.aload_n 0, 1) := by decide +kernel
theorem dX12_factor_84 : decode cX12_factor 84 = .ok (.iconst (-1), 1) := by decide +kernel
theorem dX12_factor_85 : decode cX12_factor 85 = .ok (.invokevirtual 90, 3) := by decide +kernel
theorem dX12_factor_88 : decode cX12_factor 88 = .ok (.goto 13, 3) := by decide +kernel
theorem dX12_factor_91 : decode cX12_factor 91 = .ok (.aload_n 0, 1) := by decide +kernel
theorem dX12_factor_92 : decode cX12_factor 92 = .ok (.invokevirtual 93, 3) := by decide +kernel
theorem dX12_factor_95 : decode cX12_factor 95 = .ok (.aload_n 0, 1) := by decide +kernel
theorem dX12_factor_96 : decode cX12_factor 96 = .ok (.bipush 41, 2) := by decide +kernel
theorem dX12_factor_98 : decode cX12_factor 98 = .ok (.invokevirtual 77, 3) := by decide +kernel
theorem dX12_factor_101 : decode cX12_factor 101 = .ok (.aload_n 0, 1) := by decide +kernel
theorem dX12_factor_102 : decode cX12_factor 102 = .ok (.dup, 1) := by decide +kernel
theorem dX12_factor_103 : decode cX12_factor 103 = .ok (.getfield 84, 3) := by decide +kernel
theorem dX12_factor_106 : decode cX12_factor 106 = .ok (.iconst 1, 1) := by decide +kernel
theorem dX12_factor_107 : decode cX12_factor 107 = .ok (.isub, 1) := by decide +kernel
theorem dX12_factor_108 : decode cX12_factor 108 = .ok (.putfield 84, 3) := by decide +kernel
theorem dX12_factor_111 : decode cX12_factor 111 = .ok (.return_, 1) := by decide +kernel
theorem dX12_factor_112 : decode cX12_factor 112 = .ok (.aload_n 0, 1) := by decide +kernel
theorem dX12_factor_113 : decode cX12_factor 113 = .ok (.ldc 96, 2) := by decide +kernel
theorem dX12_factor_115 : decode cX12_factor 115 = .ok (.invokevirtual 98, 3) := by decide +kernel
theorem dX12_factor_118 : decode cX12_factor 118 = .ok (.istore_n 2, 1) := by decide +kernel
theorem dX12_factor_119 : decode cX12_factor 119 = .ok (.aload_n 0, 1) := by decide +kernel
theorem dX12_factor_120 : decode cX12_factor 120 = .ok (.iload_n 2, 1) := by decide +kernel
theorem dX12_factor_121 : decode cX12_factor 121 = .ok (.iconst (-1), 1) := by decide +kernel
theorem dX12_factor_122 : decode cX12_factor 122 = .ok (.if_icmp .ne 7, 3) := by decide +kernel
theorem dX12_factor_125 : decode cX12_factor 125 = .ok (.iconst 1, 1) := by decide +kernel
theorem dX12_factor_126 : decode cX12_factor 126 = .ok (.goto 4, 3) := by decide +kernel
theorem dX12_factor_129 : decode cX12_factor 129 = .ok (.iconst 0, 1) := by decide +kernel
theorem dX12_factor_130 : decode cX12_factor 130 = .ok (.putfield 60, 3) := by decide +kernel
theorem dX12_factor_133 : decode cX12_factor 133 = .ok (.aload_n 0, 1) := by decide +kernel
theorem dX12_factor_134 : decode cX12_factor 134 = .ok (.getfield 60, 3) := by decide +kernel
theorem dX12_factor_137 : decode cX12_factor 137 = .ok (.ifCond .eq 7, 3) := by decide +kernel
theorem dX12_factor_140 : decode cX12_factor 140 = .ok (.iconst 0, 1) := by decide +kernel
theorem dX12_factor_141 : decode cX12_factor 141 = .ok (.goto 9, 3) := by decide +kernel
theorem dX12_factor_144 : decode cX12_factor 144 = .ok (.aload_n 0, 1) := by decide +kernel
theorem dX12_factor_145 : decode cX12_factor 145 = .ok (.ldc 102, 2) := by decide +kernel
theorem dX12_factor_147 : decode cX12_factor 147 = .ok (.invokevirtual 98, 3) := by decide +kernel
theorem dX12_factor_150 : decode cX12_factor 150 = .ok (.istore_n 3, 1) := by decide +kernel
theorem dX12_factor_151 : decode cX12_factor 151 = .ok (.aload_n 0, 1) := by decide +kernel
theorem dX12_factor_152 : decode cX12_factor 152 = .ok (.aload_n 0, 1) := by decide +kernel
theorem dX12_factor_153 : decode cX12_factor 153 = .ok (.getfield 60, 3) := by decide +kernel
theorem dX12_factor_156 : decode cX12_factor 156 = .ok (.ifCond .ne 8, 3) := by decide +kernel
theorem dX12_factor_159 : decode cX12_factor 159 = .ok (.iload_n 3, 1) := by decide +kernel
theorem dX12_factor_160 : decode cX12_factor 160 = .ok (.iconst (-1), 1) := by decide +kernel
theorem dX12_factor_161 : decode cX12_factor 161 = .ok (.if_icmp .ne 7, 3) := by decide +kernel
theorem dX12_factor_164 : decode cX12_factor 164 = .ok (.iconst 1, 1) := by decide +kernel
theorem dX12_factor_165 : decode cX12_factor 165 = .ok (.goto 4, 3) := by decide +kernel
theorem dX12_factor_168 : decode cX12_factor 168 = .ok (.iconst 0, 1) := by decide +kernel
theorem dX12_factor_169 : decode cX12_factor 169 = .ok (.putfield 60, 3) := by decide +kernel
theorem dX12_factor_172 : decode cX12_factor 172 = .ok (.aload_n 0, 1) := by decide +kernel
theorem dX12_factor_173 : decode cX12_factor 173 = .ok (.invokevirtual 104, 3) := by decide +kernel
theorem dX12_factor_176 : decode cX12_factor 176 = .ok (.istore 4, 2) := by decide +kernel
theorem dX12_factor_178 : decode cX12_factor 178 = .ok (.aload_n 0, 1) := by decide +kernel
theorem dX12_factor_179 : decode cX12_factor 179 = .ok (.iload_n 2, 1) := by decide +kernel
theorem dX12_factor_180 : decode cX12_factor 180 = .ok (.bipush 8, 2) := by decide +kernel
theorem dX12_factor_182 : decode cX12_factor 182 = .ok (.iload_n 3, 1) := by decide +kernel
theorem dX12_factor_183 : decode cX12_factor 183 = .ok (.imul, 1) := by decide +kernel
theorem dX12_factor_184 : decode cX12_factor 184 = .ok (.iadd, 1) := by decide +kernel
theorem dX12_factor_185 : decode cX12_factor 185 = .ok (.bipush 32, 2) := by decide +kernel
theorem dX12_factor_187 : decode cX12_factor 187 = .ok (.iload 4, 2) := by decide +kernel
theorem dX12_factor_189 : decode cX12_factor 189 = .ok (.imul, 1) := by decide +kernel
theorem dX12_factor_190 : decode cX12_factor 190 = .ok (.iadd, 1) := by decide +kernel
theorem dX12_factor_191 : decode cX12_factor 191 = .ok (.invokevirtual 90, 3) := by decide +kernel
theorem dX12_factor_194 : decode cX12_factor 194 = .ok (.return_, 1) := by decide +kernel
set_option maxRecDepth 20000 in
theorem ggX12_every_X12_factor : GoodIn wsX12_every wsX12_factor := goodIn_r _ [18, 1, 19, 2, 7, 8, 9, 6, 10, 11, 12, 3, 4, 5, 13, 14, 15, 16, 17, 20, 21, 22, 23, 24, 25, 26, 27, 28, 29, 30, 31, 32, 33, 34, 35, 36, 37, 38, 39, 40, 41, 42, 43, 44, 45, 46, 47, 48, 49, 50, 51, 52, 53, 54, 55, 56, 57, 58, 59, 60, 61, 62, 63, 64, 65, 66, 67, 68, 69, 70, 71, 72, 73, 74, 75, 76, 77, 78, 79, 80, 81, 82, 83, 84, 85, 86, 0, 87, 88, 89, 90, 91, 92, 93, 94, 95, 96, 97, 98, 99, 100, 101, 102, 103, 104, 105, 106, 107, 108, 109, 110, 111, 112] (by decide +kernel) (by decide +kernel)
set_option maxRecDepth 20000 in
theorem gX12_every_X12_factor : GoodIn wsX12_every (wsV RX12 87 RX12 yX12_factor wsX12_factor) := goodIn_app (goodIn_of _ (by decide +kernel)) ggX12_every_X12_factor
set_option maxRecDepth 20000 in
theorem ggX12_every_X12_here : GoodIn wsX12_every wsX12_here := goodIn_r _ [10, 2, 11, 12, 91, 92, 93, 94, 95, 96, 97, 98, 99, 100, 101, 102, 103, 104, 105, 106, 107, 108, 109, 110, 111, 112] (by decide +kernel) (by decide +kernel)
set_option maxRecDepth 20000 in
theorem gX12_every_X12_here : GoodIn wsX12_every (wsV RX12 64 RX12 yX12_here wsX12_here) := goodIn_app (goodIn_of _ (by decide +kernel)) ggX12_every_X12_here
set_option maxRecDepth 20000 in
theorem ggX12_every_X12_emits : GoodIn wsX12_every wsX12_emits := goodIn_r _ [16, 1, 12, 17, 91, 92, 93, 94, 95, 96, 97, 98, 99, 100, 101, 102, 103, 104, 105, 106, 107, 108, 109, 110, 111, 112] (by decide +kernel) (by decide +kernel)
set_option maxRecDepth 20000 in
theorem gX12_every_X12_emits : GoodIn wsX12_every (wsV RX12 90 RX12 yX12_emits wsX12_emits) := goodIn_app (goodIn_of _ (by decide +kernel)) ggX12_every_X12_emits
theorem dX12_every_0 : decode cX12_every 0 = .ok (.aload_n 0, 1) := by decide +kernel
theorem dX12_every_1 : decode cX12_every 1 = .ok (.invokevirtual 87, 3) := by decide +kernel
theorem dX12_every_4 : decode cX12_every 4 = .ok (.aload_n 0, 1) := by decide +kernel
theorem dX12_every_5 : decode cX12_every 5 = .ok (.getfield 60, 3) := by decide +kernel
theorem dX12_every_8 : decode cX12_every 8 = .ok (.ifCond .ne 35, 3) := by decide +kernel
theorem dX12_every_11 : decode cX12_every 11 = .ok (.aload_n 0, 1) := by decide +kernel
theorem dX12_every_12 : decode cX12_every 12 = .ok (.invokevirtual 64, 3) := by decide +kernel
theorem dX12_every_15 : decode cX12_every 15 = .ok (.bipush 38, 2) := by decide +kernel
theorem dX12_every_17 : decode cX12_every 17 = .ok (.if_icmp .ne 26, 3) := by decide +kernel
theorem dX12_every_20 : decode cX12_every 20 = .ok (.aload_n 0, 1) := by decide +kernel
theorem dX12_every_21 : decode cX12_every 21 = .ok (.dup, 1) := by decide +kernel
theorem dX12_every_22 : decode cX12_every 22 = .ok (.getfield 54, 3) := by decide +kernel
theorem dX12_every_25 : decode cX12_every 25 = .ok (.iconst 1, 1) := by decide +kernel
theorem dX12_every_26 : decode cX12_every 26 = .ok (.iadd, 1) := by decide +kernel
theorem dX12_every_27 : decode cX12_every 27 = .ok (.putfield 54, 3) := by decide +kernel
theorem dX12_every_30 : decode cX12_every 30 = .ok (.aload_n 0, 1) := by decide +kernel
theorem dX12_every_31 : decode cX12_every 31 = .ok (.invokevirtual 87, 3) := by decide +kernel
theorem dX12_every_34 : decode cX12_every 34 = .ok (.aload_n 0, 1) := by decide +kernel
theorem dX12_every_35 : decode cX12_every 35 = .ok (.bipush (-2), 2) := by decide +kernel
theorem dX12_every_37 : decode cX12_every 37 = .ok (.invokevirtual 90, 3) := by decide +kernel
theorem dX12_every_40 : decode cX12_every 40 = .ok (.goto (-36), 3) := by decide +kernel
theorem dX12_every_43 : decode cX12_every 43 = .ok (.return_, 1) := by decide +kernel
set_option maxRecDepth 20000 in
theorem ggX12_some_X12_every : GoodIn wsX12_some wsX12_every := goodIn_r _ [18, 1, 2, 19, 20, 21, 6, 7, 8, 9, 10, 11, 12, 13, 14, 15, 16, 17, 22, 23, 24, 25, 26, 27, 28, 29, 30, 31, 32, 33, 34, 35, 36, 37, 38, 39, 40, 41, 42, 43, 44, 45, 46, 47, 48, 49, 50, 51, 52, 53, 54, 55, 56, 57, 58, 59, 60, 61, 62, 63, 64, 65, 66, 67, 68, 69, 70, 71, 72, 73, 74, 75, 76, 77, 78, 79, 80, 81, 82, 83, 84, 85, 86, 87, 88, 89, 90, 0, 3, 4, 5, 91, 92, 93, 94, 95, 96, 97, 98, 99, 100, 101, 102, 103, 104, 105, 106, 107, 108, 109, 110, 111, 112] (by decide +kernel) (by decide +kernel)
set_option maxRecDepth 20000 in
theorem gX12_some_X12_every : GoodIn wsX12_some (wsV RX12 107 RX12 yX12_every wsX12_every) := goodIn_app (goodIn_of _ (by decide +kernel)) ggX12_some_X12_every
set_option maxRecDepth 20000 in
theorem ggX12_some_X12_here : GoodIn wsX12_some wsX12_here := goodIn_r _ [10, 2, 11, 12, 91, 92, 93, 94, 95, 96, 97, 98, 99, 100, 101, 102, 103, 104, 105, 106, 107, 108, 109, 110, 111, 112] (by decide +kernel) (by decide +kernel)
set_option maxRecDepth 20000 in
theorem gX12_some_X12_here : GoodIn wsX12_some (wsV RX12 64 RX12 yX12_here wsX12_here) := goodIn_app (goodIn_of _ (by decide +kernel)) ggX12_some_X12_here
set_option maxRecDepth 20000 in
theorem ggX12_some_X12_emits : GoodIn wsX12_some wsX12_emits := goodIn_r _ [16, 1, 12, 17, 91, 92, 93, 94, 95, 96, 97, 98, 99, 100, 101, 102, 103, 104, 105, 106, 107, 108, 109, 110, 111, 112] (by decide +kernel) (by decide +kernel)
set_option maxRecDepth 20000 in
theorem gX12_some_X12_emits : GoodIn wsX12_some (wsV RX12 90 RX12 yX12_emits wsX12_emits) := goodIn_app (goodIn_of _ (by decide +kernel)) ggX12_some_X12_emits
theorem dX12_some_0 : decode cX12_some 0 = .ok (.aload_n 0, 1) := by decide +kernel
theorem dX12_some_1 : decode cX12_some 1 = .ok (.invokevirtual 107, 3) := by decide +kernel
theorem dX12_some_4 : decode cX12_some 4 = .ok (.aload_n 0, 1) := by decide +kernel
theorem dX12_some_5 : decode cX12_some 5 = .ok (.getfield 60, 3) := by decide +kernel
theorem dX12_some_8 : decode cX12_some 8 = .ok (.ifCond .ne 35, 3) := by decide +kernel
theorem dX12_some_11 : decode cX12_some 11 = .ok (.aload_n 0, 1) := by decide +kernel
theorem dX12_some_12 : decode cX12_some 12 = .ok (.invokevirtual 64, 3) := by decide +kernel
theorem dX12_some_15 : decode cX12_some 15 = .ok (.bipush 124, 2) := by decide +kernel
theorem dX12_some_17 : decode cX12_some 17 = .ok (.if_icmp .ne 26, 3) := by decide +kernel
theorem dX12_some_20 : decode cX12_some 20 = .ok (.aload_n 0, 1) := by decide +kernel
theorem dX12_some_21 : decode cX12_some 21 = .ok (.dup, 1) := by decide +kernel
theorem dX12_some_22 : decode cX12_some 22 = .ok (.getfield 54, 3) := by decide +kernel
theorem dX12_some_25 : decode cX12_some 25 = .ok (.iconst 1, 1) := by decide +kernel
theorem dX12_some_26 : decode cX12_some 26 = .ok (.iadd, 1) := by decide +kernel
theorem dX12_some_27 : decode cX12_some 27 = .ok (.putfield 54, 3) := by decide +kernel
theorem dX12_some_30 : decode cX12_some 30 = .ok (.aload_n 0, 1) := by decide +kernel
theorem dX12_some_31 : decode cX12_some 31 = .ok (.invokevirtual 107, 3) := by decide +kernel
theorem dX12_some_34 : decode cX12_some 34 = .ok (.aload_n 0, 1) := by decide +kernel
theorem dX12_some_35 : decode cX12_some 35 = .ok (.bipush (-3), 2) := by decide +kernel
theorem dX12_some_37 : decode cX12_some 37 = .ok (.invokevirtual 90, 3) := by decide +kernel
theorem dX12_some_40 : decode cX12_some 40 = .ok (.goto (-36), 3) := by decide +kernel
theorem dX12_some_43 : decode cX12_some 43 = .ok (.return_, 1) := by decide +kernel
set_option maxRecDepth 20000 in
theorem ggX12_much_X12_spells : GoodIn wsX12_much wsX12_spells := goodIn_r _ [5, 6, 7, 8, 9, 10, 11, 12, 13, 14, 15, 16, 17, 18, 19, 20, 21, 22, 23, 24, 25, 26, 27, 28, 29, 30, 31, 32, 33, 34, 35, 36, 37, 38, 39, 40, 41, 42, 43, 44, 45, 46, 47, 48, 49, 50, 51, 52, 53, 54, 55, 56, 57, 4, 58, 59, 60, 61, 62, 63, 64, 65, 66, 96, 97, 98, 99, 100, 101, 102, 103, 104, 105, 106, 107, 108, 109, 110, 111, 112, 113, 114, 115, 116, 117] (by decide +kernel) (by decide +kernel)
set_option maxRecDepth 20000 in
theorem gX12_much_X12_spells : GoodIn wsX12_much (wsV RX12 110 RX12 yX12_spells wsX12_spells) := goodIn_app (goodIn_of _ (by decide +kernel)) ggX12_much_X12_spells
set_option maxRecDepth 20000 in
theorem ggX12_much_X12_figures : GoodIn wsX12_much wsX12_figures := goodIn_r _ [70, 59, 60, 61, 62, 63, 4, 64, 65, 66, 71, 72, 73, 96, 97, 98, 99, 100, 101, 102, 103, 104, 105, 106, 107, 108, 109, 110, 111, 112, 113, 114, 115, 116, 117] (by decide +kernel) (by decide +kernel)
set_option maxRecDepth 20000 in
theorem gX12_much_X12_figures : GoodIn wsX12_much (wsV RX12 104 RX12 yX12_figures wsX12_figures) := goodIn_app (goodIn_of _ (by decide +kernel)) ggX12_much_X12_figures
set_option maxRecDepth 20000 in
theorem ggX12_much_X12_must : GoodIn wsX12_much wsX12_must := goodIn_r _ [58, 59, 60, 61, 62, 63, 4, 64, 65, 66, 96, 97, 98, 99, 100, 101, 102, 103, 104, 105, 106, 107, 108, 109, 110, 111, 112, 113, 114, 115, 116, 117] (by decide +kernel) (by decide +kernel)
set_option maxRecDepth 20000 in
theorem gX12_much_X12_must : GoodIn wsX12_much (wsV RX12 77 RX12 yX12_must wsX12_must) := goodIn_app (goodIn_of _ (by decide +kernel)) ggX12_much_X12_must
set_option maxRecDepth 20000 in
theorem ggX12_much_X12_some : GoodIn wsX12_much wsX12_some := goodIn_r _ [77, 59, 60, 78, 79, 80, 4, 61, 62, 63, 64, 65, 66, 81, 82, 83, 84, 85, 86, 87, 88, 89, 90, 91, 74, 75, 76, 55, 56, 57, 58, 92, 93, 94, 95, 6, 7, 8, 9, 10, 11, 12, 13, 14, 15, 16, 17, 18, 19, 20, 21, 22, 23, 24, 25, 26, 27, 28, 29, 30, 31, 32, 33, 34, 35, 36, 37, 38, 39, 40, 41, 42, 43, 44, 45, 46, 47, 48, 49, 50, 51, 52, 53, 54, 67, 68, 69, 70, 71, 72, 73, 96, 97, 98, 99, 100, 101, 102, 103, 104, 105, 106, 107, 108, 109, 110, 111, 112, 113, 114, 115, 116, 117] (by decide +kernel) (by decide +kernel)
set_option maxRecDepth 20000 in
theorem gX12_much_X12_some : GoodIn wsX12_much (wsV RX12 93 RX12 yX12_some wsX12_some) := goodIn_app (goodIn_of _ (by decide +kernel)) ggX12_much_X12_some
set_option maxRecDepth 20000 in
theorem ggX12_much_X12_emits : GoodIn wsX12_much wsX12_emits := goodIn_r _ [84, 59, 66, 85, 96, 97, 98, 99, 100, 101, 102, 103, 104, 105, 106, 107, 108, 109, 110, 111, 112, 113, 114, 115, 116, 117] (by decide +kernel) (by decide +kernel)
set_option maxRecDepth 20000 in
theorem gX12_much_X12_emits : GoodIn wsX12_much (wsV RX12 90 RX12 yX12_emits wsX12_emits) := goodIn_app (goodIn_of _ (by decide +kernel)) ggX12_much_X12_emits
theorem dX12_much_0 : decode cX12_much 0 = .ok (.aload_n 0, 1) := by decide +kernel
theorem dX12_much_1 : decode cX12_much 1 = .ok (.aload_n 2, 1) := by decide +kernel
theorem dX12_much_2 : decode cX12_much 2 = .ok (.invokevirtual 110, 3) := by decide +kernel
theorem dX12_much_5 : decode cX12_much 5 = .ok (.aload_n 0, 1) := by decide +kernel
theorem dX12_much_6 : decode cX12_much 6 = .ok (.invokevirtual 104, 3) := by decide +kernel
theorem dX12_much_9 : decode cX12_much 9 = .ok (.istore_n 3, 1) := by decide +kernel
theorem dX12_much_10 : decode cX12_much 10 = .ok (.aload_n 0, 1) := by decide +kernel
theorem dX12_much_11 : decode cX12_much 11 = .ok (.bipush 32, 2) := by decide +kernel
theorem dX12_much_13 : decode cX12_much 13 = .ok (.invokevirtual 77, 3) := by decide +kernel
theorem dX12_much_16 : decode cX12_much 16 = .ok (.aload_n 0, 1) := by decide +kernel
theorem dX12_much_17 : decode cX12_much 17 = .ok (.invokevirtual 93, 3) := by decide +kernel
theorem dX12_much_20 : decode cX12_much 20 = .ok (.aload_n 0, 1) := by decide +kernel
theorem dX12_much_21 : decode cX12_much 21 = .ok (.iload_n 1, 1) := by decide +kernel
theorem dX12_much_22 : decode cX12_much 22 = .ok (.iload_n 3, 1) := by decide +kernel
theorem dX12_much_23 : decode cX12_much 23 = .ok (.isub, 1) := by decide +kernel
theorem dX12_much_24 : decode cX12_much 24 = .ok (.invokevirtual 90, 3) := by decide +kernel
theorem dX12_much_27 : decode cX12_much 27 = .ok (.return_, 1) := by decide +kernel
set_option maxRecDepth 20000 in
theorem ggX12_tellsHere_X12_spells : GoodIn wsX12_tellsHere wsX12_spells := goodIn_r _ [8, 9, 10, 11, 12, 13, 14, 15, 16, 17, 18, 19, 20, 21, 22, 23, 24, 25, 26, 27, 28, 29, 30, 31, 32, 33, 34, 35, 36, 37, 38, 39, 40, 41, 42, 43, 44, 45, 46, 47, 48, 49, 50, 51, 52, 53, 54, 55, 56, 57, 58, 59, 60, 7, 61, 1, 62, 63, 64, 65, 66, 67, 2, 75, 76, 77, 78, 79, 80, 81, 82, 83, 84, 85, 86, 87, 88, 89, 90, 91, 92, 93, 94, 95, 96] (by decide +kernel) (by decide +kernel)
set_option maxRecDepth 20000 in
theorem gX12_tellsHere_X12_spells : GoodIn wsX12_tellsHere (wsV RX12 110 RX12 yX12_spells wsX12_spells) := goodIn_app (goodIn_of _ (by decide +kernel)) ggX12_tellsHere_X12_spells
set_option maxRecDepth 20000 in
theorem ggX12_tellsHere_X12_figures : GoodIn wsX12_tellsHere wsX12_figures := goodIn_r _ [71, 1, 62, 63, 64, 65, 7, 66, 67, 2, 72, 73, 74, 75, 76, 77, 78, 79, 80, 81, 82, 83, 84, 85, 86, 87, 88, 89, 90, 91, 92, 93, 94, 95, 96] (by decide +kernel) (by decide +kernel)
set_option maxRecDepth 20000 in
theorem gX12_tellsHere_X12_figures : GoodIn wsX12_tellsHere (wsV RX12 104 RX12 yX12_figures wsX12_figures) := goodIn_app (goodIn_of _ (by decide +kernel)) ggX12_tellsHere_X12_figures
theorem dX12_tellsHere_0 : decode cX12_tellsHere 0 = .ok (.aload_n 0, 1) := by decide +kernel
theorem dX12_tellsHere_1 : decode cX12_tellsHere 1 = .ok (.aload_n 2, 1) := by decide +kernel
theorem dX12_tellsHere_2 : decode cX12_tellsHere 2 = .ok (.invokevirtual 110, 3) := by decide +kernel
theorem dX12_tellsHere_5 : decode cX12_tellsHere 5 = .ok (.aload_n 0, 1) := by decide +kernel
theorem dX12_tellsHere_6 : decode cX12_tellsHere 6 = .ok (.invokevirtual 104, 3) := by decide +kernel
theorem dX12_tellsHere_9 : decode cX12_tellsHere 9 = .ok (.istore_n 3, 1) := by decide +kernel
theorem dX12_tellsHere_10 : decode cX12_tellsHere 10 = .ok (.aload_n 0, 1) := by decide +kernel
theorem dX12_tellsHere_11 : decode cX12_tellsHere 11 = .ok (.getfield 60, 3) := by decide +kernel
theorem dX12_tellsHere_14 : decode cX12_tellsHere 14 = .ok (.ifCond .ne 15, 3) := by decide +kernel
theorem dX12_tellsHere_17 : decode cX12_tellsHere 17 = .ok (.aload_n 0, 1) := by decide +kernel
theorem dX12_tellsHere_18 : decode cX12_tellsHere 18 = .ok (.getfield 9, 3) := by decide +kernel
theorem dX12_tellsHere_21 : decode cX12_tellsHere 21 = .ok (.iload_n 1, 1) := by decide +kernel
theorem dX12_tellsHere_22 : decode cX12_tellsHere 22 = .ok (.aload_n 0, 1) := by decide +kernel
theorem dX12_tellsHere_23 : decode cX12_tellsHere 23 = .ok (.getfield 81, 3) := by decide +kernel
theorem dX12_tellsHere_26 : decode cX12_tellsHere 26 = .ok (.iadd, 1) := by decide +kernel
theorem dX12_tellsHere_27 : decode cX12_tellsHere 27 = .ok (.iload_n 3, 1) := by decide +kernel
theorem dX12_tellsHere_28 : decode cX12_tellsHere 28 = .ok (.iastore, 1) := by decide +kernel
theorem dX12_tellsHere_29 : decode cX12_tellsHere 29 = .ok (.return_, 1) := by decide +kernel
set_option maxRecDepth 20000 in
theorem ggX12_clauseHere_X12_here : GoodIn wsX12_clauseHere wsX12_here := goodIn_r _ [6, 7, 8, 9, 104, 105, 106, 107, 108, 109, 110, 111, 112, 113, 114, 115, 116, 117, 118, 119, 120, 121, 122, 123, 124, 125] (by decide +kernel) (by decide +kernel)
set_option maxRecDepth 20000 in
theorem gX12_clauseHere_X12_here : GoodIn wsX12_clauseHere (wsV RX12 64 RX12 yX12_here wsX12_here) := goodIn_app (goodIn_of _ (by decide +kernel)) ggX12_clauseHere_X12_here
set_option maxRecDepth 20000 in
theorem ggX12_clauseHere_X12_much : GoodIn wsX12_clauseHere wsX12_much := goodIn_r _ [13, 14, 15, 16, 5, 17, 18, 19, 20, 21, 22, 23, 24, 25, 26, 27, 28, 29, 30, 31, 32, 33, 34, 35, 36, 37, 38, 39, 40, 41, 42, 43, 44, 45, 46, 47, 48, 49, 50, 51, 52, 53, 54, 55, 56, 57, 58, 59, 60, 61, 62, 63, 64, 65, 66, 67, 68, 69, 70, 1, 7, 2, 3, 4, 6, 8, 9, 71, 72, 73, 74, 75, 76, 77, 78, 79, 80, 81, 82, 83, 84, 85, 86, 87, 88, 89, 90, 91, 92, 93, 94, 95, 96, 97, 98, 99, 104, 105, 106, 107, 108, 109, 110, 111, 112, 113, 114, 115, 116, 117, 118, 119, 120, 121, 122, 123, 124, 125] (by decide +kernel) (by decide +kernel)
set_option maxRecDepth 20000 in
theorem gX12_clauseHere_X12_much : GoodIn wsX12_clauseHere (wsV RX12 116 RX12 yX12_much wsX12_much) := goodIn_app (goodIn_of _ (by decide +kernel)) ggX12_clauseHere_X12_much
set_option maxRecDepth 20000 in
theorem ggX12_clauseHere_X12_tellsHere : GoodIn wsX12_clauseHere wsX12_tellsHere := goodIn_r _ [103, 1, 9, 89, 14, 15, 16, 5, 17, 18, 19, 20, 21, 22, 23, 24, 25, 26, 27, 28, 29, 30, 31, 32, 33, 34, 35, 36, 37, 38, 39, 40, 41, 42, 43, 44, 45, 46, 47, 48, 49, 50, 51, 52, 53, 54, 55, 56, 57, 58, 59, 60, 61, 62, 63, 64, 65, 66, 67, 68, 69, 70, 7, 2, 3, 4, 6, 8, 71, 72, 73, 74, 75, 76, 77, 104, 105, 106, 107, 108, 109, 110, 111, 112, 113, 114, 115, 116, 117, 118, 119, 120, 121, 122, 123, 124, 125] (by decide +kernel) (by decide +kernel)
set_option maxRecDepth 20000 in
theorem gX12_clauseHere_X12_tellsHere : GoodIn wsX12_clauseHere (wsV RX12 124 RX12 yX12_tellsHere wsX12_tellsHere) := goodIn_app (goodIn_of _ (by decide +kernel)) ggX12_clauseHere_X12_tellsHere
theorem dX12_clauseHere_0 : decode cX12_clauseHere 0 = .ok (.aload_n 0, 1) := by decide +kernel
theorem dX12_clauseHere_1 : decode cX12_clauseHere 1 = .ok (.invokevirtual 64, 3) := by decide +kernel
theorem dX12_clauseHere_4 : decode cX12_clauseHere 4 = .ok (.tableswitch 119 102 112 #[83, 119, 119, 119, 119, 119, 71, 60, 119, 95, 107], 60) := by decide +kernel
theorem dX12_clauseHere_64 : decode cX12_clauseHere 64 = .ok (.aload_n 0, 1) := by decide +kernel
theorem dX12_clauseHere_65 : decode cX12_clauseHere 65 = .ok (.bipush (-10), 2) := by decide +kernel
theorem dX12_clauseHere_67 : decode cX12_clauseHere 67 = .ok (.ldc 114, 2) := by decide +kernel
theorem dX12_clauseHere_69 : decode cX12_clauseHere 69 = .ok (.invokevirtual 116, 3) := by decide +kernel
theorem dX12_clauseHere_72 : decode cX12_clauseHere 72 = .ok (.goto 56, 3) := by decide +kernel
theorem dX12_clauseHere_75 : decode cX12_clauseHere 75 = .ok (.aload_n 0, 1) := by decide +kernel
theorem dX12_clauseHere_76 : decode cX12_clauseHere 76 = .ok (.sipush (-200), 3) := by decide +kernel
theorem dX12_clauseHere_79 : decode cX12_clauseHere 79 = .ok (.ldc 120, 2) := by decide +kernel
theorem dX12_clauseHere_81 : decode cX12_clauseHere 81 = .ok (.invokevirtual 116, 3) := by decide +kernel
theorem dX12_clauseHere_84 : decode cX12_clauseHere 84 = .ok (.goto 44, 3) := by decide +kernel
theorem dX12_clauseHere_87 : decode cX12_clauseHere 87 = .ok (.aload_n 0, 1) := by decide +kernel
theorem dX12_clauseHere_88 : decode cX12_clauseHere 88 = .ok (.sipush 232, 3) := by decide +kernel
theorem dX12_clauseHere_91 : decode cX12_clauseHere 91 = .ok (.ldc 122, 2) := by decide +kernel
theorem dX12_clauseHere_93 : decode cX12_clauseHere 93 = .ok (.invokevirtual 124, 3) := by decide +kernel
theorem dX12_clauseHere_96 : decode cX12_clauseHere 96 = .ok (.goto 32, 3) := by decide +kernel
theorem dX12_clauseHere_99 : decode cX12_clauseHere 99 = .ok (.aload_n 0, 1) := by decide +kernel
theorem dX12_clauseHere_100 : decode cX12_clauseHere 100 = .ok (.sipush 237, 3) := by decide +kernel
theorem dX12_clauseHere_103 : decode cX12_clauseHere 103 = .ok (.ldc 127, 2) := by decide +kernel
theorem dX12_clauseHere_105 : decode cX12_clauseHere 105 = .ok (.invokevirtual 124, 3) := by decide +kernel
theorem dX12_clauseHere_108 : decode cX12_clauseHere 108 = .ok (.goto 20, 3) := by decide +kernel
theorem dX12_clauseHere_111 : decode cX12_clauseHere 111 = .ok (.aload_n 0, 1) := by decide +kernel
theorem dX12_clauseHere_112 : decode cX12_clauseHere 112 = .ok (.sipush 242, 3) := by decide +kernel
theorem dX12_clauseHere_115 : decode cX12_clauseHere 115 = .ok (.ldc 129, 2) := by decide +kernel
theorem dX12_clauseHere_117 : decode cX12_clauseHere 117 = .ok (.invokevirtual 124, 3) := by decide +kernel
theorem dX12_clauseHere_120 : decode cX12_clauseHere 120 = .ok (.goto 8, 3) := by decide +kernel
theorem dX12_clauseHere_123 : decode cX12_clauseHere 123 = .ok (.aload_n 0, 1) := by decide +kernel
theorem dX12_clauseHere_124 : decode cX12_clauseHere 124 = .ok (.iconst 1, 1) := by decide +kernel
theorem dX12_clauseHere_125 : decode cX12_clauseHere 125 = .ok (.putfield 60, 3) := by decide +kernel
theorem dX12_clauseHere_128 : decode cX12_clauseHere 128 = .ok (.return_, 1) := by decide +kernel
set_option maxRecDepth 20000 in
theorem ggX12_house_X12_clauseHere : GoodIn wsX12_house wsX12_clauseHere := goodIn_r _ [11, 5, 12, 13, 14, 10, 15, 4, 3, 1, 16, 17, 18, 19, 20, 21, 22, 23, 24, 25, 26, 27, 28, 29, 30, 31, 32, 33, 34, 35, 36, 37, 38, 39, 40, 41, 42, 43, 44, 45, 46, 47, 48, 49, 50, 51, 52, 53, 54, 55, 56, 57, 58, 59, 60, 61, 62, 63, 64, 65, 66, 67, 68, 69, 70, 71, 72, 73, 74, 75, 76, 77, 78, 79, 80, 81, 82, 83, 84, 85, 86, 87, 88, 89, 90, 91, 92, 93, 94, 2, 95, 96, 97, 98, 99, 6, 100, 101, 102, 103, 104, 105, 106, 107, 108, 109, 110, 111, 112, 113, 114, 115, 116, 117, 118, 119, 120, 121, 122, 123, 124, 125, 126, 127, 128, 129] (by decide +kernel) (by decide +kernel)
set_option maxRecDepth 20000 in
theorem gX12_house_X12_clauseHere : GoodIn wsX12_house (wsV RX12 131 RX12 yX12_clauseHere wsX12_clauseHere) := goodIn_app (goodIn_of _ (by decide +kernel)) ggX12_house_X12_clauseHere
set_option maxRecDepth 20000 in
theorem ggX12_house_X12_here : GoodIn wsX12_house wsX12_here := goodIn_r _ [15, 4, 3, 1, 108, 109, 110, 111, 112, 113, 114, 115, 116, 117, 118, 119, 120, 121, 122, 123, 124, 125, 126, 127, 128, 129] (by decide +kernel) (by decide +kernel)
set_option maxRecDepth 20000 in
theorem gX12_house_X12_here : GoodIn wsX12_house (wsV RX12 64 RX12 yX12_here wsX12_here) := goodIn_app (goodIn_of _ (by decide +kernel)) ggX12_house_X12_here
theorem dX12_house_0 : decode cX12_house 0 = .ok (.aload_n 0, 1) := by decide +kernel
theorem dX12_house_1 : decode cX12_house 1 = .ok (.getfield 9, 3) := by decide +kernel
theorem dX12_house_4 : decode cX12_house 4 = .ok (.bipush 53, 2) := by decide +kernel
theorem dX12_house_6 : decode cX12_house 6 = .ok (.iaload, 1) := by decide +kernel
theorem dX12_house_7 : decode cX12_house 7 = .ok (.iconst 5, 1) := by decide +kernel
theorem dX12_house_8 : decode cX12_house 8 = .ok (.if_icmp .ne 6, 3) := by decide +kernel
theorem dX12_house_11 : decode cX12_house 11 = .ok (.bipush (-4), 2) := by decide +kernel
theorem dX12_house_13 : decode cX12_house 13 = .ok (.ireturn, 1) := by decide +kernel
theorem dX12_house_14 : decode cX12_house 14 = .ok (.aload_n 0, 1) := by decide +kernel
theorem dX12_house_15 : decode cX12_house 15 = .ok (.aload_n 0, 1) := by decide +kernel
theorem dX12_house_16 : decode cX12_house 16 = .ok (.getfield 9, 3) := by decide +kernel
theorem dX12_house_19 : decode cX12_house 19 = .ok (.bipush 53, 2) := by decide +kernel
theorem dX12_house_21 : decode cX12_house 21 = .ok (.iaload, 1) := by decide +kernel
theorem dX12_house_22 : decode cX12_house 22 = .ok (.putfield 81, 3) := by decide +kernel
theorem dX12_house_25 : decode cX12_house 25 = .ok (.aload_n 0, 1) := by decide +kernel
theorem dX12_house_26 : decode cX12_house 26 = .ok (.aload_n 0, 1) := by decide +kernel
