theorem dX2_raise_146 : decode cX2_raise 146 = .ok (.iload 5, 2) := by decide +kernel
theorem dX2_raise_148 : decode cX2_raise 148 = .ok (.iaload, 1) := by decide +kernel
theorem dX2_raise_149 : decode cX2_raise 149 = .ok (.aload_n 0, 1) := by decide +kernel
theorem dX2_raise_150 : decode cX2_raise 150 = .ok (.getfield 42, 3) := by decide +kernel
theorem dX2_raise_153 : decode cX2_raise 153 = .ok (.iload 4, 2) := by decide +kernel
theorem dX2_raise_155 : decode cX2_raise 155 = .ok (.iaload, 1) := by decide +kernel
theorem dX2_raise_156 : decode cX2_raise 156 = .ok (.if_icmp .gt 7, 3) := by decide +kernel
theorem dX2_raise_159 : decode cX2_raise 159 = .ok (.iconst 1, 1) := by decide +kernel
theorem dX2_raise_160 : decode cX2_raise 160 = .ok (.goto 4, 3) := by decide +kernel
theorem dX2_raise_163 : decode cX2_raise 163 = .ok (.iconst 0, 1) := by decide +kernel
theorem dX2_raise_164 : decode cX2_raise 164 = .ok (.istore 8, 2) := by decide +kernel
theorem dX2_raise_166 : decode cX2_raise 166 = .ok (.iload_n 2, 1) := by decide +kernel
theorem dX2_raise_167 : decode cX2_raise 167 = .ok (.iconst 1, 1) := by decide +kernel
theorem dX2_raise_168 : decode cX2_raise 168 = .ok (.ishl, 1) := by decide +kernel
theorem dX2_raise_169 : decode cX2_raise 169 = .ok (.iload 8, 2) := by decide +kernel
theorem dX2_raise_171 : decode cX2_raise 171 = .ok (.ifCond .eq 7, 3) := by decide +kernel
theorem dX2_raise_174 : decode cX2_raise 174 = .ok (.iconst 1, 1) := by decide +kernel
theorem dX2_raise_175 : decode cX2_raise 175 = .ok (.goto 4, 3) := by decide +kernel
theorem dX2_raise_178 : decode cX2_raise 178 = .ok (.iconst 0, 1) := by decide +kernel
theorem dX2_raise_179 : decode cX2_raise 179 = .ok (.ior, 1) := by decide +kernel
theorem dX2_raise_180 : decode cX2_raise 180 = .ok (.istore_n 2, 1) := by decide +kernel
theorem dX2_raise_181 : decode cX2_raise 181 = .ok (.iinc 4 1, 3) := by decide +kernel
theorem dX2_raise_184 : decode cX2_raise 184 = .ok (.goto (-177), 3) := by decide +kernel
theorem dX2_raise_187 : decode cX2_raise 187 = .ok (.iload_n 3, 1) := by decide +kernel
theorem dX2_raise_188 : decode cX2_raise 188 = .ok (.ireturn, 1) := by decide +kernel
set_option maxRecDepth 20000 in
theorem ggX2_readShare_X2_takeAll : GoodIn wsX2_readShare wsX2_takeAll := goodIn_r _ [5, 6, 7, 8, 9, 10, 11, 12, 13, 14, 15, 16, 17, 18, 19, 20, 21, 22, 23, 24, 25, 26, 27, 28, 29, 30, 31, 32, 33, 34, 35, 36, 37, 38, 39, 40, 41, 42, 43, 44, 45, 46, 47, 48, 49, 50, 51, 52, 53, 54, 55, 56, 57, 4, 58, 59, 60, 61, 62, 63, 64, 65, 66, 71, 72, 73, 74, 75, 76, 77, 78, 79, 80, 81] (by decide +kernel) (by decide +kernel)
set_option maxRecDepth 20000 in
theorem gX2_readShare_X2_takeAll : GoodIn wsX2_readShare (wsV RX2 81 RX2 yX2_takeAll wsX2_takeAll) := goodIn_app (goodIn_of _ (by decide +kernel)) ggX2_readShare_X2_takeAll
set_option maxRecDepth 20000 in
theorem ggX2_readShare_X2_readNumber : GoodIn wsX2_readShare wsX2_readNumber := goodIn_r _ [70, 59, 60, 61, 62, 63, 4, 64, 65, 66, 71, 72, 73, 74, 75, 76, 77, 78, 79, 80, 81] (by decide +kernel) (by decide +kernel)
set_option maxRecDepth 20000 in
theorem gX2_readShare_X2_readNumber : GoodIn wsX2_readShare (wsV RX2 85 RX2 yX2_readNumber wsX2_readNumber) := goodIn_app (goodIn_of _ (by decide +kernel)) ggX2_readShare_X2_readNumber
theorem dX2_readShare_0 : decode cX2_readShare 0 = .ok (.aload_n 0, 1) := by decide +kernel
theorem dX2_readShare_1 : decode cX2_readShare 1 = .ok (.aload_n 1, 1) := by decide +kernel
theorem dX2_readShare_2 : decode cX2_readShare 2 = .ok (.invokevirtual 81, 3) := by decide +kernel
theorem dX2_readShare_5 : decode cX2_readShare 5 = .ok (.aload_n 0, 1) := by decide +kernel
theorem dX2_readShare_6 : decode cX2_readShare 6 = .ok (.invokevirtual 85, 3) := by decide +kernel
theorem dX2_readShare_9 : decode cX2_readShare 9 = .ok (.ireturn, 1) := by decide +kernel
set_option maxRecDepth 20000 in
theorem ggX2_readGain_X2_takeAll : GoodIn wsX2_readGain wsX2_takeAll := goodIn_r _ [5, 6, 7, 8, 9, 10, 11, 12, 13, 14, 15, 16, 17, 18, 19, 20, 21, 22, 23, 24, 25, 26, 27, 28, 29, 30, 31, 32, 33, 34, 35, 36, 37, 38, 39, 40, 41, 42, 43, 44, 45, 46, 47, 48, 49, 50, 51, 52, 53, 54, 55, 56, 57, 4, 58, 59, 60, 61, 62, 63, 64, 65, 66, 152, 153, 154, 155, 156, 157, 158, 159, 160, 161, 162] (by decide +kernel) (by decide +kernel)
set_option maxRecDepth 20000 in
theorem gX2_readGain_X2_takeAll : GoodIn wsX2_readGain (wsV RX2 81 RX2 yX2_takeAll wsX2_takeAll) := goodIn_app (goodIn_of _ (by decide +kernel)) ggX2_readGain_X2_takeAll
set_option maxRecDepth 20000 in
theorem ggX2_readGain_X2_readNumber : GoodIn wsX2_readGain wsX2_readNumber := goodIn_r _ [70, 59, 60, 61, 62, 63, 4, 64, 65, 66, 152, 153, 154, 155, 156, 157, 158, 159, 160, 161, 162] (by decide +kernel) (by decide +kernel)
set_option maxRecDepth 20000 in
theorem gX2_readGain_X2_readNumber : GoodIn wsX2_readGain (wsV RX2 85 RX2 yX2_readNumber wsX2_readNumber) := goodIn_app (goodIn_of _ (by decide +kernel)) ggX2_readGain_X2_readNumber
set_option maxRecDepth 20000 in
theorem ggX2_readGain_X2_take : GoodIn wsX2_readGain wsX2_take := goodIn_r _ [58, 59, 60, 61, 62, 63, 4, 64, 65, 66, 152, 153, 154, 155, 156, 157, 158, 159, 160, 161, 162] (by decide +kernel) (by decide +kernel)
set_option maxRecDepth 20000 in
theorem gX2_readGain_X2_take : GoodIn wsX2_readGain (wsV RX2 74 RX2 yX2_take wsX2_take) := goodIn_app (goodIn_of _ (by decide +kernel)) ggX2_readGain_X2_take
set_option maxRecDepth 20000 in
theorem ggX2_readGain_X2_readEither : GoodIn wsX2_readGain wsX2_readEither := goodIn_r _ [74, 65, 60, 75, 76, 77, 4, 61, 62, 63, 64, 59, 66, 78, 79, 80, 81, 82, 83, 84, 85, 86, 87, 88, 89, 90, 91, 92, 93, 9, 94, 95, 96, 97, 98, 11, 22, 23, 24, 25, 16, 17, 99, 7, 8, 10, 12, 13, 14, 15, 100, 101, 28, 102, 103, 104, 105, 106, 107, 108, 109, 110, 111, 112, 113, 114, 115, 116, 117, 40, 118, 119, 120, 121, 122, 123, 124, 125, 126, 127, 45, 46, 47, 128, 129, 130, 33, 131, 132, 36, 133, 134, 135, 136, 49, 50, 51, 52, 53, 54, 137, 138, 139, 140, 141, 142, 143, 144, 145, 146, 147, 148, 149, 150, 151, 71, 72, 73, 55, 56, 57, 58, 67, 68, 69, 70, 152, 153, 154, 155, 156, 157, 158, 159, 160, 161, 162] (by decide +kernel) (by decide +kernel)
set_option maxRecDepth 20000 in
theorem gX2_readGain_X2_readEither : GoodIn wsX2_readGain (wsV RX2 88 RX2 yX2_readEither wsX2_readEither) := goodIn_app (goodIn_of _ (by decide +kernel)) ggX2_readGain_X2_readEither
set_option maxRecDepth 20000 in
theorem ggX2_readGain_X2_add : GoodIn wsX2_readGain wsX2_add := goodIn_r _ [81, 59, 82, 65, 83, 84, 85, 152, 153, 154, 155, 156, 157, 158, 159, 160, 161, 162] (by decide +kernel) (by decide +kernel)
set_option maxRecDepth 20000 in
theorem gX2_readGain_X2_add : GoodIn wsX2_readGain (wsV RX2 92 RX2 yX2_add wsX2_add) := goodIn_app (goodIn_of _ (by decide +kernel)) ggX2_readGain_X2_add
theorem dX2_readGain_0 : decode cX2_readGain 0 = .ok (.aload_n 0, 1) := by decide +kernel
theorem dX2_readGain_1 : decode cX2_readGain 1 = .ok (.aload_n 1, 1) := by decide +kernel
theorem dX2_readGain_2 : decode cX2_readGain 2 = .ok (.invokevirtual 81, 3) := by decide +kernel
theorem dX2_readGain_5 : decode cX2_readGain 5 = .ok (.aload_n 0, 1) := by decide +kernel
theorem dX2_readGain_6 : decode cX2_readGain 6 = .ok (.invokevirtual 85, 3) := by decide +kernel
theorem dX2_readGain_9 : decode cX2_readGain 9 = .ok (.istore_n 3, 1) := by decide +kernel
theorem dX2_readGain_10 : decode cX2_readGain 10 = .ok (.aload_n 0, 1) := by decide +kernel
theorem dX2_readGain_11 : decode cX2_readGain 11 = .ok (.bipush 32, 2) := by decide +kernel
theorem dX2_readGain_13 : decode cX2_readGain 13 = .ok (.invokevirtual 74, 3) := by decide +kernel
theorem dX2_readGain_16 : decode cX2_readGain 16 = .ok (.pop, 1) := by decide +kernel
theorem dX2_readGain_17 : decode cX2_readGain 17 = .ok (.aload_n 0, 1) := by decide +kernel
theorem dX2_readGain_18 : decode cX2_readGain 18 = .ok (.iconst 0, 1) := by decide +kernel
theorem dX2_readGain_19 : decode cX2_readGain 19 = .ok (.invokevirtual 88, 3) := by decide +kernel
theorem dX2_readGain_22 : decode cX2_readGain 22 = .ok (.aload_n 0, 1) := by decide +kernel
theorem dX2_readGain_23 : decode cX2_readGain 23 = .ok (.bipush (-4), 2) := by decide +kernel
theorem dX2_readGain_25 : decode cX2_readGain 25 = .ok (.iload_n 2, 1) := by decide +kernel
theorem dX2_readGain_26 : decode cX2_readGain 26 = .ok (.iload_n 3, 1) := by decide +kernel
theorem dX2_readGain_27 : decode cX2_readGain 27 = .ok (.imul, 1) := by decide +kernel
theorem dX2_readGain_28 : decode cX2_readGain 28 = .ok (.iconst 0, 1) := by decide +kernel
theorem dX2_readGain_29 : decode cX2_readGain 29 = .ok (.invokevirtual 92, 3) := by decide +kernel
theorem dX2_readGain_32 : decode cX2_readGain 32 = .ok (.return_, 1) := by decide +kernel
set_option maxRecDepth 20000 in
theorem ggX2_readEither_X2_readBoth : GoodIn wsX2_readEither wsX2_readBoth := goodIn_r _ [21, 1, 2, 22, 23, 24, 6, 7, 8, 9, 10, 11, 12, 13, 14, 15, 16, 17, 18, 19, 20, 0, 3, 4, 5, 25, 26, 27, 28, 29, 30, 31, 32, 33, 34, 35, 36, 37, 38, 39, 40, 41, 42, 43, 44, 45, 46, 47, 48, 49, 50, 51, 52, 53, 54, 55, 56, 57, 58, 59, 60, 61, 62, 63, 64, 65, 66, 67, 68, 69, 70, 71, 72, 73, 74, 75, 76, 77, 78, 79, 80, 81, 82, 83, 84, 85, 86, 87, 88, 89, 90, 91, 92, 93, 94, 95, 96, 97, 98, 99, 100, 101, 102, 103, 104, 105, 106, 107, 108, 109, 110, 111, 112, 113, 114, 115, 116, 117, 118, 119, 120, 121, 122, 123, 124, 125, 126, 127, 128, 129, 130, 131, 132, 133, 134, 135, 136] (by decide +kernel) (by decide +kernel)
set_option maxRecDepth 20000 in
theorem gX2_readEither_X2_readBoth : GoodIn wsX2_readEither (wsV RX2 96 RX2 yX2_readBoth wsX2_readBoth) := goodIn_app (goodIn_of _ (by decide +kernel)) ggX2_readEither_X2_readBoth
set_option maxRecDepth 20000 in
theorem ggX2_readEither_X2_sign : GoodIn wsX2_readEither wsX2_sign := goodIn_r _ [10, 11, 2, 1, 12, 126, 127, 128, 129, 130, 131, 132, 133, 134, 135, 136] (by decide +kernel) (by decide +kernel)
set_option maxRecDepth 20000 in
theorem gX2_readEither_X2_sign : GoodIn wsX2_readEither (wsV RX2 45 RX2 yX2_sign wsX2_sign) := goodIn_app (goodIn_of _ (by decide +kernel)) ggX2_readEither_X2_sign
set_option maxRecDepth 20000 in
theorem ggX2_readEither_X2_add : GoodIn wsX2_readEither wsX2_add := goodIn_r _ [16, 11, 17, 1, 18, 19, 20, 126, 127, 128, 129, 130, 131, 132, 133, 134, 135, 136] (by decide +kernel) (by decide +kernel)
set_option maxRecDepth 20000 in
theorem gX2_readEither_X2_add : GoodIn wsX2_readEither (wsV RX2 92 RX2 yX2_add wsX2_add) := goodIn_app (goodIn_of _ (by decide +kernel)) ggX2_readEither_X2_add
theorem dX2_readEither_0 : decode cX2_readEither 0 = .ok (.aload_n 0, 1) := by decide +kernel
theorem dX2_readEither_1 : decode cX2_readEither 1 = .ok (.iload_n 1, 1) := by decide +kernel
theorem dX2_readEither_2 : decode cX2_readEither 2 = .ok (.invokevirtual 96, 3) := by decide +kernel
theorem dX2_readEither_5 : decode cX2_readEither 5 = .ok (.iconst 0, 1) := by decide +kernel
theorem dX2_readEither_6 : decode cX2_readEither 6 = .ok (.istore_n 2, 1) := by decide +kernel
theorem dX2_readEither_7 : decode cX2_readEither 7 = .ok (.iload_n 2, 1) := by decide +kernel
theorem dX2_readEither_8 : decode cX2_readEither 8 = .ok (.aload_n 0, 1) := by decide +kernel
theorem dX2_readEither_9 : decode cX2_readEither 9 = .ok (.getfield 32, 3) := by decide +kernel
theorem dX2_readEither_12 : decode cX2_readEither 12 = .ok (.if_icmp .ge 41, 3) := by decide +kernel
theorem dX2_readEither_15 : decode cX2_readEither 15 = .ok (.aload_n 0, 1) := by decide +kernel
theorem dX2_readEither_16 : decode cX2_readEither 16 = .ok (.invokevirtual 45, 3) := by decide +kernel
theorem dX2_readEither_19 : decode cX2_readEither 19 = .ok (.bipush 124, 2) := by decide +kernel
theorem dX2_readEither_21 : decode cX2_readEither 21 = .ok (.if_icmp .ne 32, 3) := by decide +kernel
theorem dX2_readEither_24 : decode cX2_readEither 24 = .ok (.aload_n 0, 1) := by decide +kernel
theorem dX2_readEither_25 : decode cX2_readEither 25 = .ok (.dup, 1) := by decide +kernel
theorem dX2_readEither_26 : decode cX2_readEither 26 = .ok (.getfield 71, 3) := by decide +kernel
theorem dX2_readEither_29 : decode cX2_readEither 29 = .ok (.iconst 1, 1) := by decide +kernel
theorem dX2_readEither_30 : decode cX2_readEither 30 = .ok (.iadd, 1) := by decide +kernel
theorem dX2_readEither_31 : decode cX2_readEither 31 = .ok (.putfield 71, 3) := by decide +kernel
theorem dX2_readEither_34 : decode cX2_readEither 34 = .ok (.aload_n 0, 1) := by decide +kernel
theorem dX2_readEither_35 : decode cX2_readEither 35 = .ok (.iload_n 1, 1) := by decide +kernel
theorem dX2_readEither_36 : decode cX2_readEither 36 = .ok (.invokevirtual 96, 3) := by decide +kernel
theorem dX2_readEither_39 : decode cX2_readEither 39 = .ok (.aload_n 0, 1) := by decide +kernel
theorem dX2_readEither_40 : decode cX2_readEither 40 = .ok (.bipush (-3), 2) := by decide +kernel
theorem dX2_readEither_42 : decode cX2_readEither 42 = .ok (.iconst 0, 1) := by decide +kernel
theorem dX2_readEither_43 : decode cX2_readEither 43 = .ok (.iconst 0, 1) := by decide +kernel
theorem dX2_readEither_44 : decode cX2_readEither 44 = .ok (.invokevirtual 92, 3) := by decide +kernel
theorem dX2_readEither_47 : decode cX2_readEither 47 = .ok (.iinc 2 1, 3) := by decide +kernel
theorem dX2_readEither_50 : decode cX2_readEither 50 = .ok (.goto (-43), 3) := by decide +kernel
theorem dX2_readEither_53 : decode cX2_readEither 53 = .ok (.return_, 1) := by decide +kernel
set_option maxRecDepth 20000 in
theorem ggX2_readBoth_X2_readPart : GoodIn wsX2_readBoth wsX2_readPart := goodIn_r _ [25, 2, 11, 7, 8, 9, 6, 10, 1, 12, 26, 27, 28, 29, 30, 31, 32, 33, 34, 35, 36, 37, 38, 39, 40, 41, 42, 43, 44, 45, 46, 47, 48, 49, 50, 51, 52, 53, 54, 55, 56, 57, 58, 59, 60, 61, 62, 63, 64, 65, 66, 67, 68, 69, 70, 71, 72, 73, 74, 75, 76, 77, 78, 79, 80, 81, 82, 83, 84, 85, 86, 87, 88, 89, 90, 91, 92, 93, 94, 95, 96, 97, 98, 99, 100, 101, 102, 103, 104, 105, 106, 107, 108, 109, 110, 111, 112, 113, 114, 3, 4, 5, 13, 14, 15, 16, 17, 18, 19, 20, 115, 116, 117, 118, 119, 120, 121, 122, 123, 124, 125, 0, 21, 22, 23, 24, 126, 127, 128, 129, 130, 131, 132, 133, 134, 135, 136] (by decide +kernel) (by decide +kernel)
set_option maxRecDepth 20000 in
theorem gX2_readBoth_X2_readPart : GoodIn wsX2_readBoth (wsV RX2 99 RX2 yX2_readPart wsX2_readPart) := goodIn_app (goodIn_of _ (by decide +kernel)) ggX2_readBoth_X2_readPart
set_option maxRecDepth 20000 in
theorem ggX2_readBoth_X2_sign : GoodIn wsX2_readBoth wsX2_sign := goodIn_r _ [10, 11, 2, 1, 12, 126, 127, 128, 129, 130, 131, 132, 133, 134, 135, 136] (by decide +kernel) (by decide +kernel)
set_option maxRecDepth 20000 in
theorem gX2_readBoth_X2_sign : GoodIn wsX2_readBoth (wsV RX2 45 RX2 yX2_sign wsX2_sign) := goodIn_app (goodIn_of _ (by decide +kernel)) ggX2_readBoth_X2_sign
set_option maxRecDepth 20000 in
theorem ggX2_readBoth_X2_add : GoodIn wsX2_readBoth wsX2_add := goodIn_r _ [16, 11, 17, 1, 18, 19, 20, 126, 127, 128, 129, 130, 131, 132, 133, 134, 135, 136] (by decide +kernel) (by decide +kernel)
set_option maxRecDepth 20000 in
theorem gX2_readBoth_X2_add : GoodIn wsX2_readBoth (wsV RX2 92 RX2 yX2_add wsX2_add) := goodIn_app (goodIn_of _ (by decide +kernel)) ggX2_readBoth_X2_add
theorem dX2_readBoth_0 : decode cX2_readBoth 0 = .ok (.aload_n 0, 1) := by decide +kernel
theorem dX2_readBoth_1 : decode cX2_readBoth 1 = .ok (.iload_n 1, 1) := by decide +kernel
theorem dX2_readBoth_2 : decode cX2_readBoth 2 = .ok (.invokevirtual 99, 3) := by decide +kernel
theorem dX2_readBoth_5 : decode cX2_readBoth 5 = .ok (.iconst 0, 1) := by decide +kernel
theorem dX2_readBoth_6 : decode cX2_readBoth 6 = .ok (.istore_n 2, 1) := by decide +kernel
theorem dX2_readBoth_7 : decode cX2_readBoth 7 = .ok (.iload_n 2, 1) := by decide +kernel
theorem dX2_readBoth_8 : decode cX2_readBoth 8 = .ok (.aload_n 0, 1) := by decide +kernel
theorem dX2_readBoth_9 : decode cX2_readBoth 9 = .ok (.getfield 32, 3) := by decide +kernel
theorem dX2_readBoth_12 : decode cX2_readBoth 12 = .ok (.if_icmp .ge 41, 3) := by decide +kernel
theorem dX2_readBoth_15 : decode cX2_readBoth 15 = .ok (.aload_n 0, 1) := by decide +kernel
theorem dX2_readBoth_16 : decode cX2_readBoth 16 = .ok (.invokevirtual 45, 3) := by decide +kernel
theorem dX2_readBoth_19 : decode cX2_readBoth 19 = .ok (.bipush 38, 2) := by decide +kernel
theorem dX2_readBoth_21 : decode cX2_readBoth 21 = .ok (.if_icmp .ne 32, 3) := by decide +kernel
theorem dX2_readBoth_24 : decode cX2_readBoth 24 = .ok (.aload_n 0, 1) := by decide +kernel
theorem dX2_readBoth_25 : decode cX2_readBoth 25 = .ok (.dup, 1) := by decide +kernel
theorem dX2_readBoth_26 : decode cX2_readBoth 26 = .ok (.getfield 71, 3) := by decide +kernel
theorem dX2_readBoth_29 : decode cX2_readBoth 29 = .ok (.iconst 1, 1) := by decide +kernel
theorem dX2_readBoth_30 : decode cX2_readBoth 30 = .ok (.iadd, 1) := by decide +kernel
theorem dX2_readBoth_31 : decode cX2_readBoth 31 = .ok (.putfield 71, 3) := by decide +kernel
theorem dX2_readBoth_34 : decode cX2_readBoth 34 = .ok (.aload_n 0, 1) := by decide +kernel
theorem dX2_readBoth_35 : decode cX2_readBoth 35 = .ok (.iload_n 1, 1) := by decide +kernel
theorem dX2_readBoth_36 : decode cX2_readBoth 36 = .ok (.invokevirtual 99, 3) := by decide +kernel
theorem dX2_readBoth_39 : decode cX2_readBoth 39 = .ok (.aload_n 0, 1) := by decide +kernel
theorem dX2_readBoth_40 : decode cX2_readBoth 40 = .ok (.bipush (-2), 2) := by decide +kernel
theorem dX2_readBoth_42 : decode cX2_readBoth 42 = .ok (.iconst 0, 1) := by decide +kernel
theorem dX2_readBoth_43 : decode cX2_readBoth 43 = .ok (.iconst 0, 1) := by decide +kernel
theorem dX2_readBoth_44 : decode cX2_readBoth 44 = .ok (.invokevirtual 92, 3) := by decide +kernel
theorem dX2_readBoth_47 : decode cX2_readBoth 47 = .ok (.iinc 2 1, 3) := by decide +kernel
theorem dX2_readBoth_50 : decode cX2_readBoth 50 = .ok (.goto (-43), 3) := by decide +kernel
theorem dX2_readBoth_53 : decode cX2_readBoth 53 = .ok (.return_, 1) := by decide +kernel
set_option maxRecDepth 20000 in
theorem ggX2_readPart_X2_sign : GoodIn wsX2_readPart wsX2_sign := goodIn_r _ [7, 2, 1, 8, 9, 126, 127, 128, 129, 130, 131, 132, 133, 134, 135, 136] (by decide +kernel) (by decide +kernel)
set_option maxRecDepth 20000 in
theorem gX2_readPart_X2_sign : GoodIn wsX2_readPart (wsV RX2 45 RX2 yX2_sign wsX2_sign) := goodIn_app (goodIn_of _ (by decide +kernel)) ggX2_readPart_X2_sign
set_option maxRecDepth 20000 in
theorem ggX2_readPart_J0_indexOf_0f7a4 : GoodIn wsX2_readPart wsJ0_indexOf_0f7a4 := goodIn_r _ [14, 15, 16, 17, 13, 18, 19, 20, 21, 22, 23, 24, 25, 26, 27, 28, 29, 30, 31, 32, 33, 34, 35, 36, 37, 38, 39, 40, 41, 42, 43, 44, 45, 46, 47, 48, 49, 50, 51, 52, 53, 54, 55, 56, 57, 58, 59, 60, 61, 62, 63, 64, 65, 66, 67, 68, 69, 70, 71, 72, 73, 74, 75, 76, 77, 78, 79, 80, 81, 82, 83, 84, 85, 86, 87, 88, 89, 90, 91, 92, 93, 94, 95, 96, 97, 98] (by decide +kernel) (by decide +kernel)
set_option maxRecDepth 20000 in
theorem gX2_readPart_J0_indexOf_0f7a4 : GoodIn wsX2_readPart (wsV RX2 104 RJ0 yJ0_indexOf_0f7a4 wsJ0_indexOf_0f7a4) := goodIn_app (goodIn_of _ (by decide +kernel)) ggX2_readPart_J0_indexOf_0f7a4
set_option maxRecDepth 20000 in
theorem ggX2_readPart_X2_readPart : GoodIn wsX2_readPart wsX2_readPart := goodIn_r _ [0, 1, 2, 3, 4, 5, 6, 7, 8, 9, 10, 11, 12, 13, 14, 15, 16, 17, 18, 19, 20, 21, 22, 23, 24, 25, 26, 27, 28, 29, 30, 31, 32, 33, 34, 35, 36, 37, 38, 39, 40, 41, 42, 43, 44, 45, 46, 47, 48, 49, 50, 51, 52, 53, 54, 55, 56, 57, 58, 59, 60, 61, 62, 63, 64, 65, 66, 67, 68, 69, 70, 71, 72, 73, 74, 75, 76, 77, 78, 79, 80, 81, 82, 83, 84, 85, 86, 87, 88, 89, 90, 91, 92, 93, 94, 95, 96, 97, 98, 99, 100, 101, 102, 103, 104, 105, 106, 107, 108, 109, 110, 111, 112, 113, 114, 115, 116, 117, 118, 119, 120, 121, 122, 123, 124, 125, 126, 127, 128, 129, 130, 131, 132, 133, 134, 135, 136] (by decide +kernel) (by decide +kernel)
set_option maxRecDepth 20000 in
theorem gX2_readPart_X2_readPart : GoodIn wsX2_readPart (wsV RX2 99 RX2 yX2_readPart wsX2_readPart) := goodIn_app (goodIn_of _ (by decide +kernel)) ggX2_readPart_X2_readPart
set_option maxRecDepth 20000 in
theorem ggX2_readPart_X2_add : GoodIn wsX2_readPart wsX2_add := goodIn_r _ [105, 2, 106, 8, 107, 108, 109, 126, 127, 128, 129, 130, 131, 132, 133, 134, 135, 136] (by decide +kernel) (by decide +kernel)
set_option maxRecDepth 20000 in
theorem gX2_readPart_X2_add : GoodIn wsX2_readPart (wsV RX2 92 RX2 yX2_add wsX2_add) := goodIn_app (goodIn_of _ (by decide +kernel)) ggX2_readPart_X2_add
set_option maxRecDepth 20000 in
theorem ggX2_readPart_X2_readEither : GoodIn wsX2_readPart wsX2_readEither := goodIn_r _ [122, 8, 1, 123, 124, 125, 6, 3, 4, 5, 7, 2, 9, 102, 103, 104, 105, 106, 107, 108, 109, 121, 99, 100, 101, 0, 10, 11, 12, 13, 14, 15, 16, 17, 18, 19, 20, 21, 22, 23, 24, 25, 26, 27, 28, 29, 30, 31, 32, 33, 34, 35, 36, 37, 38, 39, 40, 41, 42, 43, 44, 45, 46, 47, 48, 49, 50, 51, 52, 53, 54, 55, 56, 57, 58, 59, 60, 61, 62, 63, 64, 65, 66, 67, 68, 69, 70, 71, 72, 73, 74, 75, 76, 77, 78, 79, 80, 81, 82, 83, 84, 85, 86, 87, 88, 89, 90, 91, 92, 93, 94, 95, 96, 97, 98, 110, 111, 112, 113, 114, 115, 116, 117, 118, 119, 120, 126, 127, 128, 129, 130, 131, 132, 133, 134, 135, 136] (by decide +kernel) (by decide +kernel)
set_option maxRecDepth 20000 in
theorem gX2_readPart_X2_readEither : GoodIn wsX2_readPart (wsV RX2 88 RX2 yX2_readEither wsX2_readEither) := goodIn_app (goodIn_of _ (by decide +kernel)) ggX2_readPart_X2_readEither
set_option maxRecDepth 20000 in
theorem ggX2_readPart_X2_take : GoodIn wsX2_readPart wsX2_take := goodIn_r _ [116, 2, 1, 3, 4, 5, 6, 7, 8, 9, 126, 127, 128, 129, 130, 131, 132, 133, 134, 135, 136] (by decide +kernel) (by decide +kernel)
set_option maxRecDepth 20000 in
theorem gX2_readPart_X2_take : GoodIn wsX2_readPart (wsV RX2 74 RX2 yX2_take wsX2_take) := goodIn_app (goodIn_of _ (by decide +kernel)) ggX2_readPart_X2_take
set_option maxRecDepth 20000 in
theorem ggX2_readPart_X2_readNumber : GoodIn wsX2_readPart wsX2_readNumber := goodIn_r _ [120, 2, 1, 3, 4, 5, 6, 7, 8, 9, 126, 127, 128, 129, 130, 131, 132, 133, 134, 135, 136] (by decide +kernel) (by decide +kernel)
set_option maxRecDepth 20000 in
theorem gX2_readPart_X2_readNumber : GoodIn wsX2_readPart (wsV RX2 85 RX2 yX2_readNumber wsX2_readNumber) := goodIn_app (goodIn_of _ (by decide +kernel)) ggX2_readPart_X2_readNumber
theorem dX2_readPart_0 : decode cX2_readPart 0 = .ok (.aload_n 0, 1) := by decide +kernel
theorem dX2_readPart_1 : decode cX2_readPart 1 = .ok (.invokevirtual 45, 3) := by decide +kernel
theorem dX2_readPart_4 : decode cX2_readPart 4 = .ok (.istore_n 2, 1) := by decide +kernel
theorem dX2_readPart_5 : decode cX2_readPart 5 = .ok (.iload_n 2, 1) := by decide +kernel
theorem dX2_readPart_6 : decode cX2_readPart 6 = .ok (.ifCond .ge 7, 3) := by decide +kernel
theorem dX2_readPart_9 : decode cX2_readPart 9 = .ok (.iconst (-1), 1) := by decide +kernel
theorem dX2_readPart_10 : decode cX2_readPart 10 = .ok (.goto 10, 3) := by decide +kernel
theorem dX2_readPart_13 : decode cX2_readPart 13 = .ok (.ldc 102, 2) := by decide +kernel
theorem dX2_readPart_15 : decode cX2_readPart 15 = .ok (.iload_n 2, 1) := by decide +kernel
theorem dX2_readPart_16 : decode cX2_readPart 16 = .ok (.i2c, 1) := by decide +kernel
theorem dX2_readPart_17 : decode cX2_readPart 17 = .ok (.invokevirtual 104, 3) := by decide +kernel
theorem dX2_readPart_20 : decode cX2_readPart 20 = .ok (.istore_n 3, 1) := by decide +kernel
theorem dX2_readPart_21 : decode cX2_readPart 21 = .ok (.iload_n 2, 1) := by decide +kernel
theorem dX2_readPart_22 : decode cX2_readPart 22 = .ok (.bipush 33, 2) := by decide +kernel
theorem dX2_readPart_24 : decode cX2_readPart 24 = .ok (.if_icmp .ne 35, 3) := by decide +kernel
theorem dX2_readPart_27 : decode cX2_readPart 27 = .ok (.iload_n 1, 1) := by decide +kernel
theorem dX2_readPart_28 : decode cX2_readPart 28 = .ok (.iconst 5, 1) := by decide +kernel
theorem dX2_readPart_29 : decode cX2_readPart 29 = .ok (.if_icmp .ge 30, 3) := by decide +kernel
theorem dX2_readPart_32 : decode cX2_readPart 32 = .ok (.aload_n 0, 1) := by decide +kernel
theorem dX2_readPart_33 : decode cX2_readPart 33 = .ok (.dup, 1) := by decide +kernel
theorem dX2_readPart_34 : decode cX2_readPart 34 = .ok (.getfield 71, 3) := by decide +kernel
theorem dX2_readPart_37 : decode cX2_readPart 37 = .ok (.iconst 1, 1) := by decide +kernel
theorem dX2_readPart_38 : decode cX2_readPart 38 = .ok (.iadd, 1) := by decide +kernel
theorem dX2_readPart_39 : decode cX2_readPart 39 = .ok (.putfield 71, 3) := by decide +kernel
theorem dX2_readPart_42 : decode cX2_readPart 42 = .ok (.aload_n 0, 1) := by decide +kernel
theorem dX2_readPart_43 : decode cX2_readPart 43 = .ok (.iload_n 1, 1) := by decide +kernel
theorem dX2_readPart_44 : decode cX2_readPart 44 = .ok (.iconst 1, 1) := by decide +kernel
theorem dX2_readPart_45 : decode cX2_readPart 45 = .ok (.iadd, 1) := by decide +kernel
theorem dX2_readPart_46 : decode cX2_readPart 46 = .ok (.invokevirtual 99, 3) := by decide +kernel
theorem dX2_readPart_49 : decode cX2_readPart 49 = .ok (.aload_n 0, 1) := by decide +kernel
theorem dX2_readPart_50 : decode cX2_readPart 50 = .ok (.iconst (-1), 1) := by decide +kernel
theorem dX2_readPart_51 : decode cX2_readPart 51 = .ok (.iconst 0, 1) := by decide +kernel
theorem dX2_readPart_52 : decode cX2_readPart 52 = .ok (.iconst 0, 1) := by decide +kernel
theorem dX2_readPart_53 : decode cX2_readPart 53 = .ok (.invokevirtual 92, 3) := by decide +kernel
theorem dX2_readPart_56 : decode cX2_readPart 56 = .ok (.goto 165, 3) := by decide +kernel
theorem dX2_readPart_59 : decode cX2_readPart 59 = .ok (.iload_n 2, 1) := by decide +kernel
theorem dX2_readPart_60 : decode cX2_readPart 60 = .ok (.bipush 40, 2) := by decide +kernel
theorem dX2_readPart_62 : decode cX2_readPart 62 = .ok (.if_icmp .ne 35, 3) := by decide +kernel
theorem dX2_readPart_65 : decode cX2_readPart 65 = .ok (.iload_n 1, 1) := by decide +kernel
theorem dX2_readPart_66 : decode cX2_readPart 66 = .ok (.iconst 5, 1) := by decide +kernel
theorem dX2_readPart_67 : decode cX2_readPart 67 = .ok (.if_icmp .ge 30, 3) := by decide +kernel
theorem dX2_readPart_70 : decode cX2_readPart 70 = .ok (.aload_n 0, 1) := by decide +kernel
theorem dX2_readPart_71 : decode cX2_readPart 71 = .ok (.dup, 1) := by decide +kernel
theorem dX2_readPart_72 : decode cX2_readPart 72 = .ok (.getfield 71, 3) := by decide +kernel
theorem dX2_readPart_75 : decode cX2_readPart 75 = .ok (.iconst 1, 1) := by decide +kernel
theorem dX2_readPart_76 : decode cX2_readPart 76 = .ok (.iadd, 1) := by decide +kernel
theorem dX2_readPart_77 : decode cX2_readPart 77 = .ok (.putfield 71, 3) := by decide +kernel
theorem dX2_readPart_80 : decode cX2_readPart 80 = .ok (.aload_n 0, 1) := by decide +kernel
theorem dX2_readPart_81 : decode cX2_readPart 81 = .ok (.iload_n 1, 1) := by decide +kernel
theorem dX2_readPart_82 : decode cX2_readPart 82 = .ok (.iconst 1, 1) := by decide +kernel
theorem dX2_readPart_83 : decode cX2_readPart 83 = .ok (.iadd, 1) := by decide +kernel
theorem dX2_readPart_84 : decode cX2_readPart 84 = .ok (.invokevirtual 88, 3) := by decide +kernel
theorem dX2_readPart_87 : decode cX2_readPart 87 = .ok (.aload_n 0, 1) := by decide +kernel
theorem dX2_readPart_88 : decode cX2_readPart 88 = .ok (.bipush 41, 2) := by decide +kernel
theorem dX2_readPart_90 : decode cX2_readPart 90 = .ok (.invokevirtual 74, 3) := by decide +kernel
theorem dX2_readPart_93 : decode cX2_readPart 93 = .ok (.pop, 1) := by decide +kernel
theorem dX2_readPart_94 : decode cX2_readPart 94 = .ok (.goto 127, 3) := by decide +kernel
theorem dX2_readPart_97 : decode cX2_readPart 97 = .ok (.iload_n 3, 1) := by decide +kernel
theorem dX2_readPart_98 : decode cX2_readPart 98 = .ok (.ifCond .lt 118, 3) := by decide +kernel
theorem dX2_readPart_101 : decode cX2_readPart 101 = .ok (.aload_n 0, 1) := by decide +kernel
theorem dX2_readPart_102 : decode cX2_readPart 102 = .ok (.dup, 1) := by decide +kernel
theorem dX2_readPart_103 : decode cX2_readPart 103 = .ok (.getfield 71, 3) := by decide +kernel
theorem dX2_readPart_106 : decode cX2_readPart 106 = .ok (.iconst 1, 1) := by decide +kernel
theorem dX2_readPart_107 : decode cX2_readPart 107 = .ok (.iadd, 1) := by decide +kernel
theorem dX2_readPart_108 : decode cX2_readPart 108 = .ok (.putfield 71, 3) := by decide +kernel
theorem dX2_readPart_111 : decode cX2_readPart 111 = .ok (.aload_n 0, 1) := by decide +kernel
theorem dX2_readPart_112 : decode cX2_readPart 112 = .ok (.invokevirtual 45, 3) := by decide +kernel
theorem dX2_readPart_115 : decode cX2_readPart 115 = .ok (.istore 4, 2) := by decide +kernel
theorem dX2_readPart_117 : decode cX2_readPart 117 = .ok (.iload 4, 2) := by decide +kernel
theorem dX2_readPart_119 : decode cX2_readPart 119 = .ok (.bipush 60, 2) := by decide +kernel
theorem dX2_readPart_121 : decode cX2_readPart 121 = .ok (.if_icmp .eq 17, 3) := by decide +kernel
theorem dX2_readPart_124 : decode cX2_readPart 124 = .ok (.iload 4, 2) := by decide +kernel
theorem dX2_readPart_126 : decode cX2_readPart 126 = .ok (.bipush 61, 2) := by decide +kernel
theorem dX2_readPart_128 : decode cX2_readPart 128 = .ok (.if_icmp .eq 10, 3) := by decide +kernel
theorem dX2_readPart_131 : decode cX2_readPart 131 = .ok (.iload 4, 2) := by decide +kernel
theorem dX2_readPart_133 : decode cX2_readPart 133 = .ok (.bipush 62, 2) := by decide +kernel
theorem dX2_readPart_135 : decode cX2_readPart 135 = .ok (.if_icmp .ne 16, 3) := by decide +kernel
theorem dX2_readPart_138 : decode cX2_readPart 138 = .ok (.aload_n 0, 1) := by decide +kernel
theorem dX2_readPart_139 : decode cX2_readPart 139 = .ok (.dup, 1) := by decide +kernel
theorem dX2_readPart_140 : decode cX2_readPart 140 = .ok (.getfield 71, 3) := by decide +kernel
theorem dX2_readPart_143 : decode cX2_readPart 143 = .ok (.iconst 1, 1) := by decide +kernel
theorem dX2_readPart_144 : decode cX2_readPart 144 = .ok (.iadd, 1) := by decide +kernel
theorem dX2_readPart_145 : decode cX2_readPart 145 = .ok (.putfield 71, 3) := by decide +kernel
theorem dX2_readPart_148 : decode cX2_readPart 148 = .ok (.goto 8, 3) := by decide +kernel
theorem dX2_readPart_151 : decode cX2_readPart 151 = .ok (.aload_n 0, 1) := by decide +kernel
theorem dX2_readPart_152 : decode cX2_readPart 152 = .ok (.iconst 1, 1) := by decide +kernel
theorem dX2_readPart_153 : decode cX2_readPart 153 = .ok (.putfield 67, 3) := by decide +kernel
theorem dX2_readPart_156 : decode cX2_readPart 156 = .ok (.aload_n 0, 1) := by decide +kernel
theorem dX2_readPart_157 : decode cX2_readPart 157 = .ok (.invokevirtual 85, 3) := by decide +kernel
theorem dX2_readPart_160 : decode cX2_readPart 160 = .ok (.istore 5, 2) := by decide +kernel
theorem dX2_readPart_162 : decode cX2_readPart 162 = .ok (.iload 4, 2) := by decide +kernel
theorem dX2_readPart_164 : decode cX2_readPart 164 = .ok (.bipush 60, 2) := by decide +kernel
theorem dX2_readPart_166 : decode cX2_readPart 166 = .ok (.if_icmp .ne 16, 3) := by decide +kernel
theorem dX2_readPart_169 : decode cX2_readPart 169 = .ok (.aload_n 0, 1) := by decide +kernel
theorem dX2_readPart_170 : decode cX2_readPart 170 = .ok (.iload_n 3, 1) := by decide +kernel
theorem dX2_readPart_171 : decode cX2_readPart 171 = .ok (.iconst 0, 1) := by decide +kernel
theorem dX2_readPart_172 : decode cX2_readPart 172 = .ok (.iload 5, 2) := by decide +kernel
theorem dX2_readPart_174 : decode cX2_readPart 174 = .ok (.iconst 1, 1) := by decide +kernel
theorem dX2_readPart_175 : decode cX2_readPart 175 = .ok (.isub, 1) := by decide +kernel
theorem dX2_readPart_176 : decode cX2_readPart 176 = .ok (.invokevirtual 92, 3) := by decide +kernel
theorem dX2_readPart_179 : decode cX2_readPart 179 = .ok (.goto 34, 3) := by decide +kernel
theorem dX2_readPart_182 : decode cX2_readPart 182 = .ok (.iload 4, 2) := by decide +kernel
theorem dX2_readPart_184 : decode cX2_readPart 184 = .ok (.bipush 61, 2) := by decide +kernel
theorem dX2_readPart_186 : decode cX2_readPart 186 = .ok (.if_icmp .ne 15, 3) := by decide +kernel
theorem dX2_readPart_189 : decode cX2_readPart 189 = .ok (.aload_n 0, 1) := by decide +kernel
theorem dX2_readPart_190 : decode cX2_readPart 190 = .ok (.iload_n 3, 1) := by decide +kernel
theorem dX2_readPart_191 : decode cX2_readPart 191 = .ok (.iload 5, 2) := by decide +kernel
theorem dX2_readPart_193 : decode cX2_readPart 193 = .ok (.iload 5, 2) := by decide +kernel
theorem dX2_readPart_195 : decode cX2_readPart 195 = .ok (.invokevirtual 92, 3) := by decide +kernel
theorem dX2_readPart_198 : decode cX2_readPart 198 = .ok (.goto 15, 3) := by decide +kernel
theorem dX2_readPart_201 : decode cX2_readPart 201 = .ok (.aload_n 0, 1) := by decide +kernel
theorem dX2_readPart_202 : decode cX2_readPart 202 = .ok (.iload_n 3, 1) := by decide +kernel
theorem dX2_readPart_203 : decode cX2_readPart 203 = .ok (.iload 5, 2) := by decide +kernel
theorem dX2_readPart_205 : decode cX2_readPart 205 = .ok (.iconst 1, 1) := by decide +kernel
theorem dX2_readPart_206 : decode cX2_readPart 206 = .ok (.iadd, 1) := by decide +kernel
theorem dX2_readPart_207 : decode cX2_readPart 207 = .ok (.sipush 1000, 3) := by decide +kernel
theorem dX2_readPart_210 : decode cX2_readPart 210 = .ok (.invokevirtual 92, 3) := by decide +kernel
theorem dX2_readPart_213 : decode cX2_readPart 213 = .ok (.goto 8, 3) := by decide +kernel
theorem dX2_readPart_216 : decode cX2_readPart 216 = .ok (.aload_n 0, 1) := by decide +kernel
theorem dX2_readPart_217 : decode cX2_readPart 217 = .ok (.iconst 1, 1) := by decide +kernel
theorem dX2_readPart_218 : decode cX2_readPart 218 = .ok (.putfield 67, 3) := by decide +kernel
theorem dX2_readPart_221 : decode cX2_readPart 221 = .ok (.return_, 1) := by decide +kernel
set_option maxRecDepth 20000 in
theorem ggX2_readNumber_X2_sign : GoodIn wsX2_readNumber wsX2_sign := goodIn_r _ [7, 1, 2, 8, 9, 10, 11, 12, 13, 14, 15, 16, 17, 18, 19, 20] (by decide +kernel) (by decide +kernel)
set_option maxRecDepth 20000 in
theorem gX2_readNumber_X2_sign : GoodIn wsX2_readNumber (wsV RX2 45 RX2 yX2_sign wsX2_sign) := goodIn_app (goodIn_of _ (by decide +kernel)) ggX2_readNumber_X2_sign
theorem dX2_readNumber_0 : decode cX2_readNumber 0 = .ok (.aload_n 0, 1) := by decide +kernel
theorem dX2_readNumber_1 : decode cX2_readNumber 1 = .ok (.invokevirtual 45, 3) := by decide +kernel
theorem dX2_readNumber_4 : decode cX2_readNumber 4 = .ok (.istore_n 1, 1) := by decide +kernel
theorem dX2_readNumber_5 : decode cX2_readNumber 5 = .ok (.iload_n 1, 1) := by decide +kernel
theorem dX2_readNumber_6 : decode cX2_readNumber 6 = .ok (.bipush 48, 2) := by decide +kernel
theorem dX2_readNumber_8 : decode cX2_readNumber 8 = .ok (.if_icmp .lt 9, 3) := by decide +kernel
theorem dX2_readNumber_11 : decode cX2_readNumber 11 = .ok (.iload_n 1, 1) := by decide +kernel
theorem dX2_readNumber_12 : decode cX2_readNumber 12 = .ok (.bipush 57, 2) := by decide +kernel
theorem dX2_readNumber_14 : decode cX2_readNumber 14 = .ok (.if_icmp .le 10, 3) := by decide +kernel
theorem dX2_readNumber_17 : decode cX2_readNumber 17 = .ok (.aload_n 0, 1) := by decide +kernel
theorem dX2_readNumber_18 : decode cX2_readNumber 18 = .ok (.iconst 1, 1) := by decide +kernel
theorem dX2_readNumber_19 : decode cX2_readNumber 19 = .ok (.putfield 67, 3) := by decide +kernel
theorem dX2_readNumber_22 : decode cX2_readNumber 22 = .ok (.iconst 0, 1) := by decide +kernel
theorem dX2_readNumber_23 : decode cX2_readNumber 23 = .ok (.ireturn, 1) := by decide +kernel
theorem dX2_readNumber_24 : decode cX2_readNumber 24 = .ok (.aload_n 0, 1) := by decide +kernel
theorem dX2_readNumber_25 : decode cX2_readNumber 25 = .ok (.dup, 1) := by decide +kernel
theorem dX2_readNumber_26 : decode cX2_readNumber 26 = .ok (.getfield 71, 3) := by decide +kernel
theorem dX2_readNumber_29 : decode cX2_readNumber 29 = .ok (.iconst 1, 1) := by decide +kernel
theorem dX2_readNumber_30 : decode cX2_readNumber 30 = .ok (.iadd, 1) := by decide +kernel
theorem dX2_readNumber_31 : decode cX2_readNumber 31 = .ok (.putfield 71, 3) := by decide +kernel
theorem dX2_readNumber_34 : decode cX2_readNumber 34 = .ok (.aload_n 0, 1) := by decide +kernel
theorem dX2_readNumber_35 : decode cX2_readNumber 35 = .ok (.invokevirtual 45, 3) := by decide +kernel
theorem dX2_readNumber_38 : decode cX2_readNumber 38 = .ok (.istore_n 2, 1) := by decide +kernel
theorem dX2_readNumber_39 : decode cX2_readNumber 39 = .ok (.iload_n 1, 1) := by decide +kernel
theorem dX2_readNumber_40 : decode cX2_readNumber 40 = .ok (.bipush 48, 2) := by decide +kernel
theorem dX2_readNumber_42 : decode cX2_readNumber 42 = .ok (.if_icmp .eq 15, 3) := by decide +kernel
theorem dX2_readNumber_45 : decode cX2_readNumber 45 = .ok (.iload_n 2, 1) := by decide +kernel
theorem dX2_readNumber_46 : decode cX2_readNumber 46 = .ok (.bipush 48, 2) := by decide +kernel
theorem dX2_readNumber_48 : decode cX2_readNumber 48 = .ok (.if_icmp .lt 9, 3) := by decide +kernel
theorem dX2_readNumber_51 : decode cX2_readNumber 51 = .ok (.iload_n 2, 1) := by decide +kernel
theorem dX2_readNumber_52 : decode cX2_readNumber 52 = .ok (.bipush 57, 2) := by decide +kernel
theorem dX2_readNumber_54 : decode cX2_readNumber 54 = .ok (.if_icmp .le 8, 3) := by decide +kernel
theorem dX2_readNumber_57 : decode cX2_readNumber 57 = .ok (.iload_n 1, 1) := by decide +kernel
theorem dX2_readNumber_58 : decode cX2_readNumber 58 = .ok (.bipush 48, 2) := by decide +kernel
theorem dX2_readNumber_60 : decode cX2_readNumber 60 = .ok (.isub, 1) := by decide +kernel
theorem dX2_readNumber_61 : decode cX2_readNumber 61 = .ok (.ireturn, 1) := by decide +kernel
theorem dX2_readNumber_62 : decode cX2_readNumber 62 = .ok (.aload_n 0, 1) := by decide +kernel
theorem dX2_readNumber_63 : decode cX2_readNumber 63 = .ok (.dup, 1) := by decide +kernel
theorem dX2_readNumber_64 : decode cX2_readNumber 64 = .ok (.getfield 71, 3) := by decide +kernel
theorem dX2_readNumber_67 : decode cX2_readNumber 67 = .ok (.iconst 1, 1) := by decide +kernel
theorem dX2_readNumber_68 : decode cX2_readNumber 68 = .ok (.iadd, 1) := by decide +kernel
theorem dX2_readNumber_69 : decode cX2_readNumber 69 = .ok (.putfield 71, 3) := by decide +kernel
theorem dX2_readNumber_72 : decode cX2_readNumber 72 = .ok (.bipush 10, 2) := by decide +kernel
theorem dX2_readNumber_74 : decode cX2_readNumber 74 = .ok (.iload_n 1, 1) := by decide +kernel
theorem dX2_readNumber_75 : decode cX2_readNumber 75 = .ok (.bipush 48, 2) := by decide +kernel
theorem dX2_readNumber_77 : decode cX2_readNumber 77 = .ok (.isub, 1) := by decide +kernel
theorem dX2_readNumber_78 : decode cX2_readNumber 78 = .ok (.imul, 1) := by decide +kernel
theorem dX2_readNumber_79 : decode cX2_readNumber 79 = .ok (.iload_n 2, 1) := by decide +kernel
theorem dX2_readNumber_80 : decode cX2_readNumber 80 = .ok (.iadd, 1) := by decide +kernel
theorem dX2_readNumber_81 : decode cX2_readNumber 81 = .ok (.bipush 48, 2) := by decide +kernel
theorem dX2_readNumber_83 : decode cX2_readNumber 83 = .ok (.isub, 1) := by decide +kernel
theorem dX2_readNumber_84 : decode cX2_readNumber 84 = .ok (.ireturn, 1) := by decide +kernel
theorem dX2_sign_0 : decode cX2_sign 0 = .ok (.aload_n 0, 1) := by decide +kernel
theorem dX2_sign_1 : decode cX2_sign 1 = .ok (.getfield 67, 3) := by decide +kernel
theorem dX2_sign_4 : decode cX2_sign 4 = .ok (.ifCond .ne 21, 3) := by decide +kernel
theorem dX2_sign_7 : decode cX2_sign 7 = .ok (.aload_n 0, 1) := by decide +kernel
theorem dX2_sign_8 : decode cX2_sign 8 = .ok (.getfield 71, 3) := by decide +kernel
theorem dX2_sign_11 : decode cX2_sign 11 = .ok (.ifCond .lt 14, 3) := by decide +kernel
theorem dX2_sign_14 : decode cX2_sign 14 = .ok (.aload_n 0, 1) := by decide +kernel
theorem dX2_sign_15 : decode cX2_sign 15 = .ok (.getfield 71, 3) := by decide +kernel
theorem dX2_sign_18 : decode cX2_sign 18 = .ok (.aload_n 0, 1) := by decide +kernel
theorem dX2_sign_19 : decode cX2_sign 19 = .ok (.getfield 32, 3) := by decide +kernel
theorem dX2_sign_22 : decode cX2_sign 22 = .ok (.if_icmp .lt 7, 3) := by decide +kernel
theorem dX2_sign_25 : decode cX2_sign 25 = .ok (.iconst (-1), 1) := by decide +kernel
theorem dX2_sign_26 : decode cX2_sign 26 = .ok (.goto 12, 3) := by decide +kernel
theorem dX2_sign_29 : decode cX2_sign 29 = .ok (.aload_n 0, 1) := by decide +kernel
theorem dX2_sign_30 : decode cX2_sign 30 = .ok (.getfield 19, 3) := by decide +kernel
theorem dX2_sign_33 : decode cX2_sign 33 = .ok (.aload_n 0, 1) := by decide +kernel
theorem dX2_sign_34 : decode cX2_sign 34 = .ok (.getfield 71, 3) := by decide +kernel
theorem dX2_sign_37 : decode cX2_sign 37 = .ok (.caload, 1) := by decide +kernel
theorem dX2_sign_38 : decode cX2_sign 38 = .ok (.ireturn, 1) := by decide +kernel
set_option maxRecDepth 20000 in
theorem ggX2_takeAll_J0_length_8abf5 : GoodIn wsX2_takeAll wsJ0_length_8abf5 := goodIn_r _ [5, 6, 7, 8, 9, 4, 10, 11, 12] (by decide +kernel) (by decide +kernel)
set_option maxRecDepth 20000 in
theorem gX2_takeAll_J0_length_8abf5 : GoodIn wsX2_takeAll (wsV RX2 110 RJ0 yJ0_length_8abf5 wsJ0_length_8abf5) := goodIn_app (goodIn_of _ (by decide +kernel)) ggX2_takeAll_J0_length_8abf5
set_option maxRecDepth 20000 in
theorem ggX2_takeAll_J0_charAt_5068e : GoodIn wsX2_takeAll wsJ0_charAt_5068e := goodIn_r _ [16, 6, 17, 18, 19, 4, 20, 11, 12, 21, 22, 23, 24, 25, 26, 27, 28, 29, 30, 31, 32, 33, 34, 35, 36, 37, 38, 39, 40, 41, 42, 43, 44, 45, 46, 47, 48, 49] (by decide +kernel) (by decide +kernel)
set_option maxRecDepth 20000 in
theorem gX2_takeAll_J0_charAt_5068e : GoodIn wsX2_takeAll (wsV RX2 113 RJ0 yJ0_charAt_5068e wsJ0_charAt_5068e) := goodIn_app (goodIn_of _ (by decide +kernel)) ggX2_takeAll_J0_charAt_5068e
set_option maxRecDepth 20000 in
theorem ggX2_takeAll_X2_take : GoodIn wsX2_takeAll wsX2_take := goodIn_r _ [54, 55, 56, 57, 58, 59, 53, 60, 61, 62, 63, 64, 65, 66, 67, 68, 69, 70, 71, 72, 73] (by decide +kernel) (by decide +kernel)
set_option maxRecDepth 20000 in
theorem gX2_takeAll_X2_take : GoodIn wsX2_takeAll (wsV RX2 74 RX2 yX2_take wsX2_take) := goodIn_app (goodIn_of _ (by decide +kernel)) ggX2_takeAll_X2_take
theorem dX2_takeAll_0 : decode cX2_takeAll 0 = .ok (.iconst 0, 1) := by decide +kernel
theorem dX2_takeAll_1 : decode cX2_takeAll 1 = .ok (.istore_n 2, 1) := by decide +kernel
theorem dX2_takeAll_2 : decode cX2_takeAll 2 = .ok (.iload_n 2, 1) := by decide +kernel
theorem dX2_takeAll_3 : decode cX2_takeAll 3 = .ok (.aload_n 1, 1) := by decide +kernel
theorem dX2_takeAll_4 : decode cX2_takeAll 4 = .ok (.invokevirtual 110, 3) := by decide +kernel
theorem dX2_takeAll_7 : decode cX2_takeAll 7 = .ok (.if_icmp .ge 19, 3) := by decide +kernel
theorem dX2_takeAll_10 : decode cX2_takeAll 10 = .ok (.aload_n 0, 1) := by decide +kernel
theorem dX2_takeAll_11 : decode cX2_takeAll 11 = .ok (.aload_n 1, 1) := by decide +kernel
theorem dX2_takeAll_12 : decode cX2_takeAll 12 = .ok (.iload_n 2, 1) := by decide +kernel
theorem dX2_takeAll_13 : decode cX2_takeAll 13 = .ok (.invokevirtual 113, 3) := by decide +kernel
theorem dX2_takeAll_16 : decode cX2_takeAll 16 = .ok (.invokevirtual 74, 3) := by decide +kernel
theorem dX2_takeAll_19 : decode cX2_takeAll 19 = .ok (.pop, 1) := by decide +kernel
theorem dX2_takeAll_20 : decode cX2_takeAll 20 = .ok (.iinc 2 1, 3) := by decide +kernel
theorem dX2_takeAll_23 : decode cX2_takeAll 23 = .ok (.goto (-21), 3) := by decide +kernel
theorem dX2_takeAll_26 : decode cX2_takeAll 26 = .ok (.return_, 1) := by decide +kernel
set_option maxRecDepth 20000 in
theorem ggX2_take_X2_sign : GoodIn wsX2_take wsX2_sign := goodIn_r _ [7, 1, 2, 8, 9, 10, 11, 12, 13, 14, 15, 16, 17, 18, 19, 20] (by decide +kernel) (by decide +kernel)
set_option maxRecDepth 20000 in
theorem gX2_take_X2_sign : GoodIn wsX2_take (wsV RX2 45 RX2 yX2_sign wsX2_sign) := goodIn_app (goodIn_of _ (by decide +kernel)) ggX2_take_X2_sign
theorem dX2_take_0 : decode cX2_take 0 = .ok (.aload_n 0, 1) := by decide +kernel
theorem dX2_take_1 : decode cX2_take 1 = .ok (.invokevirtual 45, 3) := by decide +kernel
theorem dX2_take_4 : decode cX2_take 4 = .ok (.iload_n 1, 1) := by decide +kernel
theorem dX2_take_5 : decode cX2_take 5 = .ok (.if_icmp .eq 11, 3) := by decide +kernel
theorem dX2_take_8 : decode cX2_take 8 = .ok (.aload_n 0, 1) := by decide +kernel
theorem dX2_take_9 : decode cX2_take 9 = .ok (.iconst 1, 1) := by decide +kernel
theorem dX2_take_10 : decode cX2_take 10 = .ok (.putfield 67, 3) := by decide +kernel
theorem dX2_take_13 : decode cX2_take 13 = .ok (.goto 13, 3) := by decide +kernel
theorem dX2_take_16 : decode cX2_take 16 = .ok (.aload_n 0, 1) := by decide +kernel
theorem dX2_take_17 : decode cX2_take 17 = .ok (.dup, 1) := by decide +kernel
theorem dX2_take_18 : decode cX2_take 18 = .ok (.getfield 71, 3) := by decide +kernel
theorem dX2_take_21 : decode cX2_take 21 = .ok (.iconst 1, 1) := by decide +kernel
theorem dX2_take_22 : decode cX2_take 22 = .ok (.iadd, 1) := by decide +kernel
theorem dX2_take_23 : decode cX2_take 23 = .ok (.putfield 71, 3) := by decide +kernel
theorem dX2_take_26 : decode cX2_take 26 = .ok (.aload_n 0, 1) := by decide +kernel
theorem dX2_take_27 : decode cX2_take 27 = .ok (.getfield 67, 3) := by decide +kernel
theorem dX2_take_30 : decode cX2_take 30 = .ok (.ifCond .ne 7, 3) := by decide +kernel
theorem dX2_take_33 : decode cX2_take 33 = .ok (.iconst 1, 1) := by decide +kernel
theorem dX2_take_34 : decode cX2_take 34 = .ok (.goto 4, 3) := by decide +kernel
theorem dX2_take_37 : decode cX2_take 37 = .ok (.iconst 0, 1) := by decide +kernel
theorem dX2_take_38 : decode cX2_take 38 = .ok (.ireturn, 1) := by decide +kernel
theorem dX2_add_0 : decode cX2_add 0 = .ok (.aload_n 0, 1) := by decide +kernel
theorem dX2_add_1 : decode cX2_add 1 = .ok (.getfield 67, 3) := by decide +kernel
theorem dX2_add_4 : decode cX2_add 4 = .ok (.ifCond .ne 14, 3) := by decide +kernel
theorem dX2_add_7 : decode cX2_add 7 = .ok (.aload_n 0, 1) := by decide +kernel
theorem dX2_add_8 : decode cX2_add 8 = .ok (.getfield 78, 3) := by decide +kernel
theorem dX2_add_11 : decode cX2_add 11 = .ok (.aload_n 0, 1) := by decide +kernel
theorem dX2_add_12 : decode cX2_add 12 = .ok (.getfield 32, 3) := by decide +kernel
theorem dX2_add_15 : decode cX2_add 15 = .ok (.if_icmp .lt 4, 3) := by decide +kernel
theorem dX2_add_18 : decode cX2_add 18 = .ok (.return_, 1) := by decide +kernel
theorem dX2_add_19 : decode cX2_add 19 = .ok (.aload_n 0, 1) := by decide +kernel
theorem dX2_add_20 : decode cX2_add 20 = .ok (.getfield 35, 3) := by decide +kernel
theorem dX2_add_23 : decode cX2_add 23 = .ok (.aload_n 0, 1) := by decide +kernel
theorem dX2_add_24 : decode cX2_add 24 = .ok (.getfield 78, 3) := by decide +kernel
theorem dX2_add_27 : decode cX2_add 27 = .ok (.iload_n 1, 1) := by decide +kernel
theorem dX2_add_28 : decode cX2_add 28 = .ok (.iastore, 1) := by decide +kernel
theorem dX2_add_29 : decode cX2_add 29 = .ok (.aload_n 0, 1) := by decide +kernel
theorem dX2_add_30 : decode cX2_add 30 = .ok (.getfield 39, 3) := by decide +kernel
theorem dX2_add_33 : decode cX2_add 33 = .ok (.aload_n 0, 1) := by decide +kernel
theorem dX2_add_34 : decode cX2_add 34 = .ok (.getfield 78, 3) := by decide +kernel
theorem dX2_add_37 : decode cX2_add 37 = .ok (.iload_n 2, 1) := by decide +kernel
theorem dX2_add_38 : decode cX2_add 38 = .ok (.iastore, 1) := by decide +kernel
theorem dX2_add_39 : decode cX2_add 39 = .ok (.aload_n 0, 1) := by decide +kernel
theorem dX2_add_40 : decode cX2_add 40 = .ok (.getfield 42, 3) := by decide +kernel
theorem dX2_add_43 : decode cX2_add 43 = .ok (.aload_n 0, 1) := by decide +kernel
theorem dX2_add_44 : decode cX2_add 44 = .ok (.getfield 78, 3) := by decide +kernel
theorem dX2_add_47 : decode cX2_add 47 = .ok (.iload_n 3, 1) := by decide +kernel
theorem dX2_add_48 : decode cX2_add 48 = .ok (.iastore, 1) := by decide +kernel
theorem dX2_add_49 : decode cX2_add 49 = .ok (.aload_n 0, 1) := by decide +kernel
theorem dX2_add_50 : decode cX2_add 50 = .ok (.dup, 1) := by decide +kernel
theorem dX2_add_51 : decode cX2_add 51 = .ok (.getfield 78, 3) := by decide +kernel
theorem dX2_add_54 : decode cX2_add 54 = .ok (.iconst 1, 1) := by decide +kernel
theorem dX2_add_55 : decode cX2_add 55 = .ok (.iadd, 1) := by decide +kernel
theorem dX2_add_56 : decode cX2_add 56 = .ok (.putfield 78, 3) := by decide +kernel
theorem dX2_add_59 : decode cX2_add 59 = .ok (.return_, 1) := by decide +kernel
set_option maxRecDepth 20000 in
theorem ggX3_init_X9_init : GoodIn wsX3_init wsX9_init := goodIn_r _ [4, 5, 6, 7, 8, 9, 10, 11, 12, 13, 14, 15, 16, 17, 18, 19, 20, 21, 22, 23, 24, 25, 26, 27, 28, 29, 30, 31, 32, 33, 34, 35, 36, 37, 38, 39, 40, 41, 42, 43] (by decide +kernel) (by decide +kernel)
set_option maxRecDepth 20000 in
theorem gX3_init_X9_init : GoodIn wsX3_init (wsX9_init) := ggX3_init_X9_init
theorem dX3_init_0 : decode cX3_init 0 = .ok (.aload_n 0, 1) := by decide +kernel
theorem dX3_init_1 : decode cX3_init 1 = .ok (.iload_n 1, 1) := by decide +kernel
theorem dX3_init_2 : decode cX3_init 2 = .ok (.iload_n 2, 1) := by decide +kernel
theorem dX3_init_3 : decode cX3_init 3 = .ok (.iload_n 3, 1) := by decide +kernel
theorem dX3_init_4 : decode cX3_init 4 = .ok (.iload 4, 2) := by decide +kernel
theorem dX3_init_6 : decode cX3_init 6 = .ok (.invokespecial 1, 3) := by decide +kernel
theorem dX3_init_9 : decode cX3_init 9 = .ok (.return_, 1) := by decide +kernel
set_option maxRecDepth 20000 in
theorem ggX3_lineUp_X9_lineUp : GoodIn wsX3_lineUp wsX9_lineUp := goodIn_r _ [8] (by decide +kernel) (by decide +kernel)
set_option maxRecDepth 20000 in
theorem gX3_lineUp_X9_lineUp_s13 : GoodIn wsX3_lineUp (va_wsSU RX3 13 yX9_lineUp wsX9_lineUp) := goodIn_app (goodIn_of _ (by decide +kernel)) ggX3_lineUp_X9_lineUp
theorem dX3_lineUp_0 : decode cX3_lineUp 0 = .ok (.iconst (-1), 1) := by decide +kernel
theorem dX3_lineUp_1 : decode cX3_lineUp 1 = .ok (.istore 5, 2) := by decide +kernel
theorem dX3_lineUp_3 : decode cX3_lineUp 3 = .ok (.iconst 0, 1) := by decide +kernel
theorem dX3_lineUp_4 : decode cX3_lineUp 4 = .ok (.istore 6, 2) := by decide +kernel
theorem dX3_lineUp_6 : decode cX3_lineUp 6 = .ok (.iload 6, 2) := by decide +kernel
theorem dX3_lineUp_8 : decode cX3_lineUp 8 = .ok (.iload_n 2, 1) := by decide +kernel
theorem dX3_lineUp_9 : decode cX3_lineUp 9 = .ok (.if_icmp .ge 24, 3) := by decide +kernel
theorem dX3_lineUp_12 : decode cX3_lineUp 12 = .ok (.aload_n 1, 1) := by decide +kernel
theorem dX3_lineUp_13 : decode cX3_lineUp 13 = .ok (.iload 6, 2) := by decide +kernel
theorem dX3_lineUp_15 : decode cX3_lineUp 15 = .ok (.iaload, 1) := by decide +kernel
theorem dX3_lineUp_16 : decode cX3_lineUp 16 = .ok (.aload_n 0, 1) := by decide +kernel
theorem dX3_lineUp_17 : decode cX3_lineUp 17 = .ok (.getfield 7, 3) := by decide +kernel
theorem dX3_lineUp_20 : decode cX3_lineUp 20 = .ok (.if_icmp .ne 7, 3) := by decide +kernel
theorem dX3_lineUp_23 : decode cX3_lineUp 23 = .ok (.iload 6, 2) := by decide +kernel
theorem dX3_lineUp_25 : decode cX3_lineUp 25 = .ok (.istore 5, 2) := by decide +kernel
theorem dX3_lineUp_27 : decode cX3_lineUp 27 = .ok (.iinc 6 1, 3) := by decide +kernel
theorem dX3_lineUp_30 : decode cX3_lineUp 30 = .ok (.goto (-24), 3) := by decide +kernel
theorem dX3_lineUp_33 : decode cX3_lineUp 33 = .ok (.iload 5, 2) := by decide +kernel
theorem dX3_lineUp_35 : decode cX3_lineUp 35 = .ok (.ifCond .ge 13, 3) := by decide +kernel
theorem dX3_lineUp_38 : decode cX3_lineUp 38 = .ok (.aload_n 0, 1) := by decide +kernel
theorem dX3_lineUp_39 : decode cX3_lineUp 39 = .ok (.aload_n 1, 1) := by decide +kernel
theorem dX3_lineUp_40 : decode cX3_lineUp 40 = .ok (.iload_n 2, 1) := by decide +kernel
theorem dX3_lineUp_41 : decode cX3_lineUp 41 = .ok (.iload_n 3, 1) := by decide +kernel
theorem dX3_lineUp_42 : decode cX3_lineUp 42 = .ok (.aload 4, 2) := by decide +kernel
theorem dX3_lineUp_44 : decode cX3_lineUp 44 = .ok (.invokespecial 13, 3) := by decide +kernel
theorem dX3_lineUp_47 : decode cX3_lineUp 47 = .ok (.return_, 1) := by decide +kernel
theorem dX3_lineUp_48 : decode cX3_lineUp 48 = .ok (.aload 4, 2) := by decide +kernel
theorem dX3_lineUp_50 : decode cX3_lineUp 50 = .ok (.iconst 0, 1) := by decide +kernel
theorem dX3_lineUp_51 : decode cX3_lineUp 51 = .ok (.aload_n 0, 1) := by decide +kernel
theorem dX3_lineUp_52 : decode cX3_lineUp 52 = .ok (.getfield 7, 3) := by decide +kernel
theorem dX3_lineUp_55 : decode cX3_lineUp 55 = .ok (.iastore, 1) := by decide +kernel
theorem dX3_lineUp_56 : decode cX3_lineUp 56 = .ok (.iload_n 2, 1) := by decide +kernel
theorem dX3_lineUp_57 : decode cX3_lineUp 57 = .ok (.iconst 1, 1) := by decide +kernel
theorem dX3_lineUp_58 : decode cX3_lineUp 58 = .ok (.isub, 1) := by decide +kernel
theorem dX3_lineUp_59 : decode cX3_lineUp 59 = .ok (.istore 6, 2) := by decide +kernel
theorem dX3_lineUp_61 : decode cX3_lineUp 61 = .ok (.iconst 0, 1) := by decide +kernel
theorem dX3_lineUp_62 : decode cX3_lineUp 62 = .ok (.istore 7, 2) := by decide +kernel
theorem dX3_lineUp_64 : decode cX3_lineUp 64 = .ok (.iload 7, 2) := by decide +kernel
theorem dX3_lineUp_66 : decode cX3_lineUp 66 = .ok (.iload 6, 2) := by decide +kernel
theorem dX3_lineUp_68 : decode cX3_lineUp 68 = .ok (.if_icmp .ge 43, 3) := by decide +kernel
theorem dX3_lineUp_71 : decode cX3_lineUp 71 = .ok (.iload_n 3, 1) := by decide +kernel
theorem dX3_lineUp_72 : decode cX3_lineUp 72 = .ok (.iload 7, 2) := by decide +kernel
theorem dX3_lineUp_74 : decode cX3_lineUp 74 = .ok (.iadd, 1) := by decide +kernel
theorem dX3_lineUp_75 : decode cX3_lineUp 75 = .ok (.iload 6, 2) := by decide +kernel
theorem dX3_lineUp_77 : decode cX3_lineUp 77 = .ok (.irem, 1) := by decide +kernel
theorem dX3_lineUp_78 : decode cX3_lineUp 78 = .ok (.istore 8, 2) := by decide +kernel
theorem dX3_lineUp_80 : decode cX3_lineUp 80 = .ok (.aload 4, 2) := by decide +kernel
theorem dX3_lineUp_82 : decode cX3_lineUp 82 = .ok (.iload 7, 2) := by decide +kernel
theorem dX3_lineUp_84 : decode cX3_lineUp 84 = .ok (.iconst 1, 1) := by decide +kernel
theorem dX3_lineUp_85 : decode cX3_lineUp 85 = .ok (.iadd, 1) := by decide +kernel
theorem dX3_lineUp_86 : decode cX3_lineUp 86 = .ok (.aload_n 1, 1) := by decide +kernel
theorem dX3_lineUp_87 : decode cX3_lineUp 87 = .ok (.iload 8, 2) := by decide +kernel
theorem dX3_lineUp_89 : decode cX3_lineUp 89 = .ok (.iload 5, 2) := by decide +kernel
theorem dX3_lineUp_91 : decode cX3_lineUp 91 = .ok (.if_icmp .ge 8, 3) := by decide +kernel
theorem dX3_lineUp_94 : decode cX3_lineUp 94 = .ok (.iload 8, 2) := by decide +kernel
theorem dX3_lineUp_96 : decode cX3_lineUp 96 = .ok (.goto 7, 3) := by decide +kernel
theorem dX3_lineUp_99 : decode cX3_lineUp 99 = .ok (.iload 8, 2) := by decide +kernel
theorem dX3_lineUp_101 : decode cX3_lineUp 101 = .ok (.iconst 1, 1) := by decide +kernel
theorem dX3_lineUp_102 : decode cX3_lineUp 102 = .ok (.iadd, 1) := by decide +kernel
theorem dX3_lineUp_103 : decode cX3_lineUp 103 = .ok (.iaload, 1) := by decide +kernel
theorem dX3_lineUp_104 : decode cX3_lineUp 104 = .ok (.iastore, 1) := by decide +kernel
theorem dX3_lineUp_105 : decode cX3_lineUp 105 = .ok (.iinc 7 1, 3) := by decide +kernel
theorem dX3_lineUp_108 : decode cX3_lineUp 108 = .ok (.goto (-44), 3) := by decide +kernel
theorem dX3_lineUp_111 : decode cX3_lineUp 111 = .ok (.return_, 1) := by decide +kernel
set_option maxRecDepth 20000 in
theorem ggX3_works_X8_begin : GoodIn wsX3_works wsX8_begin := goodIn_r _ [7, 8, 9, 38, 39] (by decide +kernel) (by decide +kernel)
set_option maxRecDepth 20000 in
theorem gX3_works_X8_begin : GoodIn wsX3_works (wsV RX3 17 RX8 yX8_begin wsX8_begin) := goodIn_app (goodIn_of _ (by decide +kernel)) ggX3_works_X8_begin
theorem dX3_works_0 : decode cX3_works 0 = .ok (.aload_n 2, 1) := by decide +kernel
theorem dX3_works_1 : decode cX3_works 1 = .ok (.bipush 51, 2) := by decide +kernel
theorem dX3_works_3 : decode cX3_works 3 = .ok (.invokevirtual 17, 3) := by decide +kernel
theorem dX3_works_6 : decode cX3_works 6 = .ok (.aload_n 0, 1) := by decide +kernel
theorem dX3_works_7 : decode cX3_works 7 = .ok (.iload_n 1, 1) := by decide +kernel
theorem dX3_works_8 : decode cX3_works 8 = .ok (.aload_n 2, 1) := by decide +kernel
theorem dX3_works_9 : decode cX3_works 9 = .ok (.invokespecial 23, 3) := by decide +kernel
theorem dX3_works_12 : decode cX3_works 12 = .ok (.aload_n 0, 1) := by decide +kernel
theorem dX3_works_13 : decode cX3_works 13 = .ok (.getfield 27, 3) := by decide +kernel
theorem dX3_works_16 : decode cX3_works 16 = .ok (.ixor, 1) := by decide +kernel
theorem dX3_works_17 : decode cX3_works 17 = .ok (.ireturn, 1) := by decide +kernel
set_option maxRecDepth 20000 in
theorem ggX4_init_X0_init : GoodIn wsX4_init wsX0_init := goodIn_r _ [4, 5, 6, 7, 8, 9, 10, 11, 12, 13, 14, 15, 16, 17, 18, 19, 20, 21, 22, 23, 24, 25, 26, 27, 28, 29, 30, 31, 32, 33, 34, 35, 36, 37, 38, 39] (by decide +kernel) (by decide +kernel)
set_option maxRecDepth 20000 in
theorem gX4_init_X0_init : GoodIn wsX4_init (wsX0_init) := ggX4_init_X0_init
theorem dX4_init_0 : decode cX4_init 0 = .ok (.aload_n 0, 1) := by decide +kernel
theorem dX4_init_1 : decode cX4_init 1 = .ok (.iload_n 1, 1) := by decide +kernel
theorem dX4_init_2 : decode cX4_init 2 = .ok (.iload_n 2, 1) := by decide +kernel
theorem dX4_init_3 : decode cX4_init 3 = .ok (.iload_n 3, 1) := by decide +kernel
theorem dX4_init_4 : decode cX4_init 4 = .ok (.iload 4, 2) := by decide +kernel
theorem dX4_init_6 : decode cX4_init 6 = .ok (.invokespecial 1, 3) := by decide +kernel
theorem dX4_init_9 : decode cX4_init 9 = .ok (.return_, 1) := by decide +kernel
theorem dX4_seen_0 : decode cX4_seen 0 = .ok (.iload_n 1, 1) := by decide +kernel
theorem dX4_seen_1 : decode cX4_seen 1 = .ok (.bipush 10, 2) := by decide +kernel
theorem dX4_seen_3 : decode cX4_seen 3 = .ok (.aload_n 0, 1) := by decide +kernel
theorem dX4_seen_4 : decode cX4_seen 4 = .ok (.getfield 7, 3) := by decide +kernel
theorem dX4_seen_7 : decode cX4_seen 7 = .ok (.isub, 1) := by decide +kernel
theorem dX4_seen_8 : decode cX4_seen 8 = .ok (.imul, 1) := by decide +kernel
theorem dX4_seen_9 : decode cX4_seen 9 = .ok (.iload_n 2, 1) := by decide +kernel
theorem dX4_seen_10 : decode cX4_seen 10 = .ok (.aload_n 0, 1) := by decide +kernel
theorem dX4_seen_11 : decode cX4_seen 11 = .ok (.getfield 7, 3) := by decide +kernel
theorem dX4_seen_14 : decode cX4_seen 14 = .ok (.imul, 1) := by decide +kernel
theorem dX4_seen_15 : decode cX4_seen 15 = .ok (.iadd, 1) := by decide +kernel
theorem dX4_seen_16 : decode cX4_seen 16 = .ok (.bipush 10, 2) := by decide +kernel
theorem dX4_seen_18 : decode cX4_seen 18 = .ok (.idiv, 1) := by decide +kernel
theorem dX4_seen_19 : decode cX4_seen 19 = .ok (.ireturn, 1) := by decide +kernel
set_option maxRecDepth 20000 in
theorem ggX4_levels_X8_begin : GoodIn wsX4_levels wsX8_begin := goodIn_r _ [5, 6, 7, 67, 68] (by decide +kernel) (by decide +kernel)
set_option maxRecDepth 20000 in
theorem gX4_levels_X8_begin : GoodIn wsX4_levels (wsV RX4 13 RX8 yX8_begin wsX8_begin) := goodIn_app (goodIn_of _ (by decide +kernel)) ggX4_levels_X8_begin
set_option maxRecDepth 20000 in
theorem ggX4_levels_X0_levels : GoodIn wsX4_levels wsX0_levels := goodIn_r _ [13, 14, 2, 3, 4, 5, 6, 7, 15, 16, 17, 12, 18, 19, 20, 21, 22, 23, 24, 25, 26, 27, 28, 29, 30, 31, 32, 33, 34, 35, 36, 37, 38, 39, 40, 41, 42, 43, 44, 45, 46, 47, 48, 49, 50, 51, 52, 53, 54, 55, 56, 57, 58, 59, 60, 61, 62, 63, 64, 65, 66, 67, 68, 69, 70, 71, 72, 73, 74, 75, 76, 77, 78, 79, 80, 81, 82, 83, 84, 85, 86, 87, 88, 89, 90, 91, 92, 93, 94, 95, 96] (by decide +kernel) (by decide +kernel)
set_option maxRecDepth 20000 in
theorem gX4_levels_X0_levels_s19 : GoodIn wsX4_levels (va_wsSU RX4 19 yX0_levels wsX0_levels) := goodIn_app (goodIn_of _ (by decide +kernel)) ggX4_levels_X0_levels
theorem dX4_levels_0 : decode cX4_levels 0 = .ok (.aload_n 2, 1) := by decide +kernel
theorem dX4_levels_1 : decode cX4_levels 1 = .ok (.bipush 31, 2) := by decide +kernel
theorem dX4_levels_3 : decode cX4_levels 3 = .ok (.invokevirtual 13, 3) := by decide +kernel
theorem dX4_levels_6 : decode cX4_levels 6 = .ok (.aload_n 0, 1) := by decide +kernel
theorem dX4_levels_7 : decode cX4_levels 7 = .ok (.iload_n 1, 1) := by decide +kernel
theorem dX4_levels_8 : decode cX4_levels 8 = .ok (.aload_n 2, 1) := by decide +kernel
theorem dX4_levels_9 : decode cX4_levels 9 = .ok (.invokespecial 19, 3) := by decide +kernel
theorem dX4_levels_12 : decode cX4_levels 12 = .ok (.bipush 7, 2) := by decide +kernel
theorem dX4_levels_14 : decode cX4_levels 14 = .ok (.ixor, 1) := by decide +kernel
theorem dX4_levels_15 : decode cX4_levels 15 = .ok (.ireturn, 1) := by decide +kernel
set_option maxRecDepth 20000 in
theorem ggX5_init_X0_init : GoodIn wsX5_init wsX0_init := goodIn_r _ [4, 5, 6, 7, 8, 9, 10, 11, 12, 13, 14, 15, 16, 17, 18, 19, 20, 21, 22, 23, 24, 25, 26, 27, 28, 29, 30, 31, 32, 33, 34, 35, 36, 37, 38, 39] (by decide +kernel) (by decide +kernel)
set_option maxRecDepth 20000 in
theorem gX5_init_X0_init : GoodIn wsX5_init (wsX0_init) := ggX5_init_X0_init
theorem dX5_init_0 : decode cX5_init 0 = .ok (.aload_n 0, 1) := by decide +kernel
theorem dX5_init_1 : decode cX5_init 1 = .ok (.iload_n 1, 1) := by decide +kernel
theorem dX5_init_2 : decode cX5_init 2 = .ok (.iload_n 2, 1) := by decide +kernel
theorem dX5_init_3 : decode cX5_init 3 = .ok (.iload_n 3, 1) := by decide +kernel
theorem dX5_init_4 : decode cX5_init 4 = .ok (.iload 4, 2) := by decide +kernel
theorem dX5_init_6 : decode cX5_init 6 = .ok (.invokespecial 1, 3) := by decide +kernel
theorem dX5_init_9 : decode cX5_init 9 = .ok (.return_, 1) := by decide +kernel
theorem dX5_favour_0 : decode cX5_favour 0 = .ok (.aload_n 0, 1) := by decide +kernel
theorem dX5_favour_1 : decode cX5_favour 1 = .ok (.getfield 7, 3) := by decide +kernel
theorem dX5_favour_4 : decode cX5_favour 4 = .ok (.ireturn, 1) := by decide +kernel
set_option maxRecDepth 20000 in
theorem ggX5_works_X8_begin : GoodIn wsX5_works wsX8_begin := goodIn_r _ [5, 6, 7, 16, 17] (by decide +kernel) (by decide +kernel)
set_option maxRecDepth 20000 in
theorem gX5_works_X8_begin : GoodIn wsX5_works (wsV RX5 13 RX8 yX8_begin wsX8_begin) := goodIn_app (goodIn_of _ (by decide +kernel)) ggX5_works_X8_begin
set_option maxRecDepth 20000 in
theorem ggX5_works_X0_works : GoodIn wsX5_works wsX0_works := goodIn_r _ [13, 14, 15, 2, 3, 4, 5, 6, 7, 18, 19, 20, 21, 22, 23, 24, 25, 26, 27, 28, 29, 30, 31, 32, 33, 34, 35, 36, 37, 38, 39, 40, 41, 42, 43, 44, 45, 16, 17] (by decide +kernel) (by decide +kernel)
set_option maxRecDepth 20000 in
theorem gX5_works_X0_works_s19 : GoodIn wsX5_works (va_wsSU RX5 19 yX0_works wsX0_works) := goodIn_app (goodIn_of _ (by decide +kernel)) ggX5_works_X0_works
theorem dX5_works_0 : decode cX5_works 0 = .ok (.aload_n 2, 1) := by decide +kernel
theorem dX5_works_1 : decode cX5_works 1 = .ok (.bipush 11, 2) := by decide +kernel
theorem dX5_works_3 : decode cX5_works 3 = .ok (.invokevirtual 13, 3) := by decide +kernel
theorem dX5_works_6 : decode cX5_works 6 = .ok (.aload_n 0, 1) := by decide +kernel
theorem dX5_works_7 : decode cX5_works 7 = .ok (.iload_n 1, 1) := by decide +kernel
theorem dX5_works_8 : decode cX5_works 8 = .ok (.iconst 3, 1) := by decide +kernel
theorem dX5_works_9 : decode cX5_works 9 = .ok (.imul, 1) := by decide +kernel
theorem dX5_works_10 : decode cX5_works 10 = .ok (.aload_n 2, 1) := by decide +kernel
theorem dX5_works_11 : decode cX5_works 11 = .ok (.invokespecial 19, 3) := by decide +kernel
theorem dX5_works_14 : decode cX5_works 14 = .ok (.ireturn, 1) := by decide +kernel
set_option maxRecDepth 20000 in
theorem ggX6_init_X5_init : GoodIn wsX6_init wsX5_init := goodIn_r _ [4, 5, 6, 7, 8, 9, 10, 11, 12, 13, 14, 15, 16, 17, 18, 19, 20, 21, 22, 23, 24, 25, 26, 27, 28, 29, 30, 31, 32, 33, 34, 35, 36, 37, 38, 39, 40, 41, 42, 43] (by decide +kernel) (by decide +kernel)
set_option maxRecDepth 20000 in
theorem gX6_init_X5_init : GoodIn wsX6_init (wsX5_init) := ggX6_init_X5_init
theorem dX6_init_0 : decode cX6_init 0 = .ok (.aload_n 0, 1) := by decide +kernel
theorem dX6_init_1 : decode cX6_init 1 = .ok (.iload_n 1, 1) := by decide +kernel
theorem dX6_init_2 : decode cX6_init 2 = .ok (.iload_n 2, 1) := by decide +kernel
theorem dX6_init_3 : decode cX6_init 3 = .ok (.iload_n 3, 1) := by decide +kernel
theorem dX6_init_4 : decode cX6_init 4 = .ok (.iload 4, 2) := by decide +kernel
theorem dX6_init_6 : decode cX6_init 6 = .ok (.invokespecial 1, 3) := by decide +kernel
theorem dX6_init_9 : decode cX6_init 9 = .ok (.return_, 1) := by decide +kernel
set_option maxRecDepth 20000 in
theorem ggX6_favour_X5_favour : GoodIn wsX6_favour wsX5_favour := goodIn_r _ [12, 13, 14, 15, 16, 17, 18, 19, 20, 21, 22, 23, 24, 25, 26, 27, 28, 29, 30, 31, 32, 33, 34, 35, 36, 37, 38, 39, 40, 41, 42] (by decide +kernel) (by decide +kernel)
set_option maxRecDepth 20000 in
theorem gX6_favour_X5_favour_s7 : GoodIn wsX6_favour (va_wsSU RX6 7 yX5_favour wsX5_favour) := goodIn_app (goodIn_of _ (by decide +kernel)) ggX6_favour_X5_favour
theorem dX6_favour_0 : decode cX6_favour 0 = .ok (.aload_n 0, 1) := by decide +kernel
theorem dX6_favour_1 : decode cX6_favour 1 = .ok (.iload_n 1, 1) := by decide +kernel
theorem dX6_favour_2 : decode cX6_favour 2 = .ok (.invokespecial 7, 3) := by decide +kernel
theorem dX6_favour_5 : decode cX6_favour 5 = .ok (.bipush 9, 2) := by decide +kernel
theorem dX6_favour_7 : decode cX6_favour 7 = .ok (.iadd, 1) := by decide +kernel
theorem dX6_favour_8 : decode cX6_favour 8 = .ok (.aload_n 0, 1) := by decide +kernel
theorem dX6_favour_9 : decode cX6_favour 9 = .ok (.getfield 11, 3) := by decide +kernel
theorem dX6_favour_12 : decode cX6_favour 12 = .ok (.iload_n 1, 1) := by decide +kernel
theorem dX6_favour_13 : decode cX6_favour 13 = .ok (.isub, 1) := by decide +kernel
theorem dX6_favour_14 : decode cX6_favour 14 = .ok (.invokestatic 17, 3) := by decide +kernel
theorem dX6_favour_17 : decode cX6_favour 17 = .ok (.isub, 1) := by decide +kernel
theorem dX6_favour_18 : decode cX6_favour 18 = .ok (.ireturn, 1) := by decide +kernel
set_option maxRecDepth 20000 in
theorem ggX6_levels_X8_begin : GoodIn wsX6_levels wsX8_begin := goodIn_r _ [5, 6, 7, 23, 24] (by decide +kernel) (by decide +kernel)
set_option maxRecDepth 20000 in
theorem gX6_levels_X8_begin : GoodIn wsX6_levels (wsV RX6 22 RX8 yX8_begin wsX8_begin) := goodIn_app (goodIn_of _ (by decide +kernel)) ggX6_levels_X8_begin
set_option maxRecDepth 20000 in
theorem ggX6_levels_X5_works : GoodIn wsX6_levels wsX5_works := goodIn_r _ [13, 14, 2, 3, 4, 5, 6, 7, 15, 16, 17, 18, 19, 20, 21, 22, 23, 24, 25, 26, 27, 28, 29, 30, 31, 32, 33, 34, 35, 36, 37, 38, 39, 40, 41, 42, 43, 44, 45, 46, 47, 48, 49, 50, 51, 52] (by decide +kernel) (by decide +kernel)
set_option maxRecDepth 20000 in
theorem gX6_levels_X5_works_u32X6 : GoodIn wsX6_levels (va_wsU RX6 32 RX6 "ChiefGrades$Lenient" ⟨"ChiefGrades$Near", "works", "(ILChiefGrades$Trace;)I"⟩ yX5_works wsX5_works) := goodIn_app (goodIn_of _ (by decide +kernel)) ggX6_levels_X5_works
theorem dX6_levels_0 : decode cX6_levels 0 = .ok (.aload_n 2, 1) := by decide +kernel
theorem dX6_levels_1 : decode cX6_levels 1 = .ok (.bipush 41, 2) := by decide +kernel
theorem dX6_levels_3 : decode cX6_levels 3 = .ok (.invokevirtual 22, 3) := by decide +kernel
theorem dX6_levels_6 : decode cX6_levels 6 = .ok (.aload_n 0, 1) := by decide +kernel
theorem dX6_levels_7 : decode cX6_levels 7 = .ok (.iload_n 1, 1) := by decide +kernel
theorem dX6_levels_8 : decode cX6_levels 8 = .ok (.iconst 1, 1) := by decide +kernel
theorem dX6_levels_9 : decode cX6_levels 9 = .ok (.isub, 1) := by decide +kernel
theorem dX6_levels_10 : decode cX6_levels 10 = .ok (.aload_n 2, 1) := by decide +kernel
theorem dX6_levels_11 : decode cX6_levels 11 = .ok (.invokespecial 28, 3) := by decide +kernel
theorem dX6_levels_14 : decode cX6_levels 14 = .ok (.aload_n 0, 1) := by decide +kernel
theorem dX6_levels_15 : decode cX6_levels 15 = .ok (.iconst 2, 1) := by decide +kernel
theorem dX6_levels_16 : decode cX6_levels 16 = .ok (.aload_n 2, 1) := by decide +kernel
theorem dX6_levels_17 : decode cX6_levels 17 = .ok (.invokevirtual 32, 3) := by decide +kernel
theorem dX6_levels_20 : decode cX6_levels 20 = .ok (.iadd, 1) := by decide +kernel
theorem dX6_levels_21 : decode cX6_levels 21 = .ok (.ireturn, 1) := by decide +kernel
set_option maxRecDepth 20000 in
theorem ggX7_init_X4_init : GoodIn wsX7_init wsX4_init := goodIn_r _ [4, 5, 6, 7, 8, 9, 10, 11, 12, 13, 14, 15, 16, 17, 18, 19, 20, 21, 22, 23, 24, 25, 26, 27, 28, 29, 30, 31, 32, 33, 34, 35, 36, 37, 38, 39, 40, 41, 42, 43] (by decide +kernel) (by decide +kernel)
set_option maxRecDepth 20000 in
theorem gX7_init_X4_init : GoodIn wsX7_init (wsX4_init) := ggX7_init_X4_init
theorem dX7_init_0 : decode cX7_init 0 = .ok (.aload_n 0, 1) := by decide +kernel
theorem dX7_init_1 : decode cX7_init 1 = .ok (.iload_n 1, 1) := by decide +kernel
theorem dX7_init_2 : decode cX7_init 2 = .ok (.iload_n 2, 1) := by decide +kernel
theorem dX7_init_3 : decode cX7_init 3 = .ok (.iload_n 3, 1) := by decide +kernel
theorem dX7_init_4 : decode cX7_init 4 = .ok (.iload 4, 2) := by decide +kernel
theorem dX7_init_6 : decode cX7_init 6 = .ok (.invokespecial 1, 3) := by decide +kernel
theorem dX7_init_9 : decode cX7_init 9 = .ok (.return_, 1) := by decide +kernel
theorem dX7_favour_0 : decode cX7_favour 0 = .ok (.iconst 2, 1) := by decide +kernel
theorem dX7_favour_1 : decode cX7_favour 1 = .ok (.aload_n 0, 1) := by decide +kernel
theorem dX7_favour_2 : decode cX7_favour 2 = .ok (.getfield 7, 3) := by decide +kernel
theorem dX7_favour_5 : decode cX7_favour 5 = .ok (.imul, 1) := by decide +kernel
theorem dX7_favour_6 : decode cX7_favour 6 = .ok (.ireturn, 1) := by decide +kernel
set_option maxRecDepth 20000 in
theorem ggX7_grades_X8_begin : GoodIn wsX7_grades wsX8_begin := goodIn_r _ [7, 8, 9, 38, 39] (by decide +kernel) (by decide +kernel)
set_option maxRecDepth 20000 in
theorem gX7_grades_X8_begin : GoodIn wsX7_grades (wsV RX7 13 RX8 yX8_begin wsX8_begin) := goodIn_app (goodIn_of _ (by decide +kernel)) ggX7_grades_X8_begin
theorem dX7_grades_0 : decode cX7_grades 0 = .ok (.aload_n 2, 1) := by decide +kernel
theorem dX7_grades_1 : decode cX7_grades 1 = .ok (.bipush 61, 2) := by decide +kernel
theorem dX7_grades_3 : decode cX7_grades 3 = .ok (.invokevirtual 13, 3) := by decide +kernel
theorem dX7_grades_6 : decode cX7_grades 6 = .ok (.aload_n 0, 1) := by decide +kernel
theorem dX7_grades_7 : decode cX7_grades 7 = .ok (.iload_n 1, 1) := by decide +kernel
theorem dX7_grades_8 : decode cX7_grades 8 = .ok (.aload_n 2, 1) := by decide +kernel
theorem dX7_grades_9 : decode cX7_grades 9 = .ok (.invokespecial 19, 3) := by decide +kernel
theorem dX7_grades_12 : decode cX7_grades 12 = .ok (.aload_n 0, 1) := by decide +kernel
theorem dX7_grades_13 : decode cX7_grades 13 = .ok (.getfield 7, 3) := by decide +kernel
theorem dX7_grades_16 : decode cX7_grades 16 = .ok (.iadd, 1) := by decide +kernel
theorem dX7_grades_17 : decode cX7_grades 17 = .ok (.ireturn, 1) := by decide +kernel
theorem dX8_init_0 : decode cX8_init 0 = .ok (.aload_n 0, 1) := by decide +kernel
theorem dX8_init_1 : decode cX8_init 1 = .ok (.invokespecial 3, 3) := by decide +kernel
theorem dX8_init_4 : decode cX8_init 4 = .ok (.aload_n 0, 1) := by decide +kernel
theorem dX8_init_5 : decode cX8_init 5 = .ok (.bipush 20, 2) := by decide +kernel
theorem dX8_init_7 : decode cX8_init 7 = .ok (.newarray .int, 2) := by decide +kernel
theorem dX8_init_9 : decode cX8_init 9 = .ok (.putfield 9, 3) := by decide +kernel
theorem dX8_init_12 : decode cX8_init 12 = .ok (.return_, 1) := by decide +kernel
theorem dX8_begin_0 : decode cX8_begin 0 = .ok (.aload_n 0, 1) := by decide +kernel
theorem dX8_begin_1 : decode cX8_begin 1 = .ok (.getfield 15, 3) := by decide +kernel
theorem dX8_begin_4 : decode cX8_begin 4 = .ok (.ifCond .lt 22, 3) := by decide +kernel
theorem dX8_begin_7 : decode cX8_begin 7 = .ok (.aload_n 0, 1) := by decide +kernel
theorem dX8_begin_8 : decode cX8_begin 8 = .ok (.getfield 15, 3) := by decide +kernel
theorem dX8_begin_11 : decode cX8_begin 11 = .ok (.bipush 20, 2) := by decide +kernel
theorem dX8_begin_13 : decode cX8_begin 13 = .ok (.if_icmp .ge 13, 3) := by decide +kernel
theorem dX8_begin_16 : decode cX8_begin 16 = .ok (.aload_n 0, 1) := by decide +kernel
theorem dX8_begin_17 : decode cX8_begin 17 = .ok (.getfield 9, 3) := by decide +kernel
theorem dX8_begin_20 : decode cX8_begin 20 = .ok (.aload_n 0, 1) := by decide +kernel
theorem dX8_begin_21 : decode cX8_begin 21 = .ok (.getfield 15, 3) := by decide +kernel
theorem dX8_begin_24 : decode cX8_begin 24 = .ok (.iload_n 1, 1) := by decide +kernel
theorem dX8_begin_25 : decode cX8_begin 25 = .ok (.iastore, 1) := by decide +kernel
theorem dX8_begin_26 : decode cX8_begin 26 = .ok (.aload_n 0, 1) := by decide +kernel
theorem dX8_begin_27 : decode cX8_begin 27 = .ok (.dup, 1) := by decide +kernel
theorem dX8_begin_28 : decode cX8_begin 28 = .ok (.getfield 15, 3) := by decide +kernel
theorem dX8_begin_31 : decode cX8_begin 31 = .ok (.iconst 1, 1) := by decide +kernel
theorem dX8_begin_32 : decode cX8_begin 32 = .ok (.iadd, 1) := by decide +kernel
theorem dX8_begin_33 : decode cX8_begin 33 = .ok (.putfield 15, 3) := by decide +kernel
theorem dX8_begin_36 : decode cX8_begin 36 = .ok (.return_, 1) := by decide +kernel
set_option maxRecDepth 20000 in
theorem ggX9_init_X0_init : GoodIn wsX9_init wsX0_init := goodIn_r _ [4, 5, 6, 7, 8, 9, 10, 11, 12, 13, 14, 15, 16, 17, 18, 19, 20, 21, 22, 23, 24, 25, 26, 27, 28, 29, 30, 31, 32, 33, 34, 35, 36, 37, 38, 39] (by decide +kernel) (by decide +kernel)
set_option maxRecDepth 20000 in
theorem gX9_init_X0_init : GoodIn wsX9_init (wsX0_init) := ggX9_init_X0_init
theorem dX9_init_0 : decode cX9_init 0 = .ok (.aload_n 0, 1) := by decide +kernel
theorem dX9_init_1 : decode cX9_init 1 = .ok (.iload_n 1, 1) := by decide +kernel
theorem dX9_init_2 : decode cX9_init 2 = .ok (.iload_n 2, 1) := by decide +kernel
theorem dX9_init_3 : decode cX9_init 3 = .ok (.iload_n 3, 1) := by decide +kernel
theorem dX9_init_4 : decode cX9_init 4 = .ok (.iload 4, 2) := by decide +kernel
theorem dX9_init_6 : decode cX9_init 6 = .ok (.invokespecial 1, 3) := by decide +kernel
theorem dX9_init_9 : decode cX9_init 9 = .ok (.return_, 1) := by decide +kernel
theorem dX9_lineUp_0 : decode cX9_lineUp 0 = .ok (.iconst 0, 1) := by decide +kernel
theorem dX9_lineUp_1 : decode cX9_lineUp 1 = .ok (.istore 5, 2) := by decide +kernel
theorem dX9_lineUp_3 : decode cX9_lineUp 3 = .ok (.iload 5, 2) := by decide +kernel
theorem dX9_lineUp_5 : decode cX9_lineUp 5 = .ok (.iload_n 2, 1) := by decide +kernel
theorem dX9_lineUp_6 : decode cX9_lineUp 6 = .ok (.if_icmp .ge 22, 3) := by decide +kernel
theorem dX9_lineUp_9 : decode cX9_lineUp 9 = .ok (.aload 4, 2) := by decide +kernel
theorem dX9_lineUp_11 : decode cX9_lineUp 11 = .ok (.iload 5, 2) := by decide +kernel
theorem dX9_lineUp_13 : decode cX9_lineUp 13 = .ok (.aload_n 1, 1) := by decide +kernel
theorem dX9_lineUp_14 : decode cX9_lineUp 14 = .ok (.iload_n 3, 1) := by decide +kernel
theorem dX9_lineUp_15 : decode cX9_lineUp 15 = .ok (.iload 5, 2) := by decide +kernel
theorem dX9_lineUp_17 : decode cX9_lineUp 17 = .ok (.iadd, 1) := by decide +kernel
theorem dX9_lineUp_18 : decode cX9_lineUp 18 = .ok (.iload_n 2, 1) := by decide +kernel
theorem dX9_lineUp_19 : decode cX9_lineUp 19 = .ok (.irem, 1) := by decide +kernel
theorem dX9_lineUp_20 : decode cX9_lineUp 20 = .ok (.iaload, 1) := by decide +kernel
theorem dX9_lineUp_21 : decode cX9_lineUp 21 = .ok (.iastore, 1) := by decide +kernel
theorem dX9_lineUp_22 : decode cX9_lineUp 22 = .ok (.iinc 5 1, 3) := by decide +kernel
theorem dX9_lineUp_25 : decode cX9_lineUp 25 = .ok (.goto (-22), 3) := by decide +kernel
theorem dX9_lineUp_28 : decode cX9_lineUp 28 = .ok (.return_, 1) := by decide +kernel
set_option maxRecDepth 20000 in
theorem ggX9_grades_X8_begin : GoodIn wsX9_grades wsX8_begin := goodIn_r _ [5, 6, 7, 42, 43] (by decide +kernel) (by decide +kernel)
set_option maxRecDepth 20000 in
theorem gX9_grades_X8_begin : GoodIn wsX9_grades (wsV RX9 7 RX8 yX8_begin wsX8_begin) := goodIn_app (goodIn_of _ (by decide +kernel)) ggX9_grades_X8_begin
set_option maxRecDepth 20000 in
theorem ggX9_grades_X0_grades : GoodIn wsX9_grades wsX0_grades := goodIn_r _ [13, 14, 15, 2, 3, 4, 5, 6, 7, 16, 17, 18, 12, 19, 20, 21, 22, 23, 24, 25, 26, 27, 28, 29, 30, 31, 32, 33, 34, 35, 36, 37, 38, 39, 40, 41, 44, 45, 46, 47, 48, 49, 50, 51, 52, 53, 54, 55, 56, 57, 58, 59, 60, 61, 62, 63, 64, 65, 66, 67, 68, 69, 70, 71, 42, 43] (by decide +kernel) (by decide +kernel)
set_option maxRecDepth 20000 in
theorem gX9_grades_X0_grades_s13 : GoodIn wsX9_grades (va_wsSU RX9 13 yX0_grades wsX0_grades) := goodIn_app (goodIn_of _ (by decide +kernel)) ggX9_grades_X0_grades
theorem dX9_grades_0 : decode cX9_grades 0 = .ok (.aload_n 2, 1) := by decide +kernel
theorem dX9_grades_1 : decode cX9_grades 1 = .ok (.bipush 21, 2) := by decide +kernel
theorem dX9_grades_3 : decode cX9_grades 3 = .ok (.invokevirtual 7, 3) := by decide +kernel
theorem dX9_grades_6 : decode cX9_grades 6 = .ok (.aload_n 0, 1) := by decide +kernel
theorem dX9_grades_7 : decode cX9_grades 7 = .ok (.iload_n 1, 1) := by decide +kernel
theorem dX9_grades_8 : decode cX9_grades 8 = .ok (.aload_n 2, 1) := by decide +kernel
theorem dX9_grades_9 : decode cX9_grades 9 = .ok (.invokespecial 13, 3) := by decide +kernel
theorem dX9_grades_12 : decode cX9_grades 12 = .ok (.ineg, 1) := by decide +kernel
theorem dX9_grades_13 : decode cX9_grades 13 = .ok (.ireturn, 1) := by decide +kernel
set_option maxRecDepth 20000 in
theorem ggX10_init_X2_init : GoodIn wsX10_init wsX2_init := goodIn_r _ [25, 26, 2, 3, 27, 28, 29, 30, 31, 32, 33, 34, 35, 36, 37, 38, 6, 39, 40, 41, 61, 62, 63, 64, 65, 66, 67, 68, 69, 70, 71] (by decide +kernel) (by decide +kernel)
set_option maxRecDepth 20000 in
theorem gX10_init_X2_init : GoodIn wsX10_init (wsX2_init) := ggX10_init_X2_init
theorem dX10_init_0 : decode cX10_init 0 = .ok (.aload_n 0, 1) := by decide +kernel
theorem dX10_init_1 : decode cX10_init 1 = .ok (.invokespecial 3, 3) := by decide +kernel
theorem dX10_init_4 : decode cX10_init 4 = .ok (.aload_n 0, 1) := by decide +kernel
theorem dX10_init_5 : decode cX10_init 5 = .ok (.bipush 50, 2) := by decide +kernel
theorem dX10_init_7 : decode cX10_init 7 = .ok (.putfield 9, 3) := by decide +kernel
theorem dX10_init_10 : decode cX10_init 10 = .ok (.aload_n 0, 1) := by decide +kernel
theorem dX10_init_11 : decode cX10_init 11 = .ok (.bipush 50, 2) := by decide +kernel
theorem dX10_init_13 : decode cX10_init 13 = .ok (.putfield 15, 3) := by decide +kernel
theorem dX10_init_16 : decode cX10_init 16 = .ok (.aload_n 0, 1) := by decide +kernel
theorem dX10_init_17 : decode cX10_init 17 = .ok (.bipush 10, 2) := by decide +kernel
theorem dX10_init_19 : decode cX10_init 19 = .ok (.newarray .int, 2) := by decide +kernel
theorem dX10_init_21 : decode cX10_init 21 = .ok (.putfield 18, 3) := by decide +kernel
theorem dX10_init_24 : decode cX10_init 24 = .ok (.aload_n 0, 1) := by decide +kernel
theorem dX10_init_25 : decode cX10_init 25 = .ok (.bipush 10, 2) := by decide +kernel
theorem dX10_init_27 : decode cX10_init 27 = .ok (.newarray .int, 2) := by decide +kernel
theorem dX10_init_29 : decode cX10_init 29 = .ok (.putfield 22, 3) := by decide +kernel
theorem dX10_init_32 : decode cX10_init 32 = .ok (.aload_n 0, 1) := by decide +kernel
theorem dX10_init_33 : decode cX10_init 33 = .ok (.bipush 10, 2) := by decide +kernel
theorem dX10_init_35 : decode cX10_init 35 = .ok (.newarray .int, 2) := by decide +kernel
theorem dX10_init_37 : decode cX10_init 37 = .ok (.putfield 25, 3) := by decide +kernel
theorem dX10_init_40 : decode cX10_init 40 = .ok (.aload_n 0, 1) := by decide +kernel
theorem dX10_init_41 : decode cX10_init 41 = .ok (.bipush 10, 2) := by decide +kernel
theorem dX10_init_43 : decode cX10_init 43 = .ok (.newarray .int, 2) := by decide +kernel
theorem dX10_init_45 : decode cX10_init 45 = .ok (.putfield 28, 3) := by decide +kernel
theorem dX10_init_48 : decode cX10_init 48 = .ok (.aload_n 0, 1) := by decide +kernel
theorem dX10_init_49 : decode cX10_init 49 = .ok (.bipush 10, 2) := by decide +kernel
theorem dX10_init_51 : decode cX10_init 51 = .ok (.newarray .int, 2) := by decide +kernel
theorem dX10_init_53 : decode cX10_init 53 = .ok (.putfield 31, 3) := by decide +kernel
theorem dX10_init_56 : decode cX10_init 56 = .ok (.aload_n 0, 1) := by decide +kernel
theorem dX10_init_57 : decode cX10_init 57 = .ok (.iconst 4, 1) := by decide +kernel
theorem dX10_init_58 : decode cX10_init 58 = .ok (.anewarray 34, 3) := by decide +kernel
theorem dX10_init_61 : decode cX10_init 61 = .ok (.putfield 36, 3) := by decide +kernel
theorem dX10_init_64 : decode cX10_init 64 = .ok (.aload_n 0, 1) := by decide +kernel
theorem dX10_init_65 : decode cX10_init 65 = .ok (.bipush 20, 2) := by decide +kernel
theorem dX10_init_67 : decode cX10_init 67 = .ok (.newarray .int, 2) := by decide +kernel
theorem dX10_init_69 : decode cX10_init 69 = .ok (.putfield 40, 3) := by decide +kernel
theorem dX10_init_72 : decode cX10_init 72 = .ok (.aload_n 0, 1) := by decide +kernel
theorem dX10_init_73 : decode cX10_init 73 = .ok (.bipush 20, 2) := by decide +kernel
theorem dX10_init_75 : decode cX10_init 75 = .ok (.newarray .int, 2) := by decide +kernel
theorem dX10_init_77 : decode cX10_init 77 = .ok (.putfield 43, 3) := by decide +kernel
theorem dX10_init_80 : decode cX10_init 80 = .ok (.aload_n 0, 1) := by decide +kernel
theorem dX10_init_81 : decode cX10_init 81 = .ok (.bipush 20, 2) := by decide +kernel
theorem dX10_init_83 : decode cX10_init 83 = .ok (.newarray .int, 2) := by decide +kernel
theorem dX10_init_85 : decode cX10_init 85 = .ok (.putfield 46, 3) := by decide +kernel
theorem dX10_init_88 : decode cX10_init 88 = .ok (.aload_n 0, 1) := by decide +kernel
theorem dX10_init_89 : decode cX10_init 89 = .ok (.bipush 100, 2) := by decide +kernel
theorem dX10_init_91 : decode cX10_init 91 = .ok (.newarray .char, 2) := by decide +kernel
theorem dX10_init_93 : decode cX10_init 93 = .ok (.putfield 49, 3) := by decide +kernel
theorem dX10_init_96 : decode cX10_init 96 = .ok (.aload_n 0, 1) := by decide +kernel
theorem dX10_init_97 : decode cX10_init 97 = .ok (.new 53, 3) := by decide +kernel
theorem dX10_init_100 : decode cX10_init 100 = .ok (.dup, 1) := by decide +kernel
theorem dX10_init_101 : decode cX10_init 101 = .ok (.iconst 0, 1) := by decide +kernel
theorem dX10_init_102 : decode cX10_init 102 = .ok (.newarray .char, 2) := by decide +kernel
theorem dX10_init_104 : decode cX10_init 104 = .ok (.iconst 0, 1) := by decide +kernel
theorem dX10_init_105 : decode cX10_init 105 = .ok (.invokespecial 55, 3) := by decide +kernel
theorem dX10_init_108 : decode cX10_init 108 = .ok (.putfield 58, 3) := by decide +kernel
theorem dX10_init_111 : decode cX10_init 111 = .ok (.return_, 1) := by decide +kernel
theorem dX10_become_0 : decode cX10_become 0 = .ok (.aload_n 0, 1) := by decide +kernel
theorem dX10_become_1 : decode cX10_become 1 = .ok (.aload_n 1, 1) := by decide +kernel
theorem dX10_become_2 : decode cX10_become 2 = .ok (.getfield 62, 3) := by decide +kernel
theorem dX10_become_5 : decode cX10_become 5 = .ok (.putfield 62, 3) := by decide +kernel
theorem dX10_become_8 : decode cX10_become 8 = .ok (.aload_n 0, 1) := by decide +kernel
theorem dX10_become_9 : decode cX10_become 9 = .ok (.aload_n 1, 1) := by decide +kernel
theorem dX10_become_10 : decode cX10_become 10 = .ok (.getfield 65, 3) := by decide +kernel
theorem dX10_become_13 : decode cX10_become 13 = .ok (.putfield 65, 3) := by decide +kernel
theorem dX10_become_16 : decode cX10_become 16 = .ok (.aload_n 0, 1) := by decide +kernel
theorem dX10_become_17 : decode cX10_become 17 = .ok (.aload_n 1, 1) := by decide +kernel
theorem dX10_become_18 : decode cX10_become 18 = .ok (.getfield 68, 3) := by decide +kernel
theorem dX10_become_21 : decode cX10_become 21 = .ok (.putfield 68, 3) := by decide +kernel
theorem dX10_become_24 : decode cX10_become 24 = .ok (.aload_n 0, 1) := by decide +kernel
theorem dX10_become_25 : decode cX10_become 25 = .ok (.aload_n 1, 1) := by decide +kernel
theorem dX10_become_26 : decode cX10_become 26 = .ok (.getfield 71, 3) := by decide +kernel
theorem dX10_become_29 : decode cX10_become 29 = .ok (.putfield 71, 3) := by decide +kernel
theorem dX10_become_32 : decode cX10_become 32 = .ok (.aload_n 0, 1) := by decide +kernel
theorem dX10_become_33 : decode cX10_become 33 = .ok (.aload_n 1, 1) := by decide +kernel
theorem dX10_become_34 : decode cX10_become 34 = .ok (.getfield 74, 3) := by decide +kernel
theorem dX10_become_37 : decode cX10_become 37 = .ok (.putfield 74, 3) := by decide +kernel
theorem dX10_become_40 : decode cX10_become 40 = .ok (.aload_n 0, 1) := by decide +kernel
theorem dX10_become_41 : decode cX10_become 41 = .ok (.aload_n 1, 1) := by decide +kernel
theorem dX10_become_42 : decode cX10_become 42 = .ok (.getfield 77, 3) := by decide +kernel
theorem dX10_become_45 : decode cX10_become 45 = .ok (.putfield 77, 3) := by decide +kernel
theorem dX10_become_48 : decode cX10_become 48 = .ok (.aload_n 0, 1) := by decide +kernel
theorem dX10_become_49 : decode cX10_become 49 = .ok (.aload_n 1, 1) := by decide +kernel
theorem dX10_become_50 : decode cX10_become 50 = .ok (.getfield 9, 3) := by decide +kernel
theorem dX10_become_53 : decode cX10_become 53 = .ok (.putfield 9, 3) := by decide +kernel
theorem dX10_become_56 : decode cX10_become 56 = .ok (.aload_n 0, 1) := by decide +kernel
theorem dX10_become_57 : decode cX10_become 57 = .ok (.aload_n 1, 1) := by decide +kernel
theorem dX10_become_58 : decode cX10_become 58 = .ok (.getfield 15, 3) := by decide +kernel
theorem dX10_become_61 : decode cX10_become 61 = .ok (.putfield 15, 3) := by decide +kernel
theorem dX10_become_64 : decode cX10_become 64 = .ok (.aload_n 0, 1) := by decide +kernel
theorem dX10_become_65 : decode cX10_become 65 = .ok (.aload_n 1, 1) := by decide +kernel
theorem dX10_become_66 : decode cX10_become 66 = .ok (.getfield 58, 3) := by decide +kernel
theorem dX10_become_69 : decode cX10_become 69 = .ok (.putfield 58, 3) := by decide +kernel
theorem dX10_become_72 : decode cX10_become 72 = .ok (.aload_n 1, 1) := by decide +kernel
theorem dX10_become_73 : decode cX10_become 73 = .ok (.getfield 18, 3) := by decide +kernel
theorem dX10_become_76 : decode cX10_become 76 = .ok (.iconst 0, 1) := by decide +kernel
theorem dX10_become_77 : decode cX10_become 77 = .ok (.aload_n 0, 1) := by decide +kernel
theorem dX10_become_78 : decode cX10_become 78 = .ok (.getfield 18, 3) := by decide +kernel
theorem dX10_become_81 : decode cX10_become 81 = .ok (.iconst 0, 1) := by decide +kernel
theorem dX10_become_82 : decode cX10_become 82 = .ok (.bipush 10, 2) := by decide +kernel
theorem dX10_become_84 : decode cX10_become 84 = .ok (.invokestatic 80, 3) := by decide +kernel
theorem dX10_become_87 : decode cX10_become 87 = .ok (.aload_n 1, 1) := by decide +kernel
theorem dX10_become_88 : decode cX10_become 88 = .ok (.getfield 22, 3) := by decide +kernel
theorem dX10_become_91 : decode cX10_become 91 = .ok (.iconst 0, 1) := by decide +kernel
theorem dX10_become_92 : decode cX10_become 92 = .ok (.aload_n 0, 1) := by decide +kernel
theorem dX10_become_93 : decode cX10_become 93 = .ok (.getfield 22, 3) := by decide +kernel
theorem dX10_become_96 : decode cX10_become 96 = .ok (.iconst 0, 1) := by decide +kernel
theorem dX10_become_97 : decode cX10_become 97 = .ok (.bipush 10, 2) := by decide +kernel
theorem dX10_become_99 : decode cX10_become 99 = .ok (.invokestatic 80, 3) := by decide +kernel
theorem dX10_become_102 : decode cX10_become 102 = .ok (.aload_n 1, 1) := by decide +kernel
theorem dX10_become_103 : decode cX10_become 103 = .ok (.getfield 25, 3) := by decide +kernel
theorem dX10_become_106 : decode cX10_become 106 = .ok (.iconst 0, 1) := by decide +kernel
theorem dX10_become_107 : decode cX10_become 107 = .ok (.aload_n 0, 1) := by decide +kernel
theorem dX10_become_108 : decode cX10_become 108 = .ok (.getfield 25, 3) := by decide +kernel
theorem dX10_become_111 : decode cX10_become 111 = .ok (.iconst 0, 1) := by decide +kernel
theorem dX10_become_112 : decode cX10_become 112 = .ok (.bipush 10, 2) := by decide +kernel
theorem dX10_become_114 : decode cX10_become 114 = .ok (.invokestatic 80, 3) := by decide +kernel
theorem dX10_become_117 : decode cX10_become 117 = .ok (.aload_n 1, 1) := by decide +kernel
theorem dX10_become_118 : decode cX10_become 118 = .ok (.getfield 28, 3) := by decide +kernel
theorem dX10_become_121 : decode cX10_become 121 = .ok (.iconst 0, 1) := by decide +kernel
theorem dX10_become_122 : decode cX10_become 122 = .ok (.aload_n 0, 1) := by decide +kernel
theorem dX10_become_123 : decode cX10_become 123 = .ok (.getfield 28, 3) := by decide +kernel
theorem dX10_become_126 : decode cX10_become 126 = .ok (.iconst 0, 1) := by decide +kernel
theorem dX10_become_127 : decode cX10_become 127 = .ok (.bipush 10, 2) := by decide +kernel
theorem dX10_become_129 : decode cX10_become 129 = .ok (.invokestatic 80, 3) := by decide +kernel
theorem dX10_become_132 : decode cX10_become 132 = .ok (.aload_n 1, 1) := by decide +kernel
theorem dX10_become_133 : decode cX10_become 133 = .ok (.getfield 31, 3) := by decide +kernel
theorem dX10_become_136 : decode cX10_become 136 = .ok (.iconst 0, 1) := by decide +kernel
theorem dX10_become_137 : decode cX10_become 137 = .ok (.aload_n 0, 1) := by decide +kernel
theorem dX10_become_138 : decode cX10_become 138 = .ok (.getfield 31, 3) := by decide +kernel
theorem dX10_become_141 : decode cX10_become 141 = .ok (.iconst 0, 1) := by decide +kernel
theorem dX10_become_142 : decode cX10_become 142 = .ok (.bipush 10, 2) := by decide +kernel
theorem dX10_become_144 : decode cX10_become 144 = .ok (.invokestatic 80, 3) := by decide +kernel
theorem dX10_become_147 : decode cX10_become 147 = .ok (.aload_n 1, 1) := by decide +kernel
theorem dX10_become_148 : decode cX10_become 148 = .ok (.getfield 40, 3) := by decide +kernel
theorem dX10_become_151 : decode cX10_become 151 = .ok (.iconst 0, 1) := by decide +kernel
theorem dX10_become_152 : decode cX10_become 152 = .ok (.aload_n 0, 1) := by decide +kernel
theorem dX10_become_153 : decode cX10_become 153 = .ok (.getfield 40, 3) := by decide +kernel
theorem dX10_become_156 : decode cX10_become 156 = .ok (.iconst 0, 1) := by decide +kernel
theorem dX10_become_157 : decode cX10_become 157 = .ok (.bipush 20, 2) := by decide +kernel
theorem dX10_become_159 : decode cX10_become 159 = .ok (.invokestatic 80, 3) := by decide +kernel
theorem dX10_become_162 : decode cX10_become 162 = .ok (.aload_n 1, 1) := by decide +kernel
theorem dX10_become_163 : decode cX10_become 163 = .ok (.getfield 43, 3) := by decide +kernel
theorem dX10_become_166 : decode cX10_become 166 = .ok (.iconst 0, 1) := by decide +kernel
theorem dX10_become_167 : decode cX10_become 167 = .ok (.aload_n 0, 1) := by decide +kernel
theorem dX10_become_168 : decode cX10_become 168 = .ok (.getfield 43, 3) := by decide +kernel
theorem dX10_become_171 : decode cX10_become 171 = .ok (.iconst 0, 1) := by decide +kernel
theorem dX10_become_172 : decode cX10_become 172 = .ok (.bipush 20, 2) := by decide +kernel
theorem dX10_become_174 : decode cX10_become 174 = .ok (.invokestatic 80, 3) := by decide +kernel
theorem dX10_become_177 : decode cX10_become 177 = .ok (.aload_n 1, 1) := by decide +kernel
theorem dX10_become_178 : decode cX10_become 178 = .ok (.getfield 46, 3) := by decide +kernel
theorem dX10_become_181 : decode cX10_become 181 = .ok (.iconst 0, 1) := by decide +kernel
theorem dX10_become_182 : decode cX10_become 182 = .ok (.aload_n 0, 1) := by decide +kernel
theorem dX10_become_183 : decode cX10_become 183 = .ok (.getfield 46, 3) := by decide +kernel
theorem dX10_become_186 : decode cX10_become 186 = .ok (.iconst 0, 1) := by decide +kernel
theorem dX10_become_187 : decode cX10_become 187 = .ok (.bipush 20, 2) := by decide +kernel
theorem dX10_become_189 : decode cX10_become 189 = .ok (.invokestatic 80, 3) := by decide +kernel
theorem dX10_become_192 : decode cX10_become 192 = .ok (.aload_n 1, 1) := by decide +kernel
theorem dX10_become_193 : decode cX10_become 193 = .ok (.getfield 49, 3) := by decide +kernel
theorem dX10_become_196 : decode cX10_become 196 = .ok (.iconst 0, 1) := by decide +kernel
theorem dX10_become_197 : decode cX10_become 197 = .ok (.aload_n 0, 1) := by decide +kernel
theorem dX10_become_198 : decode cX10_become 198 = .ok (.getfield 49, 3) := by decide +kernel
theorem dX10_become_201 : decode cX10_become 201 = .ok (.iconst 0, 1) := by decide +kernel
theorem dX10_become_202 : decode cX10_become 202 = .ok (.bipush 100, 2) := by decide +kernel
theorem dX10_become_204 : decode cX10_become 204 = .ok (.invokestatic 80, 3) := by decide +kernel
theorem dX10_become_207 : decode cX10_become 207 = .ok (.iconst 0, 1) := by decide +kernel
theorem dX10_become_208 : decode cX10_become 208 = .ok (.istore_n 2, 1) := by decide +kernel
theorem dX10_become_209 : decode cX10_become 209 = .ok (.iload_n 2, 1) := by decide +kernel
theorem dX10_become_210 : decode cX10_become 210 = .ok (.iconst 4, 1) := by decide +kernel
theorem dX10_become_211 : decode cX10_become 211 = .ok (.if_icmp .ge 21, 3) := by decide +kernel
theorem dX10_become_214 : decode cX10_become 214 = .ok (.aload_n 0, 1) := by decide +kernel
theorem dX10_become_215 : decode cX10_become 215 = .ok (.getfield 36, 3) := by decide +kernel
theorem dX10_become_218 : decode cX10_become 218 = .ok (.iload_n 2, 1) := by decide +kernel
theorem dX10_become_219 : decode cX10_become 219 = .ok (.aload_n 1, 1) := by decide +kernel
theorem dX10_become_220 : decode cX10_become 220 = .ok (.getfield 36, 3) := by decide +kernel
theorem dX10_become_223 : decode cX10_become 223 = .ok (.iload_n 2, 1) := by decide +kernel
theorem dX10_become_224 : decode cX10_become 224 = .ok (.aaload, 1) := by decide +kernel
theorem dX10_become_225 : decode cX10_become 225 = .ok (.aastore, 1) := by decide +kernel
theorem dX10_become_226 : decode cX10_become 226 = .ok (.iinc 2 1, 3) := by decide +kernel
theorem dX10_become_229 : decode cX10_become 229 = .ok (.goto (-20), 3) := by decide +kernel
theorem dX10_become_232 : decode cX10_become 232 = .ok (.return_, 1) := by decide +kernel
theorem dX10_hasWorker_0 : decode cX10_hasWorker 0 = .ok (.iload_n 1, 1) := by decide +kernel
theorem dX10_hasWorker_1 : decode cX10_hasWorker 1 = .ok (.ifCond .lt 21, 3) := by decide +kernel
theorem dX10_hasWorker_4 : decode cX10_hasWorker 4 = .ok (.iload_n 1, 1) := by decide +kernel
theorem dX10_hasWorker_5 : decode cX10_hasWorker 5 = .ok (.aload_n 0, 1) := by decide +kernel
theorem dX10_hasWorker_6 : decode cX10_hasWorker 6 = .ok (.getfield 62, 3) := by decide +kernel
theorem dX10_hasWorker_9 : decode cX10_hasWorker 9 = .ok (.if_icmp .ge 13, 3) := by decide +kernel
theorem dX10_hasWorker_12 : decode cX10_hasWorker 12 = .ok (.iload_n 1, 1) := by decide +kernel
theorem dX10_hasWorker_13 : decode cX10_hasWorker 13 = .ok (.bipush 10, 2) := by decide +kernel
theorem dX10_hasWorker_15 : decode cX10_hasWorker 15 = .ok (.if_icmp .ge 7, 3) := by decide +kernel
theorem dX10_hasWorker_18 : decode cX10_hasWorker 18 = .ok (.iconst 1, 1) := by decide +kernel
theorem dX10_hasWorker_19 : decode cX10_hasWorker 19 = .ok (.goto 4, 3) := by decide +kernel
theorem dX10_hasWorker_22 : decode cX10_hasWorker 22 = .ok (.iconst 0, 1) := by decide +kernel
theorem dX10_hasWorker_23 : decode cX10_hasWorker 23 = .ok (.ireturn, 1) := by decide +kernel
theorem dX10_chiefAt_0 : decode cX10_chiefAt 0 = .ok (.iload_n 1, 1) := by decide +kernel
theorem dX10_chiefAt_1 : decode cX10_chiefAt 1 = .ok (.ifCond .lt 25, 3) := by decide +kernel
theorem dX10_chiefAt_4 : decode cX10_chiefAt 4 = .ok (.iload_n 1, 1) := by decide +kernel
theorem dX10_chiefAt_5 : decode cX10_chiefAt 5 = .ok (.aload_n 0, 1) := by decide +kernel
theorem dX10_chiefAt_6 : decode cX10_chiefAt 6 = .ok (.getfield 65, 3) := by decide +kernel
theorem dX10_chiefAt_9 : decode cX10_chiefAt 9 = .ok (.if_icmp .ge 17, 3) := by decide +kernel
theorem dX10_chiefAt_12 : decode cX10_chiefAt 12 = .ok (.iload_n 1, 1) := by decide +kernel
theorem dX10_chiefAt_13 : decode cX10_chiefAt 13 = .ok (.iconst 4, 1) := by decide +kernel
theorem dX10_chiefAt_14 : decode cX10_chiefAt 14 = .ok (.if_icmp .ge 12, 3) := by decide +kernel
theorem dX10_chiefAt_17 : decode cX10_chiefAt 17 = .ok (.aload_n 0, 1) := by decide +kernel
theorem dX10_chiefAt_18 : decode cX10_chiefAt 18 = .ok (.getfield 36, 3) := by decide +kernel
theorem dX10_chiefAt_21 : decode cX10_chiefAt 21 = .ok (.iload_n 1, 1) := by decide +kernel
theorem dX10_chiefAt_22 : decode cX10_chiefAt 22 = .ok (.aaload, 1) := by decide +kernel
theorem dX10_chiefAt_23 : decode cX10_chiefAt 23 = .ok (.goto 4, 3) := by decide +kernel
theorem dX10_chiefAt_26 : decode cX10_chiefAt 26 = .ok (.aconst_null, 1) := by decide +kernel
theorem dX10_chiefAt_27 : decode cX10_chiefAt 27 = .ok (.areturn, 1) := by decide +kernel
theorem dX10_teamBits_0 : decode cX10_teamBits 0 = .ok (.iconst 0, 1) := by decide +kernel
theorem dX10_teamBits_1 : decode cX10_teamBits 1 = .ok (.istore_n 2, 1) := by decide +kernel
theorem dX10_teamBits_2 : decode cX10_teamBits 2 = .ok (.iconst 0, 1) := by decide +kernel
theorem dX10_teamBits_3 : decode cX10_teamBits 3 = .ok (.istore_n 3, 1) := by decide +kernel
theorem dX10_teamBits_4 : decode cX10_teamBits 4 = .ok (.iload_n 3, 1) := by decide +kernel
theorem dX10_teamBits_5 : decode cX10_teamBits 5 = .ok (.aload_n 0, 1) := by decide +kernel
theorem dX10_teamBits_6 : decode cX10_teamBits 6 = .ok (.getfield 62, 3) := by decide +kernel
theorem dX10_teamBits_9 : decode cX10_teamBits 9 = .ok (.if_icmp .ge 25, 3) := by decide +kernel
theorem dX10_teamBits_12 : decode cX10_teamBits 12 = .ok (.aload_n 0, 1) := by decide +kernel
theorem dX10_teamBits_13 : decode cX10_teamBits 13 = .ok (.getfield 25, 3) := by decide +kernel
theorem dX10_teamBits_16 : decode cX10_teamBits 16 = .ok (.iload_n 3, 1) := by decide +kernel
theorem dX10_teamBits_17 : decode cX10_teamBits 17 = .ok (.iaload, 1) := by decide +kernel
theorem dX10_teamBits_18 : decode cX10_teamBits 18 = .ok (.iload_n 1, 1) := by decide +kernel
theorem dX10_teamBits_19 : decode cX10_teamBits 19 = .ok (.if_icmp .ne 9, 3) := by decide +kernel
theorem dX10_teamBits_22 : decode cX10_teamBits 22 = .ok (.iload_n 2, 1) := by decide +kernel
theorem dX10_teamBits_23 : decode cX10_teamBits 23 = .ok (.iconst 1, 1) := by decide +kernel
theorem dX10_teamBits_24 : decode cX10_teamBits 24 = .ok (.iload_n 3, 1) := by decide +kernel
theorem dX10_teamBits_25 : decode cX10_teamBits 25 = .ok (.ishl, 1) := by decide +kernel
theorem dX10_teamBits_26 : decode cX10_teamBits 26 = .ok (.ior, 1) := by decide +kernel
theorem dX10_teamBits_27 : decode cX10_teamBits 27 = .ok (.istore_n 2, 1) := by decide +kernel
theorem dX10_teamBits_28 : decode cX10_teamBits 28 = .ok (.iinc 3 1, 3) := by decide +kernel
theorem dX10_teamBits_31 : decode cX10_teamBits 31 = .ok (.goto (-27), 3) := by decide +kernel
theorem dX10_teamBits_34 : decode cX10_teamBits 34 = .ok (.iload_n 2, 1) := by decide +kernel
theorem dX10_teamBits_35 : decode cX10_teamBits 35 = .ok (.ireturn, 1) := by decide +kernel
theorem dX10_worthTogether_0 : decode cX10_worthTogether 0 = .ok (.iconst 0, 1) := by decide +kernel
theorem dX10_worthTogether_1 : decode cX10_worthTogether 1 = .ok (.istore_n 1, 1) := by decide +kernel
theorem dX10_worthTogether_2 : decode cX10_worthTogether 2 = .ok (.iconst 0, 1) := by decide +kernel
theorem dX10_worthTogether_3 : decode cX10_worthTogether 3 = .ok (.istore_n 2, 1) := by decide +kernel
theorem dX10_worthTogether_4 : decode cX10_worthTogether 4 = .ok (.iload_n 2, 1) := by decide +kernel
theorem dX10_worthTogether_5 : decode cX10_worthTogether 5 = .ok (.aload_n 0, 1) := by decide +kernel
theorem dX10_worthTogether_6 : decode cX10_worthTogether 6 = .ok (.getfield 62, 3) := by decide +kernel
theorem dX10_worthTogether_9 : decode cX10_worthTogether 9 = .ok (.if_icmp .ge 18, 3) := by decide +kernel
theorem dX10_worthTogether_12 : decode cX10_worthTogether 12 = .ok (.iload_n 1, 1) := by decide +kernel
theorem dX10_worthTogether_13 : decode cX10_worthTogether 13 = .ok (.aload_n 0, 1) := by decide +kernel
theorem dX10_worthTogether_14 : decode cX10_worthTogether 14 = .ok (.getfield 18, 3) := by decide +kernel
theorem dX10_worthTogether_17 : decode cX10_worthTogether 17 = .ok (.iload_n 2, 1) := by decide +kernel
theorem dX10_worthTogether_18 : decode cX10_worthTogether 18 = .ok (.iaload, 1) := by decide +kernel
theorem dX10_worthTogether_19 : decode cX10_worthTogether 19 = .ok (.iadd, 1) := by decide +kernel
theorem dX10_worthTogether_20 : decode cX10_worthTogether 20 = .ok (.istore_n 1, 1) := by decide +kernel
theorem dX10_worthTogether_21 : decode cX10_worthTogether 21 = .ok (.iinc 2 1, 3) := by decide +kernel
theorem dX10_worthTogether_24 : decode cX10_worthTogether 24 = .ok (.goto (-20), 3) := by decide +kernel
theorem dX10_worthTogether_27 : decode cX10_worthTogether 27 = .ok (.iload_n 1, 1) := by decide +kernel
theorem dX10_worthTogether_28 : decode cX10_worthTogether 28 = .ok (.ireturn, 1) := by decide +kernel
set_option maxRecDepth 20000 in
theorem ggX10_replace_X10_hasWorker : GoodIn wsX10_replace wsX10_hasWorker := goodIn_r _ [10, 11, 12, 13, 14, 15, 16, 17, 18, 19, 20, 21, 22, 23, 24, 25, 26, 27, 28, 29, 30] (by decide +kernel) (by decide +kernel)
set_option maxRecDepth 20000 in
theorem gX10_replace_X10_hasWorker : GoodIn wsX10_replace (wsV RX10 86 RX10 yX10_hasWorker wsX10_hasWorker) := goodIn_app (goodIn_of _ (by decide +kernel)) ggX10_replace_X10_hasWorker
theorem dX10_replace_0 : decode cX10_replace 0 = .ok (.aload_n 0, 1) := by decide +kernel
theorem dX10_replace_1 : decode cX10_replace 1 = .ok (.iload_n 1, 1) := by decide +kernel
theorem dX10_replace_2 : decode cX10_replace 2 = .ok (.invokevirtual 86, 3) := by decide +kernel
theorem dX10_replace_5 : decode cX10_replace 5 = .ok (.ifCond .ne 4, 3) := by decide +kernel
theorem dX10_replace_8 : decode cX10_replace 8 = .ok (.return_, 1) := by decide +kernel
theorem dX10_replace_9 : decode cX10_replace 9 = .ok (.aload_n 0, 1) := by decide +kernel
theorem dX10_replace_10 : decode cX10_replace 10 = .ok (.getfield 18, 3) := by decide +kernel
theorem dX10_replace_13 : decode cX10_replace 13 = .ok (.iload_n 1, 1) := by decide +kernel
theorem dX10_replace_14 : decode cX10_replace 14 = .ok (.aload_n 0, 1) := by decide +kernel
theorem dX10_replace_15 : decode cX10_replace 15 = .ok (.getfield 9, 3) := by decide +kernel
theorem dX10_replace_18 : decode cX10_replace 18 = .ok (.iastore, 1) := by decide +kernel
theorem dX10_replace_19 : decode cX10_replace 19 = .ok (.aload_n 0, 1) := by decide +kernel
theorem dX10_replace_20 : decode cX10_replace 20 = .ok (.getfield 22, 3) := by decide +kernel
theorem dX10_replace_23 : decode cX10_replace 23 = .ok (.iload_n 1, 1) := by decide +kernel
theorem dX10_replace_24 : decode cX10_replace 24 = .ok (.aload_n 0, 1) := by decide +kernel
theorem dX10_replace_25 : decode cX10_replace 25 = .ok (.getfield 15, 3) := by decide +kernel
theorem dX10_replace_28 : decode cX10_replace 28 = .ok (.iastore, 1) := by decide +kernel
theorem dX10_replace_29 : decode cX10_replace 29 = .ok (.aload_n 0, 1) := by decide +kernel
theorem dX10_replace_30 : decode cX10_replace 30 = .ok (.getfield 31, 3) := by decide +kernel
theorem dX10_replace_33 : decode cX10_replace 33 = .ok (.iload_n 1, 1) := by decide +kernel
theorem dX10_replace_34 : decode cX10_replace 34 = .ok (.iconst 0, 1) := by decide +kernel
theorem dX10_replace_35 : decode cX10_replace 35 = .ok (.iastore, 1) := by decide +kernel
theorem dX10_replace_36 : decode cX10_replace 36 = .ok (.return_, 1) := by decide +kernel
theorem dX10_exchange_0 : decode cX10_exchange 0 = .ok (.aload_n 0, 1) := by decide +kernel
theorem dX10_exchange_1 : decode cX10_exchange 1 = .ok (.getfield 25, 3) := by decide +kernel
theorem dX10_exchange_4 : decode cX10_exchange 4 = .ok (.iload_n 1, 1) := by decide +kernel
theorem dX10_exchange_5 : decode cX10_exchange 5 = .ok (.iaload, 1) := by decide +kernel
theorem dX10_exchange_6 : decode cX10_exchange 6 = .ok (.istore_n 3, 1) := by decide +kernel
theorem dX10_exchange_7 : decode cX10_exchange 7 = .ok (.aload_n 0, 1) := by decide +kernel
theorem dX10_exchange_8 : decode cX10_exchange 8 = .ok (.getfield 28, 3) := by decide +kernel
theorem dX10_exchange_11 : decode cX10_exchange 11 = .ok (.iload_n 1, 1) := by decide +kernel
theorem dX10_exchange_12 : decode cX10_exchange 12 = .ok (.iaload, 1) := by decide +kernel
theorem dX10_exchange_13 : decode cX10_exchange 13 = .ok (.istore 4, 2) := by decide +kernel
theorem dX10_exchange_15 : decode cX10_exchange 15 = .ok (.aload_n 0, 1) := by decide +kernel
theorem dX10_exchange_16 : decode cX10_exchange 16 = .ok (.getfield 25, 3) := by decide +kernel
theorem dX10_exchange_19 : decode cX10_exchange 19 = .ok (.iload_n 1, 1) := by decide +kernel
theorem dX10_exchange_20 : decode cX10_exchange 20 = .ok (.aload_n 0, 1) := by decide +kernel
theorem dX10_exchange_21 : decode cX10_exchange 21 = .ok (.getfield 25, 3) := by decide +kernel
theorem dX10_exchange_24 : decode cX10_exchange 24 = .ok (.iload_n 2, 1) := by decide +kernel
theorem dX10_exchange_25 : decode cX10_exchange 25 = .ok (.iaload, 1) := by decide +kernel
theorem dX10_exchange_26 : decode cX10_exchange 26 = .ok (.iastore, 1) := by decide +kernel
theorem dX10_exchange_27 : decode cX10_exchange 27 = .ok (.aload_n 0, 1) := by decide +kernel
theorem dX10_exchange_28 : decode cX10_exchange 28 = .ok (.getfield 28, 3) := by decide +kernel
theorem dX10_exchange_31 : decode cX10_exchange 31 = .ok (.iload_n 1, 1) := by decide +kernel
theorem dX10_exchange_32 : decode cX10_exchange 32 = .ok (.aload_n 0, 1) := by decide +kernel
theorem dX10_exchange_33 : decode cX10_exchange 33 = .ok (.getfield 28, 3) := by decide +kernel
theorem dX10_exchange_36 : decode cX10_exchange 36 = .ok (.iload_n 2, 1) := by decide +kernel
theorem dX10_exchange_37 : decode cX10_exchange 37 = .ok (.iaload, 1) := by decide +kernel
theorem dX10_exchange_38 : decode cX10_exchange 38 = .ok (.iastore, 1) := by decide +kernel
theorem dX10_exchange_39 : decode cX10_exchange 39 = .ok (.aload_n 0, 1) := by decide +kernel
theorem dX10_exchange_40 : decode cX10_exchange 40 = .ok (.getfield 25, 3) := by decide +kernel
theorem dX10_exchange_43 : decode cX10_exchange 43 = .ok (.iload_n 2, 1) := by decide +kernel
theorem dX10_exchange_44 : decode cX10_exchange 44 = .ok (.iload_n 3, 1) := by decide +kernel
theorem dX10_exchange_45 : decode cX10_exchange 45 = .ok (.iastore, 1) := by decide +kernel
theorem dX10_exchange_46 : decode cX10_exchange 46 = .ok (.aload_n 0, 1) := by decide +kernel
theorem dX10_exchange_47 : decode cX10_exchange 47 = .ok (.getfield 28, 3) := by decide +kernel
theorem dX10_exchange_50 : decode cX10_exchange 50 = .ok (.iload_n 2, 1) := by decide +kernel
theorem dX10_exchange_51 : decode cX10_exchange 51 = .ok (.iload 4, 2) := by decide +kernel
theorem dX10_exchange_53 : decode cX10_exchange 53 = .ok (.iastore, 1) := by decide +kernel
theorem dX10_exchange_54 : decode cX10_exchange 54 = .ok (.return_, 1) := by decide +kernel
theorem dX10_firstGrade_0 : decode cX10_firstGrade 0 = .ok (.iconst 0, 1) := by decide +kernel
theorem dX10_firstGrade_1 : decode cX10_firstGrade 1 = .ok (.istore_n 3, 1) := by decide +kernel
theorem dX10_firstGrade_2 : decode cX10_firstGrade 2 = .ok (.iload_n 3, 1) := by decide +kernel
theorem dX10_firstGrade_3 : decode cX10_firstGrade 3 = .ok (.aload_n 0, 1) := by decide +kernel
theorem dX10_firstGrade_4 : decode cX10_firstGrade 4 = .ok (.getfield 71, 3) := by decide +kernel
theorem dX10_firstGrade_7 : decode cX10_firstGrade 7 = .ok (.if_icmp .ge 36, 3) := by decide +kernel
theorem dX10_firstGrade_10 : decode cX10_firstGrade 10 = .ok (.aload_n 0, 1) := by decide +kernel
theorem dX10_firstGrade_11 : decode cX10_firstGrade 11 = .ok (.getfield 40, 3) := by decide +kernel
theorem dX10_firstGrade_14 : decode cX10_firstGrade 14 = .ok (.iload_n 3, 1) := by decide +kernel
theorem dX10_firstGrade_15 : decode cX10_firstGrade 15 = .ok (.iaload, 1) := by decide +kernel
theorem dX10_firstGrade_16 : decode cX10_firstGrade 16 = .ok (.iload_n 1, 1) := by decide +kernel
theorem dX10_firstGrade_17 : decode cX10_firstGrade 17 = .ok (.if_icmp .ne 20, 3) := by decide +kernel
theorem dX10_firstGrade_20 : decode cX10_firstGrade 20 = .ok (.aload_n 0, 1) := by decide +kernel
theorem dX10_firstGrade_21 : decode cX10_firstGrade 21 = .ok (.getfield 43, 3) := by decide +kernel
theorem dX10_firstGrade_24 : decode cX10_firstGrade 24 = .ok (.iload_n 3, 1) := by decide +kernel
theorem dX10_firstGrade_25 : decode cX10_firstGrade 25 = .ok (.iaload, 1) := by decide +kernel
theorem dX10_firstGrade_26 : decode cX10_firstGrade 26 = .ok (.iload_n 2, 1) := by decide +kernel
theorem dX10_firstGrade_27 : decode cX10_firstGrade 27 = .ok (.if_icmp .ne 10, 3) := by decide +kernel
theorem dX10_firstGrade_30 : decode cX10_firstGrade 30 = .ok (.aload_n 0, 1) := by decide +kernel
theorem dX10_firstGrade_31 : decode cX10_firstGrade 31 = .ok (.getfield 46, 3) := by decide +kernel
theorem dX10_firstGrade_34 : decode cX10_firstGrade 34 = .ok (.iload_n 3, 1) := by decide +kernel
theorem dX10_firstGrade_35 : decode cX10_firstGrade 35 = .ok (.iaload, 1) := by decide +kernel
theorem dX10_firstGrade_36 : decode cX10_firstGrade 36 = .ok (.ireturn, 1) := by decide +kernel
theorem dX10_firstGrade_37 : decode cX10_firstGrade 37 = .ok (.iinc 3 1, 3) := by decide +kernel
theorem dX10_firstGrade_40 : decode cX10_firstGrade 40 = .ok (.goto (-38), 3) := by decide +kernel
theorem dX10_firstGrade_43 : decode cX10_firstGrade 43 = .ok (.iconst 0, 1) := by decide +kernel
theorem dX10_firstGrade_44 : decode cX10_firstGrade 44 = .ok (.ireturn, 1) := by decide +kernel
set_option maxRecDepth 20000 in
theorem ggX11_init_X10_init : GoodIn wsX11_init wsX10_init := goodIn_r _ [22, 23, 2, 3, 24, 25, 18, 26, 27, 28, 29, 30, 31, 32, 33, 34, 35, 36, 37, 38, 39, 40, 41, 42, 43, 44, 45, 46, 47, 48, 49, 50, 51, 52, 53, 54, 55, 56, 57, 58, 59, 60, 87, 88, 89, 90, 91, 92, 93, 94, 95, 96, 97, 98, 99, 100, 101, 102, 103, 104, 105, 122, 123, 124, 125, 126, 127, 128, 129, 130, 131, 132] (by decide +kernel) (by decide +kernel)
set_option maxRecDepth 20000 in
theorem gX11_init_X10_init : GoodIn wsX11_init (wsX10_init) := ggX11_init_X10_init
set_option maxRecDepth 20000 in
theorem ggX11_init_X1_init : GoodIn wsX11_init wsX1_init := goodIn_r _ [63, 64, 2, 3, 18, 65, 66, 67, 68, 69, 70, 71, 72, 73, 74, 75, 76, 77, 78, 79, 80, 81, 113, 114, 115, 116, 117, 118, 119, 133, 134, 135, 136, 137, 138, 139, 140, 141, 142, 143, 144, 145, 146, 147, 148, 149, 150, 151, 152, 153, 154, 155, 156, 157, 158, 159, 160] (by decide +kernel) (by decide +kernel)
set_option maxRecDepth 20000 in
theorem gX11_init_X1_init : GoodIn wsX11_init (wsX1_init) := ggX11_init_X1_init
set_option maxRecDepth 20000 in
theorem ggX11_init_X8_init : GoodIn wsX11_init wsX8_init := goodIn_r _ [84, 85, 2, 3, 18, 86, 120, 121] (by decide +kernel) (by decide +kernel)
set_option maxRecDepth 20000 in
theorem gX11_init_X8_init : GoodIn wsX11_init (wsX8_init) := ggX11_init_X8_init
theorem dX11_init_0 : decode cX11_init 0 = .ok (.aload_n 0, 1) := by decide +kernel
theorem dX11_init_1 : decode cX11_init 1 = .ok (.invokespecial 3, 3) := by decide +kernel
theorem dX11_init_4 : decode cX11_init 4 = .ok (.aload_n 0, 1) := by decide +kernel
theorem dX11_init_5 : decode cX11_init 5 = .ok (.new 9, 3) := by decide +kernel
theorem dX11_init_8 : decode cX11_init 8 = .ok (.dup, 1) := by decide +kernel
theorem dX11_init_9 : decode cX11_init 9 = .ok (.invokespecial 11, 3) := by decide +kernel
theorem dX11_init_12 : decode cX11_init 12 = .ok (.putfield 12, 3) := by decide +kernel
theorem dX11_init_15 : decode cX11_init 15 = .ok (.aload_n 0, 1) := by decide +kernel
theorem dX11_init_16 : decode cX11_init 16 = .ok (.new 9, 3) := by decide +kernel
theorem dX11_init_19 : decode cX11_init 19 = .ok (.dup, 1) := by decide +kernel
theorem dX11_init_20 : decode cX11_init 20 = .ok (.invokespecial 11, 3) := by decide +kernel
theorem dX11_init_23 : decode cX11_init 23 = .ok (.putfield 18, 3) := by decide +kernel
theorem dX11_init_26 : decode cX11_init 26 = .ok (.aload_n 0, 1) := by decide +kernel
theorem dX11_init_27 : decode cX11_init 27 = .ok (.new 9, 3) := by decide +kernel
theorem dX11_init_30 : decode cX11_init 30 = .ok (.dup, 1) := by decide +kernel
theorem dX11_init_31 : decode cX11_init 31 = .ok (.invokespecial 11, 3) := by decide +kernel
theorem dX11_init_34 : decode cX11_init 34 = .ok (.putfield 21, 3) := by decide +kernel
theorem dX11_init_37 : decode cX11_init 37 = .ok (.aload_n 0, 1) := by decide +kernel
theorem dX11_init_38 : decode cX11_init 38 = .ok (.new 24, 3) := by decide +kernel
theorem dX11_init_41 : decode cX11_init 41 = .ok (.dup, 1) := by decide +kernel
theorem dX11_init_42 : decode cX11_init 42 = .ok (.invokespecial 26, 3) := by decide +kernel
theorem dX11_init_45 : decode cX11_init 45 = .ok (.putfield 27, 3) := by decide +kernel
theorem dX11_init_48 : decode cX11_init 48 = .ok (.aload_n 0, 1) := by decide +kernel
theorem dX11_init_49 : decode cX11_init 49 = .ok (.new 31, 3) := by decide +kernel
theorem dX11_init_52 : decode cX11_init 52 = .ok (.dup, 1) := by decide +kernel
theorem dX11_init_53 : decode cX11_init 53 = .ok (.invokespecial 33, 3) := by decide +kernel
theorem dX11_init_56 : decode cX11_init 56 = .ok (.putfield 34, 3) := by decide +kernel
theorem dX11_init_59 : decode cX11_init 59 = .ok (.aload_n 0, 1) := by decide +kernel
theorem dX11_init_60 : decode cX11_init 60 = .ok (.bipush 10, 2) := by decide +kernel
theorem dX11_init_62 : decode cX11_init 62 = .ok (.newarray .int, 2) := by decide +kernel
theorem dX11_init_64 : decode cX11_init 64 = .ok (.putfield 38, 3) := by decide +kernel
theorem dX11_init_67 : decode cX11_init 67 = .ok (.return_, 1) := by decide +kernel
theorem dX11_feed_0 : decode cX11_feed 0 = .ok (.iload_n 1, 1) := by decide +kernel
theorem dX11_feed_1 : decode cX11_feed 1 = .ok (.ifCond .lt 9, 3) := by decide +kernel
theorem dX11_feed_4 : decode cX11_feed 4 = .ok (.iload_n 1, 1) := by decide +kernel
theorem dX11_feed_5 : decode cX11_feed 5 = .ok (.bipush 127, 2) := by decide +kernel
theorem dX11_feed_7 : decode cX11_feed 7 = .ok (.if_icmp .le 6, 3) := by decide +kernel
theorem dX11_feed_10 : decode cX11_feed 10 = .ok (.bipush (-2), 2) := by decide +kernel
theorem dX11_feed_12 : decode cX11_feed 12 = .ok (.ireturn, 1) := by decide +kernel
theorem dX11_feed_13 : decode cX11_feed 13 = .ok (.aload_n 0, 1) := by decide +kernel
theorem dX11_feed_14 : decode cX11_feed 14 = .ok (.getfield 12, 3) := by decide +kernel
theorem dX11_feed_17 : decode cX11_feed 17 = .ok (.getfield 42, 3) := by decide +kernel
theorem dX11_feed_20 : decode cX11_feed 20 = .ok (.bipush 100, 2) := by decide +kernel
theorem dX11_feed_22 : decode cX11_feed 22 = .ok (.if_icmp .lt 6, 3) := by decide +kernel
theorem dX11_feed_25 : decode cX11_feed 25 = .ok (.bipush (-4), 2) := by decide +kernel
theorem dX11_feed_27 : decode cX11_feed 27 = .ok (.ireturn, 1) := by decide +kernel
theorem dX11_feed_28 : decode cX11_feed 28 = .ok (.aload_n 0, 1) := by decide +kernel
theorem dX11_feed_29 : decode cX11_feed 29 = .ok (.getfield 12, 3) := by decide +kernel
theorem dX11_feed_32 : decode cX11_feed 32 = .ok (.getfield 46, 3) := by decide +kernel
theorem dX11_feed_35 : decode cX11_feed 35 = .ok (.aload_n 0, 1) := by decide +kernel
theorem dX11_feed_36 : decode cX11_feed 36 = .ok (.getfield 12, 3) := by decide +kernel
theorem dX11_feed_39 : decode cX11_feed 39 = .ok (.getfield 42, 3) := by decide +kernel
theorem dX11_feed_42 : decode cX11_feed 42 = .ok (.iload_n 1, 1) := by decide +kernel
theorem dX11_feed_43 : decode cX11_feed 43 = .ok (.i2c, 1) := by decide +kernel
theorem dX11_feed_44 : decode cX11_feed 44 = .ok (.castore, 1) := by decide +kernel
theorem dX11_feed_45 : decode cX11_feed 45 = .ok (.aload_n 0, 1) := by decide +kernel
theorem dX11_feed_46 : decode cX11_feed 46 = .ok (.getfield 12, 3) := by decide +kernel
theorem dX11_feed_49 : decode cX11_feed 49 = .ok (.dup, 1) := by decide +kernel
theorem dX11_feed_50 : decode cX11_feed 50 = .ok (.getfield 42, 3) := by decide +kernel
theorem dX11_feed_53 : decode cX11_feed 53 = .ok (.iconst 1, 1) := by decide +kernel
theorem dX11_feed_54 : decode cX11_feed 54 = .ok (.iadd, 1) := by decide +kernel
theorem dX11_feed_55 : decode cX11_feed 55 = .ok (.putfield 42, 3) := by decide +kernel
theorem dX11_feed_58 : decode cX11_feed 58 = .ok (.aload_n 0, 1) := by decide +kernel
theorem dX11_feed_59 : decode cX11_feed 59 = .ok (.getfield 12, 3) := by decide +kernel
theorem dX11_feed_62 : decode cX11_feed 62 = .ok (.getfield 42, 3) := by decide +kernel
theorem dX11_feed_65 : decode cX11_feed 65 = .ok (.ireturn, 1) := by decide +kernel
set_option maxRecDepth 20000 in
theorem ggX11_house_X2_init : GoodIn wsX11_house wsX2_init := goodIn_r _ [11, 12, 13, 14, 15, 16, 17, 18, 19, 20, 21, 22, 23, 24, 25, 26, 27, 28, 29, 30, 209, 210, 211, 212, 213, 214, 215, 216, 217, 218, 219] (by decide +kernel) (by decide +kernel)
set_option maxRecDepth 20000 in
theorem gX11_house_X2_init : GoodIn wsX11_house (wsX2_init) := ggX11_house_X2_init
set_option maxRecDepth 20000 in
theorem ggX11_house_X2_read : GoodIn wsX11_house wsX2_read := goodIn_r _ [34, 15, 16, 17, 35, 36, 26, 37, 38, 39, 5, 40, 18, 41, 42, 43, 44, 45, 46, 47, 48, 49, 50, 51, 52, 53, 54, 55, 56, 57, 58, 59, 60, 61, 62, 63, 64, 65, 66, 67, 68, 69, 70, 71, 72, 73, 74, 75, 76, 77, 78, 79, 80, 81, 82, 83, 84, 85, 86, 87, 88, 89, 90, 91, 92, 93, 94, 95, 96, 97, 98, 99, 100, 101, 102, 103, 104, 105, 106, 107, 108, 109, 110, 111, 112, 113, 114, 115, 116, 117, 28, 29, 30, 118, 119, 120, 121, 122, 123, 124, 125, 126, 127, 128, 129, 130, 131, 132, 133, 134, 135, 24, 21, 25, 136, 20, 22, 137, 138, 139, 140, 141, 142, 143, 144, 145, 146, 147, 148, 149, 150, 151, 152, 153, 154, 155, 156, 157, 158, 159, 160, 161, 162, 163, 164, 165, 166, 167, 168, 169, 170, 171, 172, 173, 174, 175, 176, 177, 178, 179, 180, 181, 182, 209, 210, 211, 212, 213, 214, 215, 216, 217, 218, 219] (by decide +kernel) (by decide +kernel)
set_option maxRecDepth 20000 in
theorem gX11_house_X2_read : GoodIn wsX11_house (wsV RX11 58 RX2 yX2_read wsX2_read) := goodIn_app (goodIn_of _ (by decide +kernel)) ggX11_house_X2_read
theorem dX11_house_0 : decode cX11_house 0 = .ok (.aload_n 0, 1) := by decide +kernel
theorem dX11_house_1 : decode cX11_house 1 = .ok (.getfield 12, 3) := by decide +kernel
theorem dX11_house_4 : decode cX11_house 4 = .ok (.getfield 50, 3) := by decide +kernel
theorem dX11_house_7 : decode cX11_house 7 = .ok (.iconst 5, 1) := by decide +kernel
theorem dX11_house_8 : decode cX11_house 8 = .ok (.if_icmp .lt 6, 3) := by decide +kernel
theorem dX11_house_11 : decode cX11_house 11 = .ok (.bipush (-4), 2) := by decide +kernel
theorem dX11_house_13 : decode cX11_house 13 = .ok (.ireturn, 1) := by decide +kernel
theorem dX11_house_14 : decode cX11_house 14 = .ok (.new 53, 3) := by decide +kernel
theorem dX11_house_17 : decode cX11_house 17 = .ok (.dup, 1) := by decide +kernel
theorem dX11_house_18 : decode cX11_house 18 = .ok (.aload_n 0, 1) := by decide +kernel
theorem dX11_house_19 : decode cX11_house 19 = .ok (.getfield 12, 3) := by decide +kernel
theorem dX11_house_22 : decode cX11_house 22 = .ok (.getfield 46, 3) := by decide +kernel
theorem dX11_house_25 : decode cX11_house 25 = .ok (.aload_n 0, 1) := by decide +kernel
theorem dX11_house_26 : decode cX11_house 26 = .ok (.getfield 12, 3) := by decide +kernel
theorem dX11_house_29 : decode cX11_house 29 = .ok (.getfield 42, 3) := by decide +kernel
theorem dX11_house_32 : decode cX11_house 32 = .ok (.invokespecial 55, 3) := by decide +kernel
theorem dX11_house_35 : decode cX11_house 35 = .ok (.astore_n 1, 1) := by decide +kernel
theorem dX11_house_36 : decode cX11_house 36 = .ok (.aload_n 1, 1) := by decide +kernel
theorem dX11_house_37 : decode cX11_house 37 = .ok (.invokevirtual 58, 3) := by decide +kernel
theorem dX11_house_40 : decode cX11_house 40 = .ok (.istore_n 2, 1) := by decide +kernel
theorem dX11_house_41 : decode cX11_house 41 = .ok (.aload_n 0, 1) := by decide +kernel
theorem dX11_house_42 : decode cX11_house 42 = .ok (.getfield 12, 3) := by decide +kernel
theorem dX11_house_45 : decode cX11_house 45 = .ok (.iconst 0, 1) := by decide +kernel
theorem dX11_house_46 : decode cX11_house 46 = .ok (.putfield 42, 3) := by decide +kernel
theorem dX11_house_49 : decode cX11_house 49 = .ok (.iload_n 2, 1) := by decide +kernel
theorem dX11_house_50 : decode cX11_house 50 = .ok (.ifCond .lt 8, 3) := by decide +kernel
theorem dX11_house_53 : decode cX11_house 53 = .ok (.bipush (-10), 2) := by decide +kernel
theorem dX11_house_55 : decode cX11_house 55 = .ok (.iload_n 2, 1) := by decide +kernel
theorem dX11_house_56 : decode cX11_house 56 = .ok (.isub, 1) := by decide +kernel
theorem dX11_house_57 : decode cX11_house 57 = .ok (.ireturn, 1) := by decide +kernel
theorem dX11_house_58 : decode cX11_house 58 = .ok (.aload_n 0, 1) := by decide +kernel
theorem dX11_house_59 : decode cX11_house 59 = .ok (.getfield 12, 3) := by decide +kernel
theorem dX11_house_62 : decode cX11_house 62 = .ok (.aload_n 1, 1) := by decide +kernel
theorem dX11_house_63 : decode cX11_house 63 = .ok (.putfield 62, 3) := by decide +kernel
theorem dX11_house_66 : decode cX11_house 66 = .ok (.aload_n 0, 1) := by decide +kernel
theorem dX11_house_67 : decode cX11_house 67 = .ok (.getfield 12, 3) := by decide +kernel
theorem dX11_house_70 : decode cX11_house 70 = .ok (.dup, 1) := by decide +kernel
theorem dX11_house_71 : decode cX11_house 71 = .ok (.getfield 50, 3) := by decide +kernel
theorem dX11_house_74 : decode cX11_house 74 = .ok (.iconst 1, 1) := by decide +kernel
theorem dX11_house_75 : decode cX11_house 75 = .ok (.iadd, 1) := by decide +kernel
theorem dX11_house_76 : decode cX11_house 76 = .ok (.putfield 50, 3) := by decide +kernel
theorem dX11_house_79 : decode cX11_house 79 = .ok (.aload_n 0, 1) := by decide +kernel
theorem dX11_house_80 : decode cX11_house 80 = .ok (.getfield 12, 3) := by decide +kernel
theorem dX11_house_83 : decode cX11_house 83 = .ok (.getfield 50, 3) := by decide +kernel
theorem dX11_house_86 : decode cX11_house 86 = .ok (.iconst 1, 1) := by decide +kernel
theorem dX11_house_87 : decode cX11_house 87 = .ok (.isub, 1) := by decide +kernel
theorem dX11_house_88 : decode cX11_house 88 = .ok (.ireturn, 1) := by decide +kernel
theorem dX11_told_0 : decode cX11_told 0 = .ok (.iload_n 1, 1) := by decide +kernel
theorem dX11_told_1 : decode cX11_told 1 = .ok (.tableswitch 96 0 5 #[39, 50, 61, 72, 80, 88], 39) := by decide +kernel
theorem dX11_told_40 : decode cX11_told 40 = .ok (.aload_n 0, 1) := by decide +kernel
theorem dX11_told_41 : decode cX11_told 41 = .ok (.getfield 12, 3) := by decide +kernel
theorem dX11_told_44 : decode cX11_told 44 = .ok (.getfield 62, 3) := by decide +kernel
theorem dX11_told_47 : decode cX11_told 47 = .ok (.getfield 66, 3) := by decide +kernel
theorem dX11_told_50 : decode cX11_told 50 = .ok (.ireturn, 1) := by decide +kernel
theorem dX11_told_51 : decode cX11_told 51 = .ok (.aload_n 0, 1) := by decide +kernel
theorem dX11_told_52 : decode cX11_told 52 = .ok (.getfield 12, 3) := by decide +kernel
theorem dX11_told_55 : decode cX11_told 55 = .ok (.getfield 62, 3) := by decide +kernel
theorem dX11_told_58 : decode cX11_told 58 = .ok (.getfield 69, 3) := by decide +kernel
theorem dX11_told_61 : decode cX11_told 61 = .ok (.ireturn, 1) := by decide +kernel
theorem dX11_told_62 : decode cX11_told 62 = .ok (.aload_n 0, 1) := by decide +kernel
theorem dX11_told_63 : decode cX11_told 63 = .ok (.getfield 12, 3) := by decide +kernel
theorem dX11_told_66 : decode cX11_told 66 = .ok (.getfield 62, 3) := by decide +kernel
theorem dX11_told_69 : decode cX11_told 69 = .ok (.getfield 72, 3) := by decide +kernel
theorem dX11_told_72 : decode cX11_told 72 = .ok (.ireturn, 1) := by decide +kernel
theorem dX11_told_73 : decode cX11_told 73 = .ok (.aload_n 0, 1) := by decide +kernel
theorem dX11_told_74 : decode cX11_told 74 = .ok (.getfield 12, 3) := by decide +kernel
theorem dX11_told_77 : decode cX11_told 77 = .ok (.getfield 75, 3) := by decide +kernel
theorem dX11_told_80 : decode cX11_told 80 = .ok (.ireturn, 1) := by decide +kernel
theorem dX11_told_81 : decode cX11_told 81 = .ok (.aload_n 0, 1) := by decide +kernel
theorem dX11_told_82 : decode cX11_told 82 = .ok (.getfield 12, 3) := by decide +kernel
theorem dX11_told_85 : decode cX11_told 85 = .ok (.getfield 78, 3) := by decide +kernel
theorem dX11_told_88 : decode cX11_told 88 = .ok (.ireturn, 1) := by decide +kernel
theorem dX11_told_89 : decode cX11_told 89 = .ok (.aload_n 0, 1) := by decide +kernel
theorem dX11_told_90 : decode cX11_told 90 = .ok (.getfield 12, 3) := by decide +kernel
theorem dX11_told_93 : decode cX11_told 93 = .ok (.getfield 81, 3) := by decide +kernel
theorem dX11_told_96 : decode cX11_told 96 = .ok (.ireturn, 1) := by decide +kernel
theorem dX11_told_97 : decode cX11_told 97 = .ok (.iconst (-1), 1) := by decide +kernel
theorem dX11_told_98 : decode cX11_told 98 = .ok (.ireturn, 1) := by decide +kernel
set_option maxRecDepth 20000 in
theorem ggX11_chief_X11_isWithin : GoodIn wsX11_chief wsX11_isWithin := goodIn_r _ [7] (by decide +kernel) (by decide +kernel)
set_option maxRecDepth 20000 in
theorem gX11_chief_X11_isWithin : GoodIn wsX11_chief (va_wsS RX11 84 yX11_isWithin wsX11_isWithin) := goodIn_app (goodIn_of _ (by decide +kernel)) ggX11_chief_X11_isWithin
set_option maxRecDepth 20000 in
theorem ggX11_chief_X0_make : GoodIn wsX11_chief wsX0_make := goodIn_r _ [11, 12, 13, 14, 15, 16, 17, 18, 19, 20, 21, 22, 23, 24, 25, 26, 27, 28, 29, 30, 31, 10, 32, 33, 34, 35, 36, 37, 38, 39, 40, 41, 42, 43, 44, 45, 46, 47, 48, 49, 50, 51, 52, 53, 54, 55, 56, 57, 58, 59, 60, 61, 62, 63, 64, 65, 92, 93, 94, 95, 96, 97, 98, 99, 100, 101, 102, 103, 104, 105, 106, 107, 108, 109, 110, 111, 112, 113, 114, 115, 116, 117, 118, 119] (by decide +kernel) (by decide +kernel)
set_option maxRecDepth 20000 in
theorem gX11_chief_X0_make : GoodIn wsX11_chief (va_wsS RX11 95 yX0_make wsX0_make) := goodIn_app (goodIn_of _ (by decide +kernel)) ggX11_chief_X0_make
theorem dX11_chief_0 : decode cX11_chief 0 = .ok (.iload_n 1, 1) := by decide +kernel
theorem dX11_chief_1 : decode cX11_chief 1 = .ok (.ifCond .lt 9, 3) := by decide +kernel
theorem dX11_chief_4 : decode cX11_chief 4 = .ok (.iload_n 1, 1) := by decide +kernel
theorem dX11_chief_5 : decode cX11_chief 5 = .ok (.bipush 7, 2) := by decide +kernel
theorem dX11_chief_7 : decode cX11_chief 7 = .ok (.if_icmp .lt 5, 3) := by decide +kernel
theorem dX11_chief_10 : decode cX11_chief 10 = .ok (.iconst (-1), 1) := by decide +kernel
theorem dX11_chief_11 : decode cX11_chief 11 = .ok (.ireturn, 1) := by decide +kernel
theorem dX11_chief_12 : decode cX11_chief 12 = .ok (.iload_n 2, 1) := by decide +kernel
theorem dX11_chief_13 : decode cX11_chief 13 = .ok (.bipush 9, 2) := by decide +kernel
theorem dX11_chief_15 : decode cX11_chief 15 = .ok (.invokestatic 84, 3) := by decide +kernel
theorem dX11_chief_18 : decode cX11_chief 18 = .ok (.ifCond .eq 12, 3) := by decide +kernel
theorem dX11_chief_21 : decode cX11_chief 21 = .ok (.iload_n 3, 1) := by decide +kernel
theorem dX11_chief_22 : decode cX11_chief 22 = .ok (.bipush 9, 2) := by decide +kernel
theorem dX11_chief_24 : decode cX11_chief 24 = .ok (.invokestatic 84, 3) := by decide +kernel
theorem dX11_chief_27 : decode cX11_chief 27 = .ok (.ifCond .ne 6, 3) := by decide +kernel
theorem dX11_chief_30 : decode cX11_chief 30 = .ok (.bipush (-2), 2) := by decide +kernel
theorem dX11_chief_32 : decode cX11_chief 32 = .ok (.ireturn, 1) := by decide +kernel
theorem dX11_chief_33 : decode cX11_chief 33 = .ok (.aload_n 0, 1) := by decide +kernel
theorem dX11_chief_34 : decode cX11_chief 34 = .ok (.getfield 12, 3) := by decide +kernel
theorem dX11_chief_37 : decode cX11_chief 37 = .ok (.getfield 88, 3) := by decide +kernel
theorem dX11_chief_40 : decode cX11_chief 40 = .ok (.iconst 4, 1) := by decide +kernel
theorem dX11_chief_41 : decode cX11_chief 41 = .ok (.if_icmp .lt 6, 3) := by decide +kernel
theorem dX11_chief_44 : decode cX11_chief 44 = .ok (.bipush (-4), 2) := by decide +kernel
theorem dX11_chief_46 : decode cX11_chief 46 = .ok (.ireturn, 1) := by decide +kernel
theorem dX11_chief_47 : decode cX11_chief 47 = .ok (.aload_n 0, 1) := by decide +kernel
theorem dX11_chief_48 : decode cX11_chief 48 = .ok (.getfield 12, 3) := by decide +kernel
theorem dX11_chief_51 : decode cX11_chief 51 = .ok (.getfield 91, 3) := by decide +kernel
theorem dX11_chief_54 : decode cX11_chief 54 = .ok (.aload_n 0, 1) := by decide +kernel
theorem dX11_chief_55 : decode cX11_chief 55 = .ok (.getfield 12, 3) := by decide +kernel
theorem dX11_chief_58 : decode cX11_chief 58 = .ok (.getfield 88, 3) := by decide +kernel
theorem dX11_chief_61 : decode cX11_chief 61 = .ok (.iload_n 1, 1) := by decide +kernel
theorem dX11_chief_62 : decode cX11_chief 62 = .ok (.aload_n 0, 1) := by decide +kernel
theorem dX11_chief_63 : decode cX11_chief 63 = .ok (.getfield 12, 3) := by decide +kernel
theorem dX11_chief_66 : decode cX11_chief 66 = .ok (.getfield 88, 3) := by decide +kernel
theorem dX11_chief_69 : decode cX11_chief 69 = .ok (.iload_n 2, 1) := by decide +kernel
theorem dX11_chief_70 : decode cX11_chief 70 = .ok (.iload_n 3, 1) := by decide +kernel
theorem dX11_chief_71 : decode cX11_chief 71 = .ok (.invokestatic 95, 3) := by decide +kernel
theorem dX11_chief_74 : decode cX11_chief 74 = .ok (.aastore, 1) := by decide +kernel
theorem dX11_chief_75 : decode cX11_chief 75 = .ok (.aload_n 0, 1) := by decide +kernel
theorem dX11_chief_76 : decode cX11_chief 76 = .ok (.getfield 12, 3) := by decide +kernel
theorem dX11_chief_79 : decode cX11_chief 79 = .ok (.dup, 1) := by decide +kernel
theorem dX11_chief_80 : decode cX11_chief 80 = .ok (.getfield 88, 3) := by decide +kernel
theorem dX11_chief_83 : decode cX11_chief 83 = .ok (.iconst 1, 1) := by decide +kernel
theorem dX11_chief_84 : decode cX11_chief 84 = .ok (.iadd, 1) := by decide +kernel
theorem dX11_chief_85 : decode cX11_chief 85 = .ok (.putfield 88, 3) := by decide +kernel
theorem dX11_chief_88 : decode cX11_chief 88 = .ok (.aload_n 0, 1) := by decide +kernel
theorem dX11_chief_89 : decode cX11_chief 89 = .ok (.getfield 12, 3) := by decide +kernel
theorem dX11_chief_92 : decode cX11_chief 92 = .ok (.getfield 88, 3) := by decide +kernel
theorem dX11_chief_95 : decode cX11_chief 95 = .ok (.iconst 1, 1) := by decide +kernel
theorem dX11_chief_96 : decode cX11_chief 96 = .ok (.isub, 1) := by decide +kernel
theorem dX11_chief_97 : decode cX11_chief 97 = .ok (.ireturn, 1) := by decide +kernel
set_option maxRecDepth 20000 in
theorem ggX11_worker_X10_chiefAt : GoodIn wsX11_worker wsX10_chiefAt := goodIn_r _ [12, 13, 14, 26, 27, 28, 29, 30, 31, 32, 33, 34, 35, 36, 37, 38, 39, 40, 41, 42, 43, 44] (by decide +kernel) (by decide +kernel)
set_option maxRecDepth 20000 in
theorem gX11_worker_X10_chiefAt : GoodIn wsX11_worker (wsV RX11 101 RX10 yX10_chiefAt wsX10_chiefAt) := goodIn_app (goodIn_of _ (by decide +kernel)) ggX11_worker_X10_chiefAt
set_option maxRecDepth 20000 in
theorem ggX11_worker_X11_isWithin : GoodIn wsX11_worker wsX11_isWithin := goodIn_r _ [18] (by decide +kernel) (by decide +kernel)
set_option maxRecDepth 20000 in
theorem gX11_worker_X11_isWithin : GoodIn wsX11_worker (va_wsS RX11 84 yX11_isWithin wsX11_isWithin) := goodIn_app (goodIn_of _ (by decide +kernel)) ggX11_worker_X11_isWithin
theorem dX11_worker_0 : decode cX11_worker 0 = .ok (.aload_n 0, 1) := by decide +kernel
theorem dX11_worker_1 : decode cX11_worker 1 = .ok (.getfield 12, 3) := by decide +kernel
theorem dX11_worker_4 : decode cX11_worker 4 = .ok (.iload_n 1, 1) := by decide +kernel
theorem dX11_worker_5 : decode cX11_worker 5 = .ok (.invokevirtual 101, 3) := by decide +kernel
theorem dX11_worker_8 : decode cX11_worker 8 = .ok (.ifnonnull 5, 3) := by decide +kernel
theorem dX11_worker_11 : decode cX11_worker 11 = .ok (.iconst (-1), 1) := by decide +kernel
theorem dX11_worker_12 : decode cX11_worker 12 = .ok (.ireturn, 1) := by decide +kernel
theorem dX11_worker_13 : decode cX11_worker 13 = .ok (.iload_n 2, 1) := by decide +kernel
theorem dX11_worker_14 : decode cX11_worker 14 = .ok (.bipush 99, 2) := by decide +kernel
theorem dX11_worker_16 : decode cX11_worker 16 = .ok (.invokestatic 84, 3) := by decide +kernel
theorem dX11_worker_19 : decode cX11_worker 19 = .ok (.ifCond .eq 12, 3) := by decide +kernel
theorem dX11_worker_22 : decode cX11_worker 22 = .ok (.iload_n 3, 1) := by decide +kernel
theorem dX11_worker_23 : decode cX11_worker 23 = .ok (.bipush 99, 2) := by decide +kernel
theorem dX11_worker_25 : decode cX11_worker 25 = .ok (.invokestatic 84, 3) := by decide +kernel
theorem dX11_worker_28 : decode cX11_worker 28 = .ok (.ifCond .ne 6, 3) := by decide +kernel
theorem dX11_worker_31 : decode cX11_worker 31 = .ok (.bipush (-2), 2) := by decide +kernel
theorem dX11_worker_33 : decode cX11_worker 33 = .ok (.ireturn, 1) := by decide +kernel
theorem dX11_worker_34 : decode cX11_worker 34 = .ok (.iload 4, 2) := by decide +kernel
theorem dX11_worker_36 : decode cX11_worker 36 = .ok (.bipush 9, 2) := by decide +kernel
theorem dX11_worker_38 : decode cX11_worker 38 = .ok (.invokestatic 84, 3) := by decide +kernel
theorem dX11_worker_41 : decode cX11_worker 41 = .ok (.ifCond .ne 6, 3) := by decide +kernel
theorem dX11_worker_44 : decode cX11_worker 44 = .ok (.bipush (-2), 2) := by decide +kernel
theorem dX11_worker_46 : decode cX11_worker 46 = .ok (.ireturn, 1) := by decide +kernel
theorem dX11_worker_47 : decode cX11_worker 47 = .ok (.aload_n 0, 1) := by decide +kernel
theorem dX11_worker_48 : decode cX11_worker 48 = .ok (.getfield 12, 3) := by decide +kernel
theorem dX11_worker_51 : decode cX11_worker 51 = .ok (.getfield 105, 3) := by decide +kernel
theorem dX11_worker_54 : decode cX11_worker 54 = .ok (.bipush 10, 2) := by decide +kernel
theorem dX11_worker_56 : decode cX11_worker 56 = .ok (.if_icmp .lt 6, 3) := by decide +kernel
theorem dX11_worker_59 : decode cX11_worker 59 = .ok (.bipush (-4), 2) := by decide +kernel
theorem dX11_worker_61 : decode cX11_worker 61 = .ok (.ireturn, 1) := by decide +kernel
theorem dX11_worker_62 : decode cX11_worker 62 = .ok (.aload_n 0, 1) := by decide +kernel
theorem dX11_worker_63 : decode cX11_worker 63 = .ok (.getfield 12, 3) := by decide +kernel
theorem dX11_worker_66 : decode cX11_worker 66 = .ok (.getfield 105, 3) := by decide +kernel
theorem dX11_worker_69 : decode cX11_worker 69 = .ok (.istore 5, 2) := by decide +kernel
theorem dX11_worker_71 : decode cX11_worker 71 = .ok (.aload_n 0, 1) := by decide +kernel
theorem dX11_worker_72 : decode cX11_worker 72 = .ok (.getfield 12, 3) := by decide +kernel
theorem dX11_worker_75 : decode cX11_worker 75 = .ok (.getfield 108, 3) := by decide +kernel
theorem dX11_worker_78 : decode cX11_worker 78 = .ok (.iload 5, 2) := by decide +kernel
theorem dX11_worker_80 : decode cX11_worker 80 = .ok (.iload_n 2, 1) := by decide +kernel
theorem dX11_worker_81 : decode cX11_worker 81 = .ok (.iastore, 1) := by decide +kernel
theorem dX11_worker_82 : decode cX11_worker 82 = .ok (.aload_n 0, 1) := by decide +kernel
theorem dX11_worker_83 : decode cX11_worker 83 = .ok (.getfield 12, 3) := by decide +kernel
theorem dX11_worker_86 : decode cX11_worker 86 = .ok (.getfield 111, 3) := by decide +kernel
theorem dX11_worker_89 : decode cX11_worker 89 = .ok (.iload 5, 2) := by decide +kernel
theorem dX11_worker_91 : decode cX11_worker 91 = .ok (.iload_n 3, 1) := by decide +kernel
theorem dX11_worker_92 : decode cX11_worker 92 = .ok (.iastore, 1) := by decide +kernel
theorem dX11_worker_93 : decode cX11_worker 93 = .ok (.aload_n 0, 1) := by decide +kernel
theorem dX11_worker_94 : decode cX11_worker 94 = .ok (.getfield 12, 3) := by decide +kernel
theorem dX11_worker_97 : decode cX11_worker 97 = .ok (.getfield 114, 3) := by decide +kernel
theorem dX11_worker_100 : decode cX11_worker 100 = .ok (.iload 5, 2) := by decide +kernel
theorem dX11_worker_102 : decode cX11_worker 102 = .ok (.iload_n 1, 1) := by decide +kernel
theorem dX11_worker_103 : decode cX11_worker 103 = .ok (.iastore, 1) := by decide +kernel
theorem dX11_worker_104 : decode cX11_worker 104 = .ok (.aload_n 0, 1) := by decide +kernel
theorem dX11_worker_105 : decode cX11_worker 105 = .ok (.getfield 12, 3) := by decide +kernel
theorem dX11_worker_108 : decode cX11_worker 108 = .ok (.getfield 117, 3) := by decide +kernel
theorem dX11_worker_111 : decode cX11_worker 111 = .ok (.iload 5, 2) := by decide +kernel
theorem dX11_worker_113 : decode cX11_worker 113 = .ok (.iload 4, 2) := by decide +kernel
theorem dX11_worker_115 : decode cX11_worker 115 = .ok (.iastore, 1) := by decide +kernel
theorem dX11_worker_116 : decode cX11_worker 116 = .ok (.aload_n 0, 1) := by decide +kernel
theorem dX11_worker_117 : decode cX11_worker 117 = .ok (.getfield 12, 3) := by decide +kernel
theorem dX11_worker_120 : decode cX11_worker 120 = .ok (.getfield 120, 3) := by decide +kernel
theorem dX11_worker_123 : decode cX11_worker 123 = .ok (.iload 5, 2) := by decide +kernel
theorem dX11_worker_125 : decode cX11_worker 125 = .ok (.iconst 0, 1) := by decide +kernel
theorem dX11_worker_126 : decode cX11_worker 126 = .ok (.iastore, 1) := by decide +kernel
theorem dX11_worker_127 : decode cX11_worker 127 = .ok (.aload_n 0, 1) := by decide +kernel
theorem dX11_worker_128 : decode cX11_worker 128 = .ok (.getfield 12, 3) := by decide +kernel
theorem dX11_worker_131 : decode cX11_worker 131 = .ok (.dup, 1) := by decide +kernel
theorem dX11_worker_132 : decode cX11_worker 132 = .ok (.getfield 105, 3) := by decide +kernel
theorem dX11_worker_135 : decode cX11_worker 135 = .ok (.iconst 1, 1) := by decide +kernel
theorem dX11_worker_136 : decode cX11_worker 136 = .ok (.iadd, 1) := by decide +kernel
theorem dX11_worker_137 : decode cX11_worker 137 = .ok (.putfield 105, 3) := by decide +kernel
theorem dX11_worker_140 : decode cX11_worker 140 = .ok (.iload 5, 2) := by decide +kernel
theorem dX11_worker_142 : decode cX11_worker 142 = .ok (.ireturn, 1) := by decide +kernel
set_option maxRecDepth 20000 in
theorem ggX11_of_X10_hasWorker : GoodIn wsX11_of wsX10_hasWorker := goodIn_r _ [13, 14, 201, 202, 203, 204, 205, 206, 207, 208, 209, 210, 211, 212, 213, 214, 215, 216, 217, 218, 219] (by decide +kernel) (by decide +kernel)
set_option maxRecDepth 20000 in
theorem gX11_of_X10_hasWorker : GoodIn wsX11_of (wsV RX11 122 RX10 yX10_hasWorker wsX10_hasWorker) := goodIn_app (goodIn_of _ (by decide +kernel)) ggX11_of_X10_hasWorker
set_option maxRecDepth 20000 in
theorem ggX11_of_X11_mark : GoodIn wsX11_of wsX11_mark := goodIn_r _ [19, 1, 7, 20, 21, 22, 12, 23, 24, 25, 9, 10, 11, 13, 14, 26, 27, 28, 29, 30, 31, 32, 33, 34, 35, 36, 37, 38, 39, 40, 41, 42, 43, 44, 45, 46, 47, 48, 49, 50, 51, 52, 53, 54, 55, 56, 57, 58, 59, 60, 61, 62, 63, 64, 65, 66, 67, 68, 69, 70, 71, 72, 73, 74, 75, 76, 77, 78, 79, 80, 81, 82, 83, 84, 85, 86, 87, 88, 89, 90, 91, 92, 93, 94, 95, 96, 97, 98, 99, 100, 101, 102, 103, 104, 105, 106, 107, 108, 109, 110, 111, 112, 113, 114, 194, 195, 196, 197, 198, 199, 200, 201, 202, 203, 204, 205, 206, 207, 208, 209, 210, 211, 212, 213, 214, 215, 216, 217, 218, 219, 220, 221, 222, 223, 224, 225, 226, 227, 228, 229, 230, 231, 232, 233, 234, 235, 236, 237, 238, 239, 240, 241, 242, 243, 244, 245, 246, 247, 248, 249, 250, 251, 252, 253, 254, 255, 256, 257, 258, 259, 260, 261, 262, 263, 264, 265] (by decide +kernel) (by decide +kernel)
set_option maxRecDepth 20000 in
theorem gX11_of_X11_mark : GoodIn wsX11_of (wsV RX11 126 RX11 yX11_mark wsX11_mark) := goodIn_app (goodIn_of _ (by decide +kernel)) ggX11_of_X11_mark
set_option maxRecDepth 20000 in
theorem ggX11_of_X1_gradeHad : GoodIn wsX11_of wsX1_gradeHad := goodIn_r _ [118, 119, 120, 39, 10, 11, 12, 13, 14, 121, 21, 22, 23, 24, 25, 122, 123, 124, 29, 125, 32, 40, 41, 42, 43, 44, 126, 127, 128, 129, 130, 131, 132, 133, 134, 135, 136, 137, 27, 28, 30, 31, 33, 34, 35, 36, 37, 38, 45, 46, 47, 48, 49, 50, 51, 52, 53, 54, 55, 56, 57, 58, 59, 60, 61, 62, 63, 64, 65, 66, 67, 68, 69, 70, 71, 72, 73, 74, 75, 76, 77, 78, 79, 80, 81, 82, 83, 84, 85, 86, 87, 88, 89, 90, 91, 92, 93, 94, 95, 96, 97, 98, 99, 100, 101, 102, 103, 104, 105, 106, 107, 108, 109, 110, 111, 112, 113, 114, 138, 139, 140, 141, 142, 143, 144, 145, 146, 147, 148, 149, 150, 151, 152, 153, 154, 155, 156, 157, 158, 159, 160, 161, 162, 163, 164, 165, 166, 167, 168, 169, 170, 171, 172, 173, 174, 175, 176, 177, 178, 201, 202, 203, 204, 205, 206, 207, 208, 209, 210, 211, 212, 213, 214, 215, 216, 217, 218, 219, 220, 221, 222, 223, 224, 225, 226, 227, 228, 229, 230, 231, 232, 233, 234, 235, 236, 237, 238, 239, 240, 241, 242, 243, 244, 245, 246, 247, 248, 249, 250, 251, 252, 253, 254, 255, 256, 257, 258, 259, 260, 261, 262, 263, 264, 265] (by decide +kernel) (by decide +kernel)
set_option maxRecDepth 20000 in
theorem gX11_of_X1_gradeHad : GoodIn wsX11_of (wsV RX11 130 RX1 yX1_gradeHad wsX1_gradeHad) := goodIn_app (goodIn_of _ (by decide +kernel)) ggX11_of_X1_gradeHad
set_option maxRecDepth 20000 in
theorem ggX11_of_X1_gradeDue : GoodIn wsX11_of wsX1_gradeDue := goodIn_r _ [182, 183, 130, 136, 131, 34, 184, 126, 127, 128, 29, 129, 138, 139, 140, 141, 38, 142, 143, 144, 145, 94, 146, 147, 120, 35, 148, 149, 150, 151, 152, 153, 154, 155, 156, 157, 55, 158, 159, 160, 161, 162, 163, 164, 165, 166, 167, 168, 169, 170, 171, 172, 173, 174, 175, 176, 177, 178, 201, 202, 203, 204, 205, 206, 207, 208, 209, 210, 211, 212, 213, 214, 215, 216, 217, 218, 219, 220, 221, 222, 223, 224, 225, 226, 255, 256, 257, 258, 259, 260, 261, 262, 263, 264, 265, 227, 228, 229, 230, 231, 232, 233, 234, 235, 236, 237, 238, 239, 240, 241, 242, 243, 244, 245, 246, 247, 248, 249, 250, 251, 252, 253, 254] (by decide +kernel) (by decide +kernel)
set_option maxRecDepth 20000 in
theorem gX11_of_X1_gradeDue : GoodIn wsX11_of (wsV RX11 134 RX1 yX1_gradeDue wsX1_gradeDue) := goodIn_app (goodIn_of _ (by decide +kernel)) ggX11_of_X1_gradeDue
set_option maxRecDepth 20000 in
theorem ggX11_of_X1_gradeLevelled : GoodIn wsX11_of wsX1_gradeLevelled := goodIn_r _ [188, 189, 183, 130, 136, 131, 121, 21, 22, 12, 23, 24, 25, 40, 41, 42, 43, 14, 44, 126, 127, 128, 29, 129, 132, 133, 134, 135, 137, 27, 28, 30, 31, 32, 33, 34, 35, 36, 37, 38, 39, 10, 11, 13, 45, 46, 47, 48, 49, 50, 51, 52, 53, 54, 55, 56, 57, 58, 59, 60, 61, 62, 63, 64, 65, 66, 67, 68, 69, 70, 71, 72, 73, 74, 75, 76, 77, 78, 79, 80, 81, 82, 83, 84, 85, 86, 87, 88, 89, 90, 91, 92, 93, 94, 95, 96, 97, 98, 99, 100, 101, 102, 103, 104, 105, 106, 107, 108, 109, 110, 111, 112, 113, 114, 190, 191, 192, 193, 138, 139, 140, 141, 142, 143, 144, 145, 146, 147, 120, 148, 149, 150, 151, 152, 153, 154, 155, 156, 157, 158, 159, 160, 161, 162, 163, 164, 165, 166, 167, 168, 169, 170, 171, 172, 173, 174, 175, 176, 177, 178, 201, 202, 203, 204, 205, 206, 207, 208, 209, 210, 211, 212, 213, 214, 215, 216, 217, 218, 219, 220, 221, 222, 223, 224, 225, 226, 227, 228, 229, 230, 231, 232, 233, 234, 235, 236, 237, 238, 239, 240, 241, 242, 243, 244, 245, 246, 247, 248, 249, 250, 251, 252, 253, 254, 255, 256, 257, 258, 259, 260, 261, 262, 263, 264, 265] (by decide +kernel) (by decide +kernel)
set_option maxRecDepth 20000 in
theorem gX11_of_X1_gradeLevelled : GoodIn wsX11_of (wsV RX11 141 RX1 yX1_gradeLevelled wsX1_gradeLevelled) := goodIn_app (goodIn_of _ (by decide +kernel)) ggX11_of_X1_gradeLevelled
theorem dX11_of_0 : decode cX11_of 0 = .ok (.aload_n 0, 1) := by decide +kernel
theorem dX11_of_1 : decode cX11_of 1 = .ok (.getfield 12, 3) := by decide +kernel
theorem dX11_of_4 : decode cX11_of 4 = .ok (.iload_n 1, 1) := by decide +kernel
theorem dX11_of_5 : decode cX11_of 5 = .ok (.invokevirtual 122, 3) := by decide +kernel
theorem dX11_of_8 : decode cX11_of 8 = .ok (.ifCond .ne 7, 3) := by decide +kernel
theorem dX11_of_11 : decode cX11_of 11 = .ok (.sipush (-1001), 3) := by decide +kernel
theorem dX11_of_14 : decode cX11_of 14 = .ok (.ireturn, 1) := by decide +kernel
theorem dX11_of_15 : decode cX11_of 15 = .ok (.iload_n 2, 1) := by decide +kernel
theorem dX11_of_16 : decode cX11_of 16 = .ok (.tableswitch 172 0 8 #[52, 62, 72, 82, 92, 102, 117, 130, 151], 52) := by decide +kernel
theorem dX11_of_68 : decode cX11_of 68 = .ok (.aload_n 0, 1) := by decide +kernel
theorem dX11_of_69 : decode cX11_of 69 = .ok (.getfield 12, 3) := by decide +kernel
theorem dX11_of_72 : decode cX11_of 72 = .ok (.getfield 108, 3) := by decide +kernel
theorem dX11_of_75 : decode cX11_of 75 = .ok (.iload_n 1, 1) := by decide +kernel
theorem dX11_of_76 : decode cX11_of 76 = .ok (.iaload, 1) := by decide +kernel
theorem dX11_of_77 : decode cX11_of 77 = .ok (.ireturn, 1) := by decide +kernel
theorem dX11_of_78 : decode cX11_of 78 = .ok (.aload_n 0, 1) := by decide +kernel
theorem dX11_of_79 : decode cX11_of 79 = .ok (.getfield 12, 3) := by decide +kernel
theorem dX11_of_82 : decode cX11_of 82 = .ok (.getfield 111, 3) := by decide +kernel
theorem dX11_of_85 : decode cX11_of 85 = .ok (.iload_n 1, 1) := by decide +kernel
theorem dX11_of_86 : decode cX11_of 86 = .ok (.iaload, 1) := by decide +kernel
theorem dX11_of_87 : decode cX11_of 87 = .ok (.ireturn, 1) := by decide +kernel
theorem dX11_of_88 : decode cX11_of 88 = .ok (.aload_n 0, 1) := by decide +kernel
theorem dX11_of_89 : decode cX11_of 89 = .ok (.getfield 12, 3) := by decide +kernel
theorem dX11_of_92 : decode cX11_of 92 = .ok (.getfield 114, 3) := by decide +kernel
theorem dX11_of_95 : decode cX11_of 95 = .ok (.iload_n 1, 1) := by decide +kernel
theorem dX11_of_96 : decode cX11_of 96 = .ok (.iaload, 1) := by decide +kernel
theorem dX11_of_97 : decode cX11_of 97 = .ok (.ireturn, 1) := by decide +kernel
theorem dX11_of_98 : decode cX11_of 98 = .ok (.aload_n 0, 1) := by decide +kernel
theorem dX11_of_99 : decode cX11_of 99 = .ok (.getfield 12, 3) := by decide +kernel
theorem dX11_of_102 : decode cX11_of 102 = .ok (.getfield 117, 3) := by decide +kernel
theorem dX11_of_105 : decode cX11_of 105 = .ok (.iload_n 1, 1) := by decide +kernel
theorem dX11_of_106 : decode cX11_of 106 = .ok (.iaload, 1) := by decide +kernel
theorem dX11_of_107 : decode cX11_of 107 = .ok (.ireturn, 1) := by decide +kernel
theorem dX11_of_108 : decode cX11_of 108 = .ok (.aload_n 0, 1) := by decide +kernel
theorem dX11_of_109 : decode cX11_of 109 = .ok (.getfield 12, 3) := by decide +kernel
theorem dX11_of_112 : decode cX11_of 112 = .ok (.getfield 120, 3) := by decide +kernel
theorem dX11_of_115 : decode cX11_of 115 = .ok (.iload_n 1, 1) := by decide +kernel
theorem dX11_of_116 : decode cX11_of 116 = .ok (.iaload, 1) := by decide +kernel
theorem dX11_of_117 : decode cX11_of 117 = .ok (.ireturn, 1) := by decide +kernel
theorem dX11_of_118 : decode cX11_of 118 = .ok (.aload_n 0, 1) := by decide +kernel
theorem dX11_of_119 : decode cX11_of 119 = .ok (.iload_n 1, 1) := by decide +kernel
theorem dX11_of_120 : decode cX11_of 120 = .ok (.aload_n 0, 1) := by decide +kernel
theorem dX11_of_121 : decode cX11_of 121 = .ok (.getfield 12, 3) := by decide +kernel
theorem dX11_of_124 : decode cX11_of 124 = .ok (.getfield 114, 3) := by decide +kernel
theorem dX11_of_127 : decode cX11_of 127 = .ok (.iload_n 1, 1) := by decide +kernel
theorem dX11_of_128 : decode cX11_of 128 = .ok (.iaload, 1) := by decide +kernel
theorem dX11_of_129 : decode cX11_of 129 = .ok (.invokevirtual 126, 3) := by decide +kernel
theorem dX11_of_132 : decode cX11_of 132 = .ok (.ireturn, 1) := by decide +kernel
theorem dX11_of_133 : decode cX11_of 133 = .ok (.aload_n 0, 1) := by decide +kernel
theorem dX11_of_134 : decode cX11_of 134 = .ok (.getfield 27, 3) := by decide +kernel
theorem dX11_of_137 : decode cX11_of 137 = .ok (.aload_n 0, 1) := by decide +kernel
theorem dX11_of_138 : decode cX11_of 138 = .ok (.getfield 12, 3) := by decide +kernel
theorem dX11_of_141 : decode cX11_of 141 = .ok (.iload_n 1, 1) := by decide +kernel
theorem dX11_of_142 : decode cX11_of 142 = .ok (.invokevirtual 130, 3) := by decide +kernel
theorem dX11_of_145 : decode cX11_of 145 = .ok (.ireturn, 1) := by decide +kernel
theorem dX11_of_146 : decode cX11_of 146 = .ok (.aload_n 0, 1) := by decide +kernel
theorem dX11_of_147 : decode cX11_of 147 = .ok (.getfield 27, 3) := by decide +kernel
theorem dX11_of_150 : decode cX11_of 150 = .ok (.aload_n 0, 1) := by decide +kernel
theorem dX11_of_151 : decode cX11_of 151 = .ok (.getfield 12, 3) := by decide +kernel
theorem dX11_of_154 : decode cX11_of 154 = .ok (.invokevirtual 134, 3) := by decide +kernel
theorem dX11_of_157 : decode cX11_of 157 = .ok (.aload_n 0, 1) := by decide +kernel
theorem dX11_of_158 : decode cX11_of 158 = .ok (.getfield 27, 3) := by decide +kernel
theorem dX11_of_161 : decode cX11_of 161 = .ok (.getfield 138, 3) := by decide +kernel
theorem dX11_of_164 : decode cX11_of 164 = .ok (.iload_n 1, 1) := by decide +kernel
theorem dX11_of_165 : decode cX11_of 165 = .ok (.iaload, 1) := by decide +kernel
theorem dX11_of_166 : decode cX11_of 166 = .ok (.ireturn, 1) := by decide +kernel
theorem dX11_of_167 : decode cX11_of 167 = .ok (.aload_n 0, 1) := by decide +kernel
theorem dX11_of_168 : decode cX11_of 168 = .ok (.getfield 27, 3) := by decide +kernel
theorem dX11_of_171 : decode cX11_of 171 = .ok (.aload_n 0, 1) := by decide +kernel
theorem dX11_of_172 : decode cX11_of 172 = .ok (.getfield 12, 3) := by decide +kernel
theorem dX11_of_175 : decode cX11_of 175 = .ok (.invokevirtual 141, 3) := by decide +kernel
theorem dX11_of_178 : decode cX11_of 178 = .ok (.aload_n 0, 1) := by decide +kernel
theorem dX11_of_179 : decode cX11_of 179 = .ok (.getfield 27, 3) := by decide +kernel
theorem dX11_of_182 : decode cX11_of 182 = .ok (.getfield 138, 3) := by decide +kernel
theorem dX11_of_185 : decode cX11_of 185 = .ok (.iload_n 1, 1) := by decide +kernel
theorem dX11_of_186 : decode cX11_of 186 = .ok (.iaload, 1) := by decide +kernel
theorem dX11_of_187 : decode cX11_of 187 = .ok (.ireturn, 1) := by decide +kernel
theorem dX11_of_188 : decode cX11_of 188 = .ok (.sipush (-1001), 3) := by decide +kernel
theorem dX11_of_191 : decode cX11_of 191 = .ok (.ireturn, 1) := by decide +kernel
set_option maxRecDepth 20000 in
theorem ggX11_by_X10_chiefAt : GoodIn wsX11_by wsX10_chiefAt := goodIn_r _ [9, 10, 11, 60, 61, 62, 63, 64, 65, 66, 67, 68, 69, 70, 71, 72, 73, 74, 75, 76, 77, 78] (by decide +kernel) (by decide +kernel)
set_option maxRecDepth 20000 in
theorem gX11_by_X10_chiefAt : GoodIn wsX11_by (wsV RX11 101 RX10 yX10_chiefAt wsX10_chiefAt) := goodIn_app (goodIn_of _ (by decide +kernel)) ggX11_by_X10_chiefAt
set_option maxRecDepth 20000 in
theorem ggX11_by_X10_teamBits : GoodIn wsX11_by wsX10_teamBits := goodIn_r _ [15, 16, 17, 60, 61, 62, 63, 64, 65, 66, 67, 68, 69, 70, 71, 72, 73, 74, 75, 76, 77, 78] (by decide +kernel) (by decide +kernel)
set_option maxRecDepth 20000 in
theorem gX11_by_X10_teamBits : GoodIn wsX11_by (wsV RX11 152 RX10 yX10_teamBits wsX10_teamBits) := goodIn_app (goodIn_of _ (by decide +kernel)) ggX11_by_X10_teamBits
set_option maxRecDepth 20000 in
theorem ggX11_by_J6_bitCount_0f7a4 : GoodIn wsX11_by wsJ6_bitCount_0f7a4 := goodIn_r _ [21, 22, 23, 24] (by decide +kernel) (by decide +kernel)
set_option maxRecDepth 20000 in
theorem gX11_by_J6_bitCount_0f7a4 : GoodIn wsX11_by (va_wsS RX11 156 yJ6_bitCount_0f7a4 wsJ6_bitCount_0f7a4) := goodIn_app (goodIn_of _ (by decide +kernel)) ggX11_by_J6_bitCount_0f7a4
theorem dX11_by_0 : decode cX11_by 0 = .ok (.aload_n 0, 1) := by decide +kernel
theorem dX11_by_1 : decode cX11_by 1 = .ok (.getfield 12, 3) := by decide +kernel
theorem dX11_by_4 : decode cX11_by 4 = .ok (.iload_n 1, 1) := by decide +kernel
theorem dX11_by_5 : decode cX11_by 5 = .ok (.invokevirtual 101, 3) := by decide +kernel
theorem dX11_by_8 : decode cX11_by 8 = .ok (.astore_n 3, 1) := by decide +kernel
theorem dX11_by_9 : decode cX11_by 9 = .ok (.aload_n 3, 1) := by decide +kernel
theorem dX11_by_10 : decode cX11_by 10 = .ok (.ifnonnull 5, 3) := by decide +kernel
theorem dX11_by_13 : decode cX11_by 13 = .ok (.iconst (-1), 1) := by decide +kernel
theorem dX11_by_14 : decode cX11_by 14 = .ok (.ireturn, 1) := by decide +kernel
theorem dX11_by_15 : decode cX11_by 15 = .ok (.iload_n 2, 1) := by decide +kernel
theorem dX11_by_16 : decode cX11_by 16 = .ok (.tableswitch 72 0 4 #[36, 41, 46, 51, 63], 36) := by decide +kernel
theorem dX11_by_52 : decode cX11_by 52 = .ok (.aload_n 3, 1) := by decide +kernel
theorem dX11_by_53 : decode cX11_by 53 = .ok (.getfield 144, 3) := by decide +kernel
theorem dX11_by_56 : decode cX11_by 56 = .ok (.ireturn, 1) := by decide +kernel
theorem dX11_by_57 : decode cX11_by 57 = .ok (.aload_n 3, 1) := by decide +kernel
theorem dX11_by_58 : decode cX11_by 58 = .ok (.getfield 147, 3) := by decide +kernel
theorem dX11_by_61 : decode cX11_by 61 = .ok (.ireturn, 1) := by decide +kernel
theorem dX11_by_62 : decode cX11_by 62 = .ok (.aload_n 3, 1) := by decide +kernel
theorem dX11_by_63 : decode cX11_by 63 = .ok (.getfield 150, 3) := by decide +kernel
theorem dX11_by_66 : decode cX11_by 66 = .ok (.ireturn, 1) := by decide +kernel
theorem dX11_by_67 : decode cX11_by 67 = .ok (.aload_n 0, 1) := by decide +kernel
theorem dX11_by_68 : decode cX11_by 68 = .ok (.getfield 12, 3) := by decide +kernel
theorem dX11_by_71 : decode cX11_by 71 = .ok (.iload_n 1, 1) := by decide +kernel
theorem dX11_by_72 : decode cX11_by 72 = .ok (.invokevirtual 152, 3) := by decide +kernel
theorem dX11_by_75 : decode cX11_by 75 = .ok (.invokestatic 156, 3) := by decide +kernel
theorem dX11_by_78 : decode cX11_by 78 = .ok (.ireturn, 1) := by decide +kernel
theorem dX11_by_79 : decode cX11_by 79 = .ok (.aload_n 0, 1) := by decide +kernel
theorem dX11_by_80 : decode cX11_by 80 = .ok (.getfield 12, 3) := by decide +kernel
theorem dX11_by_83 : decode cX11_by 83 = .ok (.iload_n 1, 1) := by decide +kernel
theorem dX11_by_84 : decode cX11_by 84 = .ok (.invokevirtual 152, 3) := by decide +kernel
theorem dX11_by_87 : decode cX11_by 87 = .ok (.ireturn, 1) := by decide +kernel
theorem dX11_by_88 : decode cX11_by 88 = .ok (.iconst (-1), 1) := by decide +kernel
theorem dX11_by_89 : decode cX11_by 89 = .ok (.ireturn, 1) := by decide +kernel
set_option maxRecDepth 20000 in
theorem ggX11_move_X10_hasWorker : GoodIn wsX11_move wsX10_hasWorker := goodIn_r _ [7, 8, 22, 23, 24, 25, 26, 27, 28, 29, 30, 31, 32, 33, 34, 35, 36, 37, 38, 39, 40] (by decide +kernel) (by decide +kernel)
set_option maxRecDepth 20000 in
theorem gX11_move_X10_hasWorker : GoodIn wsX11_move (wsV RX11 122 RX10 yX10_hasWorker wsX10_hasWorker) := goodIn_app (goodIn_of _ (by decide +kernel)) ggX11_move_X10_hasWorker
set_option maxRecDepth 20000 in
theorem ggX11_move_X10_chiefAt : GoodIn wsX11_move wsX10_chiefAt := goodIn_r _ [12, 13, 14, 22, 23, 24, 25, 26, 27, 28, 29, 30, 31, 32, 33, 34, 35, 36, 37, 38, 39, 40] (by decide +kernel) (by decide +kernel)
set_option maxRecDepth 20000 in
theorem gX11_move_X10_chiefAt : GoodIn wsX11_move (wsV RX11 101 RX10 yX10_chiefAt wsX10_chiefAt) := goodIn_app (goodIn_of _ (by decide +kernel)) ggX11_move_X10_chiefAt
theorem dX11_move_0 : decode cX11_move 0 = .ok (.aload_n 0, 1) := by decide +kernel
theorem dX11_move_1 : decode cX11_move 1 = .ok (.getfield 12, 3) := by decide +kernel
theorem dX11_move_4 : decode cX11_move 4 = .ok (.iload_n 1, 1) := by decide +kernel
theorem dX11_move_5 : decode cX11_move 5 = .ok (.invokevirtual 122, 3) := by decide +kernel
theorem dX11_move_8 : decode cX11_move 8 = .ok (.ifCond .eq 14, 3) := by decide +kernel
theorem dX11_move_11 : decode cX11_move 11 = .ok (.aload_n 0, 1) := by decide +kernel
theorem dX11_move_12 : decode cX11_move 12 = .ok (.getfield 12, 3) := by decide +kernel
theorem dX11_move_15 : decode cX11_move 15 = .ok (.iload_n 2, 1) := by decide +kernel
theorem dX11_move_16 : decode cX11_move 16 = .ok (.invokevirtual 101, 3) := by decide +kernel
theorem dX11_move_19 : decode cX11_move 19 = .ok (.ifnonnull 5, 3) := by decide +kernel
theorem dX11_move_22 : decode cX11_move 22 = .ok (.iconst (-1), 1) := by decide +kernel
theorem dX11_move_23 : decode cX11_move 23 = .ok (.ireturn, 1) := by decide +kernel
theorem dX11_move_24 : decode cX11_move 24 = .ok (.aload_n 0, 1) := by decide +kernel
theorem dX11_move_25 : decode cX11_move 25 = .ok (.getfield 12, 3) := by decide +kernel
theorem dX11_move_28 : decode cX11_move 28 = .ok (.getfield 114, 3) := by decide +kernel
theorem dX11_move_31 : decode cX11_move 31 = .ok (.iload_n 1, 1) := by decide +kernel
theorem dX11_move_32 : decode cX11_move 32 = .ok (.iaload, 1) := by decide +kernel
theorem dX11_move_33 : decode cX11_move 33 = .ok (.istore_n 3, 1) := by decide +kernel
theorem dX11_move_34 : decode cX11_move 34 = .ok (.aload_n 0, 1) := by decide +kernel
theorem dX11_move_35 : decode cX11_move 35 = .ok (.getfield 12, 3) := by decide +kernel
theorem dX11_move_38 : decode cX11_move 38 = .ok (.getfield 114, 3) := by decide +kernel
theorem dX11_move_41 : decode cX11_move 41 = .ok (.iload_n 1, 1) := by decide +kernel
theorem dX11_move_42 : decode cX11_move 42 = .ok (.iload_n 2, 1) := by decide +kernel
theorem dX11_move_43 : decode cX11_move 43 = .ok (.iastore, 1) := by decide +kernel
theorem dX11_move_44 : decode cX11_move 44 = .ok (.iload_n 3, 1) := by decide +kernel
theorem dX11_move_45 : decode cX11_move 45 = .ok (.ireturn, 1) := by decide +kernel
set_option maxRecDepth 20000 in
theorem ggX11_set_X10_hasWorker : GoodIn wsX11_set wsX10_hasWorker := goodIn_r _ [9, 10, 22, 23, 24, 25, 26, 27, 28, 29, 30, 31, 32, 33, 34, 35, 36, 37, 38, 39, 40] (by decide +kernel) (by decide +kernel)
set_option maxRecDepth 20000 in
theorem gX11_set_X10_hasWorker : GoodIn wsX11_set (wsV RX11 122 RX10 yX10_hasWorker wsX10_hasWorker) := goodIn_app (goodIn_of _ (by decide +kernel)) ggX11_set_X10_hasWorker
set_option maxRecDepth 20000 in
theorem ggX11_set_X11_isWithin : GoodIn wsX11_set wsX11_isWithin := goodIn_r _ [14] (by decide +kernel) (by decide +kernel)
set_option maxRecDepth 20000 in
theorem gX11_set_X11_isWithin : GoodIn wsX11_set (va_wsS RX11 84 yX11_isWithin wsX11_isWithin) := goodIn_app (goodIn_of _ (by decide +kernel)) ggX11_set_X11_isWithin
theorem dX11_set_0 : decode cX11_set 0 = .ok (.aload_n 0, 1) := by decide +kernel
theorem dX11_set_1 : decode cX11_set 1 = .ok (.getfield 12, 3) := by decide +kernel
theorem dX11_set_4 : decode cX11_set 4 = .ok (.iload_n 1, 1) := by decide +kernel
theorem dX11_set_5 : decode cX11_set 5 = .ok (.invokevirtual 122, 3) := by decide +kernel
theorem dX11_set_8 : decode cX11_set 8 = .ok (.ifCond .eq 12, 3) := by decide +kernel
theorem dX11_set_11 : decode cX11_set 11 = .ok (.iload_n 2, 1) := by decide +kernel
theorem dX11_set_12 : decode cX11_set 12 = .ok (.ifCond .lt 8, 3) := by decide +kernel
theorem dX11_set_15 : decode cX11_set 15 = .ok (.iload_n 2, 1) := by decide +kernel
theorem dX11_set_16 : decode cX11_set 16 = .ok (.iconst 2, 1) := by decide +kernel
theorem dX11_set_17 : decode cX11_set 17 = .ok (.if_icmp .le 5, 3) := by decide +kernel
theorem dX11_set_20 : decode cX11_set 20 = .ok (.iconst (-1), 1) := by decide +kernel
theorem dX11_set_21 : decode cX11_set 21 = .ok (.ireturn, 1) := by decide +kernel
theorem dX11_set_22 : decode cX11_set 22 = .ok (.iload_n 3, 1) := by decide +kernel
theorem dX11_set_23 : decode cX11_set 23 = .ok (.iload_n 2, 1) := by decide +kernel
theorem dX11_set_24 : decode cX11_set 24 = .ok (.iconst 2, 1) := by decide +kernel
theorem dX11_set_25 : decode cX11_set 25 = .ok (.if_icmp .ne 8, 3) := by decide +kernel
theorem dX11_set_28 : decode cX11_set 28 = .ok (.bipush 9, 2) := by decide +kernel
theorem dX11_set_30 : decode cX11_set 30 = .ok (.goto 5, 3) := by decide +kernel
theorem dX11_set_33 : decode cX11_set 33 = .ok (.bipush 99, 2) := by decide +kernel
theorem dX11_set_35 : decode cX11_set 35 = .ok (.invokestatic 84, 3) := by decide +kernel
theorem dX11_set_38 : decode cX11_set 38 = .ok (.ifCond .ne 6, 3) := by decide +kernel
theorem dX11_set_41 : decode cX11_set 41 = .ok (.bipush (-2), 2) := by decide +kernel
theorem dX11_set_43 : decode cX11_set 43 = .ok (.ireturn, 1) := by decide +kernel
theorem dX11_set_44 : decode cX11_set 44 = .ok (.iload_n 2, 1) := by decide +kernel
theorem dX11_set_45 : decode cX11_set 45 = .ok (.ifCond .ne 13, 3) := by decide +kernel
theorem dX11_set_48 : decode cX11_set 48 = .ok (.aload_n 0, 1) := by decide +kernel
theorem dX11_set_49 : decode cX11_set 49 = .ok (.getfield 12, 3) := by decide +kernel
theorem dX11_set_52 : decode cX11_set 52 = .ok (.getfield 108, 3) := by decide +kernel
theorem dX11_set_55 : decode cX11_set 55 = .ok (.goto 25, 3) := by decide +kernel
theorem dX11_set_58 : decode cX11_set 58 = .ok (.iload_n 2, 1) := by decide +kernel
theorem dX11_set_59 : decode cX11_set 59 = .ok (.iconst 1, 1) := by decide +kernel
theorem dX11_set_60 : decode cX11_set 60 = .ok (.if_icmp .ne 13, 3) := by decide +kernel
theorem dX11_set_63 : decode cX11_set 63 = .ok (.aload_n 0, 1) := by decide +kernel
theorem dX11_set_64 : decode cX11_set 64 = .ok (.getfield 12, 3) := by decide +kernel
theorem dX11_set_67 : decode cX11_set 67 = .ok (.getfield 111, 3) := by decide +kernel
theorem dX11_set_70 : decode cX11_set 70 = .ok (.goto 10, 3) := by decide +kernel
theorem dX11_set_73 : decode cX11_set 73 = .ok (.aload_n 0, 1) := by decide +kernel
theorem dX11_set_74 : decode cX11_set 74 = .ok (.getfield 12, 3) := by decide +kernel
theorem dX11_set_77 : decode cX11_set 77 = .ok (.getfield 117, 3) := by decide +kernel
theorem dX11_set_80 : decode cX11_set 80 = .ok (.astore 4, 2) := by decide +kernel
theorem dX11_set_82 : decode cX11_set 82 = .ok (.aload 4, 2) := by decide +kernel
theorem dX11_set_84 : decode cX11_set 84 = .ok (.iload_n 1, 1) := by decide +kernel
theorem dX11_set_85 : decode cX11_set 85 = .ok (.iaload, 1) := by decide +kernel
theorem dX11_set_86 : decode cX11_set 86 = .ok (.istore 5, 2) := by decide +kernel
theorem dX11_set_88 : decode cX11_set 88 = .ok (.aload 4, 2) := by decide +kernel
theorem dX11_set_90 : decode cX11_set 90 = .ok (.iload_n 1, 1) := by decide +kernel
theorem dX11_set_91 : decode cX11_set 91 = .ok (.iload_n 3, 1) := by decide +kernel
theorem dX11_set_92 : decode cX11_set 92 = .ok (.iastore, 1) := by decide +kernel
theorem dX11_set_93 : decode cX11_set 93 = .ok (.iload 5, 2) := by decide +kernel
theorem dX11_set_95 : decode cX11_set 95 = .ok (.ireturn, 1) := by decide +kernel
set_option maxRecDepth 20000 in
theorem ggX11_fresh_X11_isWithin : GoodIn wsX11_fresh wsX11_isWithin := goodIn_r _ [7] (by decide +kernel) (by decide +kernel)
set_option maxRecDepth 20000 in
theorem gX11_fresh_X11_isWithin : GoodIn wsX11_fresh (va_wsS RX11 84 yX11_isWithin wsX11_isWithin) := goodIn_app (goodIn_of _ (by decide +kernel)) ggX11_fresh_X11_isWithin
theorem dX11_fresh_0 : decode cX11_fresh 0 = .ok (.iload_n 1, 1) := by decide +kernel
theorem dX11_fresh_1 : decode cX11_fresh 1 = .ok (.bipush 99, 2) := by decide +kernel
theorem dX11_fresh_3 : decode cX11_fresh 3 = .ok (.invokestatic 84, 3) := by decide +kernel
theorem dX11_fresh_6 : decode cX11_fresh 6 = .ok (.ifCond .eq 12, 3) := by decide +kernel
theorem dX11_fresh_9 : decode cX11_fresh 9 = .ok (.iload_n 2, 1) := by decide +kernel
theorem dX11_fresh_10 : decode cX11_fresh 10 = .ok (.bipush 99, 2) := by decide +kernel
theorem dX11_fresh_12 : decode cX11_fresh 12 = .ok (.invokestatic 84, 3) := by decide +kernel
theorem dX11_fresh_15 : decode cX11_fresh 15 = .ok (.ifCond .ne 6, 3) := by decide +kernel
theorem dX11_fresh_18 : decode cX11_fresh 18 = .ok (.bipush (-2), 2) := by decide +kernel
theorem dX11_fresh_20 : decode cX11_fresh 20 = .ok (.ireturn, 1) := by decide +kernel
theorem dX11_fresh_21 : decode cX11_fresh 21 = .ok (.aload_n 0, 1) := by decide +kernel
theorem dX11_fresh_22 : decode cX11_fresh 22 = .ok (.getfield 12, 3) := by decide +kernel
theorem dX11_fresh_25 : decode cX11_fresh 25 = .ok (.getfield 78, 3) := by decide +kernel
theorem dX11_fresh_28 : decode cX11_fresh 28 = .ok (.istore_n 3, 1) := by decide +kernel
theorem dX11_fresh_29 : decode cX11_fresh 29 = .ok (.aload_n 0, 1) := by decide +kernel
theorem dX11_fresh_30 : decode cX11_fresh 30 = .ok (.getfield 12, 3) := by decide +kernel
theorem dX11_fresh_33 : decode cX11_fresh 33 = .ok (.iload_n 1, 1) := by decide +kernel
theorem dX11_fresh_34 : decode cX11_fresh 34 = .ok (.putfield 78, 3) := by decide +kernel
theorem dX11_fresh_37 : decode cX11_fresh 37 = .ok (.aload_n 0, 1) := by decide +kernel
theorem dX11_fresh_38 : decode cX11_fresh 38 = .ok (.getfield 12, 3) := by decide +kernel
theorem dX11_fresh_41 : decode cX11_fresh 41 = .ok (.iload_n 2, 1) := by decide +kernel
theorem dX11_fresh_42 : decode cX11_fresh 42 = .ok (.putfield 81, 3) := by decide +kernel
theorem dX11_fresh_45 : decode cX11_fresh 45 = .ok (.iload_n 3, 1) := by decide +kernel
theorem dX11_fresh_46 : decode cX11_fresh 46 = .ok (.ireturn, 1) := by decide +kernel
set_option maxRecDepth 20000 in
theorem ggX11_mark_X10_chiefAt : GoodIn wsX11_mark wsX10_chiefAt := goodIn_r _ [7, 8, 9, 111, 112, 113, 114, 115, 116, 117, 118, 119, 120, 121, 122, 123, 124, 125, 126, 127, 128, 129] (by decide +kernel) (by decide +kernel)
set_option maxRecDepth 20000 in
theorem gX11_mark_X10_chiefAt : GoodIn wsX11_mark (wsV RX11 101 RX10 yX10_chiefAt wsX10_chiefAt) := goodIn_app (goodIn_of _ (by decide +kernel)) ggX11_mark_X10_chiefAt
set_option maxRecDepth 20000 in
theorem ggX11_mark_X10_hasWorker : GoodIn wsX11_mark wsX10_hasWorker := goodIn_r _ [13, 14, 111, 112, 113, 114, 115, 116, 117, 118, 119, 120, 121, 122, 123, 124, 125, 126, 127, 128, 129] (by decide +kernel) (by decide +kernel)
set_option maxRecDepth 20000 in
theorem gX11_mark_X10_hasWorker : GoodIn wsX11_mark (wsV RX11 122 RX10 yX10_hasWorker wsX10_hasWorker) := goodIn_app (goodIn_of _ (by decide +kernel)) ggX11_mark_X10_hasWorker
set_option maxRecDepth 20000 in
theorem ggX11_mark_X1_markBy : GoodIn wsX11_mark wsX1_markBy := goodIn_r _ [19, 20, 21, 22, 23, 24, 25, 26, 27, 28, 11, 12, 6, 13, 14, 29, 30, 31, 32, 33, 34, 35, 36, 37, 38, 39, 40, 41, 42, 43, 44, 45, 46, 47, 48, 49, 50, 51, 52, 53, 54, 55, 56, 57, 58, 59, 60, 61, 62, 63, 64, 65, 66, 67, 68, 69, 70, 71, 72, 73, 74, 75, 76, 77, 78, 79, 80, 81, 82, 83, 84, 85, 86, 87, 88, 89, 90, 91, 92, 93, 94, 95, 96, 97, 98, 99, 100, 101, 102, 103, 130, 131, 132, 133, 134, 135, 136, 137, 138, 139, 140, 141, 142, 143, 144, 145, 146, 147, 148, 149, 150, 151, 152, 153, 154, 155, 156, 157, 158, 159, 160, 161, 162, 163, 164, 111, 112, 113, 114, 115, 116, 117, 118, 119, 120, 121, 122, 123, 124, 125, 126, 127, 128, 129, 165, 166, 167, 168, 169, 170, 171, 172, 173, 174, 175] (by decide +kernel) (by decide +kernel)
set_option maxRecDepth 20000 in
theorem gX11_mark_X1_markBy : GoodIn wsX11_mark (wsV RX11 161 RX1 yX1_markBy wsX1_markBy) := goodIn_app (goodIn_of _ (by decide +kernel)) ggX11_mark_X1_markBy
theorem dX11_mark_0 : decode cX11_mark 0 = .ok (.aload_n 0, 1) := by decide +kernel
theorem dX11_mark_1 : decode cX11_mark 1 = .ok (.getfield 12, 3) := by decide +kernel
theorem dX11_mark_4 : decode cX11_mark 4 = .ok (.iload_n 2, 1) := by decide +kernel
theorem dX11_mark_5 : decode cX11_mark 5 = .ok (.invokevirtual 101, 3) := by decide +kernel
theorem dX11_mark_8 : decode cX11_mark 8 = .ok (.astore_n 3, 1) := by decide +kernel
theorem dX11_mark_9 : decode cX11_mark 9 = .ok (.aload_n 0, 1) := by decide +kernel
theorem dX11_mark_10 : decode cX11_mark 10 = .ok (.getfield 12, 3) := by decide +kernel
theorem dX11_mark_13 : decode cX11_mark 13 = .ok (.iload_n 1, 1) := by decide +kernel
theorem dX11_mark_14 : decode cX11_mark 14 = .ok (.invokevirtual 122, 3) := by decide +kernel
theorem dX11_mark_17 : decode cX11_mark 17 = .ok (.ifCond .eq 7, 3) := by decide +kernel
theorem dX11_mark_20 : decode cX11_mark 20 = .ok (.aload_n 3, 1) := by decide +kernel
theorem dX11_mark_21 : decode cX11_mark 21 = .ok (.ifnonnull 7, 3) := by decide +kernel
theorem dX11_mark_24 : decode cX11_mark 24 = .ok (.sipush (-1001), 3) := by decide +kernel
theorem dX11_mark_27 : decode cX11_mark 27 = .ok (.ireturn, 1) := by decide +kernel
theorem dX11_mark_28 : decode cX11_mark 28 = .ok (.aload_n 0, 1) := by decide +kernel
theorem dX11_mark_29 : decode cX11_mark 29 = .ok (.getfield 27, 3) := by decide +kernel
theorem dX11_mark_32 : decode cX11_mark 32 = .ok (.aload_n 0, 1) := by decide +kernel
theorem dX11_mark_33 : decode cX11_mark 33 = .ok (.getfield 12, 3) := by decide +kernel
theorem dX11_mark_36 : decode cX11_mark 36 = .ok (.iload_n 1, 1) := by decide +kernel
theorem dX11_mark_37 : decode cX11_mark 37 = .ok (.aload_n 3, 1) := by decide +kernel
theorem dX11_mark_38 : decode cX11_mark 38 = .ok (.invokevirtual 161, 3) := by decide +kernel
theorem dX11_mark_41 : decode cX11_mark 41 = .ok (.ireturn, 1) := by decide +kernel
set_option maxRecDepth 20000 in
theorem ggX11_wrong_X1_gradeDue : GoodIn wsX11_wrong wsX1_gradeDue := goodIn_r _ [14, 15, 16, 17, 18, 19, 20, 21, 22, 23, 13, 24, 25, 26, 27, 28, 29, 30, 31, 32, 33, 34, 35, 36, 37, 38, 39, 40, 41, 42, 43, 44, 45, 46, 47, 48, 49, 50, 51, 52, 53, 54, 55, 56, 57, 58, 59, 60, 61, 62, 63, 64, 65, 66, 67, 68, 69, 70, 192, 193, 194, 195, 196, 197, 198, 199, 200, 201, 202, 203, 204, 205, 206, 207, 208, 209, 210, 185, 186, 187, 188, 189, 190, 191, 211, 212, 213, 214, 215, 216, 217, 218, 219, 220, 221, 222, 223, 224, 225, 226, 227, 228, 229, 230, 231, 232, 233, 234, 235, 236, 237, 238, 239, 240, 241, 242, 243, 244, 245, 246, 247, 248, 249] (by decide +kernel) (by decide +kernel)
set_option maxRecDepth 20000 in
theorem gX11_wrong_X1_gradeDue : GoodIn wsX11_wrong (wsV RX11 134 RX1 yX1_gradeDue wsX1_gradeDue) := goodIn_app (goodIn_of _ (by decide +kernel)) ggX11_wrong_X1_gradeDue
set_option maxRecDepth 20000 in
theorem ggX11_wrong_X1_gradeAll : GoodIn wsX11_wrong wsX1_gradeAll := goodIn_r _ [74, 75, 76, 77, 78, 79, 80, 81, 82, 83, 84, 85, 13, 86, 87, 88, 89, 90, 91, 92, 93, 21, 22, 23, 24, 16, 18, 94, 95, 96, 97, 17, 98, 99, 100, 101, 102, 103, 19, 38, 104, 105, 29, 106, 107, 108, 109, 110, 111, 112, 113, 114, 115, 116, 117, 118, 119, 49, 120, 121, 122, 123, 124, 125, 126, 127, 128, 129, 130, 131, 132, 133, 134, 135, 136, 137, 138, 139, 140, 141, 142, 143, 144, 145, 146, 147, 148, 149, 150, 151, 152, 153, 154, 155, 156, 157, 34, 158, 159, 160, 161, 162, 163, 164, 165, 166, 167, 168, 169, 170, 171, 172, 173, 174, 175, 176, 177, 25, 26, 27, 28, 30, 31, 32, 33, 35, 36, 37, 39, 40, 41, 42, 43, 44, 45, 46, 47, 48, 50, 51, 52, 53, 54, 55, 56, 57, 58, 59, 60, 61, 62, 63, 64, 65, 66, 67, 68, 69, 70, 192, 193, 194, 195, 196, 197, 198, 199, 200, 201, 202, 203, 204, 205, 206, 207, 208, 209, 210, 222, 223, 224, 225, 226, 227, 228, 229, 230, 231, 232, 233, 234, 235, 236, 237, 238, 239, 240, 241, 242, 243, 244, 245, 246, 247, 248, 249, 185, 186, 187, 188, 189, 190, 191, 211, 212, 213, 214, 215, 216, 217, 218, 219, 220, 221] (by decide +kernel) (by decide +kernel)
set_option maxRecDepth 20000 in
theorem gX11_wrong_X1_gradeAll : GoodIn wsX11_wrong (wsV RX11 171 RX1 yX1_gradeAll wsX1_gradeAll) := goodIn_app (goodIn_of _ (by decide +kernel)) ggX11_wrong_X1_gradeAll
theorem dX11_wrong_0 : decode cX11_wrong 0 = .ok (.iload_n 1, 1) := by decide +kernel
theorem dX11_wrong_1 : decode cX11_wrong 1 = .ok (.ifCond .lt 8, 3) := by decide +kernel
theorem dX11_wrong_4 : decode cX11_wrong 4 = .ok (.iload_n 1, 1) := by decide +kernel
theorem dX11_wrong_5 : decode cX11_wrong 5 = .ok (.iconst 2, 1) := by decide +kernel
theorem dX11_wrong_6 : decode cX11_wrong 6 = .ok (.if_icmp .le 5, 3) := by decide +kernel
theorem dX11_wrong_9 : decode cX11_wrong 9 = .ok (.iconst (-1), 1) := by decide +kernel
theorem dX11_wrong_10 : decode cX11_wrong 10 = .ok (.ireturn, 1) := by decide +kernel
theorem dX11_wrong_11 : decode cX11_wrong 11 = .ok (.aload_n 0, 1) := by decide +kernel
theorem dX11_wrong_12 : decode cX11_wrong 12 = .ok (.getfield 27, 3) := by decide +kernel
theorem dX11_wrong_15 : decode cX11_wrong 15 = .ok (.aload_n 0, 1) := by decide +kernel
theorem dX11_wrong_16 : decode cX11_wrong 16 = .ok (.getfield 12, 3) := by decide +kernel
theorem dX11_wrong_19 : decode cX11_wrong 19 = .ok (.invokevirtual 134, 3) := by decide +kernel
theorem dX11_wrong_22 : decode cX11_wrong 22 = .ok (.aload_n 0, 1) := by decide +kernel
theorem dX11_wrong_23 : decode cX11_wrong 23 = .ok (.getfield 27, 3) := by decide +kernel
theorem dX11_wrong_26 : decode cX11_wrong 26 = .ok (.getfield 138, 3) := by decide +kernel
theorem dX11_wrong_29 : decode cX11_wrong 29 = .ok (.iconst 0, 1) := by decide +kernel
theorem dX11_wrong_30 : decode cX11_wrong 30 = .ok (.aload_n 0, 1) := by decide +kernel
theorem dX11_wrong_31 : decode cX11_wrong 31 = .ok (.getfield 38, 3) := by decide +kernel
theorem dX11_wrong_34 : decode cX11_wrong 34 = .ok (.iconst 0, 1) := by decide +kernel
theorem dX11_wrong_35 : decode cX11_wrong 35 = .ok (.bipush 10, 2) := by decide +kernel
theorem dX11_wrong_37 : decode cX11_wrong 37 = .ok (.invokestatic 165, 3) := by decide +kernel
theorem dX11_wrong_40 : decode cX11_wrong 40 = .ok (.aload_n 0, 1) := by decide +kernel
theorem dX11_wrong_41 : decode cX11_wrong 41 = .ok (.getfield 27, 3) := by decide +kernel
theorem dX11_wrong_44 : decode cX11_wrong 44 = .ok (.aload_n 0, 1) := by decide +kernel
theorem dX11_wrong_45 : decode cX11_wrong 45 = .ok (.getfield 12, 3) := by decide +kernel
theorem dX11_wrong_48 : decode cX11_wrong 48 = .ok (.invokevirtual 171, 3) := by decide +kernel
theorem dX11_wrong_51 : decode cX11_wrong 51 = .ok (.iconst 0, 1) := by decide +kernel
theorem dX11_wrong_52 : decode cX11_wrong 52 = .ok (.istore_n 2, 1) := by decide +kernel
theorem dX11_wrong_53 : decode cX11_wrong 53 = .ok (.iconst 0, 1) := by decide +kernel
theorem dX11_wrong_54 : decode cX11_wrong 54 = .ok (.istore_n 3, 1) := by decide +kernel
theorem dX11_wrong_55 : decode cX11_wrong 55 = .ok (.iconst 0, 1) := by decide +kernel
theorem dX11_wrong_56 : decode cX11_wrong 56 = .ok (.istore 4, 2) := by decide +kernel
theorem dX11_wrong_58 : decode cX11_wrong 58 = .ok (.iconst 0, 1) := by decide +kernel
theorem dX11_wrong_59 : decode cX11_wrong 59 = .ok (.istore 5, 2) := by decide +kernel
theorem dX11_wrong_61 : decode cX11_wrong 61 = .ok (.iload 5, 2) := by decide +kernel
theorem dX11_wrong_63 : decode cX11_wrong 63 = .ok (.aload_n 0, 1) := by decide +kernel
theorem dX11_wrong_64 : decode cX11_wrong 64 = .ok (.getfield 12, 3) := by decide +kernel
theorem dX11_wrong_67 : decode cX11_wrong 67 = .ok (.getfield 105, 3) := by decide +kernel
theorem dX11_wrong_70 : decode cX11_wrong 70 = .ok (.if_icmp .ge 73, 3) := by decide +kernel
theorem dX11_wrong_73 : decode cX11_wrong 73 = .ok (.iload 5, 2) := by decide +kernel
theorem dX11_wrong_75 : decode cX11_wrong 75 = .ok (.bipush 10, 2) := by decide +kernel
theorem dX11_wrong_77 : decode cX11_wrong 77 = .ok (.if_icmp .ge 66, 3) := by decide +kernel
theorem dX11_wrong_80 : decode cX11_wrong 80 = .ok (.aload_n 0, 1) := by decide +kernel
theorem dX11_wrong_81 : decode cX11_wrong 81 = .ok (.getfield 27, 3) := by decide +kernel
theorem dX11_wrong_84 : decode cX11_wrong 84 = .ok (.getfield 138, 3) := by decide +kernel
theorem dX11_wrong_87 : decode cX11_wrong 87 = .ok (.iload 5, 2) := by decide +kernel
theorem dX11_wrong_89 : decode cX11_wrong 89 = .ok (.iaload, 1) := by decide +kernel
theorem dX11_wrong_90 : decode cX11_wrong 90 = .ok (.istore 6, 2) := by decide +kernel
theorem dX11_wrong_92 : decode cX11_wrong 92 = .ok (.iload 6, 2) := by decide +kernel
theorem dX11_wrong_94 : decode cX11_wrong 94 = .ok (.aload_n 0, 1) := by decide +kernel
theorem dX11_wrong_95 : decode cX11_wrong 95 = .ok (.getfield 38, 3) := by decide +kernel
theorem dX11_wrong_98 : decode cX11_wrong 98 = .ok (.iload 5, 2) := by decide +kernel
theorem dX11_wrong_100 : decode cX11_wrong 100 = .ok (.iaload, 1) := by decide +kernel
theorem dX11_wrong_101 : decode cX11_wrong 101 = .ok (.if_icmp .eq 10, 3) := by decide +kernel
theorem dX11_wrong_104 : decode cX11_wrong 104 = .ok (.iload_n 2, 1) := by decide +kernel
theorem dX11_wrong_105 : decode cX11_wrong 105 = .ok (.iconst 1, 1) := by decide +kernel
theorem dX11_wrong_106 : decode cX11_wrong 106 = .ok (.iload 5, 2) := by decide +kernel
theorem dX11_wrong_108 : decode cX11_wrong 108 = .ok (.ishl, 1) := by decide +kernel
theorem dX11_wrong_109 : decode cX11_wrong 109 = .ok (.ior, 1) := by decide +kernel
theorem dX11_wrong_110 : decode cX11_wrong 110 = .ok (.istore_n 2, 1) := by decide +kernel
theorem dX11_wrong_111 : decode cX11_wrong 111 = .ok (.iload 6, 2) := by decide +kernel
theorem dX11_wrong_113 : decode cX11_wrong 113 = .ok (.aload_n 0, 1) := by decide +kernel
theorem dX11_wrong_114 : decode cX11_wrong 114 = .ok (.getfield 38, 3) := by decide +kernel
theorem dX11_wrong_117 : decode cX11_wrong 117 = .ok (.iload 5, 2) := by decide +kernel
theorem dX11_wrong_119 : decode cX11_wrong 119 = .ok (.iaload, 1) := by decide +kernel
theorem dX11_wrong_120 : decode cX11_wrong 120 = .ok (.if_icmp .ge 10, 3) := by decide +kernel
theorem dX11_wrong_123 : decode cX11_wrong 123 = .ok (.iload_n 3, 1) := by decide +kernel
theorem dX11_wrong_124 : decode cX11_wrong 124 = .ok (.iconst 1, 1) := by decide +kernel
theorem dX11_wrong_125 : decode cX11_wrong 125 = .ok (.iload 5, 2) := by decide +kernel
theorem dX11_wrong_127 : decode cX11_wrong 127 = .ok (.ishl, 1) := by decide +kernel
theorem dX11_wrong_128 : decode cX11_wrong 128 = .ok (.ior, 1) := by decide +kernel
theorem dX11_wrong_129 : decode cX11_wrong 129 = .ok (.istore_n 3, 1) := by decide +kernel
theorem dX11_wrong_130 : decode cX11_wrong 130 = .ok (.iload 4, 2) := by decide +kernel
theorem dX11_wrong_132 : decode cX11_wrong 132 = .ok (.iload 6, 2) := by decide +kernel
theorem dX11_wrong_134 : decode cX11_wrong 134 = .ok (.iadd, 1) := by decide +kernel
theorem dX11_wrong_135 : decode cX11_wrong 135 = .ok (.istore 4, 2) := by decide +kernel
theorem dX11_wrong_137 : decode cX11_wrong 137 = .ok (.iinc 5 1, 3) := by decide +kernel
theorem dX11_wrong_140 : decode cX11_wrong 140 = .ok (.goto (-79), 3) := by decide +kernel
theorem dX11_wrong_143 : decode cX11_wrong 143 = .ok (.iload_n 1, 1) := by decide +kernel
theorem dX11_wrong_144 : decode cX11_wrong 144 = .ok (.ifCond .ne 7, 3) := by decide +kernel
theorem dX11_wrong_147 : decode cX11_wrong 147 = .ok (.iload_n 2, 1) := by decide +kernel
theorem dX11_wrong_148 : decode cX11_wrong 148 = .ok (.goto 14, 3) := by decide +kernel
theorem dX11_wrong_151 : decode cX11_wrong 151 = .ok (.iload_n 1, 1) := by decide +kernel
theorem dX11_wrong_152 : decode cX11_wrong 152 = .ok (.iconst 1, 1) := by decide +kernel
theorem dX11_wrong_153 : decode cX11_wrong 153 = .ok (.if_icmp .ne 7, 3) := by decide +kernel
theorem dX11_wrong_156 : decode cX11_wrong 156 = .ok (.iload_n 3, 1) := by decide +kernel
theorem dX11_wrong_157 : decode cX11_wrong 157 = .ok (.goto 5, 3) := by decide +kernel
theorem dX11_wrong_160 : decode cX11_wrong 160 = .ok (.iload 4, 2) := by decide +kernel
theorem dX11_wrong_162 : decode cX11_wrong 162 = .ok (.ireturn, 1) := by decide +kernel
set_option maxRecDepth 20000 in
theorem ggX11_moved_X10_chiefAt : GoodIn wsX11_moved wsX10_chiefAt := goodIn_r _ [6, 7, 8, 205, 206, 207, 208, 209, 210, 211, 212, 213, 214, 215, 216, 217, 218, 219, 220, 221, 222, 223] (by decide +kernel) (by decide +kernel)
set_option maxRecDepth 20000 in
theorem gX11_moved_X10_chiefAt : GoodIn wsX11_moved (wsV RX11 101 RX10 yX10_chiefAt wsX10_chiefAt) := goodIn_app (goodIn_of _ (by decide +kernel)) ggX11_moved_X10_chiefAt
set_option maxRecDepth 20000 in
theorem ggX11_moved_X10_hasWorker : GoodIn wsX11_moved wsX10_hasWorker := goodIn_r _ [12, 13, 205, 206, 207, 208, 209, 210, 211, 212, 213, 214, 215, 216, 217, 218, 219, 220, 221, 222, 223] (by decide +kernel) (by decide +kernel)
set_option maxRecDepth 20000 in
theorem gX11_moved_X10_hasWorker : GoodIn wsX11_moved (wsV RX11 122 RX10 yX10_hasWorker wsX10_hasWorker) := goodIn_app (goodIn_of _ (by decide +kernel)) ggX11_moved_X10_hasWorker
set_option maxRecDepth 20000 in
theorem ggX11_moved_X11_gradeUnder : GoodIn wsX11_moved wsX11_gradeUnder := goodIn_r _ [18, 19, 1, 20, 21, 22, 23, 24, 25, 5, 26, 13, 7, 27, 28, 29, 30, 31, 32, 33, 34, 35, 36, 37, 38, 39, 40, 41, 42, 43, 44, 45, 46, 8, 47, 48, 49, 50, 51, 52, 53, 54, 10, 11, 12, 55, 3, 4, 6, 56, 57, 58, 59, 60, 61, 62, 63, 64, 65, 66, 67, 68, 69, 70, 71, 72, 73, 74, 75, 76, 77, 78, 79, 80, 81, 82, 83, 84, 85, 86, 87, 88, 89, 90, 91, 92, 93, 94, 95, 96, 97, 98, 99, 100, 101, 102, 103, 104, 105, 106, 107, 108, 109, 110, 111, 112, 113, 114, 115, 116, 117, 118, 119, 120, 121, 122, 123, 124, 125, 126, 127, 128, 129, 130, 131, 132, 133, 134, 135, 136, 137, 138, 139, 140, 141, 142, 143, 144, 145, 146, 147, 148, 149, 150, 151, 152, 153, 154, 155, 156, 157, 158, 159, 160, 161, 162, 163, 164, 165, 166, 167, 168, 169, 170, 171, 172, 173, 174, 175, 176, 177, 178, 179, 180, 181, 182, 183, 184, 185, 186, 187, 188, 189, 190, 191, 192, 193, 194, 195, 196, 197, 198, 199, 200, 201, 202, 203, 204, 205, 206, 207, 208, 209, 210, 211, 212, 213, 214, 215, 216, 217, 218, 219, 220, 221, 222, 223, 224, 225, 226, 227, 228, 229, 230, 231, 232, 233, 234, 235, 236, 237, 238, 239, 240, 241, 242, 243, 244, 245, 246, 247, 248, 249, 250, 251, 252, 253, 254, 255, 256, 257, 258, 259, 260, 261, 262, 263, 264, 265, 266, 267, 268, 269] (by decide +kernel) (by decide +kernel)
set_option maxRecDepth 20000 in
theorem gX11_moved_X11_gradeUnder : GoodIn wsX11_moved (wsV RX11 174 RX11 yX11_gradeUnder wsX11_gradeUnder) := goodIn_app (goodIn_of _ (by decide +kernel)) ggX11_moved_X11_gradeUnder
theorem dX11_moved_0 : decode cX11_moved 0 = .ok (.aload_n 0, 1) := by decide +kernel
theorem dX11_moved_1 : decode cX11_moved 1 = .ok (.getfield 12, 3) := by decide +kernel
theorem dX11_moved_4 : decode cX11_moved 4 = .ok (.iload_n 2, 1) := by decide +kernel
theorem dX11_moved_5 : decode cX11_moved 5 = .ok (.invokevirtual 101, 3) := by decide +kernel
theorem dX11_moved_8 : decode cX11_moved 8 = .ok (.astore_n 3, 1) := by decide +kernel
theorem dX11_moved_9 : decode cX11_moved 9 = .ok (.aload_n 0, 1) := by decide +kernel
theorem dX11_moved_10 : decode cX11_moved 10 = .ok (.getfield 12, 3) := by decide +kernel
theorem dX11_moved_13 : decode cX11_moved 13 = .ok (.iload_n 1, 1) := by decide +kernel
theorem dX11_moved_14 : decode cX11_moved 14 = .ok (.invokevirtual 122, 3) := by decide +kernel
theorem dX11_moved_17 : decode cX11_moved 17 = .ok (.ifCond .eq 7, 3) := by decide +kernel
theorem dX11_moved_20 : decode cX11_moved 20 = .ok (.aload_n 3, 1) := by decide +kernel
theorem dX11_moved_21 : decode cX11_moved 21 = .ok (.ifnonnull 5, 3) := by decide +kernel
theorem dX11_moved_24 : decode cX11_moved 24 = .ok (.iconst (-1), 1) := by decide +kernel
theorem dX11_moved_25 : decode cX11_moved 25 = .ok (.ireturn, 1) := by decide +kernel
theorem dX11_moved_26 : decode cX11_moved 26 = .ok (.aload_n 0, 1) := by decide +kernel
theorem dX11_moved_27 : decode cX11_moved 27 = .ok (.iload_n 1, 1) := by decide +kernel
theorem dX11_moved_28 : decode cX11_moved 28 = .ok (.aload_n 3, 1) := by decide +kernel
theorem dX11_moved_29 : decode cX11_moved 29 = .ok (.invokevirtual 174, 3) := by decide +kernel
theorem dX11_moved_32 : decode cX11_moved 32 = .ok (.ireturn, 1) := by decide +kernel
set_option maxRecDepth 20000 in
theorem ggX11_best_X10_hasWorker : GoodIn wsX11_best wsX10_hasWorker := goodIn_r _ [6, 7, 205, 206, 207, 208, 209, 210, 211, 212, 213, 214, 215, 216, 217, 218, 219, 220, 221, 222, 223] (by decide +kernel) (by decide +kernel)
set_option maxRecDepth 20000 in
theorem gX11_best_X10_hasWorker : GoodIn wsX11_best (wsV RX11 122 RX10 yX10_hasWorker wsX10_hasWorker) := goodIn_app (goodIn_of _ (by decide +kernel)) ggX11_best_X10_hasWorker
set_option maxRecDepth 20000 in
theorem ggX11_best_X10_chiefAt : GoodIn wsX11_best wsX10_chiefAt := goodIn_r _ [11, 12, 13, 205, 206, 207, 208, 209, 210, 211, 212, 213, 214, 215, 216, 217, 218, 219, 220, 221, 222, 223] (by decide +kernel) (by decide +kernel)
set_option maxRecDepth 20000 in
theorem gX11_best_X10_chiefAt : GoodIn wsX11_best (wsV RX11 101 RX10 yX10_chiefAt wsX10_chiefAt) := goodIn_app (goodIn_of _ (by decide +kernel)) ggX11_best_X10_chiefAt
set_option maxRecDepth 20000 in
theorem ggX11_best_X11_gradeUnder : GoodIn wsX11_best wsX11_gradeUnder := goodIn_r _ [18, 19, 1, 20, 21, 22, 23, 24, 25, 5, 26, 7, 12, 27, 28, 29, 30, 31, 32, 33, 34, 35, 36, 37, 38, 39, 40, 41, 42, 43, 44, 45, 46, 13, 47, 48, 49, 50, 51, 52, 53, 54, 3, 4, 6, 55, 9, 10, 11, 56, 57, 58, 59, 60, 61, 62, 63, 64, 65, 66, 67, 68, 69, 70, 71, 72, 73, 74, 75, 76, 77, 78, 79, 80, 81, 82, 83, 84, 85, 86, 87, 88, 89, 90, 91, 92, 93, 94, 95, 96, 97, 98, 99, 100, 101, 102, 103, 104, 105, 106, 107, 108, 109, 110, 111, 112, 113, 114, 115, 116, 117, 118, 119, 120, 121, 122, 123, 124, 125, 126, 127, 128, 129, 130, 131, 132, 133, 134, 135, 136, 137, 138, 139, 140, 141, 142, 143, 144, 145, 146, 147, 148, 149, 150, 151, 152, 153, 154, 155, 156, 157, 158, 159, 160, 161, 162, 163, 164, 165, 166, 167, 168, 169, 170, 171, 172, 173, 174, 175, 176, 177, 178, 179, 180, 181, 182, 183, 184, 185, 186, 187, 188, 189, 190, 191, 192, 193, 194, 195, 196, 197, 198, 199, 200, 201, 202, 203, 204, 205, 206, 207, 208, 209, 210, 211, 212, 213, 214, 215, 216, 217, 218, 219, 220, 221, 222, 223, 224, 225, 226, 227, 228, 229, 230, 231, 232, 233, 234, 235, 236, 237, 238, 239, 240, 241, 242, 243, 244, 245, 246, 247, 248, 249, 250, 251, 252, 253, 254, 255, 256, 257, 258, 259, 260, 261, 262, 263, 264, 265, 266, 267, 268, 269] (by decide +kernel) (by decide +kernel)
set_option maxRecDepth 20000 in
theorem gX11_best_X11_gradeUnder : GoodIn wsX11_best (wsV RX11 174 RX11 yX11_gradeUnder wsX11_gradeUnder) := goodIn_app (goodIn_of _ (by decide +kernel)) ggX11_best_X11_gradeUnder
theorem dX11_best_0 : decode cX11_best 0 = .ok (.aload_n 0, 1) := by decide +kernel
theorem dX11_best_1 : decode cX11_best 1 = .ok (.getfield 12, 3) := by decide +kernel
theorem dX11_best_4 : decode cX11_best 4 = .ok (.iload_n 1, 1) := by decide +kernel
theorem dX11_best_5 : decode cX11_best 5 = .ok (.invokevirtual 122, 3) := by decide +kernel
theorem dX11_best_8 : decode cX11_best 8 = .ok (.ifCond .eq 12, 3) := by decide +kernel
theorem dX11_best_11 : decode cX11_best 11 = .ok (.iload_n 2, 1) := by decide +kernel
theorem dX11_best_12 : decode cX11_best 12 = .ok (.ifCond .lt 8, 3) := by decide +kernel
theorem dX11_best_15 : decode cX11_best 15 = .ok (.iload_n 2, 1) := by decide +kernel
theorem dX11_best_16 : decode cX11_best 16 = .ok (.iconst 1, 1) := by decide +kernel
theorem dX11_best_17 : decode cX11_best 17 = .ok (.if_icmp .le 5, 3) := by decide +kernel
theorem dX11_best_20 : decode cX11_best 20 = .ok (.iconst (-1), 1) := by decide +kernel
theorem dX11_best_21 : decode cX11_best 21 = .ok (.ireturn, 1) := by decide +kernel
theorem dX11_best_22 : decode cX11_best 22 = .ok (.iconst (-1), 1) := by decide +kernel
theorem dX11_best_23 : decode cX11_best 23 = .ok (.istore_n 3, 1) := by decide +kernel
theorem dX11_best_24 : decode cX11_best 24 = .ok (.iconst (-1), 1) := by decide +kernel
theorem dX11_best_25 : decode cX11_best 25 = .ok (.istore 4, 2) := by decide +kernel
theorem dX11_best_27 : decode cX11_best 27 = .ok (.iconst 0, 1) := by decide +kernel
theorem dX11_best_28 : decode cX11_best 28 = .ok (.istore 5, 2) := by decide +kernel
theorem dX11_best_30 : decode cX11_best 30 = .ok (.iload 5, 2) := by decide +kernel
theorem dX11_best_32 : decode cX11_best 32 = .ok (.iconst 4, 1) := by decide +kernel
theorem dX11_best_33 : decode cX11_best 33 = .ok (.if_icmp .ge 52, 3) := by decide +kernel
theorem dX11_best_36 : decode cX11_best 36 = .ok (.aload_n 0, 1) := by decide +kernel
theorem dX11_best_37 : decode cX11_best 37 = .ok (.getfield 12, 3) := by decide +kernel
theorem dX11_best_40 : decode cX11_best 40 = .ok (.iload 5, 2) := by decide +kernel
theorem dX11_best_42 : decode cX11_best 42 = .ok (.invokevirtual 101, 3) := by decide +kernel
theorem dX11_best_45 : decode cX11_best 45 = .ok (.astore 6, 2) := by decide +kernel
theorem dX11_best_47 : decode cX11_best 47 = .ok (.aload 6, 2) := by decide +kernel
theorem dX11_best_49 : decode cX11_best 49 = .ok (.ifnonnull 7, 3) := by decide +kernel
theorem dX11_best_52 : decode cX11_best 52 = .ok (.iconst (-1), 1) := by decide +kernel
theorem dX11_best_53 : decode cX11_best 53 = .ok (.goto 10, 3) := by decide +kernel
theorem dX11_best_56 : decode cX11_best 56 = .ok (.aload_n 0, 1) := by decide +kernel
theorem dX11_best_57 : decode cX11_best 57 = .ok (.iload_n 1, 1) := by decide +kernel
theorem dX11_best_58 : decode cX11_best 58 = .ok (.aload 6, 2) := by decide +kernel
theorem dX11_best_60 : decode cX11_best 60 = .ok (.invokevirtual 174, 3) := by decide +kernel
theorem dX11_best_63 : decode cX11_best 63 = .ok (.istore 7, 2) := by decide +kernel
theorem dX11_best_65 : decode cX11_best 65 = .ok (.iload 7, 2) := by decide +kernel
theorem dX11_best_67 : decode cX11_best 67 = .ok (.iload 4, 2) := by decide +kernel
theorem dX11_best_69 : decode cX11_best 69 = .ok (.if_icmp .le 10, 3) := by decide +kernel
theorem dX11_best_72 : decode cX11_best 72 = .ok (.iload 5, 2) := by decide +kernel
theorem dX11_best_74 : decode cX11_best 74 = .ok (.istore_n 3, 1) := by decide +kernel
theorem dX11_best_75 : decode cX11_best 75 = .ok (.iload 7, 2) := by decide +kernel
theorem dX11_best_77 : decode cX11_best 77 = .ok (.istore 4, 2) := by decide +kernel
theorem dX11_best_79 : decode cX11_best 79 = .ok (.iinc 5 1, 3) := by decide +kernel
theorem dX11_best_82 : decode cX11_best 82 = .ok (.goto (-52), 3) := by decide +kernel
theorem dX11_best_85 : decode cX11_best 85 = .ok (.iload_n 2, 1) := by decide +kernel
theorem dX11_best_86 : decode cX11_best 86 = .ok (.ifCond .ne 7, 3) := by decide +kernel
theorem dX11_best_89 : decode cX11_best 89 = .ok (.iload_n 3, 1) := by decide +kernel
theorem dX11_best_90 : decode cX11_best 90 = .ok (.goto 5, 3) := by decide +kernel
theorem dX11_best_93 : decode cX11_best 93 = .ok (.iload 4, 2) := by decide +kernel
theorem dX11_best_95 : decode cX11_best 95 = .ok (.ireturn, 1) := by decide +kernel
set_option maxRecDepth 20000 in
theorem ggX11_asked_X10_chiefAt : GoodIn wsX11_asked wsX10_chiefAt := goodIn_r _ [11, 12, 13, 254, 255, 256, 257, 258, 259, 260, 261, 262, 263, 264, 265, 266, 267, 268, 269, 270, 271, 272] (by decide +kernel) (by decide +kernel)
set_option maxRecDepth 20000 in
theorem gX11_asked_X10_chiefAt : GoodIn wsX11_asked (wsV RX11 101 RX10 yX10_chiefAt wsX10_chiefAt) := goodIn_app (goodIn_of _ (by decide +kernel)) ggX11_asked_X10_chiefAt
set_option maxRecDepth 20000 in
theorem ggX11_asked_X11_isWithin : GoodIn wsX11_asked wsX11_isWithin := goodIn_r _ [17] (by decide +kernel) (by decide +kernel)
set_option maxRecDepth 20000 in
theorem gX11_asked_X11_isWithin : GoodIn wsX11_asked (va_wsS RX11 84 yX11_isWithin wsX11_isWithin) := goodIn_app (goodIn_of _ (by decide +kernel)) ggX11_asked_X11_isWithin
set_option maxRecDepth 20000 in
theorem ggX11_asked_X0_make : GoodIn wsX11_asked wsX0_make := goodIn_r _ [21, 22, 23, 24, 25, 26, 27, 28, 29, 30, 31, 32, 33, 34, 35, 36, 37, 38, 39, 40, 41, 20, 42, 43, 44, 45, 46, 47, 48, 49, 50, 51, 52, 53, 54, 55, 56, 57, 58, 59, 60, 61, 62, 63, 64, 65, 66, 67, 68, 69, 70, 71, 72, 73, 74, 75, 238, 239, 240, 241, 250, 251, 252, 253, 234, 235, 236, 237, 242, 243, 244, 245, 230, 231, 232, 233, 246, 247, 248, 249, 226, 227, 228, 229] (by decide +kernel) (by decide +kernel)
set_option maxRecDepth 20000 in
theorem gX11_asked_X0_make : GoodIn wsX11_asked (va_wsS RX11 95 yX0_make wsX0_make) := goodIn_app (goodIn_of _ (by decide +kernel)) ggX11_asked_X0_make
set_option maxRecDepth 20000 in
theorem ggX11_asked_X1_gradeTeam : GoodIn wsX11_asked wsX1_gradeTeam := goodIn_r _ [80, 81, 82, 83, 84, 10, 85, 86, 87, 88, 89, 90, 79, 91, 92, 93, 94, 95, 96, 97, 98, 99, 100, 101, 102, 103, 104, 105, 106, 107, 108, 109, 110, 111, 112, 113, 114, 115, 116, 117, 118, 119, 120, 121, 122, 123, 20, 124, 125, 126, 127, 128, 129, 130, 30, 131, 132, 133, 134, 135, 136, 137, 138, 139, 140, 141, 142, 143, 144, 145, 146, 147, 148, 24, 149, 150, 151, 152, 153, 33, 154, 155, 156, 157, 158, 159, 160, 161, 162, 163, 164, 165, 39, 166, 167, 168, 169, 170, 171, 172, 173, 174, 175, 176, 177, 178, 179, 180, 181, 182, 183, 184, 185, 186, 187, 188, 189, 190, 191, 192, 193, 194, 195, 196, 197, 198, 199, 200, 201, 202, 203, 204, 205, 36, 206, 207, 208, 209, 210, 211, 212, 27, 213, 214, 215, 216, 217, 218, 226, 227, 228, 229, 230, 231, 232, 233, 234, 235, 236, 237, 238, 239, 240, 241, 242, 243, 244, 245, 246, 247, 248, 249, 250, 251, 252, 253, 254, 255, 256, 257, 258, 259, 260, 261, 262, 263, 264, 265, 266, 267, 268, 269, 270, 271, 272, 273, 274, 275, 276, 277, 278, 279, 280, 281, 282, 283, 284, 285, 286, 287, 288, 289, 290] (by decide +kernel) (by decide +kernel)
set_option maxRecDepth 20000 in
theorem gX11_asked_X1_gradeTeam : GoodIn wsX11_asked (wsV RX11 181 RX1 yX1_gradeTeam wsX1_gradeTeam) := goodIn_app (goodIn_of _ (by decide +kernel)) ggX11_asked_X1_gradeTeam
theorem dX11_asked_0 : decode cX11_asked 0 = .ok (.aload_n 0, 1) := by decide +kernel
theorem dX11_asked_1 : decode cX11_asked 1 = .ok (.getfield 12, 3) := by decide +kernel
theorem dX11_asked_4 : decode cX11_asked 4 = .ok (.iload_n 1, 1) := by decide +kernel
theorem dX11_asked_5 : decode cX11_asked 5 = .ok (.invokevirtual 101, 3) := by decide +kernel
theorem dX11_asked_8 : decode cX11_asked 8 = .ok (.astore_n 3, 1) := by decide +kernel
theorem dX11_asked_9 : decode cX11_asked 9 = .ok (.aload_n 3, 1) := by decide +kernel
theorem dX11_asked_10 : decode cX11_asked 10 = .ok (.ifnonnull 5, 3) := by decide +kernel
theorem dX11_asked_13 : decode cX11_asked 13 = .ok (.iconst (-1), 1) := by decide +kernel
theorem dX11_asked_14 : decode cX11_asked 14 = .ok (.ireturn, 1) := by decide +kernel
theorem dX11_asked_15 : decode cX11_asked 15 = .ok (.iload_n 2, 1) := by decide +kernel
theorem dX11_asked_16 : decode cX11_asked 16 = .ok (.bipush 50, 2) := by decide +kernel
theorem dX11_asked_18 : decode cX11_asked 18 = .ok (.invokestatic 84, 3) := by decide +kernel
theorem dX11_asked_21 : decode cX11_asked 21 = .ok (.ifCond .ne 6, 3) := by decide +kernel
theorem dX11_asked_24 : decode cX11_asked 24 = .ok (.bipush (-2), 2) := by decide +kernel
theorem dX11_asked_26 : decode cX11_asked 26 = .ok (.ireturn, 1) := by decide +kernel
theorem dX11_asked_27 : decode cX11_asked 27 = .ok (.iconst 0, 1) := by decide +kernel
theorem dX11_asked_28 : decode cX11_asked 28 = .ok (.istore 4, 2) := by decide +kernel
theorem dX11_asked_30 : decode cX11_asked 30 = .ok (.iload 4, 2) := by decide +kernel
theorem dX11_asked_32 : decode cX11_asked 32 = .ok (.bipush 9, 2) := by decide +kernel
theorem dX11_asked_34 : decode cX11_asked 34 = .ok (.aload_n 3, 1) := by decide +kernel
theorem dX11_asked_35 : decode cX11_asked 35 = .ok (.getfield 147, 3) := by decide +kernel
theorem dX11_asked_38 : decode cX11_asked 38 = .ok (.isub, 1) := by decide +kernel
theorem dX11_asked_39 : decode cX11_asked 39 = .ok (.if_icmp .gt 53, 3) := by decide +kernel
theorem dX11_asked_42 : decode cX11_asked 42 = .ok (.aload_n 3, 1) := by decide +kernel
theorem dX11_asked_43 : decode cX11_asked 43 = .ok (.getfield 144, 3) := by decide +kernel
theorem dX11_asked_46 : decode cX11_asked 46 = .ok (.aload_n 3, 1) := by decide +kernel
theorem dX11_asked_47 : decode cX11_asked 47 = .ok (.getfield 178, 3) := by decide +kernel
theorem dX11_asked_50 : decode cX11_asked 50 = .ok (.aload_n 3, 1) := by decide +kernel
theorem dX11_asked_51 : decode cX11_asked 51 = .ok (.getfield 147, 3) := by decide +kernel
theorem dX11_asked_54 : decode cX11_asked 54 = .ok (.iload 4, 2) := by decide +kernel
theorem dX11_asked_56 : decode cX11_asked 56 = .ok (.iadd, 1) := by decide +kernel
theorem dX11_asked_57 : decode cX11_asked 57 = .ok (.aload_n 3, 1) := by decide +kernel
theorem dX11_asked_58 : decode cX11_asked 58 = .ok (.getfield 150, 3) := by decide +kernel
theorem dX11_asked_61 : decode cX11_asked 61 = .ok (.invokestatic 95, 3) := by decide +kernel
theorem dX11_asked_64 : decode cX11_asked 64 = .ok (.astore 5, 2) := by decide +kernel
theorem dX11_asked_66 : decode cX11_asked 66 = .ok (.aload_n 0, 1) := by decide +kernel
theorem dX11_asked_67 : decode cX11_asked 67 = .ok (.getfield 27, 3) := by decide +kernel
theorem dX11_asked_70 : decode cX11_asked 70 = .ok (.aload_n 0, 1) := by decide +kernel
theorem dX11_asked_71 : decode cX11_asked 71 = .ok (.getfield 12, 3) := by decide +kernel
theorem dX11_asked_74 : decode cX11_asked 74 = .ok (.aload 5, 2) := by decide +kernel
theorem dX11_asked_76 : decode cX11_asked 76 = .ok (.invokevirtual 181, 3) := by decide +kernel
theorem dX11_asked_79 : decode cX11_asked 79 = .ok (.iload_n 2, 1) := by decide +kernel
theorem dX11_asked_80 : decode cX11_asked 80 = .ok (.if_icmp .lt 6, 3) := by decide +kernel
theorem dX11_asked_83 : decode cX11_asked 83 = .ok (.iload 4, 2) := by decide +kernel
theorem dX11_asked_85 : decode cX11_asked 85 = .ok (.ireturn, 1) := by decide +kernel
theorem dX11_asked_86 : decode cX11_asked 86 = .ok (.iinc 4 1, 3) := by decide +kernel
theorem dX11_asked_89 : decode cX11_asked 89 = .ok (.goto (-59), 3) := by decide +kernel
theorem dX11_asked_92 : decode cX11_asked 92 = .ok (.bipush (-5), 2) := by decide +kernel
theorem dX11_asked_94 : decode cX11_asked 94 = .ok (.ireturn, 1) := by decide +kernel
set_option maxRecDepth 20000 in
theorem ggX11_swap_X1_gradeAll : GoodIn wsX11_swap wsX1_gradeAll := goodIn_r _ [14, 15, 16, 17, 18, 19, 20, 21, 22, 23, 24, 25, 13, 26, 27, 28, 29, 30, 31, 32, 33, 34, 35, 36, 37, 38, 39, 40, 41, 42, 43, 44, 45, 46, 47, 48, 49, 50, 51, 52, 53, 54, 55, 56, 57, 58, 59, 60, 61, 62, 63, 64, 65, 66, 67, 68, 69, 70, 71, 72, 73, 74, 75, 76, 77, 78, 79, 80, 81, 82, 83, 84, 85, 86, 87, 88, 89, 90, 91, 92, 93, 94, 95, 96, 97, 98, 99, 100, 101, 102, 103, 104, 105, 106, 107, 108, 109, 110, 111, 112, 113, 114, 115, 116, 117, 118, 119, 120, 121, 122, 123, 124, 125, 126, 127, 128, 129, 130, 131, 132, 133, 134, 135, 136, 137, 138, 139, 140, 141, 142, 143, 144, 145, 146, 147, 148, 149, 150, 151, 152, 153, 154, 155, 156, 157, 158, 159, 160, 161, 162, 163, 164, 165, 166, 167, 168, 169, 170, 171, 222, 223, 224, 225, 226, 227, 228, 229, 230, 231, 232, 233, 234, 235, 236, 237, 238, 239, 240, 241, 242, 243, 244, 245, 246, 247, 248, 249, 250, 251, 252, 253, 254, 255, 256, 257, 258, 259, 260, 261, 262, 263, 264, 265, 266, 267, 268, 215, 216, 217, 218, 219, 220, 221, 269, 270, 271, 272, 273, 274, 275, 276, 277, 278, 279] (by decide +kernel) (by decide +kernel)
set_option maxRecDepth 20000 in
theorem gX11_swap_X1_gradeAll : GoodIn wsX11_swap (wsV RX11 171 RX1 yX1_gradeAll wsX1_gradeAll) := goodIn_app (goodIn_of _ (by decide +kernel)) ggX11_swap_X1_gradeAll
set_option maxRecDepth 20000 in
theorem ggX11_swap_X10_become : GoodIn wsX11_swap wsX10_become := goodIn_r _ [175, 32, 21, 176, 177, 178, 179, 180, 181, 182, 183, 184, 6, 7, 8, 185, 33, 186, 187, 188, 189, 190, 191, 22, 222, 223, 224, 225, 226, 227, 228, 229, 230, 231, 232, 233, 234, 235, 236, 237, 238, 239, 240] (by decide +kernel) (by decide +kernel)
set_option maxRecDepth 20000 in
theorem gX11_swap_X10_become : GoodIn wsX11_swap (wsV RX11 185 RX10 yX10_become wsX10_become) := goodIn_app (goodIn_of _ (by decide +kernel)) ggX11_swap_X10_become
set_option maxRecDepth 20000 in
theorem ggX11_swap_X11_bothGain : GoodIn wsX11_swap wsX11_bothGain := goodIn_r _ [196, 9, 197, 1, 4, 198, 57, 58, 19, 59, 32, 199, 200, 201, 202, 33, 186, 203, 204, 205, 13, 206, 207, 140, 56, 16, 17, 18, 20, 21, 22, 23, 24, 25, 26, 27, 28, 29, 30, 31, 34, 35, 36, 37, 38, 39, 40, 41, 42, 43, 44, 45, 46, 47, 48, 49, 50, 51, 52, 53, 54, 55, 60, 61, 62, 63, 64, 65, 66, 67, 68, 69, 70, 71, 72, 73, 74, 75, 76, 77, 78, 79, 80, 81, 82, 83, 84, 85, 86, 87, 88, 89, 90, 91, 92, 93, 94, 95, 96, 97, 98, 99, 100, 101, 102, 103, 104, 105, 106, 107, 108, 109, 110, 111, 112, 113, 114, 115, 116, 117, 118, 119, 120, 121, 122, 123, 124, 125, 126, 127, 128, 129, 130, 131, 132, 133, 134, 135, 136, 137, 138, 139, 141, 142, 143, 144, 145, 146, 147, 148, 149, 150, 151, 152, 153, 154, 155, 156, 157, 158, 159, 160, 161, 162, 163, 164, 165, 166, 167, 168, 169, 170, 171, 208, 209, 210, 211, 212, 213, 214, 222, 223, 224, 225, 226, 227, 228, 229, 230, 231, 232, 233, 234, 235, 236, 237, 238, 239, 240, 215, 216, 217, 218, 219, 220, 221, 241, 242, 243, 244, 245, 246, 247, 248, 249, 250, 251, 252, 253, 254, 255, 256, 257, 258, 259, 260, 261, 262, 263, 264, 265, 266, 267, 268, 269, 270, 271, 272, 273, 274, 275, 276, 277, 278, 279] (by decide +kernel) (by decide +kernel)
set_option maxRecDepth 20000 in
theorem gX11_swap_X11_bothGain : GoodIn wsX11_swap (wsV RX11 188 RX11 yX11_bothGain wsX11_bothGain) := goodIn_app (goodIn_of _ (by decide +kernel)) ggX11_swap_X11_bothGain
theorem dX11_swap_0 : decode cX11_swap 0 = .ok (.iload_n 1, 1) := by decide +kernel
theorem dX11_swap_1 : decode cX11_swap 1 = .ok (.ifCond .lt 8, 3) := by decide +kernel
theorem dX11_swap_4 : decode cX11_swap 4 = .ok (.iload_n 1, 1) := by decide +kernel
theorem dX11_swap_5 : decode cX11_swap 5 = .ok (.iconst 1, 1) := by decide +kernel
theorem dX11_swap_6 : decode cX11_swap 6 = .ok (.if_icmp .le 5, 3) := by decide +kernel
theorem dX11_swap_9 : decode cX11_swap 9 = .ok (.iconst (-1), 1) := by decide +kernel
theorem dX11_swap_10 : decode cX11_swap 10 = .ok (.ireturn, 1) := by decide +kernel
theorem dX11_swap_11 : decode cX11_swap 11 = .ok (.aload_n 0, 1) := by decide +kernel
theorem dX11_swap_12 : decode cX11_swap 12 = .ok (.getfield 27, 3) := by decide +kernel
theorem dX11_swap_15 : decode cX11_swap 15 = .ok (.aload_n 0, 1) := by decide +kernel
theorem dX11_swap_16 : decode cX11_swap 16 = .ok (.getfield 12, 3) := by decide +kernel
theorem dX11_swap_19 : decode cX11_swap 19 = .ok (.invokevirtual 171, 3) := by decide +kernel
theorem dX11_swap_22 : decode cX11_swap 22 = .ok (.aload_n 0, 1) := by decide +kernel
theorem dX11_swap_23 : decode cX11_swap 23 = .ok (.getfield 27, 3) := by decide +kernel
theorem dX11_swap_26 : decode cX11_swap 26 = .ok (.getfield 138, 3) := by decide +kernel
theorem dX11_swap_29 : decode cX11_swap 29 = .ok (.iconst 0, 1) := by decide +kernel
theorem dX11_swap_30 : decode cX11_swap 30 = .ok (.aload_n 0, 1) := by decide +kernel
theorem dX11_swap_31 : decode cX11_swap 31 = .ok (.getfield 38, 3) := by decide +kernel
theorem dX11_swap_34 : decode cX11_swap 34 = .ok (.iconst 0, 1) := by decide +kernel
theorem dX11_swap_35 : decode cX11_swap 35 = .ok (.bipush 10, 2) := by decide +kernel
theorem dX11_swap_37 : decode cX11_swap 37 = .ok (.invokestatic 165, 3) := by decide +kernel
theorem dX11_swap_40 : decode cX11_swap 40 = .ok (.aload_n 0, 1) := by decide +kernel
theorem dX11_swap_41 : decode cX11_swap 41 = .ok (.getfield 18, 3) := by decide +kernel
theorem dX11_swap_44 : decode cX11_swap 44 = .ok (.aload_n 0, 1) := by decide +kernel
theorem dX11_swap_45 : decode cX11_swap 45 = .ok (.getfield 12, 3) := by decide +kernel
theorem dX11_swap_48 : decode cX11_swap 48 = .ok (.invokevirtual 185, 3) := by decide +kernel
theorem dX11_swap_51 : decode cX11_swap 51 = .ok (.iconst 0, 1) := by decide +kernel
theorem dX11_swap_52 : decode cX11_swap 52 = .ok (.istore_n 2, 1) := by decide +kernel
theorem dX11_swap_53 : decode cX11_swap 53 = .ok (.bipush (-5), 2) := by decide +kernel
theorem dX11_swap_55 : decode cX11_swap 55 = .ok (.istore_n 3, 1) := by decide +kernel
theorem dX11_swap_56 : decode cX11_swap 56 = .ok (.iconst 0, 1) := by decide +kernel
theorem dX11_swap_57 : decode cX11_swap 57 = .ok (.istore 4, 2) := by decide +kernel
theorem dX11_swap_59 : decode cX11_swap 59 = .ok (.iload 4, 2) := by decide +kernel
theorem dX11_swap_61 : decode cX11_swap 61 = .ok (.bipush 10, 2) := by decide +kernel
theorem dX11_swap_63 : decode cX11_swap 63 = .ok (.if_icmp .ge 58, 3) := by decide +kernel
theorem dX11_swap_66 : decode cX11_swap 66 = .ok (.iload 4, 2) := by decide +kernel
theorem dX11_swap_68 : decode cX11_swap 68 = .ok (.iconst 1, 1) := by decide +kernel
theorem dX11_swap_69 : decode cX11_swap 69 = .ok (.iadd, 1) := by decide +kernel
theorem dX11_swap_70 : decode cX11_swap 70 = .ok (.istore 5, 2) := by decide +kernel
theorem dX11_swap_72 : decode cX11_swap 72 = .ok (.iload 5, 2) := by decide +kernel
theorem dX11_swap_74 : decode cX11_swap 74 = .ok (.bipush 10, 2) := by decide +kernel
theorem dX11_swap_76 : decode cX11_swap 76 = .ok (.if_icmp .ge 39, 3) := by decide +kernel
theorem dX11_swap_79 : decode cX11_swap 79 = .ok (.aload_n 0, 1) := by decide +kernel
theorem dX11_swap_80 : decode cX11_swap 80 = .ok (.iload 4, 2) := by decide +kernel
theorem dX11_swap_82 : decode cX11_swap 82 = .ok (.iload 5, 2) := by decide +kernel
theorem dX11_swap_84 : decode cX11_swap 84 = .ok (.invokevirtual 188, 3) := by decide +kernel
theorem dX11_swap_87 : decode cX11_swap 87 = .ok (.ifCond .ne 6, 3) := by decide +kernel
theorem dX11_swap_90 : decode cX11_swap 90 = .ok (.goto 19, 3) := by decide +kernel
theorem dX11_swap_93 : decode cX11_swap 93 = .ok (.iload_n 2, 1) := by decide +kernel
theorem dX11_swap_94 : decode cX11_swap 94 = .ok (.ifCond .ne 12, 3) := by decide +kernel
theorem dX11_swap_97 : decode cX11_swap 97 = .ok (.bipush 10, 2) := by decide +kernel
theorem dX11_swap_99 : decode cX11_swap 99 = .ok (.iload 4, 2) := by decide +kernel
theorem dX11_swap_101 : decode cX11_swap 101 = .ok (.imul, 1) := by decide +kernel
theorem dX11_swap_102 : decode cX11_swap 102 = .ok (.iload 5, 2) := by decide +kernel
theorem dX11_swap_104 : decode cX11_swap 104 = .ok (.iadd, 1) := by decide +kernel
theorem dX11_swap_105 : decode cX11_swap 105 = .ok (.istore_n 3, 1) := by decide +kernel
theorem dX11_swap_106 : decode cX11_swap 106 = .ok (.iinc 2 1, 3) := by decide +kernel
theorem dX11_swap_109 : decode cX11_swap 109 = .ok (.iinc 5 1, 3) := by decide +kernel
theorem dX11_swap_112 : decode cX11_swap 112 = .ok (.goto (-40), 3) := by decide +kernel
theorem dX11_swap_115 : decode cX11_swap 115 = .ok (.iinc 4 1, 3) := by decide +kernel
theorem dX11_swap_118 : decode cX11_swap 118 = .ok (.goto (-59), 3) := by decide +kernel
theorem dX11_swap_121 : decode cX11_swap 121 = .ok (.iload_n 1, 1) := by decide +kernel
theorem dX11_swap_122 : decode cX11_swap 122 = .ok (.ifCond .ne 7, 3) := by decide +kernel
theorem dX11_swap_125 : decode cX11_swap 125 = .ok (.iload_n 2, 1) := by decide +kernel
theorem dX11_swap_126 : decode cX11_swap 126 = .ok (.goto 4, 3) := by decide +kernel
theorem dX11_swap_129 : decode cX11_swap 129 = .ok (.iload_n 3, 1) := by decide +kernel
theorem dX11_swap_130 : decode cX11_swap 130 = .ok (.ireturn, 1) := by decide +kernel
set_option maxRecDepth 20000 in
theorem ggX11_year_X11_goYear : GoodIn wsX11_year wsX11_goYear := goodIn_r _ [7, 8, 9, 10, 11, 12, 13, 14, 15, 16, 17, 2, 18, 19, 20, 21, 22, 23, 24, 25, 26, 27, 28, 29, 30, 31, 32, 33, 34, 35, 36, 37, 38, 39, 40, 41, 42, 43, 44, 45, 46, 47, 48, 49, 50, 51, 52, 53, 54, 55, 56, 57, 58, 59, 60, 61, 62, 63, 64, 65, 66, 67, 68, 69, 70, 71, 72, 73, 74, 75, 76, 77, 78, 79, 80, 81, 82, 83, 84, 85, 86, 87, 88, 89, 90, 91, 92, 93, 94, 95, 96, 97, 98, 99, 100, 101, 102, 103, 104, 105, 106, 107, 108, 109, 110, 111, 112, 113, 114, 115, 116, 117, 118, 119, 120, 121, 122, 123, 124, 125, 126, 127, 128, 129, 130, 131, 132, 133, 134, 135, 136, 137, 138, 139, 140, 141, 142, 143, 144, 145, 146, 147, 148, 149, 150, 151, 152, 153, 154, 155, 156, 157, 158, 159, 160, 161, 162, 163, 164, 165, 166, 167, 168, 169, 170, 171, 172, 173, 174, 175, 176, 177, 178, 179, 180, 181, 182, 183, 184, 6, 185, 186, 187, 188, 189, 190, 191, 192, 193, 194, 195, 196, 197, 198, 199, 200, 201, 202, 203, 204, 205, 206, 207, 208, 209, 210, 211, 212, 213, 214, 215, 216, 217, 218, 219, 220, 221, 222, 223, 224, 225, 226, 227, 228, 229, 230, 231, 232, 233, 234, 235, 236, 237, 238, 239, 240, 241, 242, 243, 244, 245, 246, 247, 248, 249, 250, 251, 252, 253, 254, 255, 256, 257, 258, 259, 260, 261, 262, 263, 264, 265, 266, 267, 268, 269, 270, 271] (by decide +kernel) (by decide +kernel)
set_option maxRecDepth 20000 in
theorem gX11_year_X11_goYear : GoodIn wsX11_year (wsV RX11 191 RX11 yX11_goYear wsX11_goYear) := goodIn_app (goodIn_of _ (by decide +kernel)) ggX11_year_X11_goYear
theorem dX11_year_0 : decode cX11_year 0 = .ok (.aload_n 0, 1) := by decide +kernel
theorem dX11_year_1 : decode cX11_year 1 = .ok (.getfield 12, 3) := by decide +kernel
theorem dX11_year_4 : decode cX11_year 4 = .ok (.getfield 75, 3) := by decide +kernel
theorem dX11_year_7 : decode cX11_year 7 = .ok (.bipush 99, 2) := by decide +kernel
theorem dX11_year_9 : decode cX11_year 9 = .ok (.if_icmp .lt 6, 3) := by decide +kernel
theorem dX11_year_12 : decode cX11_year 12 = .ok (.bipush (-3), 2) := by decide +kernel
theorem dX11_year_14 : decode cX11_year 14 = .ok (.ireturn, 1) := by decide +kernel
theorem dX11_year_15 : decode cX11_year 15 = .ok (.aload_n 0, 1) := by decide +kernel
theorem dX11_year_16 : decode cX11_year 16 = .ok (.aload_n 0, 1) := by decide +kernel
theorem dX11_year_17 : decode cX11_year 17 = .ok (.getfield 12, 3) := by decide +kernel
theorem dX11_year_20 : decode cX11_year 20 = .ok (.iconst 0, 1) := by decide +kernel
theorem dX11_year_21 : decode cX11_year 21 = .ok (.invokevirtual 191, 3) := by decide +kernel
theorem dX11_year_24 : decode cX11_year 24 = .ok (.ireturn, 1) := by decide +kernel
set_option maxRecDepth 20000 in
theorem ggX11_years_X10_hasWorker : GoodIn wsX11_years wsX10_hasWorker := goodIn_r _ [8, 9, 234, 235, 236, 237, 238, 239, 240, 241, 242, 243, 244, 245, 246, 247, 248, 249, 250, 251, 252] (by decide +kernel) (by decide +kernel)
set_option maxRecDepth 20000 in
theorem gX11_years_X10_hasWorker : GoodIn wsX11_years (wsV RX11 122 RX10 yX10_hasWorker wsX10_hasWorker) := goodIn_app (goodIn_of _ (by decide +kernel)) ggX11_years_X10_hasWorker
set_option maxRecDepth 20000 in
theorem ggX11_years_X11_isWithin : GoodIn wsX11_years wsX11_isWithin := goodIn_r _ [13] (by decide +kernel) (by decide +kernel)
set_option maxRecDepth 20000 in
theorem gX11_years_X11_isWithin : GoodIn wsX11_years (va_wsS RX11 84 yX11_isWithin wsX11_isWithin) := goodIn_app (goodIn_of _ (by decide +kernel)) ggX11_years_X11_isWithin
set_option maxRecDepth 20000 in
theorem ggX11_years_X10_become : GoodIn wsX11_years wsX10_become := goodIn_r _ [17, 9, 18, 19, 20, 21, 22, 23, 24, 25, 26, 27, 28, 29, 30, 31, 32, 33, 34, 35, 36, 37, 38, 39, 234, 235, 236, 237, 238, 239, 240, 241, 242, 243, 244, 245, 246, 247, 248, 249, 250, 251, 252] (by decide +kernel) (by decide +kernel)
set_option maxRecDepth 20000 in
theorem gX11_years_X10_become : GoodIn wsX11_years (wsV RX11 185 RX10 yX10_become wsX10_become) := goodIn_app (goodIn_of _ (by decide +kernel)) ggX11_years_X10_become
set_option maxRecDepth 20000 in
theorem ggX11_years_X11_goYear : GoodIn wsX11_years wsX11_goYear := goodIn_r _ [43, 44, 45, 46, 3, 47, 48, 49, 50, 51, 52, 53, 54, 55, 56, 57, 58, 59, 60, 61, 62, 63, 64, 65, 66, 67, 68, 69, 70, 71, 72, 73, 74, 75, 76, 77, 78, 79, 80, 81, 82, 83, 84, 85, 86, 87, 88, 89, 90, 91, 92, 93, 94, 95, 96, 97, 98, 99, 100, 101, 102, 103, 104, 105, 106, 107, 108, 109, 110, 111, 112, 113, 114, 115, 116, 117, 118, 119, 7, 120, 18, 39, 121, 122, 123, 124, 125, 126, 127, 128, 129, 9, 32, 130, 131, 132, 133, 134, 135, 136, 137, 138, 139, 140, 141, 142, 5, 6, 8, 143, 144, 145, 146, 147, 148, 149, 150, 151, 152, 153, 154, 155, 156, 157, 158, 159, 160, 161, 162, 163, 164, 165, 166, 167, 168, 169, 170, 171, 172, 173, 174, 175, 176, 177, 178, 179, 180, 181, 182, 183, 184, 185, 186, 187, 188, 189, 190, 191, 192, 193, 194, 195, 196, 197, 198, 199, 200, 201, 202, 203, 204, 205, 206, 207, 208, 209, 210, 211, 212, 12, 213, 214, 215, 216, 217, 26, 23, 31, 24, 34, 218, 219, 220, 221, 222, 227, 228, 229, 230, 231, 232, 233, 234, 235, 236, 237, 238, 239, 240, 241, 242, 243, 244, 245, 246, 247, 248, 249, 250, 251, 252, 253, 254, 255, 256, 257, 258, 259, 260, 261, 262, 263, 264, 265, 266, 267, 268, 269, 270, 271, 272, 273, 274, 275, 276, 277, 278, 279, 280, 281, 282, 283, 284, 285, 286, 287, 288, 289, 290, 291, 292, 293, 294, 295, 296, 297, 298] (by decide +kernel) (by decide +kernel)
set_option maxRecDepth 20000 in
theorem gX11_years_X11_goYear : GoodIn wsX11_years (wsV RX11 191 RX11 yX11_goYear wsX11_goYear) := goodIn_app (goodIn_of _ (by decide +kernel)) ggX11_years_X11_goYear
set_option maxRecDepth 20000 in
theorem ggX11_years_X10_worthTogether : GoodIn wsX11_years wsX10_worthTogether := goodIn_r _ [226, 9, 26, 234, 235, 236, 237, 238, 239, 240, 241, 242, 243, 244, 245, 246, 247, 248, 249, 250, 251, 252] (by decide +kernel) (by decide +kernel)
set_option maxRecDepth 20000 in
theorem gX11_years_X10_worthTogether : GoodIn wsX11_years (wsV RX11 194 RX10 yX10_worthTogether wsX10_worthTogether) := goodIn_app (goodIn_of _ (by decide +kernel)) ggX11_years_X10_worthTogether
theorem dX11_years_0 : decode cX11_years 0 = .ok (.iload_n 2, 1) := by decide +kernel
theorem dX11_years_1 : decode cX11_years 1 = .ok (.ifCond .lt 8, 3) := by decide +kernel
theorem dX11_years_4 : decode cX11_years 4 = .ok (.iload_n 2, 1) := by decide +kernel
theorem dX11_years_5 : decode cX11_years 5 = .ok (.iconst 3, 1) := by decide +kernel
theorem dX11_years_6 : decode cX11_years 6 = .ok (.if_icmp .le 7, 3) := by decide +kernel
theorem dX11_years_9 : decode cX11_years 9 = .ok (.sipush (-1001), 3) := by decide +kernel
theorem dX11_years_12 : decode cX11_years 12 = .ok (.ireturn, 1) := by decide +kernel
theorem dX11_years_13 : decode cX11_years 13 = .ok (.iload_n 3, 1) := by decide +kernel
theorem dX11_years_14 : decode cX11_years 14 = .ok (.ifCond .lt 28, 3) := by decide +kernel
theorem dX11_years_17 : decode cX11_years 17 = .ok (.iload_n 3, 1) := by decide +kernel
theorem dX11_years_18 : decode cX11_years 18 = .ok (.iconst 1, 1) := by decide +kernel
theorem dX11_years_19 : decode cX11_years 19 = .ok (.if_icmp .le 27, 3) := by decide +kernel
theorem dX11_years_22 : decode cX11_years 22 = .ok (.iload_n 3, 1) := by decide +kernel
theorem dX11_years_23 : decode cX11_years 23 = .ok (.bipush 10, 2) := by decide +kernel
theorem dX11_years_25 : decode cX11_years 25 = .ok (.if_icmp .lt 17, 3) := by decide +kernel
theorem dX11_years_28 : decode cX11_years 28 = .ok (.aload_n 0, 1) := by decide +kernel
theorem dX11_years_29 : decode cX11_years 29 = .ok (.getfield 12, 3) := by decide +kernel
theorem dX11_years_32 : decode cX11_years 32 = .ok (.iload_n 3, 1) := by decide +kernel
theorem dX11_years_33 : decode cX11_years 33 = .ok (.bipush 10, 2) := by decide +kernel
theorem dX11_years_35 : decode cX11_years 35 = .ok (.isub, 1) := by decide +kernel
theorem dX11_years_36 : decode cX11_years 36 = .ok (.invokevirtual 122, 3) := by decide +kernel
theorem dX11_years_39 : decode cX11_years 39 = .ok (.ifCond .ne 7, 3) := by decide +kernel
theorem dX11_years_42 : decode cX11_years 42 = .ok (.sipush (-1001), 3) := by decide +kernel
theorem dX11_years_45 : decode cX11_years 45 = .ok (.ireturn, 1) := by decide +kernel
theorem dX11_years_46 : decode cX11_years 46 = .ok (.iload_n 1, 1) := by decide +kernel
theorem dX11_years_47 : decode cX11_years 47 = .ok (.bipush 20, 2) := by decide +kernel
theorem dX11_years_49 : decode cX11_years 49 = .ok (.invokestatic 84, 3) := by decide +kernel
theorem dX11_years_52 : decode cX11_years 52 = .ok (.ifCond .ne 7, 3) := by decide +kernel
theorem dX11_years_55 : decode cX11_years 55 = .ok (.sipush (-1002), 3) := by decide +kernel
theorem dX11_years_58 : decode cX11_years 58 = .ok (.ireturn, 1) := by decide +kernel
theorem dX11_years_59 : decode cX11_years 59 = .ok (.aload_n 0, 1) := by decide +kernel
theorem dX11_years_60 : decode cX11_years 60 = .ok (.getfield 18, 3) := by decide +kernel
theorem dX11_years_63 : decode cX11_years 63 = .ok (.aload_n 0, 1) := by decide +kernel
theorem dX11_years_64 : decode cX11_years 64 = .ok (.getfield 12, 3) := by decide +kernel
theorem dX11_years_67 : decode cX11_years 67 = .ok (.invokevirtual 185, 3) := by decide +kernel
theorem dX11_years_70 : decode cX11_years 70 = .ok (.iconst 0, 1) := by decide +kernel
theorem dX11_years_71 : decode cX11_years 71 = .ok (.istore 4, 2) := by decide +kernel
theorem dX11_years_73 : decode cX11_years 73 = .ok (.iconst 0, 1) := by decide +kernel
theorem dX11_years_74 : decode cX11_years 74 = .ok (.istore 5, 2) := by decide +kernel
theorem dX11_years_76 : decode cX11_years 76 = .ok (.iload 5, 2) := by decide +kernel
theorem dX11_years_78 : decode cX11_years 78 = .ok (.iload_n 1, 1) := by decide +kernel
theorem dX11_years_79 : decode cX11_years 79 = .ok (.if_icmp .ge 23, 3) := by decide +kernel
theorem dX11_years_82 : decode cX11_years 82 = .ok (.iload 4, 2) := by decide +kernel
theorem dX11_years_84 : decode cX11_years 84 = .ok (.aload_n 0, 1) := by decide +kernel
theorem dX11_years_85 : decode cX11_years 85 = .ok (.aload_n 0, 1) := by decide +kernel
theorem dX11_years_86 : decode cX11_years 86 = .ok (.getfield 18, 3) := by decide +kernel
theorem dX11_years_89 : decode cX11_years 89 = .ok (.iload_n 2, 1) := by decide +kernel
theorem dX11_years_90 : decode cX11_years 90 = .ok (.invokevirtual 191, 3) := by decide +kernel
theorem dX11_years_93 : decode cX11_years 93 = .ok (.iadd, 1) := by decide +kernel
theorem dX11_years_94 : decode cX11_years 94 = .ok (.istore 4, 2) := by decide +kernel
theorem dX11_years_96 : decode cX11_years 96 = .ok (.iinc 5 1, 3) := by decide +kernel
theorem dX11_years_99 : decode cX11_years 99 = .ok (.goto (-23), 3) := by decide +kernel
theorem dX11_years_102 : decode cX11_years 102 = .ok (.iload_n 3, 1) := by decide +kernel
theorem dX11_years_103 : decode cX11_years 103 = .ok (.iconst 1, 1) := by decide +kernel
theorem dX11_years_104 : decode cX11_years 104 = .ok (.if_icmp .ne 6, 3) := by decide +kernel
theorem dX11_years_107 : decode cX11_years 107 = .ok (.iload 4, 2) := by decide +kernel
theorem dX11_years_109 : decode cX11_years 109 = .ok (.ireturn, 1) := by decide +kernel
theorem dX11_years_110 : decode cX11_years 110 = .ok (.iload_n 3, 1) := by decide +kernel
theorem dX11_years_111 : decode cX11_years 111 = .ok (.ifCond .ne 13, 3) := by decide +kernel
theorem dX11_years_114 : decode cX11_years 114 = .ok (.aload_n 0, 1) := by decide +kernel
theorem dX11_years_115 : decode cX11_years 115 = .ok (.getfield 18, 3) := by decide +kernel
theorem dX11_years_118 : decode cX11_years 118 = .ok (.invokevirtual 194, 3) := by decide +kernel
theorem dX11_years_121 : decode cX11_years 121 = .ok (.goto 15, 3) := by decide +kernel
theorem dX11_years_124 : decode cX11_years 124 = .ok (.aload_n 0, 1) := by decide +kernel
theorem dX11_years_125 : decode cX11_years 125 = .ok (.getfield 18, 3) := by decide +kernel
theorem dX11_years_128 : decode cX11_years 128 = .ok (.getfield 120, 3) := by decide +kernel
theorem dX11_years_131 : decode cX11_years 131 = .ok (.iload_n 3, 1) := by decide +kernel
theorem dX11_years_132 : decode cX11_years 132 = .ok (.bipush 10, 2) := by decide +kernel
theorem dX11_years_134 : decode cX11_years 134 = .ok (.isub, 1) := by decide +kernel
theorem dX11_years_135 : decode cX11_years 135 = .ok (.iaload, 1) := by decide +kernel
theorem dX11_years_136 : decode cX11_years 136 = .ok (.ireturn, 1) := by decide +kernel
set_option maxRecDepth 20000 in
theorem ggX11_chance_X11_isWithin : GoodIn wsX11_chance wsX11_isWithin := goodIn_r _ [5] (by decide +kernel) (by decide +kernel)
set_option maxRecDepth 20000 in
theorem gX11_chance_X11_isWithin : GoodIn wsX11_chance (va_wsS RX11 84 yX11_isWithin wsX11_isWithin) := goodIn_app (goodIn_of _ (by decide +kernel)) ggX11_chance_X11_isWithin
set_option maxRecDepth 20000 in
theorem ggX11_chance_X11_choices : GoodIn wsX11_chance wsX11_choices := goodIn_r _ [8] (by decide +kernel) (by decide +kernel)
set_option maxRecDepth 20000 in
theorem gX11_chance_X11_choices : GoodIn wsX11_chance (va_wsS RX11 199 yX11_choices wsX11_choices) := goodIn_app (goodIn_of _ (by decide +kernel)) ggX11_chance_X11_choices
set_option maxRecDepth 20000 in
theorem ggX11_chance_X11_lowest : GoodIn wsX11_chance wsX11_lowest := goodIn_r _ [11, 1, 12, 13, 14, 15] (by decide +kernel) (by decide +kernel)
set_option maxRecDepth 20000 in
theorem gX11_chance_X11_lowest : GoodIn wsX11_chance (va_wsS RX11 203 yX11_lowest wsX11_lowest) := goodIn_app (goodIn_of _ (by decide +kernel)) ggX11_chance_X11_lowest
theorem dX11_chance_0 : decode cX11_chance 0 = .ok (.iload_n 1, 1) := by decide +kernel
theorem dX11_chance_1 : decode cX11_chance 1 = .ok (.iconst 1, 1) := by decide +kernel
theorem dX11_chance_2 : decode cX11_chance 2 = .ok (.if_icmp .lt 9, 3) := by decide +kernel
theorem dX11_chance_5 : decode cX11_chance 5 = .ok (.iload_n 1, 1) := by decide +kernel
theorem dX11_chance_6 : decode cX11_chance 6 = .ok (.bipush 30, 2) := by decide +kernel
theorem dX11_chance_8 : decode cX11_chance 8 = .ok (.if_icmp .le 7, 3) := by decide +kernel
theorem dX11_chance_11 : decode cX11_chance 11 = .ok (.ldc2_w 197, 3) := by decide +kernel
theorem dX11_chance_14 : decode cX11_chance 14 = .ok (.lreturn, 1) := by decide +kernel
theorem dX11_chance_15 : decode cX11_chance 15 = .ok (.iload_n 2, 1) := by decide +kernel
theorem dX11_chance_16 : decode cX11_chance 16 = .ok (.iload_n 1, 1) := by decide +kernel
theorem dX11_chance_17 : decode cX11_chance 17 = .ok (.invokestatic 84, 3) := by decide +kernel
theorem dX11_chance_20 : decode cX11_chance 20 = .ok (.ifCond .eq 20, 3) := by decide +kernel
theorem dX11_chance_23 : decode cX11_chance 23 = .ok (.iload_n 3, 1) := by decide +kernel
theorem dX11_chance_24 : decode cX11_chance 24 = .ok (.iload_n 1, 1) := by decide +kernel
theorem dX11_chance_25 : decode cX11_chance 25 = .ok (.invokestatic 84, 3) := by decide +kernel
theorem dX11_chance_28 : decode cX11_chance 28 = .ok (.ifCond .eq 12, 3) := by decide +kernel
theorem dX11_chance_31 : decode cX11_chance 31 = .ok (.iload 4, 2) := by decide +kernel
theorem dX11_chance_33 : decode cX11_chance 33 = .ok (.iload_n 3, 1) := by decide +kernel
theorem dX11_chance_34 : decode cX11_chance 34 = .ok (.invokestatic 84, 3) := by decide +kernel
theorem dX11_chance_37 : decode cX11_chance 37 = .ok (.ifCond .ne 7, 3) := by decide +kernel
theorem dX11_chance_40 : decode cX11_chance 40 = .ok (.ldc2_w 197, 3) := by decide +kernel
theorem dX11_chance_43 : decode cX11_chance 43 = .ok (.lreturn, 1) := by decide +kernel
theorem dX11_chance_44 : decode cX11_chance 44 = .ok (.iload_n 2, 1) := by decide +kernel
theorem dX11_chance_45 : decode cX11_chance 45 = .ok (.iload 4, 2) := by decide +kernel
theorem dX11_chance_47 : decode cX11_chance 47 = .ok (.invokestatic 199, 3) := by decide +kernel
theorem dX11_chance_50 : decode cX11_chance 50 = .ok (.iload_n 1, 1) := by decide +kernel
theorem dX11_chance_51 : decode cX11_chance 51 = .ok (.iload_n 2, 1) := by decide +kernel
theorem dX11_chance_52 : decode cX11_chance 52 = .ok (.isub, 1) := by decide +kernel
theorem dX11_chance_53 : decode cX11_chance 53 = .ok (.iload_n 3, 1) := by decide +kernel
theorem dX11_chance_54 : decode cX11_chance 54 = .ok (.iload 4, 2) := by decide +kernel
theorem dX11_chance_56 : decode cX11_chance 56 = .ok (.isub, 1) := by decide +kernel
theorem dX11_chance_57 : decode cX11_chance 57 = .ok (.invokestatic 199, 3) := by decide +kernel
theorem dX11_chance_60 : decode cX11_chance 60 = .ok (.lmul, 1) := by decide +kernel
theorem dX11_chance_61 : decode cX11_chance 61 = .ok (.iload_n 1, 1) := by decide +kernel
theorem dX11_chance_62 : decode cX11_chance 62 = .ok (.iload_n 3, 1) := by decide +kernel
theorem dX11_chance_63 : decode cX11_chance 63 = .ok (.invokestatic 199, 3) := by decide +kernel
theorem dX11_chance_66 : decode cX11_chance 66 = .ok (.iload 5, 2) := by decide +kernel
theorem dX11_chance_68 : decode cX11_chance 68 = .ok (.invokestatic 203, 3) := by decide +kernel
theorem dX11_chance_71 : decode cX11_chance 71 = .ok (.lreturn, 1) := by decide +kernel
set_option maxRecDepth 20000 in
theorem ggX11_book_X10_hasWorker : GoodIn wsX11_book wsX10_hasWorker := goodIn_r _ [10, 11, 25, 26, 27, 28, 29, 30, 31, 32, 33, 34, 35, 36, 37, 38, 39, 40, 41, 42, 43] (by decide +kernel) (by decide +kernel)
set_option maxRecDepth 20000 in
theorem gX11_book_X10_hasWorker : GoodIn wsX11_book (wsV RX11 122 RX10 yX10_hasWorker wsX10_hasWorker) := goodIn_app (goodIn_of _ (by decide +kernel)) ggX11_book_X10_hasWorker
set_option maxRecDepth 20000 in
theorem ggX11_book_X10_chiefAt : GoodIn wsX11_book wsX10_chiefAt := goodIn_r _ [15, 16, 17, 25, 26, 27, 28, 29, 30, 31, 32, 33, 34, 35, 36, 37, 38, 39, 40, 41, 42, 43] (by decide +kernel) (by decide +kernel)
set_option maxRecDepth 20000 in
theorem gX11_book_X10_chiefAt : GoodIn wsX11_book (wsV RX11 101 RX10 yX10_chiefAt wsX10_chiefAt) := goodIn_app (goodIn_of _ (by decide +kernel)) ggX11_book_X10_chiefAt
theorem dX11_book_0 : decode cX11_book 0 = .ok (.aload_n 0, 1) := by decide +kernel
theorem dX11_book_1 : decode cX11_book 1 = .ok (.getfield 12, 3) := by decide +kernel
theorem dX11_book_4 : decode cX11_book 4 = .ok (.iload_n 1, 1) := by decide +kernel
theorem dX11_book_5 : decode cX11_book 5 = .ok (.invokevirtual 122, 3) := by decide +kernel
theorem dX11_book_8 : decode cX11_book 8 = .ok (.ifCond .eq 14, 3) := by decide +kernel
theorem dX11_book_11 : decode cX11_book 11 = .ok (.aload_n 0, 1) := by decide +kernel
theorem dX11_book_12 : decode cX11_book 12 = .ok (.getfield 12, 3) := by decide +kernel
theorem dX11_book_15 : decode cX11_book 15 = .ok (.iload_n 2, 1) := by decide +kernel
theorem dX11_book_16 : decode cX11_book 16 = .ok (.invokevirtual 101, 3) := by decide +kernel
theorem dX11_book_19 : decode cX11_book 19 = .ok (.ifnonnull 5, 3) := by decide +kernel
theorem dX11_book_22 : decode cX11_book 22 = .ok (.iconst (-1), 1) := by decide +kernel
theorem dX11_book_23 : decode cX11_book 23 = .ok (.ireturn, 1) := by decide +kernel
theorem dX11_book_24 : decode cX11_book 24 = .ok (.iload_n 3, 1) := by decide +kernel
theorem dX11_book_25 : decode cX11_book 25 = .ok (.iconst 1, 1) := by decide +kernel
theorem dX11_book_26 : decode cX11_book 26 = .ok (.if_icmp .lt 8, 3) := by decide +kernel
theorem dX11_book_29 : decode cX11_book 29 = .ok (.iload_n 3, 1) := by decide +kernel
theorem dX11_book_30 : decode cX11_book 30 = .ok (.iconst 5, 1) := by decide +kernel
theorem dX11_book_31 : decode cX11_book 31 = .ok (.if_icmp .le 6, 3) := by decide +kernel
theorem dX11_book_34 : decode cX11_book 34 = .ok (.bipush (-2), 2) := by decide +kernel
theorem dX11_book_36 : decode cX11_book 36 = .ok (.ireturn, 1) := by decide +kernel
theorem dX11_book_37 : decode cX11_book 37 = .ok (.aload_n 0, 1) := by decide +kernel
theorem dX11_book_38 : decode cX11_book 38 = .ok (.getfield 12, 3) := by decide +kernel
theorem dX11_book_41 : decode cX11_book 41 = .ok (.getfield 207, 3) := by decide +kernel
theorem dX11_book_44 : decode cX11_book 44 = .ok (.bipush 20, 2) := by decide +kernel
theorem dX11_book_46 : decode cX11_book 46 = .ok (.if_icmp .lt 6, 3) := by decide +kernel
theorem dX11_book_49 : decode cX11_book 49 = .ok (.bipush (-4), 2) := by decide +kernel
theorem dX11_book_51 : decode cX11_book 51 = .ok (.ireturn, 1) := by decide +kernel
theorem dX11_book_52 : decode cX11_book 52 = .ok (.aload_n 0, 1) := by decide +kernel
theorem dX11_book_53 : decode cX11_book 53 = .ok (.getfield 12, 3) := by decide +kernel
theorem dX11_book_56 : decode cX11_book 56 = .ok (.getfield 210, 3) := by decide +kernel
theorem dX11_book_59 : decode cX11_book 59 = .ok (.aload_n 0, 1) := by decide +kernel
theorem dX11_book_60 : decode cX11_book 60 = .ok (.getfield 12, 3) := by decide +kernel
theorem dX11_book_63 : decode cX11_book 63 = .ok (.getfield 207, 3) := by decide +kernel
theorem dX11_book_66 : decode cX11_book 66 = .ok (.iload_n 1, 1) := by decide +kernel
theorem dX11_book_67 : decode cX11_book 67 = .ok (.iastore, 1) := by decide +kernel
theorem dX11_book_68 : decode cX11_book 68 = .ok (.aload_n 0, 1) := by decide +kernel
theorem dX11_book_69 : decode cX11_book 69 = .ok (.getfield 12, 3) := by decide +kernel
theorem dX11_book_72 : decode cX11_book 72 = .ok (.getfield 213, 3) := by decide +kernel
theorem dX11_book_75 : decode cX11_book 75 = .ok (.aload_n 0, 1) := by decide +kernel
theorem dX11_book_76 : decode cX11_book 76 = .ok (.getfield 12, 3) := by decide +kernel
theorem dX11_book_79 : decode cX11_book 79 = .ok (.getfield 207, 3) := by decide +kernel
theorem dX11_book_82 : decode cX11_book 82 = .ok (.iload_n 2, 1) := by decide +kernel
theorem dX11_book_83 : decode cX11_book 83 = .ok (.iastore, 1) := by decide +kernel
theorem dX11_book_84 : decode cX11_book 84 = .ok (.aload_n 0, 1) := by decide +kernel
theorem dX11_book_85 : decode cX11_book 85 = .ok (.getfield 12, 3) := by decide +kernel
theorem dX11_book_88 : decode cX11_book 88 = .ok (.getfield 216, 3) := by decide +kernel
theorem dX11_book_91 : decode cX11_book 91 = .ok (.aload_n 0, 1) := by decide +kernel
theorem dX11_book_92 : decode cX11_book 92 = .ok (.getfield 12, 3) := by decide +kernel
theorem dX11_book_95 : decode cX11_book 95 = .ok (.getfield 207, 3) := by decide +kernel
theorem dX11_book_98 : decode cX11_book 98 = .ok (.iload_n 3, 1) := by decide +kernel
theorem dX11_book_99 : decode cX11_book 99 = .ok (.iastore, 1) := by decide +kernel
theorem dX11_book_100 : decode cX11_book 100 = .ok (.aload_n 0, 1) := by decide +kernel
theorem dX11_book_101 : decode cX11_book 101 = .ok (.getfield 12, 3) := by decide +kernel
theorem dX11_book_104 : decode cX11_book 104 = .ok (.dup, 1) := by decide +kernel
theorem dX11_book_105 : decode cX11_book 105 = .ok (.getfield 207, 3) := by decide +kernel
theorem dX11_book_108 : decode cX11_book 108 = .ok (.iconst 1, 1) := by decide +kernel
theorem dX11_book_109 : decode cX11_book 109 = .ok (.iadd, 1) := by decide +kernel
theorem dX11_book_110 : decode cX11_book 110 = .ok (.putfield 207, 3) := by decide +kernel
theorem dX11_book_113 : decode cX11_book 113 = .ok (.aload_n 0, 1) := by decide +kernel
theorem dX11_book_114 : decode cX11_book 114 = .ok (.getfield 12, 3) := by decide +kernel
theorem dX11_book_117 : decode cX11_book 117 = .ok (.getfield 207, 3) := by decide +kernel
theorem dX11_book_120 : decode cX11_book 120 = .ok (.ireturn, 1) := by decide +kernel
theorem dX11_clear_0 : decode cX11_clear 0 = .ok (.aload_n 0, 1) := by decide +kernel
theorem dX11_clear_1 : decode cX11_clear 1 = .ok (.getfield 12, 3) := by decide +kernel
theorem dX11_clear_4 : decode cX11_clear 4 = .ok (.getfield 207, 3) := by decide +kernel
theorem dX11_clear_7 : decode cX11_clear 7 = .ok (.istore_n 1, 1) := by decide +kernel
theorem dX11_clear_8 : decode cX11_clear 8 = .ok (.aload_n 0, 1) := by decide +kernel
theorem dX11_clear_9 : decode cX11_clear 9 = .ok (.getfield 12, 3) := by decide +kernel
theorem dX11_clear_12 : decode cX11_clear 12 = .ok (.iconst 0, 1) := by decide +kernel
theorem dX11_clear_13 : decode cX11_clear 13 = .ok (.putfield 207, 3) := by decide +kernel
theorem dX11_clear_16 : decode cX11_clear 16 = .ok (.iload_n 1, 1) := by decide +kernel
theorem dX11_clear_17 : decode cX11_clear 17 = .ok (.ireturn, 1) := by decide +kernel
set_option maxRecDepth 20000 in
theorem ggX11_nets_X11_howManyNets : GoodIn wsX11_nets wsX11_howManyNets := goodIn_r _ [6, 1, 7, 8, 9, 10, 5, 11, 12, 13, 14, 15, 16, 17, 18, 26, 27, 28, 29, 30, 31, 32, 33, 34, 35, 36, 37, 38, 39, 40, 41, 42, 43, 44, 45, 46, 47, 48, 49, 50, 51] (by decide +kernel) (by decide +kernel)
set_option maxRecDepth 20000 in
theorem gX11_nets_X11_howManyNets : GoodIn wsX11_nets (wsV RX11 219 RX11 yX11_howManyNets wsX11_howManyNets) := goodIn_app (goodIn_of _ (by decide +kernel)) ggX11_nets_X11_howManyNets
set_option maxRecDepth 20000 in
theorem ggX11_nets_X10_chiefAt : GoodIn wsX11_nets wsX10_chiefAt := goodIn_r _ [23, 24, 25, 33, 34, 35, 36, 37, 38, 39, 40, 41, 42, 43, 44, 45, 46, 47, 48, 49, 50, 51] (by decide +kernel) (by decide +kernel)
set_option maxRecDepth 20000 in
theorem gX11_nets_X10_chiefAt : GoodIn wsX11_nets (wsV RX11 101 RX10 yX10_chiefAt wsX10_chiefAt) := goodIn_app (goodIn_of _ (by decide +kernel)) ggX11_nets_X10_chiefAt
set_option maxRecDepth 20000 in
theorem ggX11_nets_X11_netOf : GoodIn wsX11_nets wsX11_netOf := goodIn_r _ [11, 12, 13, 14, 5, 15, 1, 16, 17, 18, 26, 27, 28, 29, 30, 31, 32, 33, 34, 35, 36, 37, 38, 39, 40, 41, 42, 43, 44, 45, 46, 47, 48, 49, 50, 51] (by decide +kernel) (by decide +kernel)
set_option maxRecDepth 20000 in
theorem gX11_nets_X11_netOf : GoodIn wsX11_nets (wsV RX11 222 RX11 yX11_netOf wsX11_netOf) := goodIn_app (goodIn_of _ (by decide +kernel)) ggX11_nets_X11_netOf
theorem dX11_nets_0 : decode cX11_nets 0 = .ok (.iload_n 1, 1) := by decide +kernel
theorem dX11_nets_1 : decode cX11_nets 1 = .ok (.iconst (-1), 1) := by decide +kernel
theorem dX11_nets_2 : decode cX11_nets 2 = .ok (.if_icmp .ne 8, 3) := by decide +kernel
theorem dX11_nets_5 : decode cX11_nets 5 = .ok (.aload_n 0, 1) := by decide +kernel
theorem dX11_nets_6 : decode cX11_nets 6 = .ok (.invokevirtual 219, 3) := by decide +kernel
theorem dX11_nets_9 : decode cX11_nets 9 = .ok (.ireturn, 1) := by decide +kernel
theorem dX11_nets_10 : decode cX11_nets 10 = .ok (.aload_n 0, 1) := by decide +kernel
theorem dX11_nets_11 : decode cX11_nets 11 = .ok (.getfield 12, 3) := by decide +kernel
theorem dX11_nets_14 : decode cX11_nets 14 = .ok (.iload_n 1, 1) := by decide +kernel
theorem dX11_nets_15 : decode cX11_nets 15 = .ok (.invokevirtual 101, 3) := by decide +kernel
theorem dX11_nets_18 : decode cX11_nets 18 = .ok (.ifnonnull 7, 3) := by decide +kernel
theorem dX11_nets_21 : decode cX11_nets 21 = .ok (.iconst (-1), 1) := by decide +kernel
theorem dX11_nets_22 : decode cX11_nets 22 = .ok (.goto 8, 3) := by decide +kernel
theorem dX11_nets_25 : decode cX11_nets 25 = .ok (.aload_n 0, 1) := by decide +kernel
theorem dX11_nets_26 : decode cX11_nets 26 = .ok (.iload_n 1, 1) := by decide +kernel
theorem dX11_nets_27 : decode cX11_nets 27 = .ok (.invokevirtual 222, 3) := by decide +kernel
theorem dX11_nets_30 : decode cX11_nets 30 = .ok (.ireturn, 1) := by decide +kernel
set_option maxRecDepth 20000 in
theorem ggX11_leans_X10_chiefAt : GoodIn wsX11_leans wsX10_chiefAt := goodIn_r _ [8, 9, 10, 34, 35, 36, 37, 38, 39, 40, 41, 42, 43, 44, 45, 46, 47, 48, 49, 50, 51, 52] (by decide +kernel) (by decide +kernel)
set_option maxRecDepth 20000 in
theorem gX11_leans_X10_chiefAt : GoodIn wsX11_leans (wsV RX11 101 RX10 yX10_chiefAt wsX10_chiefAt) := goodIn_app (goodIn_of _ (by decide +kernel)) ggX11_leans_X10_chiefAt
set_option maxRecDepth 20000 in
theorem ggX11_leans_X10_firstGrade : GoodIn wsX11_leans wsX10_firstGrade := goodIn_r _ [14, 15, 16, 17, 18, 34, 35, 36, 37, 38, 39, 40, 41, 42, 43, 44, 45, 46, 47, 48, 49, 50, 51, 52] (by decide +kernel) (by decide +kernel)
set_option maxRecDepth 20000 in
theorem gX11_leans_X10_firstGrade : GoodIn wsX11_leans (wsV RX11 225 RX10 yX10_firstGrade wsX10_firstGrade) := goodIn_app (goodIn_of _ (by decide +kernel)) ggX11_leans_X10_firstGrade
set_option maxRecDepth 20000 in
theorem ggX11_leans_X11_lowest : GoodIn wsX11_leans wsX11_lowest := goodIn_r _ [22, 2, 23, 24, 25, 26] (by decide +kernel) (by decide +kernel)
set_option maxRecDepth 20000 in
theorem gX11_leans_X11_lowest : GoodIn wsX11_leans (va_wsS RX11 203 yX11_lowest wsX11_lowest) := goodIn_app (goodIn_of _ (by decide +kernel)) ggX11_leans_X11_lowest
theorem dX11_leans_0 : decode cX11_leans 0 = .ok (.aload_n 0, 1) := by decide +kernel
theorem dX11_leans_1 : decode cX11_leans 1 = .ok (.getfield 12, 3) := by decide +kernel
theorem dX11_leans_4 : decode cX11_leans 4 = .ok (.iload_n 1, 1) := by decide +kernel
theorem dX11_leans_5 : decode cX11_leans 5 = .ok (.invokevirtual 101, 3) := by decide +kernel
theorem dX11_leans_8 : decode cX11_leans 8 = .ok (.ifnull 19, 3) := by decide +kernel
theorem dX11_leans_11 : decode cX11_leans 11 = .ok (.aload_n 0, 1) := by decide +kernel
theorem dX11_leans_12 : decode cX11_leans 12 = .ok (.getfield 12, 3) := by decide +kernel
theorem dX11_leans_15 : decode cX11_leans 15 = .ok (.iload_n 2, 1) := by decide +kernel
theorem dX11_leans_16 : decode cX11_leans 16 = .ok (.invokevirtual 101, 3) := by decide +kernel
theorem dX11_leans_19 : decode cX11_leans 19 = .ok (.ifnull 8, 3) := by decide +kernel
theorem dX11_leans_22 : decode cX11_leans 22 = .ok (.iload_n 1, 1) := by decide +kernel
theorem dX11_leans_23 : decode cX11_leans 23 = .ok (.iload_n 2, 1) := by decide +kernel
theorem dX11_leans_24 : decode cX11_leans 24 = .ok (.if_icmp .ne 7, 3) := by decide +kernel
theorem dX11_leans_27 : decode cX11_leans 27 = .ok (.ldc2_w 197, 3) := by decide +kernel
theorem dX11_leans_30 : decode cX11_leans 30 = .ok (.lreturn, 1) := by decide +kernel
theorem dX11_leans_31 : decode cX11_leans 31 = .ok (.iconst 0, 1) := by decide +kernel
theorem dX11_leans_32 : decode cX11_leans 32 = .ok (.istore 4, 2) := by decide +kernel
theorem dX11_leans_34 : decode cX11_leans 34 = .ok (.iconst 0, 1) := by decide +kernel
theorem dX11_leans_35 : decode cX11_leans 35 = .ok (.istore 5, 2) := by decide +kernel
theorem dX11_leans_37 : decode cX11_leans 37 = .ok (.iconst 0, 1) := by decide +kernel
theorem dX11_leans_38 : decode cX11_leans 38 = .ok (.istore 6, 2) := by decide +kernel
theorem dX11_leans_40 : decode cX11_leans 40 = .ok (.iload 6, 2) := by decide +kernel
theorem dX11_leans_42 : decode cX11_leans 42 = .ok (.aload_n 0, 1) := by decide +kernel
theorem dX11_leans_43 : decode cX11_leans 43 = .ok (.getfield 12, 3) := by decide +kernel
theorem dX11_leans_46 : decode cX11_leans 46 = .ok (.getfield 105, 3) := by decide +kernel
theorem dX11_leans_49 : decode cX11_leans 49 = .ok (.if_icmp .ge 59, 3) := by decide +kernel
theorem dX11_leans_52 : decode cX11_leans 52 = .ok (.aload_n 0, 1) := by decide +kernel
theorem dX11_leans_53 : decode cX11_leans 53 = .ok (.getfield 12, 3) := by decide +kernel
theorem dX11_leans_56 : decode cX11_leans 56 = .ok (.iload 6, 2) := by decide +kernel
theorem dX11_leans_58 : decode cX11_leans 58 = .ok (.iload_n 1, 1) := by decide +kernel
theorem dX11_leans_59 : decode cX11_leans 59 = .ok (.invokevirtual 225, 3) := by decide +kernel
theorem dX11_leans_62 : decode cX11_leans 62 = .ok (.istore 7, 2) := by decide +kernel
theorem dX11_leans_64 : decode cX11_leans 64 = .ok (.aload_n 0, 1) := by decide +kernel
theorem dX11_leans_65 : decode cX11_leans 65 = .ok (.getfield 12, 3) := by decide +kernel
theorem dX11_leans_68 : decode cX11_leans 68 = .ok (.iload 6, 2) := by decide +kernel
theorem dX11_leans_70 : decode cX11_leans 70 = .ok (.iload_n 2, 1) := by decide +kernel
theorem dX11_leans_71 : decode cX11_leans 71 = .ok (.invokevirtual 225, 3) := by decide +kernel
theorem dX11_leans_74 : decode cX11_leans 74 = .ok (.istore 8, 2) := by decide +kernel
theorem dX11_leans_76 : decode cX11_leans 76 = .ok (.iload 7, 2) := by decide +kernel
theorem dX11_leans_78 : decode cX11_leans 78 = .ok (.ifCond .eq 24, 3) := by decide +kernel
theorem dX11_leans_81 : decode cX11_leans 81 = .ok (.iload 8, 2) := by decide +kernel
theorem dX11_leans_83 : decode cX11_leans 83 = .ok (.ifCond .ne 6, 3) := by decide +kernel
theorem dX11_leans_86 : decode cX11_leans 86 = .ok (.goto 16, 3) := by decide +kernel
theorem dX11_leans_89 : decode cX11_leans 89 = .ok (.iload 4, 2) := by decide +kernel
theorem dX11_leans_91 : decode cX11_leans 91 = .ok (.iload 7, 2) := by decide +kernel
theorem dX11_leans_93 : decode cX11_leans 93 = .ok (.iload 8, 2) := by decide +kernel
theorem dX11_leans_95 : decode cX11_leans 95 = .ok (.isub, 1) := by decide +kernel
theorem dX11_leans_96 : decode cX11_leans 96 = .ok (.iadd, 1) := by decide +kernel
theorem dX11_leans_97 : decode cX11_leans 97 = .ok (.istore 4, 2) := by decide +kernel
theorem dX11_leans_99 : decode cX11_leans 99 = .ok (.iinc 5 1, 3) := by decide +kernel
theorem dX11_leans_102 : decode cX11_leans 102 = .ok (.iinc 6 1, 3) := by decide +kernel
theorem dX11_leans_105 : decode cX11_leans 105 = .ok (.goto (-65), 3) := by decide +kernel
theorem dX11_leans_108 : decode cX11_leans 108 = .ok (.iload 4, 2) := by decide +kernel
theorem dX11_leans_110 : decode cX11_leans 110 = .ok (.i2l, 1) := by decide +kernel
theorem dX11_leans_111 : decode cX11_leans 111 = .ok (.iload 5, 2) := by decide +kernel
theorem dX11_leans_113 : decode cX11_leans 113 = .ok (.i2l, 1) := by decide +kernel
theorem dX11_leans_114 : decode cX11_leans 114 = .ok (.iload_n 3, 1) := by decide +kernel
theorem dX11_leans_115 : decode cX11_leans 115 = .ok (.invokestatic 203, 3) := by decide +kernel
theorem dX11_leans_118 : decode cX11_leans 118 = .ok (.lreturn, 1) := by decide +kernel
set_option maxRecDepth 20000 in
theorem ggX11_looked_X10_chiefAt : GoodIn wsX11_looked wsX10_chiefAt := goodIn_r _ [10, 11, 12, 208, 209, 210, 211, 212, 213, 214, 215, 216, 217, 218, 219, 220, 221, 222, 223, 224, 225, 226] (by decide +kernel) (by decide +kernel)
set_option maxRecDepth 20000 in
theorem gX11_looked_X10_chiefAt : GoodIn wsX11_looked (wsV RX11 101 RX10 yX10_chiefAt wsX10_chiefAt) := goodIn_app (goodIn_of _ (by decide +kernel)) ggX11_looked_X10_chiefAt
set_option maxRecDepth 20000 in
theorem ggX11_looked_X11_gradeUnder : GoodIn wsX11_looked wsX11_gradeUnder := goodIn_r _ [17, 18, 1, 19, 20, 21, 22, 23, 24, 9, 25, 26, 11, 27, 28, 29, 30, 31, 32, 33, 34, 35, 36, 37, 38, 39, 40, 41, 42, 43, 44, 45, 46, 12, 47, 48, 49, 50, 51, 52, 53, 54, 55, 56, 57, 58, 7, 8, 10, 59, 60, 61, 62, 63, 64, 65, 66, 67, 68, 69, 70, 71, 72, 73, 74, 75, 76, 77, 78, 79, 80, 81, 82, 83, 84, 85, 86, 87, 88, 89, 90, 91, 92, 93, 94, 95, 96, 97, 98, 99, 100, 101, 102, 103, 104, 105, 106, 107, 108, 109, 110, 111, 112, 113, 114, 115, 116, 117, 118, 119, 120, 121, 122, 123, 124, 125, 126, 127, 128, 129, 130, 131, 132, 133, 134, 135, 136, 137, 138, 139, 140, 141, 142, 143, 144, 145, 146, 147, 148, 149, 150, 151, 152, 153, 154, 155, 156, 157, 158, 159, 160, 161, 162, 163, 164, 165, 166, 167, 168, 169, 170, 171, 172, 173, 174, 175, 176, 177, 178, 179, 180, 181, 182, 183, 184, 185, 186, 187, 188, 189, 190, 191, 192, 193, 194, 195, 196, 197, 198, 199, 200, 201, 202, 203, 204, 205, 206, 207, 208, 209, 210, 211, 212, 213, 214, 215, 216, 217, 218, 219, 220, 221, 222, 223, 224, 225, 226, 227, 228, 229, 230, 231, 232, 233, 234, 235, 236, 237, 238, 239, 240, 241, 242, 243, 244, 245, 246, 247, 248, 249, 250, 251, 252, 253, 254, 255, 256, 257, 258, 259, 260, 261, 262, 263, 264, 265, 266, 267, 268, 269, 270, 271, 272] (by decide +kernel) (by decide +kernel)
set_option maxRecDepth 20000 in
theorem gX11_looked_X11_gradeUnder : GoodIn wsX11_looked (wsV RX11 174 RX11 yX11_gradeUnder wsX11_gradeUnder) := goodIn_app (goodIn_of _ (by decide +kernel)) ggX11_looked_X11_gradeUnder
theorem dX11_looked_0 : decode cX11_looked 0 = .ok (.iconst 0, 1) := by decide +kernel
theorem dX11_looked_1 : decode cX11_looked 1 = .ok (.istore_n 1, 1) := by decide +kernel
theorem dX11_looked_2 : decode cX11_looked 2 = .ok (.iload_n 1, 1) := by decide +kernel
theorem dX11_looked_3 : decode cX11_looked 3 = .ok (.aload_n 0, 1) := by decide +kernel
theorem dX11_looked_4 : decode cX11_looked 4 = .ok (.getfield 12, 3) := by decide +kernel
theorem dX11_looked_7 : decode cX11_looked 7 = .ok (.getfield 207, 3) := by decide +kernel
theorem dX11_looked_10 : decode cX11_looked 10 = .ok (.if_icmp .ge 67, 3) := by decide +kernel
theorem dX11_looked_13 : decode cX11_looked 13 = .ok (.iload_n 1, 1) := by decide +kernel
theorem dX11_looked_14 : decode cX11_looked 14 = .ok (.bipush 20, 2) := by decide +kernel
theorem dX11_looked_16 : decode cX11_looked 16 = .ok (.if_icmp .ge 61, 3) := by decide +kernel
theorem dX11_looked_19 : decode cX11_looked 19 = .ok (.aload_n 0, 1) := by decide +kernel
theorem dX11_looked_20 : decode cX11_looked 20 = .ok (.getfield 12, 3) := by decide +kernel
theorem dX11_looked_23 : decode cX11_looked 23 = .ok (.aload_n 0, 1) := by decide +kernel
theorem dX11_looked_24 : decode cX11_looked 24 = .ok (.getfield 12, 3) := by decide +kernel
theorem dX11_looked_27 : decode cX11_looked 27 = .ok (.getfield 213, 3) := by decide +kernel
theorem dX11_looked_30 : decode cX11_looked 30 = .ok (.iload_n 1, 1) := by decide +kernel
theorem dX11_looked_31 : decode cX11_looked 31 = .ok (.iaload, 1) := by decide +kernel
theorem dX11_looked_32 : decode cX11_looked 32 = .ok (.invokevirtual 101, 3) := by decide +kernel
theorem dX11_looked_35 : decode cX11_looked 35 = .ok (.astore_n 2, 1) := by decide +kernel
theorem dX11_looked_36 : decode cX11_looked 36 = .ok (.aload_n 2, 1) := by decide +kernel
theorem dX11_looked_37 : decode cX11_looked 37 = .ok (.ifnonnull 6, 3) := by decide +kernel
theorem dX11_looked_40 : decode cX11_looked 40 = .ok (.goto 31, 3) := by decide +kernel
theorem dX11_looked_43 : decode cX11_looked 43 = .ok (.aload_n 0, 1) := by decide +kernel
theorem dX11_looked_44 : decode cX11_looked 44 = .ok (.aload_n 0, 1) := by decide +kernel
theorem dX11_looked_45 : decode cX11_looked 45 = .ok (.getfield 12, 3) := by decide +kernel
theorem dX11_looked_48 : decode cX11_looked 48 = .ok (.getfield 210, 3) := by decide +kernel
theorem dX11_looked_51 : decode cX11_looked 51 = .ok (.iload_n 1, 1) := by decide +kernel
theorem dX11_looked_52 : decode cX11_looked 52 = .ok (.iaload, 1) := by decide +kernel
theorem dX11_looked_53 : decode cX11_looked 53 = .ok (.aload_n 2, 1) := by decide +kernel
theorem dX11_looked_54 : decode cX11_looked 54 = .ok (.invokevirtual 174, 3) := by decide +kernel
theorem dX11_looked_57 : decode cX11_looked 57 = .ok (.aload_n 0, 1) := by decide +kernel
theorem dX11_looked_58 : decode cX11_looked 58 = .ok (.getfield 12, 3) := by decide +kernel
theorem dX11_looked_61 : decode cX11_looked 61 = .ok (.getfield 216, 3) := by decide +kernel
theorem dX11_looked_64 : decode cX11_looked 64 = .ok (.iload_n 1, 1) := by decide +kernel
theorem dX11_looked_65 : decode cX11_looked 65 = .ok (.iaload, 1) := by decide +kernel
theorem dX11_looked_66 : decode cX11_looked 66 = .ok (.if_icmp .eq 5, 3) := by decide +kernel
theorem dX11_looked_69 : decode cX11_looked 69 = .ok (.iload_n 1, 1) := by decide +kernel
theorem dX11_looked_70 : decode cX11_looked 70 = .ok (.ireturn, 1) := by decide +kernel
theorem dX11_looked_71 : decode cX11_looked 71 = .ok (.iinc 1 1, 3) := by decide +kernel
theorem dX11_looked_74 : decode cX11_looked 74 = .ok (.goto (-72), 3) := by decide +kernel
theorem dX11_looked_77 : decode cX11_looked 77 = .ok (.bipush (-5), 2) := by decide +kernel
theorem dX11_looked_79 : decode cX11_looked 79 = .ok (.ireturn, 1) := by decide +kernel
set_option maxRecDepth 20000 in
theorem ggX11_act_X10_chiefAt : GoodIn wsX11_act wsX10_chiefAt := goodIn_r _ [8, 9, 10, 110, 111, 112, 113, 114, 115, 116, 117, 118, 119, 120, 121, 122, 123, 124, 125, 126, 127, 128] (by decide +kernel) (by decide +kernel)
set_option maxRecDepth 20000 in
theorem gX11_act_X10_chiefAt : GoodIn wsX11_act (wsV RX11 101 RX10 yX10_chiefAt wsX10_chiefAt) := goodIn_app (goodIn_of _ (by decide +kernel)) ggX11_act_X10_chiefAt
set_option maxRecDepth 20000 in
theorem ggX11_act_X0_works : GoodIn wsX11_act wsX0_works := goodIn_r _ [15, 16, 17, 18, 19, 20, 21, 22, 23, 129, 130, 131, 132, 133, 134, 135, 136, 137, 138, 139, 140, 141, 142, 143, 144, 145, 146, 147, 148, 149, 150, 151, 152, 153, 154, 155, 156, 108, 109] (by decide +kernel) (by decide +kernel)
set_option maxRecDepth 20000 in
theorem gX11_act_X0_works : GoodIn wsX11_act (wsV RX11 231 RX0 yX0_works wsX0_works) := goodIn_app (goodIn_of _ (by decide +kernel)) ggX11_act_X0_works
set_option maxRecDepth 20000 in
theorem ggX11_act_X3_works : GoodIn wsX11_act wsX3_works := goodIn_r _ [30, 31, 32, 33, 18, 19, 20, 21, 22, 23, 129, 130, 131, 132, 133, 134, 135, 136, 137, 138, 139, 140, 141, 142, 143, 144, 145, 146, 147, 148, 149, 150, 151, 152, 153, 154, 155, 156, 108, 109] (by decide +kernel) (by decide +kernel)
set_option maxRecDepth 20000 in
theorem gX11_act_X3_works_u231X3 : GoodIn wsX11_act (va_wsO RX11 231 RX3 "ChiefGrades$Chief" ⟨"ChiefGrades$Chief", "works", "(ILChiefGrades$Trace;)I"⟩ yX3_works wsX3_works) := goodIn_app (goodIn_of _ (by decide +kernel)) ggX11_act_X3_works
set_option maxRecDepth 20000 in
theorem gX11_act_X0_works_u231X4 : GoodIn wsX11_act (va_wsU RX11 231 RX4 "ChiefGrades$Chief" ⟨"ChiefGrades$Chief", "works", "(ILChiefGrades$Trace;)I"⟩ yX0_works wsX0_works) := goodIn_app (goodIn_of _ (by decide +kernel)) ggX11_act_X0_works
set_option maxRecDepth 20000 in
theorem ggX11_act_X5_works : GoodIn wsX11_act wsX5_works := goodIn_r _ [38, 39, 18, 19, 20, 21, 22, 23, 40, 25, 41, 12, 14, 15, 16, 17, 108, 109, 129, 130, 131, 132, 133, 134, 135, 136, 137, 138, 139, 140, 141, 142, 143, 144, 145, 146, 147, 148, 149, 150, 151, 152, 153, 154, 155, 156] (by decide +kernel) (by decide +kernel)
set_option maxRecDepth 20000 in
theorem gX11_act_X5_works_u231X5 : GoodIn wsX11_act (va_wsO RX11 231 RX5 "ChiefGrades$Chief" ⟨"ChiefGrades$Chief", "works", "(ILChiefGrades$Trace;)I"⟩ yX5_works wsX5_works) := goodIn_app (goodIn_of _ (by decide +kernel)) ggX11_act_X5_works
set_option maxRecDepth 20000 in
theorem gX11_act_X5_works_u231X6 : GoodIn wsX11_act (va_wsO RX11 231 RX6 "ChiefGrades$Chief" ⟨"ChiefGrades$Chief", "works", "(ILChiefGrades$Trace;)I"⟩ yX5_works wsX5_works) := goodIn_app (goodIn_of _ (by decide +kernel)) ggX11_act_X5_works
set_option maxRecDepth 20000 in
theorem gX11_act_X0_works_u231X7 : GoodIn wsX11_act (va_wsU RX11 231 RX7 "ChiefGrades$Chief" ⟨"ChiefGrades$Chief", "works", "(ILChiefGrades$Trace;)I"⟩ yX0_works wsX0_works) := goodIn_app (goodIn_of _ (by decide +kernel)) ggX11_act_X0_works
set_option maxRecDepth 20000 in
theorem gX11_act_X0_works_u231X9 : GoodIn wsX11_act (va_wsU RX11 231 RX9 "ChiefGrades$Chief" ⟨"ChiefGrades$Chief", "works", "(ILChiefGrades$Trace;)I"⟩ yX0_works wsX0_works) := goodIn_app (goodIn_of _ (by decide +kernel)) ggX11_act_X0_works
set_option maxRecDepth 20000 in
theorem ggX11_act_X0_grades : GoodIn wsX11_act wsX0_grades := goodIn_r _ [48, 49, 17, 18, 19, 20, 21, 22, 23, 50, 12, 13, 14, 15, 16, 51, 25, 26, 27, 28, 29, 30, 31, 32, 33, 34, 35, 36, 37, 38, 39, 40, 41, 42, 43, 44, 129, 130, 131, 132, 133, 134, 135, 136, 137, 138, 139, 140, 141, 142, 143, 144, 145, 146, 147, 148, 149, 150, 151, 152, 153, 154, 155, 156, 108, 109] (by decide +kernel) (by decide +kernel)
set_option maxRecDepth 20000 in
theorem gX11_act_X0_grades : GoodIn wsX11_act (wsV RX11 235 RX0 yX0_grades wsX0_grades) := goodIn_app (goodIn_of _ (by decide +kernel)) ggX11_act_X0_grades
set_option maxRecDepth 20000 in
theorem ggX11_act_X9_grades : GoodIn wsX11_act wsX9_grades := goodIn_r _ [58, 59, 18, 19, 20, 21, 22, 23, 60, 53, 61, 46, 14, 48, 49, 17, 50, 12, 13, 15, 16, 51, 25, 26, 27, 28, 29, 30, 31, 32, 33, 34, 35, 36, 37, 38, 39, 40, 41, 42, 43, 44, 108, 109, 129, 130, 131, 132, 133, 134, 135, 136, 137, 138, 139, 140, 141, 142, 143, 144, 145, 146, 147, 148, 149, 150, 151, 152, 153, 154, 155, 156] (by decide +kernel) (by decide +kernel)
set_option maxRecDepth 20000 in
theorem gX11_act_X9_grades_u235X3 : GoodIn wsX11_act (va_wsO RX11 235 RX3 "ChiefGrades$Chief" ⟨"ChiefGrades$Chief", "grades", "(ILChiefGrades$Trace;)I"⟩ yX9_grades wsX9_grades) := goodIn_app (goodIn_of _ (by decide +kernel)) ggX11_act_X9_grades
set_option maxRecDepth 20000 in
theorem gX11_act_X0_grades_u235X4 : GoodIn wsX11_act (va_wsU RX11 235 RX4 "ChiefGrades$Chief" ⟨"ChiefGrades$Chief", "grades", "(ILChiefGrades$Trace;)I"⟩ yX0_grades wsX0_grades) := goodIn_app (goodIn_of _ (by decide +kernel)) ggX11_act_X0_grades
set_option maxRecDepth 20000 in
theorem gX11_act_X0_grades_u235X5 : GoodIn wsX11_act (va_wsU RX11 235 RX5 "ChiefGrades$Chief" ⟨"ChiefGrades$Chief", "grades", "(ILChiefGrades$Trace;)I"⟩ yX0_grades wsX0_grades) := goodIn_app (goodIn_of _ (by decide +kernel)) ggX11_act_X0_grades
set_option maxRecDepth 20000 in
theorem gX11_act_X0_grades_u235X6 : GoodIn wsX11_act (va_wsU RX11 235 RX6 "ChiefGrades$Chief" ⟨"ChiefGrades$Chief", "grades", "(ILChiefGrades$Trace;)I"⟩ yX0_grades wsX0_grades) := goodIn_app (goodIn_of _ (by decide +kernel)) ggX11_act_X0_grades
set_option maxRecDepth 20000 in
theorem ggX11_act_X7_grades : GoodIn wsX11_act wsX7_grades := goodIn_r _ [68, 69, 70, 71, 18, 19, 20, 21, 22, 23, 129, 130, 131, 132, 133, 134, 135, 136, 137, 138, 139, 140, 141, 142, 143, 144, 145, 146, 147, 148, 149, 150, 151, 152, 153, 154, 155, 156, 108, 109] (by decide +kernel) (by decide +kernel)
set_option maxRecDepth 20000 in
theorem gX11_act_X7_grades_u235X7 : GoodIn wsX11_act (va_wsO RX11 235 RX7 "ChiefGrades$Chief" ⟨"ChiefGrades$Chief", "grades", "(ILChiefGrades$Trace;)I"⟩ yX7_grades wsX7_grades) := goodIn_app (goodIn_of _ (by decide +kernel)) ggX11_act_X7_grades
set_option maxRecDepth 20000 in
theorem gX11_act_X9_grades_u235X9 : GoodIn wsX11_act (va_wsO RX11 235 RX9 "ChiefGrades$Chief" ⟨"ChiefGrades$Chief", "grades", "(ILChiefGrades$Trace;)I"⟩ yX9_grades wsX9_grades) := goodIn_app (goodIn_of _ (by decide +kernel)) ggX11_act_X9_grades
set_option maxRecDepth 20000 in
theorem ggX11_act_X0_levels : GoodIn wsX11_act wsX0_levels := goodIn_r _ [76, 17, 18, 19, 20, 21, 22, 23, 77, 46, 47, 14, 48, 49, 50, 12, 13, 15, 16, 51, 25, 26, 27, 28, 29, 30, 31, 32, 33, 34, 35, 36, 37, 38, 39, 40, 41, 42, 43, 44, 78, 53, 54, 55, 56, 57, 58, 59, 60, 61, 62, 63, 64, 65, 66, 67, 68, 69, 70, 71, 72, 108, 109, 129, 130, 131, 132, 133, 134, 135, 136, 137, 138, 139, 140, 141, 142, 143, 144, 145, 146, 147, 148, 149, 150, 151, 152, 153, 154, 155, 156] (by decide +kernel) (by decide +kernel)
set_option maxRecDepth 20000 in
theorem gX11_act_X0_levels : GoodIn wsX11_act (wsV RX11 238 RX0 yX0_levels wsX0_levels) := goodIn_app (goodIn_of _ (by decide +kernel)) ggX11_act_X0_levels
set_option maxRecDepth 20000 in
theorem gX11_act_X0_levels_u238X3 : GoodIn wsX11_act (va_wsU RX11 238 RX3 "ChiefGrades$Chief" ⟨"ChiefGrades$Chief", "levels", "(ILChiefGrades$Trace;)I"⟩ yX0_levels wsX0_levels) := goodIn_app (goodIn_of _ (by decide +kernel)) ggX11_act_X0_levels
set_option maxRecDepth 20000 in
theorem ggX11_act_X4_levels : GoodIn wsX11_act wsX4_levels := goodIn_r _ [86, 87, 18, 19, 20, 21, 22, 23, 88, 80, 89, 74, 14, 76, 17, 77, 46, 47, 48, 49, 50, 12, 13, 15, 16, 51, 25, 26, 27, 28, 29, 30, 31, 32, 33, 34, 35, 36, 37, 38, 39, 40, 41, 42, 43, 44, 78, 53, 54, 55, 56, 57, 58, 59, 60, 61, 62, 63, 64, 65, 66, 67, 68, 69, 70, 71, 72, 108, 109, 129, 130, 131, 132, 133, 134, 135, 136, 137, 138, 139, 140, 141, 142, 143, 144, 145, 146, 147, 148, 149, 150, 151, 152, 153, 154, 155, 156] (by decide +kernel) (by decide +kernel)
set_option maxRecDepth 20000 in
theorem gX11_act_X4_levels_u238X4 : GoodIn wsX11_act (va_wsO RX11 238 RX4 "ChiefGrades$Chief" ⟨"ChiefGrades$Chief", "levels", "(ILChiefGrades$Trace;)I"⟩ yX4_levels wsX4_levels) := goodIn_app (goodIn_of _ (by decide +kernel)) ggX11_act_X4_levels
set_option maxRecDepth 20000 in
theorem gX11_act_X0_levels_u238X5 : GoodIn wsX11_act (va_wsU RX11 238 RX5 "ChiefGrades$Chief" ⟨"ChiefGrades$Chief", "levels", "(ILChiefGrades$Trace;)I"⟩ yX0_levels wsX0_levels) := goodIn_app (goodIn_of _ (by decide +kernel)) ggX11_act_X0_levels
set_option maxRecDepth 20000 in
theorem ggX11_act_X6_levels : GoodIn wsX11_act wsX6_levels := goodIn_r _ [94, 95, 18, 19, 20, 21, 22, 23, 96, 97, 98, 36, 37, 38, 39, 40, 25, 41, 12, 14, 15, 16, 17, 108, 109, 129, 130, 131, 132, 133, 134, 135, 136, 137, 138, 139, 140, 141, 142, 143, 144, 145, 146, 147, 148, 149, 150, 151, 152, 153, 154, 155, 156] (by decide +kernel) (by decide +kernel)
set_option maxRecDepth 20000 in
theorem gX11_act_X6_levels_u238X6 : GoodIn wsX11_act (va_wsO RX11 238 RX6 "ChiefGrades$Chief" ⟨"ChiefGrades$Chief", "levels", "(ILChiefGrades$Trace;)I"⟩ yX6_levels wsX6_levels) := goodIn_app (goodIn_of _ (by decide +kernel)) ggX11_act_X6_levels
set_option maxRecDepth 20000 in
theorem gX11_act_X4_levels_u238X7 : GoodIn wsX11_act (va_wsO RX11 238 RX7 "ChiefGrades$Chief" ⟨"ChiefGrades$Chief", "levels", "(ILChiefGrades$Trace;)I"⟩ yX4_levels wsX4_levels) := goodIn_app (goodIn_of _ (by decide +kernel)) ggX11_act_X4_levels
set_option maxRecDepth 20000 in
theorem gX11_act_X0_levels_u238X9 : GoodIn wsX11_act (va_wsU RX11 238 RX9 "ChiefGrades$Chief" ⟨"ChiefGrades$Chief", "levels", "(ILChiefGrades$Trace;)I"⟩ yX0_levels wsX0_levels) := goodIn_app (goodIn_of _ (by decide +kernel)) ggX11_act_X0_levels
theorem dX11_act_0 : decode cX11_act 0 = .ok (.aload_n 0, 1) := by decide +kernel
theorem dX11_act_1 : decode cX11_act 1 = .ok (.getfield 34, 3) := by decide +kernel
theorem dX11_act_4 : decode cX11_act 4 = .ok (.iconst 0, 1) := by decide +kernel
theorem dX11_act_5 : decode cX11_act 5 = .ok (.putfield 228, 3) := by decide +kernel
theorem dX11_act_8 : decode cX11_act 8 = .ok (.aload_n 0, 1) := by decide +kernel
theorem dX11_act_9 : decode cX11_act 9 = .ok (.getfield 12, 3) := by decide +kernel
theorem dX11_act_12 : decode cX11_act 12 = .ok (.iload_n 1, 1) := by decide +kernel
theorem dX11_act_13 : decode cX11_act 13 = .ok (.invokevirtual 101, 3) := by decide +kernel
theorem dX11_act_16 : decode cX11_act 16 = .ok (.astore 4, 2) := by decide +kernel
theorem dX11_act_18 : decode cX11_act 18 = .ok (.aload 4, 2) := by decide +kernel
theorem dX11_act_20 : decode cX11_act 20 = .ok (.ifnonnull 5, 3) := by decide +kernel
theorem dX11_act_23 : decode cX11_act 23 = .ok (.iconst 0, 1) := by decide +kernel
theorem dX11_act_24 : decode cX11_act 24 = .ok (.ireturn, 1) := by decide +kernel
theorem dX11_act_25 : decode cX11_act 25 = .ok (.iload_n 2, 1) := by decide +kernel
theorem dX11_act_26 : decode cX11_act 26 = .ok (.tableswitch 59 0 2 #[26, 37, 48], 26) := by decide +kernel
theorem dX11_act_52 : decode cX11_act 52 = .ok (.aload 4, 2) := by decide +kernel
theorem dX11_act_54 : decode cX11_act 54 = .ok (.iload_n 3, 1) := by decide +kernel
theorem dX11_act_55 : decode cX11_act 55 = .ok (.aload_n 0, 1) := by decide +kernel
theorem dX11_act_56 : decode cX11_act 56 = .ok (.getfield 34, 3) := by decide +kernel
theorem dX11_act_59 : decode cX11_act 59 = .ok (.invokevirtual 231, 3) := by decide +kernel
theorem dX11_act_62 : decode cX11_act 62 = .ok (.ireturn, 1) := by decide +kernel
theorem dX11_act_63 : decode cX11_act 63 = .ok (.aload 4, 2) := by decide +kernel
theorem dX11_act_65 : decode cX11_act 65 = .ok (.iload_n 3, 1) := by decide +kernel
theorem dX11_act_66 : decode cX11_act 66 = .ok (.aload_n 0, 1) := by decide +kernel
theorem dX11_act_67 : decode cX11_act 67 = .ok (.getfield 34, 3) := by decide +kernel
theorem dX11_act_70 : decode cX11_act 70 = .ok (.invokevirtual 235, 3) := by decide +kernel
theorem dX11_act_73 : decode cX11_act 73 = .ok (.ireturn, 1) := by decide +kernel
theorem dX11_act_74 : decode cX11_act 74 = .ok (.aload 4, 2) := by decide +kernel
theorem dX11_act_76 : decode cX11_act 76 = .ok (.iload_n 3, 1) := by decide +kernel
theorem dX11_act_77 : decode cX11_act 77 = .ok (.aload_n 0, 1) := by decide +kernel
theorem dX11_act_78 : decode cX11_act 78 = .ok (.getfield 34, 3) := by decide +kernel
theorem dX11_act_81 : decode cX11_act 81 = .ok (.invokevirtual 238, 3) := by decide +kernel
theorem dX11_act_84 : decode cX11_act 84 = .ok (.ireturn, 1) := by decide +kernel
theorem dX11_act_85 : decode cX11_act 85 = .ok (.iconst 0, 1) := by decide +kernel
theorem dX11_act_86 : decode cX11_act 86 = .ok (.ireturn, 1) := by decide +kernel
theorem dX11_trace_0 : decode cX11_trace 0 = .ok (.iload_n 1, 1) := by decide +kernel
theorem dX11_trace_1 : decode cX11_trace 1 = .ok (.ifCond .lt 20, 3) := by decide +kernel
theorem dX11_trace_4 : decode cX11_trace 4 = .ok (.iload_n 1, 1) := by decide +kernel
theorem dX11_trace_5 : decode cX11_trace 5 = .ok (.aload_n 0, 1) := by decide +kernel
theorem dX11_trace_6 : decode cX11_trace 6 = .ok (.getfield 34, 3) := by decide +kernel
theorem dX11_trace_9 : decode cX11_trace 9 = .ok (.getfield 228, 3) := by decide +kernel
theorem dX11_trace_12 : decode cX11_trace 12 = .ok (.if_icmp .ge 9, 3) := by decide +kernel
theorem dX11_trace_15 : decode cX11_trace 15 = .ok (.iload_n 1, 1) := by decide +kernel
theorem dX11_trace_16 : decode cX11_trace 16 = .ok (.bipush 20, 2) := by decide +kernel
theorem dX11_trace_18 : decode cX11_trace 18 = .ok (.if_icmp .lt 7, 3) := by decide +kernel
theorem dX11_trace_21 : decode cX11_trace 21 = .ok (.iconst (-1), 1) := by decide +kernel
theorem dX11_trace_22 : decode cX11_trace 22 = .ok (.goto 12, 3) := by decide +kernel
theorem dX11_trace_25 : decode cX11_trace 25 = .ok (.aload_n 0, 1) := by decide +kernel
theorem dX11_trace_26 : decode cX11_trace 26 = .ok (.getfield 34, 3) := by decide +kernel
theorem dX11_trace_29 : decode cX11_trace 29 = .ok (.getfield 241, 3) := by decide +kernel
theorem dX11_trace_32 : decode cX11_trace 32 = .ok (.iload_n 1, 1) := by decide +kernel
theorem dX11_trace_33 : decode cX11_trace 33 = .ok (.iaload, 1) := by decide +kernel
theorem dX11_trace_34 : decode cX11_trace 34 = .ok (.ireturn, 1) := by decide +kernel
set_option maxRecDepth 20000 in
theorem ggX11_as_X10_chiefAt : GoodIn wsX11_as wsX10_chiefAt := goodIn_r _ [7, 8, 9, 64, 65, 66, 67, 68, 69, 70, 71, 72, 73, 74, 75, 76, 77, 78, 79, 80, 81, 82] (by decide +kernel) (by decide +kernel)
set_option maxRecDepth 20000 in
theorem gX11_as_X10_chiefAt : GoodIn wsX11_as (wsV RX11 101 RX10 yX10_chiefAt wsX10_chiefAt) := goodIn_app (goodIn_of _ (by decide +kernel)) ggX11_as_X10_chiefAt
set_option maxRecDepth 20000 in
theorem ggX11_as_X0_isOfKind : GoodIn wsX11_as wsX0_isOfKind := goodIn_r _ [14, 15, 16, 17, 18, 19, 20] (by decide +kernel) (by decide +kernel)
set_option maxRecDepth 20000 in
theorem gX11_as_X0_isOfKind : GoodIn wsX11_as (wsV RX11 244 RX0 yX0_isOfKind wsX0_isOfKind) := goodIn_app (goodIn_of _ (by decide +kernel)) ggX11_as_X0_isOfKind
set_option maxRecDepth 20000 in
theorem gX11_as_X0_isOfKind_u244X3 : GoodIn wsX11_as (va_wsU RX11 244 RX3 "ChiefGrades$Chief" ⟨"ChiefGrades$Chief", "isOfKind", "(I)Z"⟩ yX0_isOfKind wsX0_isOfKind) := goodIn_app (goodIn_of _ (by decide +kernel)) ggX11_as_X0_isOfKind
set_option maxRecDepth 20000 in
theorem gX11_as_X0_isOfKind_u244X4 : GoodIn wsX11_as (va_wsU RX11 244 RX4 "ChiefGrades$Chief" ⟨"ChiefGrades$Chief", "isOfKind", "(I)Z"⟩ yX0_isOfKind wsX0_isOfKind) := goodIn_app (goodIn_of _ (by decide +kernel)) ggX11_as_X0_isOfKind
set_option maxRecDepth 20000 in
theorem gX11_as_X0_isOfKind_u244X5 : GoodIn wsX11_as (va_wsU RX11 244 RX5 "ChiefGrades$Chief" ⟨"ChiefGrades$Chief", "isOfKind", "(I)Z"⟩ yX0_isOfKind wsX0_isOfKind) := goodIn_app (goodIn_of _ (by decide +kernel)) ggX11_as_X0_isOfKind
set_option maxRecDepth 20000 in
theorem gX11_as_X0_isOfKind_u244X6 : GoodIn wsX11_as (va_wsU RX11 244 RX6 "ChiefGrades$Chief" ⟨"ChiefGrades$Chief", "isOfKind", "(I)Z"⟩ yX0_isOfKind wsX0_isOfKind) := goodIn_app (goodIn_of _ (by decide +kernel)) ggX11_as_X0_isOfKind
set_option maxRecDepth 20000 in
theorem gX11_as_X0_isOfKind_u244X7 : GoodIn wsX11_as (va_wsU RX11 244 RX7 "ChiefGrades$Chief" ⟨"ChiefGrades$Chief", "isOfKind", "(I)Z"⟩ yX0_isOfKind wsX0_isOfKind) := goodIn_app (goodIn_of _ (by decide +kernel)) ggX11_as_X0_isOfKind
set_option maxRecDepth 20000 in
theorem gX11_as_X0_isOfKind_u244X9 : GoodIn wsX11_as (va_wsU RX11 244 RX9 "ChiefGrades$Chief" ⟨"ChiefGrades$Chief", "isOfKind", "(I)Z"⟩ yX0_isOfKind wsX0_isOfKind) := goodIn_app (goodIn_of _ (by decide +kernel)) ggX11_as_X0_isOfKind
theorem dX11_as_0 : decode cX11_as 0 = .ok (.aload_n 0, 1) := by decide +kernel
theorem dX11_as_1 : decode cX11_as 1 = .ok (.getfield 12, 3) := by decide +kernel
theorem dX11_as_4 : decode cX11_as 4 = .ok (.iload_n 1, 1) := by decide +kernel
theorem dX11_as_5 : decode cX11_as 5 = .ok (.invokevirtual 101, 3) := by decide +kernel
theorem dX11_as_8 : decode cX11_as 8 = .ok (.astore_n 3, 1) := by decide +kernel
theorem dX11_as_9 : decode cX11_as 9 = .ok (.aload_n 3, 1) := by decide +kernel
theorem dX11_as_10 : decode cX11_as 10 = .ok (.ifnull 13, 3) := by decide +kernel
theorem dX11_as_13 : decode cX11_as 13 = .ok (.iload_n 2, 1) := by decide +kernel
theorem dX11_as_14 : decode cX11_as 14 = .ok (.ifCond .lt 9, 3) := by decide +kernel
theorem dX11_as_17 : decode cX11_as 17 = .ok (.iload_n 2, 1) := by decide +kernel
theorem dX11_as_18 : decode cX11_as 18 = .ok (.bipush 7, 2) := by decide +kernel
theorem dX11_as_20 : decode cX11_as 20 = .ok (.if_icmp .lt 5, 3) := by decide +kernel
theorem dX11_as_23 : decode cX11_as 23 = .ok (.iconst (-1), 1) := by decide +kernel
theorem dX11_as_24 : decode cX11_as 24 = .ok (.ireturn, 1) := by decide +kernel
theorem dX11_as_25 : decode cX11_as 25 = .ok (.aload_n 3, 1) := by decide +kernel
theorem dX11_as_26 : decode cX11_as 26 = .ok (.iload_n 2, 1) := by decide +kernel
theorem dX11_as_27 : decode cX11_as 27 = .ok (.invokevirtual 244, 3) := by decide +kernel
theorem dX11_as_30 : decode cX11_as 30 = .ok (.ifCond .eq 10, 3) := by decide +kernel
theorem dX11_as_33 : decode cX11_as 33 = .ok (.aload_n 3, 1) := by decide +kernel
theorem dX11_as_34 : decode cX11_as 34 = .ok (.getfield 147, 3) := by decide +kernel
theorem dX11_as_37 : decode cX11_as 37 = .ok (.goto 5, 3) := by decide +kernel
theorem dX11_as_40 : decode cX11_as 40 = .ok (.bipush (-6), 2) := by decide +kernel
theorem dX11_as_42 : decode cX11_as 42 = .ok (.ireturn, 1) := by decide +kernel
set_option maxRecDepth 20000 in
theorem ggX11_image_X10_become : GoodIn wsX11_image wsX10_become := goodIn_r _ [9, 10, 11, 12, 13, 14, 15, 16, 17, 18, 19, 20, 21, 22, 23, 24, 25, 26, 27, 28, 29, 30, 31, 32, 40, 41, 42, 43, 44, 45, 46, 47, 48, 49, 50, 51, 52, 53, 54, 55, 56, 57, 58] (by decide +kernel) (by decide +kernel)
set_option maxRecDepth 20000 in
theorem gX11_image_X10_become : GoodIn wsX11_image (wsV RX11 185 RX10 yX10_become wsX10_become) := goodIn_app (goodIn_of _ (by decide +kernel)) ggX11_image_X10_become
theorem dX11_image_0 : decode cX11_image 0 = .ok (.aload_n 0, 1) := by decide +kernel
theorem dX11_image_1 : decode cX11_image 1 = .ok (.getfield 21, 3) := by decide +kernel
theorem dX11_image_4 : decode cX11_image 4 = .ok (.aload_n 0, 1) := by decide +kernel
theorem dX11_image_5 : decode cX11_image 5 = .ok (.getfield 12, 3) := by decide +kernel
theorem dX11_image_8 : decode cX11_image 8 = .ok (.invokevirtual 185, 3) := by decide +kernel
theorem dX11_image_11 : decode cX11_image 11 = .ok (.aload_n 0, 1) := by decide +kernel
theorem dX11_image_12 : decode cX11_image 12 = .ok (.iconst 1, 1) := by decide +kernel
theorem dX11_image_13 : decode cX11_image 13 = .ok (.putfield 247, 3) := by decide +kernel
theorem dX11_image_16 : decode cX11_image 16 = .ok (.aload_n 0, 1) := by decide +kernel
theorem dX11_image_17 : decode cX11_image 17 = .ok (.getfield 12, 3) := by decide +kernel
theorem dX11_image_20 : decode cX11_image 20 = .ok (.getfield 105, 3) := by decide +kernel
theorem dX11_image_23 : decode cX11_image 23 = .ok (.ireturn, 1) := by decide +kernel
set_option maxRecDepth 20000 in
theorem ggX11_undo_X10_become : GoodIn wsX11_undo wsX10_become := goodIn_r _ [9, 10, 11, 12, 13, 14, 15, 16, 17, 18, 19, 20, 21, 22, 23, 24, 25, 26, 27, 28, 29, 30, 31, 32, 40, 41, 42, 43, 44, 45, 46, 47, 48, 49, 50, 51, 52, 53, 54, 55, 56, 57, 58] (by decide +kernel) (by decide +kernel)
set_option maxRecDepth 20000 in
theorem gX11_undo_X10_become : GoodIn wsX11_undo (wsV RX11 185 RX10 yX10_become wsX10_become) := goodIn_app (goodIn_of _ (by decide +kernel)) ggX11_undo_X10_become
theorem dX11_undo_0 : decode cX11_undo 0 = .ok (.aload_n 0, 1) := by decide +kernel
theorem dX11_undo_1 : decode cX11_undo 1 = .ok (.getfield 247, 3) := by decide +kernel
theorem dX11_undo_4 : decode cX11_undo 4 = .ok (.ifCond .ne 6, 3) := by decide +kernel
theorem dX11_undo_7 : decode cX11_undo 7 = .ok (.bipush (-3), 2) := by decide +kernel
theorem dX11_undo_9 : decode cX11_undo 9 = .ok (.ireturn, 1) := by decide +kernel
theorem dX11_undo_10 : decode cX11_undo 10 = .ok (.aload_n 0, 1) := by decide +kernel
theorem dX11_undo_11 : decode cX11_undo 11 = .ok (.getfield 12, 3) := by decide +kernel
theorem dX11_undo_14 : decode cX11_undo 14 = .ok (.aload_n 0, 1) := by decide +kernel
theorem dX11_undo_15 : decode cX11_undo 15 = .ok (.getfield 21, 3) := by decide +kernel
theorem dX11_undo_18 : decode cX11_undo 18 = .ok (.invokevirtual 185, 3) := by decide +kernel
theorem dX11_undo_21 : decode cX11_undo 21 = .ok (.aload_n 0, 1) := by decide +kernel
theorem dX11_undo_22 : decode cX11_undo 22 = .ok (.getfield 12, 3) := by decide +kernel
theorem dX11_undo_25 : decode cX11_undo 25 = .ok (.getfield 105, 3) := by decide +kernel
theorem dX11_undo_28 : decode cX11_undo 28 = .ok (.ireturn, 1) := by decide +kernel
theorem dX11_count_0 : decode cX11_count 0 = .ok (.iload_n 1, 1) := by decide +kernel
theorem dX11_count_1 : decode cX11_count 1 = .ok (.tableswitch 87 0 5 #[39, 47, 55, 63, 71, 79], 39) := by decide +kernel
theorem dX11_count_40 : decode cX11_count 40 = .ok (.aload_n 0, 1) := by decide +kernel
theorem dX11_count_41 : decode cX11_count 41 = .ok (.getfield 12, 3) := by decide +kernel
theorem dX11_count_44 : decode cX11_count 44 = .ok (.getfield 105, 3) := by decide +kernel
theorem dX11_count_47 : decode cX11_count 47 = .ok (.ireturn, 1) := by decide +kernel
theorem dX11_count_48 : decode cX11_count 48 = .ok (.aload_n 0, 1) := by decide +kernel
theorem dX11_count_49 : decode cX11_count 49 = .ok (.getfield 12, 3) := by decide +kernel
theorem dX11_count_52 : decode cX11_count 52 = .ok (.getfield 88, 3) := by decide +kernel
theorem dX11_count_55 : decode cX11_count 55 = .ok (.ireturn, 1) := by decide +kernel
theorem dX11_count_56 : decode cX11_count 56 = .ok (.aload_n 0, 1) := by decide +kernel
theorem dX11_count_57 : decode cX11_count 57 = .ok (.getfield 12, 3) := by decide +kernel
theorem dX11_count_60 : decode cX11_count 60 = .ok (.getfield 50, 3) := by decide +kernel
theorem dX11_count_63 : decode cX11_count 63 = .ok (.ireturn, 1) := by decide +kernel
theorem dX11_count_64 : decode cX11_count 64 = .ok (.aload_n 0, 1) := by decide +kernel
theorem dX11_count_65 : decode cX11_count 65 = .ok (.getfield 12, 3) := by decide +kernel
theorem dX11_count_68 : decode cX11_count 68 = .ok (.getfield 207, 3) := by decide +kernel
theorem dX11_count_71 : decode cX11_count 71 = .ok (.ireturn, 1) := by decide +kernel
theorem dX11_count_72 : decode cX11_count 72 = .ok (.aload_n 0, 1) := by decide +kernel
theorem dX11_count_73 : decode cX11_count 73 = .ok (.getfield 12, 3) := by decide +kernel
theorem dX11_count_76 : decode cX11_count 76 = .ok (.getfield 42, 3) := by decide +kernel
theorem dX11_count_79 : decode cX11_count 79 = .ok (.ireturn, 1) := by decide +kernel
theorem dX11_count_80 : decode cX11_count 80 = .ok (.aload_n 0, 1) := by decide +kernel
theorem dX11_count_81 : decode cX11_count 81 = .ok (.getfield 34, 3) := by decide +kernel
theorem dX11_count_84 : decode cX11_count 84 = .ok (.getfield 228, 3) := by decide +kernel
theorem dX11_count_87 : decode cX11_count 87 = .ok (.ireturn, 1) := by decide +kernel
theorem dX11_count_88 : decode cX11_count 88 = .ok (.iconst (-1), 1) := by decide +kernel
theorem dX11_count_89 : decode cX11_count 89 = .ok (.ireturn, 1) := by decide +kernel
theorem dX11_isWithin_0 : decode cX11_isWithin 0 = .ok (.iload_n 0, 1) := by decide +kernel
theorem dX11_isWithin_1 : decode cX11_isWithin 1 = .ok (.ifCond .lt 12, 3) := by decide +kernel
theorem dX11_isWithin_4 : decode cX11_isWithin 4 = .ok (.iload_n 0, 1) := by decide +kernel
theorem dX11_isWithin_5 : decode cX11_isWithin 5 = .ok (.iload_n 1, 1) := by decide +kernel
theorem dX11_isWithin_6 : decode cX11_isWithin 6 = .ok (.if_icmp .gt 7, 3) := by decide +kernel
theorem dX11_isWithin_9 : decode cX11_isWithin 9 = .ok (.iconst 1, 1) := by decide +kernel
theorem dX11_isWithin_10 : decode cX11_isWithin 10 = .ok (.goto 4, 3) := by decide +kernel
theorem dX11_isWithin_13 : decode cX11_isWithin 13 = .ok (.iconst 0, 1) := by decide +kernel
theorem dX11_isWithin_14 : decode cX11_isWithin 14 = .ok (.ireturn, 1) := by decide +kernel
set_option maxRecDepth 20000 in
theorem ggX11_gradeUnder_X10_become : GoodIn wsX11_gradeUnder wsX10_become := goodIn_r _ [10, 11, 12, 13, 14, 15, 16, 17, 18, 19, 20, 21, 22, 23, 24, 25, 26, 27, 28, 29, 30, 31, 32, 33, 198, 199, 200, 201, 202, 203, 204, 205, 206, 207, 208, 209, 210, 211, 212, 213, 214, 215, 216] (by decide +kernel) (by decide +kernel)
set_option maxRecDepth 20000 in
theorem gX11_gradeUnder_X10_become : GoodIn wsX11_gradeUnder (wsV RX11 185 RX10 yX10_become wsX10_become) := goodIn_app (goodIn_of _ (by decide +kernel)) ggX11_gradeUnder_X10_become
set_option maxRecDepth 20000 in
theorem ggX11_gradeUnder_X1_gradeHad : GoodIn wsX11_gradeUnder wsX1_gradeHad := goodIn_r _ [38, 39, 40, 41, 42, 43, 9, 44, 11, 45, 46, 47, 48, 12, 33, 49, 50, 51, 37, 52, 53, 54, 55, 56, 57, 26, 58, 59, 60, 61, 62, 63, 64, 65, 66, 67, 68, 69, 70, 71, 72, 73, 74, 75, 76, 77, 78, 79, 80, 81, 82, 83, 84, 85, 86, 87, 88, 89, 90, 91, 92, 93, 94, 95, 96, 97, 98, 99, 100, 101, 102, 103, 104, 105, 106, 107, 108, 109, 110, 111, 112, 113, 114, 115, 116, 117, 118, 119, 120, 121, 122, 123, 124, 125, 126, 127, 128, 129, 130, 131, 132, 133, 134, 135, 136, 137, 138, 139, 140, 141, 142, 143, 144, 145, 146, 147, 148, 149, 150, 151, 152, 153, 154, 155, 156, 157, 158, 159, 160, 161, 162, 163, 164, 165, 166, 167, 168, 169, 170, 171, 172, 173, 174, 175, 176, 177, 178, 179, 180, 181, 182, 183, 184, 185, 186, 187, 188, 189, 190, 198, 199, 200, 201, 202, 203, 204, 205, 206, 207, 208, 209, 210, 211, 212, 213, 214, 215, 216, 245, 246, 247, 248, 249, 250, 251, 217, 218, 219, 220, 221, 222, 223, 224, 225, 226, 227, 228, 229, 230, 231, 232, 233, 234, 235, 236, 237, 238, 239, 240, 241, 242, 243, 244, 252, 253, 254, 255, 256, 257, 258, 259, 260, 261, 262] (by decide +kernel) (by decide +kernel)
set_option maxRecDepth 20000 in
theorem gX11_gradeUnder_X1_gradeHad : GoodIn wsX11_gradeUnder (wsV RX11 130 RX1 yX1_gradeHad wsX1_gradeHad) := goodIn_app (goodIn_of _ (by decide +kernel)) ggX11_gradeUnder_X1_gradeHad
theorem dX11_gradeUnder_0 : decode cX11_gradeUnder 0 = .ok (.aload_n 0, 1) := by decide +kernel
theorem dX11_gradeUnder_1 : decode cX11_gradeUnder 1 = .ok (.getfield 18, 3) := by decide +kernel
theorem dX11_gradeUnder_4 : decode cX11_gradeUnder 4 = .ok (.aload_n 0, 1) := by decide +kernel
theorem dX11_gradeUnder_5 : decode cX11_gradeUnder 5 = .ok (.getfield 12, 3) := by decide +kernel
theorem dX11_gradeUnder_8 : decode cX11_gradeUnder 8 = .ok (.invokevirtual 185, 3) := by decide +kernel
theorem dX11_gradeUnder_11 : decode cX11_gradeUnder 11 = .ok (.aload_n 0, 1) := by decide +kernel
theorem dX11_gradeUnder_12 : decode cX11_gradeUnder 12 = .ok (.getfield 18, 3) := by decide +kernel
theorem dX11_gradeUnder_15 : decode cX11_gradeUnder 15 = .ok (.getfield 114, 3) := by decide +kernel
theorem dX11_gradeUnder_18 : decode cX11_gradeUnder 18 = .ok (.iload_n 1, 1) := by decide +kernel
theorem dX11_gradeUnder_19 : decode cX11_gradeUnder 19 = .ok (.aload_n 2, 1) := by decide +kernel
theorem dX11_gradeUnder_20 : decode cX11_gradeUnder 20 = .ok (.getfield 178, 3) := by decide +kernel
theorem dX11_gradeUnder_23 : decode cX11_gradeUnder 23 = .ok (.iastore, 1) := by decide +kernel
theorem dX11_gradeUnder_24 : decode cX11_gradeUnder 24 = .ok (.aload_n 0, 1) := by decide +kernel
theorem dX11_gradeUnder_25 : decode cX11_gradeUnder 25 = .ok (.getfield 27, 3) := by decide +kernel
theorem dX11_gradeUnder_28 : decode cX11_gradeUnder 28 = .ok (.aload_n 0, 1) := by decide +kernel
theorem dX11_gradeUnder_29 : decode cX11_gradeUnder 29 = .ok (.getfield 18, 3) := by decide +kernel
theorem dX11_gradeUnder_32 : decode cX11_gradeUnder 32 = .ok (.iload_n 1, 1) := by decide +kernel
theorem dX11_gradeUnder_33 : decode cX11_gradeUnder 33 = .ok (.invokevirtual 130, 3) := by decide +kernel
theorem dX11_gradeUnder_36 : decode cX11_gradeUnder 36 = .ok (.ireturn, 1) := by decide +kernel
set_option maxRecDepth 20000 in
theorem ggX11_bothGain_X10_hasWorker : GoodIn wsX11_bothGain wsX10_hasWorker := goodIn_r _ [9, 10, 180, 181, 182, 183, 184, 185, 186, 187, 188, 189, 190, 191, 192, 193, 194, 195, 196, 197, 198] (by decide +kernel) (by decide +kernel)
set_option maxRecDepth 20000 in
theorem gX11_bothGain_X10_hasWorker : GoodIn wsX11_bothGain (wsV RX11 122 RX10 yX10_hasWorker wsX10_hasWorker) := goodIn_app (goodIn_of _ (by decide +kernel)) ggX11_bothGain_X10_hasWorker
set_option maxRecDepth 20000 in
theorem ggX11_bothGain_X10_exchange : GoodIn wsX11_bothGain wsX10_exchange := goodIn_r _ [14, 15, 16, 180, 181, 182, 183, 184, 185, 186, 187, 188, 189, 190, 191, 192, 193, 194, 195, 196, 197, 198] (by decide +kernel) (by decide +kernel)
set_option maxRecDepth 20000 in
theorem gX11_bothGain_X10_exchange : GoodIn wsX11_bothGain (wsV RX11 251 RX10 yX10_exchange wsX10_exchange) := goodIn_app (goodIn_of _ (by decide +kernel)) ggX11_bothGain_X10_exchange
set_option maxRecDepth 20000 in
theorem ggX11_bothGain_X1_gradeHad : GoodIn wsX11_bothGain wsX1_gradeHad := goodIn_r _ [21, 22, 23, 24, 6, 7, 8, 9, 10, 25, 26, 27, 28, 29, 30, 31, 32, 33, 20, 34, 35, 36, 37, 38, 39, 15, 40, 41, 42, 43, 44, 45, 46, 47, 48, 49, 50, 51, 52, 53, 54, 55, 56, 57, 58, 59, 60, 61, 62, 63, 64, 65, 66, 67, 68, 69, 70, 71, 72, 73, 74, 75, 76, 77, 78, 79, 80, 81, 82, 83, 84, 85, 86, 87, 88, 89, 90, 91, 92, 93, 94, 95, 96, 97, 98, 99, 100, 101, 102, 103, 104, 105, 106, 107, 108, 109, 110, 111, 112, 113, 114, 115, 116, 117, 118, 119, 120, 121, 122, 123, 124, 125, 126, 127, 128, 129, 130, 131, 132, 133, 134, 135, 136, 137, 138, 139, 140, 141, 142, 143, 144, 145, 146, 147, 148, 149, 150, 151, 152, 153, 154, 155, 156, 157, 158, 159, 160, 161, 162, 163, 164, 165, 166, 167, 168, 169, 170, 171, 172, 180, 181, 182, 183, 184, 185, 186, 187, 188, 189, 190, 191, 192, 193, 194, 195, 196, 197, 198, 199, 200, 201, 202, 203, 204, 205, 206, 207, 208, 209, 210, 211, 212, 213, 214, 215, 216, 217, 218, 219, 220, 221, 222, 223, 224, 225, 226, 227, 228, 229, 230, 231, 232, 233, 234, 235, 236, 237, 238, 239, 240, 241, 242, 243, 244] (by decide +kernel) (by decide +kernel)
set_option maxRecDepth 20000 in
theorem gX11_bothGain_X1_gradeHad : GoodIn wsX11_bothGain (wsV RX11 130 RX1 yX1_gradeHad wsX1_gradeHad) := goodIn_app (goodIn_of _ (by decide +kernel)) ggX11_bothGain_X1_gradeHad
theorem dX11_bothGain_0 : decode cX11_bothGain 0 = .ok (.aload_n 0, 1) := by decide +kernel
theorem dX11_bothGain_1 : decode cX11_bothGain 1 = .ok (.getfield 18, 3) := by decide +kernel
theorem dX11_bothGain_4 : decode cX11_bothGain 4 = .ok (.iload_n 1, 1) := by decide +kernel
theorem dX11_bothGain_5 : decode cX11_bothGain 5 = .ok (.invokevirtual 122, 3) := by decide +kernel
theorem dX11_bothGain_8 : decode cX11_bothGain 8 = .ok (.ifCond .eq 14, 3) := by decide +kernel
theorem dX11_bothGain_11 : decode cX11_bothGain 11 = .ok (.aload_n 0, 1) := by decide +kernel
theorem dX11_bothGain_12 : decode cX11_bothGain 12 = .ok (.getfield 18, 3) := by decide +kernel
theorem dX11_bothGain_15 : decode cX11_bothGain 15 = .ok (.iload_n 2, 1) := by decide +kernel
theorem dX11_bothGain_16 : decode cX11_bothGain 16 = .ok (.invokevirtual 122, 3) := by decide +kernel
theorem dX11_bothGain_19 : decode cX11_bothGain 19 = .ok (.ifCond .ne 5, 3) := by decide +kernel
theorem dX11_bothGain_22 : decode cX11_bothGain 22 = .ok (.iconst 0, 1) := by decide +kernel
theorem dX11_bothGain_23 : decode cX11_bothGain 23 = .ok (.ireturn, 1) := by decide +kernel
theorem dX11_bothGain_24 : decode cX11_bothGain 24 = .ok (.aload_n 0, 1) := by decide +kernel
theorem dX11_bothGain_25 : decode cX11_bothGain 25 = .ok (.getfield 18, 3) := by decide +kernel
theorem dX11_bothGain_28 : decode cX11_bothGain 28 = .ok (.getfield 114, 3) := by decide +kernel
theorem dX11_bothGain_31 : decode cX11_bothGain 31 = .ok (.iload_n 1, 1) := by decide +kernel
theorem dX11_bothGain_32 : decode cX11_bothGain 32 = .ok (.iaload, 1) := by decide +kernel
theorem dX11_bothGain_33 : decode cX11_bothGain 33 = .ok (.aload_n 0, 1) := by decide +kernel
theorem dX11_bothGain_34 : decode cX11_bothGain 34 = .ok (.getfield 18, 3) := by decide +kernel
theorem dX11_bothGain_37 : decode cX11_bothGain 37 = .ok (.getfield 114, 3) := by decide +kernel
theorem dX11_bothGain_40 : decode cX11_bothGain 40 = .ok (.iload_n 2, 1) := by decide +kernel
theorem dX11_bothGain_41 : decode cX11_bothGain 41 = .ok (.iaload, 1) := by decide +kernel
theorem dX11_bothGain_42 : decode cX11_bothGain 42 = .ok (.if_icmp .ne 5, 3) := by decide +kernel
theorem dX11_bothGain_45 : decode cX11_bothGain 45 = .ok (.iconst 0, 1) := by decide +kernel
theorem dX11_bothGain_46 : decode cX11_bothGain 46 = .ok (.ireturn, 1) := by decide +kernel
theorem dX11_bothGain_47 : decode cX11_bothGain 47 = .ok (.aload_n 0, 1) := by decide +kernel
theorem dX11_bothGain_48 : decode cX11_bothGain 48 = .ok (.getfield 18, 3) := by decide +kernel
theorem dX11_bothGain_51 : decode cX11_bothGain 51 = .ok (.iload_n 1, 1) := by decide +kernel
theorem dX11_bothGain_52 : decode cX11_bothGain 52 = .ok (.iload_n 2, 1) := by decide +kernel
theorem dX11_bothGain_53 : decode cX11_bothGain 53 = .ok (.invokevirtual 251, 3) := by decide +kernel
theorem dX11_bothGain_56 : decode cX11_bothGain 56 = .ok (.aload_n 0, 1) := by decide +kernel
theorem dX11_bothGain_57 : decode cX11_bothGain 57 = .ok (.getfield 27, 3) := by decide +kernel
theorem dX11_bothGain_60 : decode cX11_bothGain 60 = .ok (.aload_n 0, 1) := by decide +kernel
theorem dX11_bothGain_61 : decode cX11_bothGain 61 = .ok (.getfield 18, 3) := by decide +kernel
theorem dX11_bothGain_64 : decode cX11_bothGain 64 = .ok (.iload_n 1, 1) := by decide +kernel
theorem dX11_bothGain_65 : decode cX11_bothGain 65 = .ok (.invokevirtual 130, 3) := by decide +kernel
theorem dX11_bothGain_68 : decode cX11_bothGain 68 = .ok (.aload_n 0, 1) := by decide +kernel
theorem dX11_bothGain_69 : decode cX11_bothGain 69 = .ok (.getfield 38, 3) := by decide +kernel
theorem dX11_bothGain_72 : decode cX11_bothGain 72 = .ok (.iload_n 1, 1) := by decide +kernel
theorem dX11_bothGain_73 : decode cX11_bothGain 73 = .ok (.iaload, 1) := by decide +kernel
theorem dX11_bothGain_74 : decode cX11_bothGain 74 = .ok (.if_icmp .le 28, 3) := by decide +kernel
theorem dX11_bothGain_77 : decode cX11_bothGain 77 = .ok (.aload_n 0, 1) := by decide +kernel
theorem dX11_bothGain_78 : decode cX11_bothGain 78 = .ok (.getfield 27, 3) := by decide +kernel
theorem dX11_bothGain_81 : decode cX11_bothGain 81 = .ok (.aload_n 0, 1) := by decide +kernel
theorem dX11_bothGain_82 : decode cX11_bothGain 82 = .ok (.getfield 18, 3) := by decide +kernel
theorem dX11_bothGain_85 : decode cX11_bothGain 85 = .ok (.iload_n 2, 1) := by decide +kernel
theorem dX11_bothGain_86 : decode cX11_bothGain 86 = .ok (.invokevirtual 130, 3) := by decide +kernel
theorem dX11_bothGain_89 : decode cX11_bothGain 89 = .ok (.aload_n 0, 1) := by decide +kernel
theorem dX11_bothGain_90 : decode cX11_bothGain 90 = .ok (.getfield 38, 3) := by decide +kernel
theorem dX11_bothGain_93 : decode cX11_bothGain 93 = .ok (.iload_n 2, 1) := by decide +kernel
theorem dX11_bothGain_94 : decode cX11_bothGain 94 = .ok (.iaload, 1) := by decide +kernel
theorem dX11_bothGain_95 : decode cX11_bothGain 95 = .ok (.if_icmp .le 7, 3) := by decide +kernel
theorem dX11_bothGain_98 : decode cX11_bothGain 98 = .ok (.iconst 1, 1) := by decide +kernel
theorem dX11_bothGain_99 : decode cX11_bothGain 99 = .ok (.goto 4, 3) := by decide +kernel
theorem dX11_bothGain_102 : decode cX11_bothGain 102 = .ok (.iconst 0, 1) := by decide +kernel
theorem dX11_bothGain_103 : decode cX11_bothGain 103 = .ok (.istore_n 3, 1) := by decide +kernel
theorem dX11_bothGain_104 : decode cX11_bothGain 104 = .ok (.aload_n 0, 1) := by decide +kernel
theorem dX11_bothGain_105 : decode cX11_bothGain 105 = .ok (.getfield 18, 3) := by decide +kernel
theorem dX11_bothGain_108 : decode cX11_bothGain 108 = .ok (.iload_n 1, 1) := by decide +kernel
theorem dX11_bothGain_109 : decode cX11_bothGain 109 = .ok (.iload_n 2, 1) := by decide +kernel
theorem dX11_bothGain_110 : decode cX11_bothGain 110 = .ok (.invokevirtual 251, 3) := by decide +kernel
theorem dX11_bothGain_113 : decode cX11_bothGain 113 = .ok (.iload_n 3, 1) := by decide +kernel
theorem dX11_bothGain_114 : decode cX11_bothGain 114 = .ok (.ireturn, 1) := by decide +kernel
set_option maxRecDepth 20000 in
theorem ggX11_goYear_X1_gradeDue : GoodIn wsX11_goYear wsX1_gradeDue := goodIn_r _ [16, 17, 18, 19, 20, 21, 22, 23, 24, 25, 15, 26, 27, 28, 29, 30, 31, 32, 33, 34, 8, 9, 10, 35, 36, 37, 38, 39, 40, 41, 42, 43, 44, 45, 46, 47, 48, 49, 50, 51, 52, 53, 54, 55, 56, 57, 58, 59, 60, 61, 62, 63, 64, 65, 66, 67, 68, 69, 202, 203, 204, 205, 206, 207, 208, 209, 210, 211, 212, 213, 214, 215, 216, 217, 218, 219, 220, 221, 222, 223, 224, 225, 226, 227, 228, 229, 230, 231, 232, 233, 234, 235, 236, 237, 238, 239, 240, 241, 242, 243, 244, 245, 246, 247, 248, 249, 250, 251, 252, 253, 254, 255, 256, 257, 258, 259, 260, 261, 262, 263, 264, 265, 266] (by decide +kernel) (by decide +kernel)
set_option maxRecDepth 20000 in
theorem gX11_goYear_X1_gradeDue : GoodIn wsX11_goYear (wsV RX11 134 RX1 yX1_gradeDue wsX1_gradeDue) := goodIn_app (goodIn_of _ (by decide +kernel)) ggX11_goYear_X1_gradeDue
set_option maxRecDepth 20000 in
theorem ggX11_goYear_X1_gradeAll : GoodIn wsX11_goYear wsX1_gradeAll := goodIn_r _ [73, 74, 75, 76, 77, 78, 79, 80, 81, 82, 83, 84, 15, 85, 86, 87, 88, 89, 90, 91, 92, 23, 24, 25, 26, 18, 20, 93, 94, 95, 96, 19, 97, 98, 99, 100, 101, 102, 21, 37, 103, 104, 31, 105, 106, 107, 108, 109, 110, 111, 112, 113, 114, 115, 116, 117, 118, 48, 119, 120, 121, 122, 123, 124, 125, 126, 127, 128, 129, 130, 131, 132, 133, 134, 135, 136, 137, 138, 139, 140, 141, 142, 143, 144, 145, 146, 147, 148, 149, 150, 151, 152, 153, 154, 155, 156, 9, 157, 158, 159, 160, 161, 162, 163, 164, 165, 166, 167, 168, 169, 170, 171, 172, 173, 174, 175, 176, 27, 28, 29, 30, 32, 33, 34, 8, 10, 35, 36, 38, 39, 40, 41, 42, 43, 44, 45, 46, 47, 49, 50, 51, 52, 53, 54, 55, 56, 57, 58, 59, 60, 61, 62, 63, 64, 65, 66, 67, 68, 69, 202, 203, 204, 205, 206, 207, 208, 209, 210, 211, 212, 213, 214, 215, 216, 217, 218, 219, 220, 239, 240, 241, 242, 243, 244, 245, 246, 247, 248, 249, 250, 251, 252, 253, 254, 255, 256, 257, 258, 259, 260, 261, 262, 263, 264, 265, 266, 221, 222, 223, 224, 225, 226, 227, 228, 229, 230, 231, 232, 233, 234, 235, 236, 237, 238] (by decide +kernel) (by decide +kernel)
set_option maxRecDepth 20000 in
theorem gX11_goYear_X1_gradeAll : GoodIn wsX11_goYear (wsV RX11 171 RX1 yX1_gradeAll wsX1_gradeAll) := goodIn_app (goodIn_of _ (by decide +kernel)) ggX11_goYear_X1_gradeAll
set_option maxRecDepth 20000 in
theorem ggX11_goYear_X11_outByLot : GoodIn wsX11_goYear wsX11_outByLot := goodIn_r _ [180, 2, 11, 181, 182, 183, 78, 184, 185, 186, 187, 188, 189, 190, 106, 107, 108, 91, 202, 203, 204, 205, 206, 207, 208, 209, 210, 211, 212, 213, 214, 215, 216, 217, 218, 219, 220] (by decide +kernel) (by decide +kernel)
set_option maxRecDepth 20000 in
theorem gX11_goYear_X11_outByLot : GoodIn wsX11_goYear (va_wsS RX11 260 yX11_outByLot wsX11_outByLot) := goodIn_app (goodIn_of _ (by decide +kernel)) ggX11_goYear_X11_outByLot
set_option maxRecDepth 20000 in
theorem ggX11_goYear_X11_outByGrade : GoodIn wsX11_goYear wsX11_outByGrade := goodIn_r _ [194, 2, 1, 3, 181, 182, 183, 78, 184, 185, 186, 187, 188, 189, 190, 106, 107, 108, 91, 202, 203, 204, 205, 206, 207, 208, 209, 210, 211, 212, 213, 214, 215, 216, 217, 218, 219, 220, 195, 196, 197, 198, 199, 200, 201, 221, 222, 223, 224, 225, 226, 227] (by decide +kernel) (by decide +kernel)
set_option maxRecDepth 20000 in
theorem gX11_goYear_X11_outByGrade : GoodIn wsX11_goYear (wsV RX11 264 RX11 yX11_outByGrade wsX11_outByGrade) := goodIn_app (goodIn_of _ (by decide +kernel)) ggX11_goYear_X11_outByGrade
theorem dX11_goYear_0 : decode cX11_goYear 0 = .ok (.iload_n 2, 1) := by decide +kernel
theorem dX11_goYear_1 : decode cX11_goYear 1 = .ok (.iconst 3, 1) := by decide +kernel
theorem dX11_goYear_2 : decode cX11_goYear 2 = .ok (.if_icmp .ne 14, 3) := by decide +kernel
theorem dX11_goYear_5 : decode cX11_goYear 5 = .ok (.aload_n 0, 1) := by decide +kernel
theorem dX11_goYear_6 : decode cX11_goYear 6 = .ok (.getfield 27, 3) := by decide +kernel
theorem dX11_goYear_9 : decode cX11_goYear 9 = .ok (.aload_n 1, 1) := by decide +kernel
theorem dX11_goYear_10 : decode cX11_goYear 10 = .ok (.invokevirtual 134, 3) := by decide +kernel
theorem dX11_goYear_13 : decode cX11_goYear 13 = .ok (.goto 11, 3) := by decide +kernel
theorem dX11_goYear_16 : decode cX11_goYear 16 = .ok (.aload_n 0, 1) := by decide +kernel
theorem dX11_goYear_17 : decode cX11_goYear 17 = .ok (.getfield 27, 3) := by decide +kernel
theorem dX11_goYear_20 : decode cX11_goYear 20 = .ok (.aload_n 1, 1) := by decide +kernel
theorem dX11_goYear_21 : decode cX11_goYear 21 = .ok (.invokevirtual 171, 3) := by decide +kernel
theorem dX11_goYear_24 : decode cX11_goYear 24 = .ok (.iconst 0, 1) := by decide +kernel
theorem dX11_goYear_25 : decode cX11_goYear 25 = .ok (.istore_n 3, 1) := by decide +kernel
theorem dX11_goYear_26 : decode cX11_goYear 26 = .ok (.iconst 0, 1) := by decide +kernel
theorem dX11_goYear_27 : decode cX11_goYear 27 = .ok (.istore 4, 2) := by decide +kernel
theorem dX11_goYear_29 : decode cX11_goYear 29 = .ok (.iload 4, 2) := by decide +kernel
theorem dX11_goYear_31 : decode cX11_goYear 31 = .ok (.aload_n 1, 1) := by decide +kernel
theorem dX11_goYear_32 : decode cX11_goYear 32 = .ok (.getfield 105, 3) := by decide +kernel
theorem dX11_goYear_35 : decode cX11_goYear 35 = .ok (.if_icmp .ge 61, 3) := by decide +kernel
theorem dX11_goYear_38 : decode cX11_goYear 38 = .ok (.aload_n 0, 1) := by decide +kernel
theorem dX11_goYear_39 : decode cX11_goYear 39 = .ok (.getfield 27, 3) := by decide +kernel
theorem dX11_goYear_42 : decode cX11_goYear 42 = .ok (.getfield 138, 3) := by decide +kernel
theorem dX11_goYear_45 : decode cX11_goYear 45 = .ok (.iload 4, 2) := by decide +kernel
theorem dX11_goYear_47 : decode cX11_goYear 47 = .ok (.iaload, 1) := by decide +kernel
theorem dX11_goYear_48 : decode cX11_goYear 48 = .ok (.istore 5, 2) := by decide +kernel
theorem dX11_goYear_50 : decode cX11_goYear 50 = .ok (.aload_n 1, 1) := by decide +kernel
theorem dX11_goYear_51 : decode cX11_goYear 51 = .ok (.getfield 120, 3) := by decide +kernel
theorem dX11_goYear_54 : decode cX11_goYear 54 = .ok (.iload 4, 2) := by decide +kernel
theorem dX11_goYear_56 : decode cX11_goYear 56 = .ok (.sipush 9999, 3) := by decide +kernel
theorem dX11_goYear_59 : decode cX11_goYear 59 = .ok (.aload_n 1, 1) := by decide +kernel
theorem dX11_goYear_60 : decode cX11_goYear 60 = .ok (.getfield 120, 3) := by decide +kernel
theorem dX11_goYear_63 : decode cX11_goYear 63 = .ok (.iload 4, 2) := by decide +kernel
theorem dX11_goYear_65 : decode cX11_goYear 65 = .ok (.iaload, 1) := by decide +kernel
theorem dX11_goYear_66 : decode cX11_goYear 66 = .ok (.aload_n 1, 1) := by decide +kernel
theorem dX11_goYear_67 : decode cX11_goYear 67 = .ok (.getfield 62, 3) := by decide +kernel
theorem dX11_goYear_70 : decode cX11_goYear 70 = .ok (.getfield 72, 3) := by decide +kernel
theorem dX11_goYear_73 : decode cX11_goYear 73 = .ok (.iload 5, 2) := by decide +kernel
theorem dX11_goYear_75 : decode cX11_goYear 75 = .ok (.imul, 1) := by decide +kernel
theorem dX11_goYear_76 : decode cX11_goYear 76 = .ok (.iadd, 1) := by decide +kernel
theorem dX11_goYear_77 : decode cX11_goYear 77 = .ok (.invokestatic 255, 3) := by decide +kernel
theorem dX11_goYear_80 : decode cX11_goYear 80 = .ok (.iastore, 1) := by decide +kernel
theorem dX11_goYear_81 : decode cX11_goYear 81 = .ok (.iload 5, 2) := by decide +kernel
theorem dX11_goYear_83 : decode cX11_goYear 83 = .ok (.iconst 1, 1) := by decide +kernel
theorem dX11_goYear_84 : decode cX11_goYear 84 = .ok (.if_icmp .ne 6, 3) := by decide +kernel
theorem dX11_goYear_87 : decode cX11_goYear 87 = .ok (.iinc 3 1, 3) := by decide +kernel
theorem dX11_goYear_90 : decode cX11_goYear 90 = .ok (.iinc 4 1, 3) := by decide +kernel
theorem dX11_goYear_93 : decode cX11_goYear 93 = .ok (.goto (-64), 3) := by decide +kernel
theorem dX11_goYear_96 : decode cX11_goYear 96 = .ok (.iload_n 2, 1) := by decide +kernel
theorem dX11_goYear_97 : decode cX11_goYear 97 = .ok (.iconst 1, 1) := by decide +kernel
theorem dX11_goYear_98 : decode cX11_goYear 98 = .ok (.if_icmp .ne 8, 3) := by decide +kernel
theorem dX11_goYear_101 : decode cX11_goYear 101 = .ok (.iconst 0, 1) := by decide +kernel
theorem dX11_goYear_102 : decode cX11_goYear 102 = .ok (.istore_n 3, 1) := by decide +kernel
theorem dX11_goYear_103 : decode cX11_goYear 103 = .ok (.goto 21, 3) := by decide +kernel
theorem dX11_goYear_106 : decode cX11_goYear 106 = .ok (.iload_n 2, 1) := by decide +kernel
theorem dX11_goYear_107 : decode cX11_goYear 107 = .ok (.iconst 2, 1) := by decide +kernel
theorem dX11_goYear_108 : decode cX11_goYear 108 = .ok (.if_icmp .ne 11, 3) := by decide +kernel
theorem dX11_goYear_111 : decode cX11_goYear 111 = .ok (.aload_n 1, 1) := by decide +kernel
theorem dX11_goYear_112 : decode cX11_goYear 112 = .ok (.iload_n 3, 1) := by decide +kernel
theorem dX11_goYear_113 : decode cX11_goYear 113 = .ok (.invokestatic 260, 3) := by decide +kernel
theorem dX11_goYear_116 : decode cX11_goYear 116 = .ok (.goto 8, 3) := by decide +kernel
theorem dX11_goYear_119 : decode cX11_goYear 119 = .ok (.aload_n 0, 1) := by decide +kernel
theorem dX11_goYear_120 : decode cX11_goYear 120 = .ok (.aload_n 1, 1) := by decide +kernel
theorem dX11_goYear_121 : decode cX11_goYear 121 = .ok (.invokevirtual 264, 3) := by decide +kernel
theorem dX11_goYear_124 : decode cX11_goYear 124 = .ok (.aload_n 1, 1) := by decide +kernel
theorem dX11_goYear_125 : decode cX11_goYear 125 = .ok (.dup, 1) := by decide +kernel
theorem dX11_goYear_126 : decode cX11_goYear 126 = .ok (.getfield 75, 3) := by decide +kernel
theorem dX11_goYear_129 : decode cX11_goYear 129 = .ok (.iconst 1, 1) := by decide +kernel
theorem dX11_goYear_130 : decode cX11_goYear 130 = .ok (.iadd, 1) := by decide +kernel
theorem dX11_goYear_131 : decode cX11_goYear 131 = .ok (.putfield 75, 3) := by decide +kernel
theorem dX11_goYear_134 : decode cX11_goYear 134 = .ok (.iload_n 3, 1) := by decide +kernel
theorem dX11_goYear_135 : decode cX11_goYear 135 = .ok (.ireturn, 1) := by decide +kernel
set_option maxRecDepth 20000 in
theorem ggX11_outByGrade_X10_replace : GoodIn wsX11_outByGrade wsX10_replace := goodIn_r _ [8, 9, 10, 11, 12, 13, 14, 15, 16, 7, 17, 18, 19, 20, 21, 22, 23, 24, 25, 26, 27, 28, 29, 30, 31, 32, 33, 34, 35, 36, 37] (by decide +kernel) (by decide +kernel)
set_option maxRecDepth 20000 in
theorem gX11_outByGrade_X10_replace : GoodIn wsX11_outByGrade (wsV RX11 267 RX10 yX10_replace wsX10_replace) := goodIn_app (goodIn_of _ (by decide +kernel)) ggX11_outByGrade_X10_replace
theorem dX11_outByGrade_0 : decode cX11_outByGrade 0 = .ok (.iconst 0, 1) := by decide +kernel
theorem dX11_outByGrade_1 : decode cX11_outByGrade 1 = .ok (.istore_n 2, 1) := by decide +kernel
theorem dX11_outByGrade_2 : decode cX11_outByGrade 2 = .ok (.iload_n 2, 1) := by decide +kernel
theorem dX11_outByGrade_3 : decode cX11_outByGrade 3 = .ok (.aload_n 1, 1) := by decide +kernel
theorem dX11_outByGrade_4 : decode cX11_outByGrade 4 = .ok (.getfield 105, 3) := by decide +kernel
theorem dX11_outByGrade_7 : decode cX11_outByGrade 7 = .ok (.if_icmp .ge 27, 3) := by decide +kernel
theorem dX11_outByGrade_10 : decode cX11_outByGrade 10 = .ok (.aload_n 0, 1) := by decide +kernel
theorem dX11_outByGrade_11 : decode cX11_outByGrade 11 = .ok (.getfield 27, 3) := by decide +kernel
theorem dX11_outByGrade_14 : decode cX11_outByGrade 14 = .ok (.getfield 138, 3) := by decide +kernel
theorem dX11_outByGrade_17 : decode cX11_outByGrade 17 = .ok (.iload_n 2, 1) := by decide +kernel
theorem dX11_outByGrade_18 : decode cX11_outByGrade 18 = .ok (.iaload, 1) := by decide +kernel
theorem dX11_outByGrade_19 : decode cX11_outByGrade 19 = .ok (.iconst 1, 1) := by decide +kernel
theorem dX11_outByGrade_20 : decode cX11_outByGrade 20 = .ok (.if_icmp .ne 8, 3) := by decide +kernel
theorem dX11_outByGrade_23 : decode cX11_outByGrade 23 = .ok (.aload_n 1, 1) := by decide +kernel
theorem dX11_outByGrade_24 : decode cX11_outByGrade 24 = .ok (.iload_n 2, 1) := by decide +kernel
theorem dX11_outByGrade_25 : decode cX11_outByGrade 25 = .ok (.invokevirtual 267, 3) := by decide +kernel
theorem dX11_outByGrade_28 : decode cX11_outByGrade 28 = .ok (.iinc 2 1, 3) := by decide +kernel
theorem dX11_outByGrade_31 : decode cX11_outByGrade 31 = .ok (.goto (-29), 3) := by decide +kernel
theorem dX11_outByGrade_34 : decode cX11_outByGrade 34 = .ok (.return_, 1) := by decide +kernel
set_option maxRecDepth 20000 in
theorem ggX11_outByLot_X10_replace : GoodIn wsX11_outByLot wsX10_replace := goodIn_r _ [7, 8, 9, 10, 11, 12, 13, 14, 15, 6, 16, 17, 18, 19, 20, 21, 22, 23, 24, 25, 26, 27, 28, 29, 30, 31, 32, 33, 34, 35, 36] (by decide +kernel) (by decide +kernel)
set_option maxRecDepth 20000 in
theorem gX11_outByLot_X10_replace : GoodIn wsX11_outByLot (wsV RX11 267 RX10 yX10_replace wsX10_replace) := goodIn_app (goodIn_of _ (by decide +kernel)) ggX11_outByLot_X10_replace
theorem dX11_outByLot_0 : decode cX11_outByLot 0 = .ok (.aload_n 0, 1) := by decide +kernel
theorem dX11_outByLot_1 : decode cX11_outByLot 1 = .ok (.getfield 105, 3) := by decide +kernel
theorem dX11_outByLot_4 : decode cX11_outByLot 4 = .ok (.ifCond .ne 4, 3) := by decide +kernel
theorem dX11_outByLot_7 : decode cX11_outByLot 7 = .ok (.return_, 1) := by decide +kernel
theorem dX11_outByLot_8 : decode cX11_outByLot 8 = .ok (.iconst 0, 1) := by decide +kernel
theorem dX11_outByLot_9 : decode cX11_outByLot 9 = .ok (.istore_n 2, 1) := by decide +kernel
theorem dX11_outByLot_10 : decode cX11_outByLot 10 = .ok (.iload_n 2, 1) := by decide +kernel
theorem dX11_outByLot_11 : decode cX11_outByLot 11 = .ok (.iload_n 1, 1) := by decide +kernel
theorem dX11_outByLot_12 : decode cX11_outByLot 12 = .ok (.if_icmp .ge 27, 3) := by decide +kernel
theorem dX11_outByLot_15 : decode cX11_outByLot 15 = .ok (.aload_n 0, 1) := by decide +kernel
theorem dX11_outByLot_16 : decode cX11_outByLot 16 = .ok (.aload_n 0, 1) := by decide +kernel
theorem dX11_outByLot_17 : decode cX11_outByLot 17 = .ok (.getfield 75, 3) := by decide +kernel
theorem dX11_outByLot_20 : decode cX11_outByLot 20 = .ok (.bipush 7, 2) := by decide +kernel
theorem dX11_outByLot_22 : decode cX11_outByLot 22 = .ok (.imul, 1) := by decide +kernel
theorem dX11_outByLot_23 : decode cX11_outByLot 23 = .ok (.iload_n 2, 1) := by decide +kernel
theorem dX11_outByLot_24 : decode cX11_outByLot 24 = .ok (.iadd, 1) := by decide +kernel
theorem dX11_outByLot_25 : decode cX11_outByLot 25 = .ok (.aload_n 0, 1) := by decide +kernel
theorem dX11_outByLot_26 : decode cX11_outByLot 26 = .ok (.getfield 105, 3) := by decide +kernel
theorem dX11_outByLot_29 : decode cX11_outByLot 29 = .ok (.irem, 1) := by decide +kernel
theorem dX11_outByLot_30 : decode cX11_outByLot 30 = .ok (.invokevirtual 267, 3) := by decide +kernel
theorem dX11_outByLot_33 : decode cX11_outByLot 33 = .ok (.iinc 2 1, 3) := by decide +kernel
theorem dX11_outByLot_36 : decode cX11_outByLot 36 = .ok (.goto (-26), 3) := by decide +kernel
theorem dX11_outByLot_39 : decode cX11_outByLot 39 = .ok (.return_, 1) := by decide +kernel
theorem dX11_choices_0 : decode cX11_choices 0 = .ok (.iload_n 1, 1) := by decide +kernel
theorem dX11_choices_1 : decode cX11_choices 1 = .ok (.ifCond .lt 8, 3) := by decide +kernel
theorem dX11_choices_4 : decode cX11_choices 4 = .ok (.iload_n 1, 1) := by decide +kernel
theorem dX11_choices_5 : decode cX11_choices 5 = .ok (.iload_n 0, 1) := by decide +kernel
theorem dX11_choices_6 : decode cX11_choices 6 = .ok (.if_icmp .le 5, 3) := by decide +kernel
theorem dX11_choices_9 : decode cX11_choices 9 = .ok (.lconst 0, 1) := by decide +kernel
theorem dX11_choices_10 : decode cX11_choices 10 = .ok (.lreturn, 1) := by decide +kernel
theorem dX11_choices_11 : decode cX11_choices 11 = .ok (.lconst 1, 1) := by decide +kernel
theorem dX11_choices_12 : decode cX11_choices 12 = .ok (.lstore_n 2, 1) := by decide +kernel
theorem dX11_choices_13 : decode cX11_choices 13 = .ok (.iconst 0, 1) := by decide +kernel
theorem dX11_choices_14 : decode cX11_choices 14 = .ok (.istore 4, 2) := by decide +kernel
theorem dX11_choices_16 : decode cX11_choices 16 = .ok (.iload 4, 2) := by decide +kernel
theorem dX11_choices_18 : decode cX11_choices 18 = .ok (.iload_n 1, 1) := by decide +kernel
theorem dX11_choices_19 : decode cX11_choices 19 = .ok (.if_icmp .ge 23, 3) := by decide +kernel
theorem dX11_choices_22 : decode cX11_choices 22 = .ok (.lload_n 2, 1) := by decide +kernel
theorem dX11_choices_23 : decode cX11_choices 23 = .ok (.iload_n 0, 1) := by decide +kernel
theorem dX11_choices_24 : decode cX11_choices 24 = .ok (.iload 4, 2) := by decide +kernel
theorem dX11_choices_26 : decode cX11_choices 26 = .ok (.isub, 1) := by decide +kernel
theorem dX11_choices_27 : decode cX11_choices 27 = .ok (.i2l, 1) := by decide +kernel
theorem dX11_choices_28 : decode cX11_choices 28 = .ok (.lmul, 1) := by decide +kernel
theorem dX11_choices_29 : decode cX11_choices 29 = .ok (.iload 4, 2) := by decide +kernel
theorem dX11_choices_31 : decode cX11_choices 31 = .ok (.iconst 1, 1) := by decide +kernel
theorem dX11_choices_32 : decode cX11_choices 32 = .ok (.iadd, 1) := by decide +kernel
theorem dX11_choices_33 : decode cX11_choices 33 = .ok (.i2l, 1) := by decide +kernel
theorem dX11_choices_34 : decode cX11_choices 34 = .ok (.ldiv, 1) := by decide +kernel
theorem dX11_choices_35 : decode cX11_choices 35 = .ok (.lstore_n 2, 1) := by decide +kernel
theorem dX11_choices_36 : decode cX11_choices 36 = .ok (.iinc 4 1, 3) := by decide +kernel
theorem dX11_choices_39 : decode cX11_choices 39 = .ok (.goto (-23), 3) := by decide +kernel
theorem dX11_choices_42 : decode cX11_choices 42 = .ok (.lload_n 2, 1) := by decide +kernel
theorem dX11_choices_43 : decode cX11_choices 43 = .ok (.lreturn, 1) := by decide +kernel
theorem dX11_lowest_0 : decode cX11_lowest 0 = .ok (.lload_n 2, 1) := by decide +kernel
theorem dX11_lowest_1 : decode cX11_lowest 1 = .ok (.lconst 0, 1) := by decide +kernel
theorem dX11_lowest_2 : decode cX11_lowest 2 = .ok (.lcmp, 1) := by decide +kernel
theorem dX11_lowest_3 : decode cX11_lowest 3 = .ok (.ifCond .le 14, 3) := by decide +kernel
theorem dX11_lowest_6 : decode cX11_lowest 6 = .ok (.iload 4, 2) := by decide +kernel
theorem dX11_lowest_8 : decode cX11_lowest 8 = .ok (.ifCond .lt 9, 3) := by decide +kernel
theorem dX11_lowest_11 : decode cX11_lowest 11 = .ok (.iload 4, 2) := by decide +kernel
theorem dX11_lowest_13 : decode cX11_lowest 13 = .ok (.iconst 1, 1) := by decide +kernel
theorem dX11_lowest_14 : decode cX11_lowest 14 = .ok (.if_icmp .le 7, 3) := by decide +kernel
theorem dX11_lowest_17 : decode cX11_lowest 17 = .ok (.ldc2_w 197, 3) := by decide +kernel
theorem dX11_lowest_20 : decode cX11_lowest 20 = .ok (.lreturn, 1) := by decide +kernel
theorem dX11_lowest_21 : decode cX11_lowest 21 = .ok (.lload_n 0, 1) := by decide +kernel
theorem dX11_lowest_22 : decode cX11_lowest 22 = .ok (.invokestatic 271, 3) := by decide +kernel
theorem dX11_lowest_25 : decode cX11_lowest 25 = .ok (.lstore 5, 2) := by decide +kernel
theorem dX11_lowest_27 : decode cX11_lowest 27 = .ok (.lload_n 2, 1) := by decide +kernel
theorem dX11_lowest_28 : decode cX11_lowest 28 = .ok (.lstore 7, 2) := by decide +kernel
theorem dX11_lowest_30 : decode cX11_lowest 30 = .ok (.iconst 0, 1) := by decide +kernel
theorem dX11_lowest_31 : decode cX11_lowest 31 = .ok (.istore 9, 2) := by decide +kernel
theorem dX11_lowest_33 : decode cX11_lowest 33 = .ok (.iload 9, 2) := by decide +kernel
theorem dX11_lowest_35 : decode cX11_lowest 35 = .ok (.bipush 100, 2) := by decide +kernel
theorem dX11_lowest_37 : decode cX11_lowest 37 = .ok (.if_icmp .ge 31, 3) := by decide +kernel
theorem dX11_lowest_40 : decode cX11_lowest 40 = .ok (.lload 5, 2) := by decide +kernel
theorem dX11_lowest_42 : decode cX11_lowest 42 = .ok (.lconst 0, 1) := by decide +kernel
theorem dX11_lowest_43 : decode cX11_lowest 43 = .ok (.lcmp, 1) := by decide +kernel
theorem dX11_lowest_44 : decode cX11_lowest 44 = .ok (.ifCond .eq 24, 3) := by decide +kernel
theorem dX11_lowest_47 : decode cX11_lowest 47 = .ok (.lload 7, 2) := by decide +kernel
theorem dX11_lowest_49 : decode cX11_lowest 49 = .ok (.lload 5, 2) := by decide +kernel
theorem dX11_lowest_51 : decode cX11_lowest 51 = .ok (.lrem, 1) := by decide +kernel
theorem dX11_lowest_52 : decode cX11_lowest 52 = .ok (.lstore 10, 2) := by decide +kernel
theorem dX11_lowest_54 : decode cX11_lowest 54 = .ok (.lload 5, 2) := by decide +kernel
theorem dX11_lowest_56 : decode cX11_lowest 56 = .ok (.lstore 7, 2) := by decide +kernel
theorem dX11_lowest_58 : decode cX11_lowest 58 = .ok (.lload 10, 2) := by decide +kernel
theorem dX11_lowest_60 : decode cX11_lowest 60 = .ok (.lstore 5, 2) := by decide +kernel
theorem dX11_lowest_62 : decode cX11_lowest 62 = .ok (.iinc 9 1, 3) := by decide +kernel
theorem dX11_lowest_65 : decode cX11_lowest 65 = .ok (.goto (-32), 3) := by decide +kernel
theorem dX11_lowest_68 : decode cX11_lowest 68 = .ok (.iload 4, 2) := by decide +kernel
theorem dX11_lowest_70 : decode cX11_lowest 70 = .ok (.ifCond .ne 7, 3) := by decide +kernel
theorem dX11_lowest_73 : decode cX11_lowest 73 = .ok (.lload_n 0, 1) := by decide +kernel
theorem dX11_lowest_74 : decode cX11_lowest 74 = .ok (.goto 4, 3) := by decide +kernel
theorem dX11_lowest_77 : decode cX11_lowest 77 = .ok (.lload_n 2, 1) := by decide +kernel
theorem dX11_lowest_78 : decode cX11_lowest 78 = .ok (.lload 7, 2) := by decide +kernel
theorem dX11_lowest_80 : decode cX11_lowest 80 = .ok (.ldiv, 1) := by decide +kernel
theorem dX11_lowest_81 : decode cX11_lowest 81 = .ok (.lreturn, 1) := by decide +kernel
set_option maxRecDepth 20000 in
theorem ggX11_howManyNets_X11_netOf : GoodIn wsX11_howManyNets wsX11_netOf := goodIn_r _ [7, 8, 9, 10, 6, 11, 1, 12, 13, 14, 15, 16, 17, 18, 19, 20, 21, 22, 23, 24, 25, 26, 27, 28, 29, 30, 31, 32, 33, 34, 35, 36, 37, 38, 39, 40] (by decide +kernel) (by decide +kernel)
set_option maxRecDepth 20000 in
theorem gX11_howManyNets_X11_netOf : GoodIn wsX11_howManyNets (wsV RX11 222 RX11 yX11_netOf wsX11_netOf) := goodIn_app (goodIn_of _ (by decide +kernel)) ggX11_howManyNets_X11_netOf
theorem dX11_howManyNets_0 : decode cX11_howManyNets 0 = .ok (.iconst 0, 1) := by decide +kernel
theorem dX11_howManyNets_1 : decode cX11_howManyNets 1 = .ok (.istore_n 1, 1) := by decide +kernel
theorem dX11_howManyNets_2 : decode cX11_howManyNets 2 = .ok (.iconst 0, 1) := by decide +kernel
theorem dX11_howManyNets_3 : decode cX11_howManyNets 3 = .ok (.istore_n 2, 1) := by decide +kernel
theorem dX11_howManyNets_4 : decode cX11_howManyNets 4 = .ok (.iload_n 2, 1) := by decide +kernel
theorem dX11_howManyNets_5 : decode cX11_howManyNets 5 = .ok (.aload_n 0, 1) := by decide +kernel
theorem dX11_howManyNets_6 : decode cX11_howManyNets 6 = .ok (.getfield 12, 3) := by decide +kernel
theorem dX11_howManyNets_9 : decode cX11_howManyNets 9 = .ok (.getfield 88, 3) := by decide +kernel
theorem dX11_howManyNets_12 : decode cX11_howManyNets 12 = .ok (.if_icmp .ge 36, 3) := by decide +kernel
theorem dX11_howManyNets_15 : decode cX11_howManyNets 15 = .ok (.aload_n 0, 1) := by decide +kernel
theorem dX11_howManyNets_16 : decode cX11_howManyNets 16 = .ok (.iload_n 2, 1) := by decide +kernel
theorem dX11_howManyNets_17 : decode cX11_howManyNets 17 = .ok (.invokevirtual 222, 3) := by decide +kernel
theorem dX11_howManyNets_20 : decode cX11_howManyNets 20 = .ok (.iconst 1, 1) := by decide +kernel
theorem dX11_howManyNets_21 : decode cX11_howManyNets 21 = .ok (.iload_n 2, 1) := by decide +kernel
theorem dX11_howManyNets_22 : decode cX11_howManyNets 22 = .ok (.ishl, 1) := by decide +kernel
theorem dX11_howManyNets_23 : decode cX11_howManyNets 23 = .ok (.iconst 1, 1) := by decide +kernel
theorem dX11_howManyNets_24 : decode cX11_howManyNets 24 = .ok (.isub, 1) := by decide +kernel
theorem dX11_howManyNets_25 : decode cX11_howManyNets 25 = .ok (.iand, 1) := by decide +kernel
theorem dX11_howManyNets_26 : decode cX11_howManyNets 26 = .ok (.ifCond .ne 7, 3) := by decide +kernel
theorem dX11_howManyNets_29 : decode cX11_howManyNets 29 = .ok (.iconst 1, 1) := by decide +kernel
theorem dX11_howManyNets_30 : decode cX11_howManyNets 30 = .ok (.goto 4, 3) := by decide +kernel
theorem dX11_howManyNets_33 : decode cX11_howManyNets 33 = .ok (.iconst 0, 1) := by decide +kernel
theorem dX11_howManyNets_34 : decode cX11_howManyNets 34 = .ok (.istore_n 3, 1) := by decide +kernel
theorem dX11_howManyNets_35 : decode cX11_howManyNets 35 = .ok (.iload_n 3, 1) := by decide +kernel
theorem dX11_howManyNets_36 : decode cX11_howManyNets 36 = .ok (.ifCond .eq 6, 3) := by decide +kernel
theorem dX11_howManyNets_39 : decode cX11_howManyNets 39 = .ok (.iinc 1 1, 3) := by decide +kernel
theorem dX11_howManyNets_42 : decode cX11_howManyNets 42 = .ok (.iinc 2 1, 3) := by decide +kernel
theorem dX11_howManyNets_45 : decode cX11_howManyNets 45 = .ok (.goto (-41), 3) := by decide +kernel
theorem dX11_howManyNets_48 : decode cX11_howManyNets 48 = .ok (.iload_n 1, 1) := by decide +kernel
theorem dX11_howManyNets_49 : decode cX11_howManyNets 49 = .ok (.ireturn, 1) := by decide +kernel
set_option maxRecDepth 20000 in
theorem ggX11_netOf_X11_neighbours : GoodIn wsX11_netOf wsX11_neighbours := goodIn_r _ [5, 6, 7, 8, 9, 10, 11, 12, 13, 14, 15, 16, 17, 18, 19, 20, 21, 22, 23, 24, 25, 26, 27, 28, 29, 30, 31, 32, 33, 34, 35] (by decide +kernel) (by decide +kernel)
set_option maxRecDepth 20000 in
theorem gX11_netOf_X11_neighbours : GoodIn wsX11_netOf (wsV RX11 275 RX11 yX11_neighbours wsX11_neighbours) := goodIn_app (goodIn_of _ (by decide +kernel)) ggX11_netOf_X11_neighbours
theorem dX11_netOf_0 : decode cX11_netOf 0 = .ok (.iconst 1, 1) := by decide +kernel
theorem dX11_netOf_1 : decode cX11_netOf 1 = .ok (.iload_n 1, 1) := by decide +kernel
theorem dX11_netOf_2 : decode cX11_netOf 2 = .ok (.ishl, 1) := by decide +kernel
theorem dX11_netOf_3 : decode cX11_netOf 3 = .ok (.istore_n 2, 1) := by decide +kernel
theorem dX11_netOf_4 : decode cX11_netOf 4 = .ok (.iconst 1, 1) := by decide +kernel
theorem dX11_netOf_5 : decode cX11_netOf 5 = .ok (.istore_n 3, 1) := by decide +kernel
theorem dX11_netOf_6 : decode cX11_netOf 6 = .ok (.iload_n 3, 1) := by decide +kernel
theorem dX11_netOf_7 : decode cX11_netOf 7 = .ok (.iconst 4, 1) := by decide +kernel
theorem dX11_netOf_8 : decode cX11_netOf 8 = .ok (.if_icmp .ge 17, 3) := by decide +kernel
theorem dX11_netOf_11 : decode cX11_netOf 11 = .ok (.iload_n 2, 1) := by decide +kernel
theorem dX11_netOf_12 : decode cX11_netOf 12 = .ok (.aload_n 0, 1) := by decide +kernel
theorem dX11_netOf_13 : decode cX11_netOf 13 = .ok (.iload_n 2, 1) := by decide +kernel
theorem dX11_netOf_14 : decode cX11_netOf 14 = .ok (.invokevirtual 275, 3) := by decide +kernel
theorem dX11_netOf_17 : decode cX11_netOf 17 = .ok (.ior, 1) := by decide +kernel
theorem dX11_netOf_18 : decode cX11_netOf 18 = .ok (.istore_n 2, 1) := by decide +kernel
theorem dX11_netOf_19 : decode cX11_netOf 19 = .ok (.iinc 3 1, 3) := by decide +kernel
theorem dX11_netOf_22 : decode cX11_netOf 22 = .ok (.goto (-16), 3) := by decide +kernel
theorem dX11_netOf_25 : decode cX11_netOf 25 = .ok (.iload_n 2, 1) := by decide +kernel
theorem dX11_netOf_26 : decode cX11_netOf 26 = .ok (.ireturn, 1) := by decide +kernel
theorem dX11_neighbours_0 : decode cX11_neighbours 0 = .ok (.iconst 0, 1) := by decide +kernel
theorem dX11_neighbours_1 : decode cX11_neighbours 1 = .ok (.istore_n 2, 1) := by decide +kernel
theorem dX11_neighbours_2 : decode cX11_neighbours 2 = .ok (.iconst 0, 1) := by decide +kernel
theorem dX11_neighbours_3 : decode cX11_neighbours 3 = .ok (.istore_n 3, 1) := by decide +kernel
theorem dX11_neighbours_4 : decode cX11_neighbours 4 = .ok (.iload_n 3, 1) := by decide +kernel
theorem dX11_neighbours_5 : decode cX11_neighbours 5 = .ok (.aload_n 0, 1) := by decide +kernel
theorem dX11_neighbours_6 : decode cX11_neighbours 6 = .ok (.getfield 12, 3) := by decide +kernel
theorem dX11_neighbours_9 : decode cX11_neighbours 9 = .ok (.getfield 207, 3) := by decide +kernel
theorem dX11_neighbours_12 : decode cX11_neighbours 12 = .ok (.if_icmp .ge 86, 3) := by decide +kernel
theorem dX11_neighbours_15 : decode cX11_neighbours 15 = .ok (.iload_n 1, 1) := by decide +kernel
theorem dX11_neighbours_16 : decode cX11_neighbours 16 = .ok (.iconst 1, 1) := by decide +kernel
theorem dX11_neighbours_17 : decode cX11_neighbours 17 = .ok (.aload_n 0, 1) := by decide +kernel
theorem dX11_neighbours_18 : decode cX11_neighbours 18 = .ok (.getfield 12, 3) := by decide +kernel
theorem dX11_neighbours_21 : decode cX11_neighbours 21 = .ok (.getfield 213, 3) := by decide +kernel
theorem dX11_neighbours_24 : decode cX11_neighbours 24 = .ok (.iload_n 3, 1) := by decide +kernel
theorem dX11_neighbours_25 : decode cX11_neighbours 25 = .ok (.iaload, 1) := by decide +kernel
theorem dX11_neighbours_26 : decode cX11_neighbours 26 = .ok (.ishl, 1) := by decide +kernel
theorem dX11_neighbours_27 : decode cX11_neighbours 27 = .ok (.iand, 1) := by decide +kernel
theorem dX11_neighbours_28 : decode cX11_neighbours 28 = .ok (.ifCond .ne 6, 3) := by decide +kernel
theorem dX11_neighbours_31 : decode cX11_neighbours 31 = .ok (.goto 61, 3) := by decide +kernel
theorem dX11_neighbours_34 : decode cX11_neighbours 34 = .ok (.iconst 0, 1) := by decide +kernel
theorem dX11_neighbours_35 : decode cX11_neighbours 35 = .ok (.istore 4, 2) := by decide +kernel
theorem dX11_neighbours_37 : decode cX11_neighbours 37 = .ok (.iload 4, 2) := by decide +kernel
theorem dX11_neighbours_39 : decode cX11_neighbours 39 = .ok (.aload_n 0, 1) := by decide +kernel
theorem dX11_neighbours_40 : decode cX11_neighbours 40 = .ok (.getfield 12, 3) := by decide +kernel
theorem dX11_neighbours_43 : decode cX11_neighbours 43 = .ok (.getfield 207, 3) := by decide +kernel
theorem dX11_neighbours_46 : decode cX11_neighbours 46 = .ok (.if_icmp .ge 46, 3) := by decide +kernel
theorem dX11_neighbours_49 : decode cX11_neighbours 49 = .ok (.aload_n 0, 1) := by decide +kernel
theorem dX11_neighbours_50 : decode cX11_neighbours 50 = .ok (.getfield 12, 3) := by decide +kernel
theorem dX11_neighbours_53 : decode cX11_neighbours 53 = .ok (.getfield 210, 3) := by decide +kernel
theorem dX11_neighbours_56 : decode cX11_neighbours 56 = .ok (.iload 4, 2) := by decide +kernel
theorem dX11_neighbours_58 : decode cX11_neighbours 58 = .ok (.iaload, 1) := by decide +kernel
theorem dX11_neighbours_59 : decode cX11_neighbours 59 = .ok (.aload_n 0, 1) := by decide +kernel
theorem dX11_neighbours_60 : decode cX11_neighbours 60 = .ok (.getfield 12, 3) := by decide +kernel
theorem dX11_neighbours_63 : decode cX11_neighbours 63 = .ok (.getfield 210, 3) := by decide +kernel
theorem dX11_neighbours_66 : decode cX11_neighbours 66 = .ok (.iload_n 3, 1) := by decide +kernel
theorem dX11_neighbours_67 : decode cX11_neighbours 67 = .ok (.iaload, 1) := by decide +kernel
theorem dX11_neighbours_68 : decode cX11_neighbours 68 = .ok (.if_icmp .ne 18, 3) := by decide +kernel
theorem dX11_neighbours_71 : decode cX11_neighbours 71 = .ok (.iload_n 2, 1) := by decide +kernel
theorem dX11_neighbours_72 : decode cX11_neighbours 72 = .ok (.iconst 1, 1) := by decide +kernel
theorem dX11_neighbours_73 : decode cX11_neighbours 73 = .ok (.aload_n 0, 1) := by decide +kernel
theorem dX11_neighbours_74 : decode cX11_neighbours 74 = .ok (.getfield 12, 3) := by decide +kernel
theorem dX11_neighbours_77 : decode cX11_neighbours 77 = .ok (.getfield 213, 3) := by decide +kernel
theorem dX11_neighbours_80 : decode cX11_neighbours 80 = .ok (.iload 4, 2) := by decide +kernel
theorem dX11_neighbours_82 : decode cX11_neighbours 82 = .ok (.iaload, 1) := by decide +kernel
theorem dX11_neighbours_83 : decode cX11_neighbours 83 = .ok (.ishl, 1) := by decide +kernel
theorem dX11_neighbours_84 : decode cX11_neighbours 84 = .ok (.ior, 1) := by decide +kernel
theorem dX11_neighbours_85 : decode cX11_neighbours 85 = .ok (.istore_n 2, 1) := by decide +kernel
theorem dX11_neighbours_86 : decode cX11_neighbours 86 = .ok (.iinc 4 1, 3) := by decide +kernel
theorem dX11_neighbours_89 : decode cX11_neighbours 89 = .ok (.goto (-52), 3) := by decide +kernel
theorem dX11_neighbours_92 : decode cX11_neighbours 92 = .ok (.iinc 3 1, 3) := by decide +kernel
theorem dX11_neighbours_95 : decode cX11_neighbours 95 = .ok (.goto (-91), 3) := by decide +kernel
theorem dX11_neighbours_98 : decode cX11_neighbours 98 = .ok (.iload_n 2, 1) := by decide +kernel
theorem dX11_neighbours_99 : decode cX11_neighbours 99 = .ok (.ireturn, 1) := by decide +kernel
theorem dX12_init_0 : decode cX12_init 0 = .ok (.aload_n 0, 1) := by decide +kernel
theorem dX12_init_1 : decode cX12_init 1 = .ok (.invokespecial 3, 3) := by decide +kernel
theorem dX12_init_4 : decode cX12_init 4 = .ok (.aload_n 0, 1) := by decide +kernel
theorem dX12_init_5 : decode cX12_init 5 = .ok (.sipush 952, 3) := by decide +kernel
theorem dX12_init_8 : decode cX12_init 8 = .ok (.newarray .int, 2) := by decide +kernel
theorem dX12_init_10 : decode cX12_init 10 = .ok (.putfield 9, 3) := by decide +kernel
theorem dX12_init_13 : decode cX12_init 13 = .ok (.aload_n 0, 1) := by decide +kernel
theorem dX12_init_14 : decode cX12_init 14 = .ok (.sipush 952, 3) := by decide +kernel
theorem dX12_init_17 : decode cX12_init 17 = .ok (.newarray .int, 2) := by decide +kernel
theorem dX12_init_19 : decode cX12_init 19 = .ok (.putfield 15, 3) := by decide +kernel
theorem dX12_init_22 : decode cX12_init 22 = .ok (.aload_n 0, 1) := by decide +kernel
theorem dX12_init_23 : decode cX12_init 23 = .ok (.bipush 51, 2) := by decide +kernel
theorem dX12_init_25 : decode cX12_init 25 = .ok (.newarray .int, 2) := by decide +kernel
theorem dX12_init_27 : decode cX12_init 27 = .ok (.putfield 18, 3) := by decide +kernel
theorem dX12_init_30 : decode cX12_init 30 = .ok (.aload_n 0, 1) := by decide +kernel
theorem dX12_init_31 : decode cX12_init 31 = .ok (.bipush 6, 2) := by decide +kernel
theorem dX12_init_33 : decode cX12_init 33 = .ok (.newarray .int, 2) := by decide +kernel
theorem dX12_init_35 : decode cX12_init 35 = .ok (.putfield 21, 3) := by decide +kernel
theorem dX12_init_38 : decode cX12_init 38 = .ok (.aload_n 0, 1) := by decide +kernel
theorem dX12_init_39 : decode cX12_init 39 = .ok (.bipush 64, 2) := by decide +kernel
theorem dX12_init_41 : decode cX12_init 41 = .ok (.newarray .boolean, 2) := by decide +kernel
theorem dX12_init_43 : decode cX12_init 43 = .ok (.putfield 24, 3) := by decide +kernel
theorem dX12_init_46 : decode cX12_init 46 = .ok (.aload_n 0, 1) := by decide +kernel
theorem dX12_init_47 : decode cX12_init 47 = .ok (.bipush 10, 2) := by decide +kernel
theorem dX12_init_49 : decode cX12_init 49 = .ok (.newarray .int, 2) := by decide +kernel
theorem dX12_init_51 : decode cX12_init 51 = .ok (.putfield 28, 3) := by decide +kernel
theorem dX12_init_54 : decode cX12_init 54 = .ok (.aload_n 0, 1) := by decide +kernel
theorem dX12_init_55 : decode cX12_init 55 = .ok (.bipush 10, 2) := by decide +kernel
theorem dX12_init_57 : decode cX12_init 57 = .ok (.newarray .int, 2) := by decide +kernel
theorem dX12_init_59 : decode cX12_init 59 = .ok (.putfield 31, 3) := by decide +kernel
theorem dX12_init_62 : decode cX12_init 62 = .ok (.aload_n 0, 1) := by decide +kernel
theorem dX12_init_63 : decode cX12_init 63 = .ok (.bipush 10, 2) := by decide +kernel
theorem dX12_init_65 : decode cX12_init 65 = .ok (.newarray .int, 2) := by decide +kernel
theorem dX12_init_67 : decode cX12_init 67 = .ok (.putfield 34, 3) := by decide +kernel
theorem dX12_init_70 : decode cX12_init 70 = .ok (.aload_n 0, 1) := by decide +kernel
theorem dX12_init_71 : decode cX12_init 71 = .ok (.bipush 10, 2) := by decide +kernel
theorem dX12_init_73 : decode cX12_init 73 = .ok (.newarray .boolean, 2) := by decide +kernel
theorem dX12_init_75 : decode cX12_init 75 = .ok (.putfield 37, 3) := by decide +kernel
theorem dX12_init_78 : decode cX12_init 78 = .ok (.aload_n 0, 1) := by decide +kernel
theorem dX12_init_79 : decode cX12_init 79 = .ok (.iconst 4, 1) := by decide +kernel
theorem dX12_init_80 : decode cX12_init 80 = .ok (.newarray .int, 2) := by decide +kernel
theorem dX12_init_82 : decode cX12_init 82 = .ok (.putfield 40, 3) := by decide +kernel
theorem dX12_init_85 : decode cX12_init 85 = .ok (.aload_n 0, 1) := by decide +kernel
theorem dX12_init_86 : decode cX12_init 86 = .ok (.bipush 20, 2) := by decide +kernel
theorem dX12_init_88 : decode cX12_init 88 = .ok (.newarray .int, 2) := by decide +kernel
theorem dX12_init_90 : decode cX12_init 90 = .ok (.putfield 43, 3) := by decide +kernel
theorem dX12_init_93 : decode cX12_init 93 = .ok (.aload_n 0, 1) := by decide +kernel
theorem dX12_init_94 : decode cX12_init 94 = .ok (.getfield 9, 3) := by decide +kernel
theorem dX12_init_97 : decode cX12_init 97 = .ok (.bipush 56, 2) := by decide +kernel
theorem dX12_init_99 : decode cX12_init 99 = .ok (.iconst (-1), 1) := by decide +kernel
theorem dX12_init_100 : decode cX12_init 100 = .ok (.iastore, 1) := by decide +kernel
theorem dX12_init_101 : decode cX12_init 101 = .ok (.aload_n 0, 1) := by decide +kernel
theorem dX12_init_102 : decode cX12_init 102 = .ok (.getfield 9, 3) := by decide +kernel
theorem dX12_init_105 : decode cX12_init 105 = .ok (.bipush 57, 2) := by decide +kernel
theorem dX12_init_107 : decode cX12_init 107 = .ok (.bipush 50, 2) := by decide +kernel
theorem dX12_init_109 : decode cX12_init 109 = .ok (.iastore, 1) := by decide +kernel
theorem dX12_init_110 : decode cX12_init 110 = .ok (.aload_n 0, 1) := by decide +kernel
theorem dX12_init_111 : decode cX12_init 111 = .ok (.getfield 9, 3) := by decide +kernel
theorem dX12_init_114 : decode cX12_init 114 = .ok (.bipush 58, 2) := by decide +kernel
theorem dX12_init_116 : decode cX12_init 116 = .ok (.bipush 50, 2) := by decide +kernel
theorem dX12_init_118 : decode cX12_init 118 = .ok (.iastore, 1) := by decide +kernel
theorem dX12_init_119 : decode cX12_init 119 = .ok (.return_, 1) := by decide +kernel
theorem dX12_in_0 : decode cX12_in 0 = .ok (.iload_n 0, 1) := by decide +kernel
theorem dX12_in_1 : decode cX12_in 1 = .ok (.iload_n 1, 1) := by decide +kernel
theorem dX12_in_2 : decode cX12_in 2 = .ok (.if_icmp .lt 12, 3) := by decide +kernel
theorem dX12_in_5 : decode cX12_in 5 = .ok (.iload_n 0, 1) := by decide +kernel
theorem dX12_in_6 : decode cX12_in 6 = .ok (.iload_n 2, 1) := by decide +kernel
theorem dX12_in_7 : decode cX12_in 7 = .ok (.if_icmp .gt 7, 3) := by decide +kernel
theorem dX12_in_10 : decode cX12_in 10 = .ok (.iconst 1, 1) := by decide +kernel
theorem dX12_in_11 : decode cX12_in 11 = .ok (.goto 4, 3) := by decide +kernel
theorem dX12_in_14 : decode cX12_in 14 = .ok (.iconst 0, 1) := by decide +kernel
theorem dX12_in_15 : decode cX12_in 15 = .ok (.ireturn, 1) := by decide +kernel
theorem dX12_size_0 : decode cX12_size 0 = .ok (.iload_n 0, 1) := by decide +kernel
theorem dX12_size_1 : decode cX12_size 1 = .ok (.ifCond .ge 8, 3) := by decide +kernel
theorem dX12_size_4 : decode cX12_size 4 = .ok (.iload_n 0, 1) := by decide +kernel
theorem dX12_size_5 : decode cX12_size 5 = .ok (.ineg, 1) := by decide +kernel
theorem dX12_size_6 : decode cX12_size 6 = .ok (.goto 4, 3) := by decide +kernel
theorem dX12_size_9 : decode cX12_size 9 = .ok (.iload_n 0, 1) := by decide +kernel
theorem dX12_size_10 : decode cX12_size 10 = .ok (.ireturn, 1) := by decide +kernel
set_option maxRecDepth 20000 in
theorem ggX12_isWorker_X12_in : GoodIn wsX12_isWorker wsX12_in := goodIn_r _ [5] (by decide +kernel) (by decide +kernel)
set_option maxRecDepth 20000 in
theorem gX12_isWorker_X12_in : GoodIn wsX12_isWorker (va_wsS RX12 50 yX12_in wsX12_in) := goodIn_app (goodIn_of _ (by decide +kernel)) ggX12_isWorker_X12_in
theorem dX12_isWorker_0 : decode cX12_isWorker 0 = .ok (.iload_n 1, 1) := by decide +kernel
theorem dX12_isWorker_1 : decode cX12_isWorker 1 = .ok (.iconst 0, 1) := by decide +kernel
theorem dX12_isWorker_2 : decode cX12_isWorker 2 = .ok (.aload_n 0, 1) := by decide +kernel
theorem dX12_isWorker_3 : decode cX12_isWorker 3 = .ok (.getfield 9, 3) := by decide +kernel
theorem dX12_isWorker_6 : decode cX12_isWorker 6 = .ok (.bipush 51, 2) := by decide +kernel
theorem dX12_isWorker_8 : decode cX12_isWorker 8 = .ok (.iaload, 1) := by decide +kernel
theorem dX12_isWorker_9 : decode cX12_isWorker 9 = .ok (.iconst 1, 1) := by decide +kernel
theorem dX12_isWorker_10 : decode cX12_isWorker 10 = .ok (.isub, 1) := by decide +kernel
theorem dX12_isWorker_11 : decode cX12_isWorker 11 = .ok (.invokestatic 50, 3) := by decide +kernel
theorem dX12_isWorker_14 : decode cX12_isWorker 14 = .ok (.ireturn, 1) := by decide +kernel
set_option maxRecDepth 20000 in
theorem ggX12_isChief_X12_in : GoodIn wsX12_isChief wsX12_in := goodIn_r _ [5] (by decide +kernel) (by decide +kernel)
set_option maxRecDepth 20000 in
theorem gX12_isChief_X12_in : GoodIn wsX12_isChief (va_wsS RX12 50 yX12_in wsX12_in) := goodIn_app (goodIn_of _ (by decide +kernel)) ggX12_isChief_X12_in
theorem dX12_isChief_0 : decode cX12_isChief 0 = .ok (.iload_n 1, 1) := by decide +kernel
theorem dX12_isChief_1 : decode cX12_isChief 1 = .ok (.iconst 0, 1) := by decide +kernel
theorem dX12_isChief_2 : decode cX12_isChief 2 = .ok (.aload_n 0, 1) := by decide +kernel
theorem dX12_isChief_3 : decode cX12_isChief 3 = .ok (.getfield 9, 3) := by decide +kernel
theorem dX12_isChief_6 : decode cX12_isChief 6 = .ok (.bipush 52, 2) := by decide +kernel
theorem dX12_isChief_8 : decode cX12_isChief 8 = .ok (.iaload, 1) := by decide +kernel
theorem dX12_isChief_9 : decode cX12_isChief 9 = .ok (.iconst 1, 1) := by decide +kernel
theorem dX12_isChief_10 : decode cX12_isChief 10 = .ok (.isub, 1) := by decide +kernel
theorem dX12_isChief_11 : decode cX12_isChief 11 = .ok (.invokestatic 50, 3) := by decide +kernel
theorem dX12_isChief_14 : decode cX12_isChief 14 = .ok (.ireturn, 1) := by decide +kernel
theorem dX12_keeps_0 : decode cX12_keeps 0 = .ok (.iconst 0, 1) := by decide +kernel
theorem dX12_keeps_1 : decode cX12_keeps 1 = .ok (.istore_n 1, 1) := by decide +kernel
theorem dX12_keeps_2 : decode cX12_keeps 2 = .ok (.iload_n 1, 1) := by decide +kernel
theorem dX12_keeps_3 : decode cX12_keeps 3 = .ok (.bipush 51, 2) := by decide +kernel
theorem dX12_keeps_5 : decode cX12_keeps 5 = .ok (.if_icmp .ge 21, 3) := by decide +kernel
theorem dX12_keeps_8 : decode cX12_keeps 8 = .ok (.aload_n 0, 1) := by decide +kernel
theorem dX12_keeps_9 : decode cX12_keeps 9 = .ok (.getfield 18, 3) := by decide +kernel
theorem dX12_keeps_12 : decode cX12_keeps 12 = .ok (.iload_n 1, 1) := by decide +kernel
theorem dX12_keeps_13 : decode cX12_keeps 13 = .ok (.aload_n 0, 1) := by decide +kernel
theorem dX12_keeps_14 : decode cX12_keeps 14 = .ok (.getfield 9, 3) := by decide +kernel
theorem dX12_keeps_17 : decode cX12_keeps 17 = .ok (.iload_n 1, 1) := by decide +kernel
theorem dX12_keeps_18 : decode cX12_keeps 18 = .ok (.iaload, 1) := by decide +kernel
theorem dX12_keeps_19 : decode cX12_keeps 19 = .ok (.iastore, 1) := by decide +kernel
theorem dX12_keeps_20 : decode cX12_keeps 20 = .ok (.iinc 1 1, 3) := by decide +kernel
theorem dX12_keeps_23 : decode cX12_keeps 23 = .ok (.goto (-21), 3) := by decide +kernel
theorem dX12_keeps_26 : decode cX12_keeps 26 = .ok (.return_, 1) := by decide +kernel
theorem dX12_goesBack_0 : decode cX12_goesBack 0 = .ok (.iconst 0, 1) := by decide +kernel
theorem dX12_goesBack_1 : decode cX12_goesBack 1 = .ok (.istore_n 1, 1) := by decide +kernel
theorem dX12_goesBack_2 : decode cX12_goesBack 2 = .ok (.iload_n 1, 1) := by decide +kernel
theorem dX12_goesBack_3 : decode cX12_goesBack 3 = .ok (.bipush 51, 2) := by decide +kernel
theorem dX12_goesBack_5 : decode cX12_goesBack 5 = .ok (.if_icmp .ge 21, 3) := by decide +kernel
theorem dX12_goesBack_8 : decode cX12_goesBack 8 = .ok (.aload_n 0, 1) := by decide +kernel
theorem dX12_goesBack_9 : decode cX12_goesBack 9 = .ok (.getfield 9, 3) := by decide +kernel
theorem dX12_goesBack_12 : decode cX12_goesBack 12 = .ok (.iload_n 1, 1) := by decide +kernel
theorem dX12_goesBack_13 : decode cX12_goesBack 13 = .ok (.aload_n 0, 1) := by decide +kernel
theorem dX12_goesBack_14 : decode cX12_goesBack 14 = .ok (.getfield 18, 3) := by decide +kernel
theorem dX12_goesBack_17 : decode cX12_goesBack 17 = .ok (.iload_n 1, 1) := by decide +kernel
theorem dX12_goesBack_18 : decode cX12_goesBack 18 = .ok (.iaload, 1) := by decide +kernel
theorem dX12_goesBack_19 : decode cX12_goesBack 19 = .ok (.iastore, 1) := by decide +kernel
theorem dX12_goesBack_20 : decode cX12_goesBack 20 = .ok (.iinc 1 1, 3) := by decide +kernel
theorem dX12_goesBack_23 : decode cX12_goesBack 23 = .ok (.goto (-21), 3) := by decide +kernel
theorem dX12_goesBack_26 : decode cX12_goesBack 26 = .ok (.return_, 1) := by decide +kernel
set_option maxRecDepth 20000 in
theorem ggX12_feed_X12_in : GoodIn wsX12_feed wsX12_in := goodIn_r _ [5] (by decide +kernel) (by decide +kernel)
set_option maxRecDepth 20000 in
theorem gX12_feed_X12_in : GoodIn wsX12_feed (va_wsS RX12 50 yX12_in wsX12_in) := goodIn_app (goodIn_of _ (by decide +kernel)) ggX12_feed_X12_in
theorem dX12_feed_0 : decode cX12_feed 0 = .ok (.iload_n 1, 1) := by decide +kernel
theorem dX12_feed_1 : decode cX12_feed 1 = .ok (.iconst 0, 1) := by decide +kernel
theorem dX12_feed_2 : decode cX12_feed 2 = .ok (.bipush 127, 2) := by decide +kernel
theorem dX12_feed_4 : decode cX12_feed 4 = .ok (.invokestatic 50, 3) := by decide +kernel
theorem dX12_feed_7 : decode cX12_feed 7 = .ok (.ifCond .ne 6, 3) := by decide +kernel
theorem dX12_feed_10 : decode cX12_feed 10 = .ok (.bipush (-2), 2) := by decide +kernel
theorem dX12_feed_12 : decode cX12_feed 12 = .ok (.ireturn, 1) := by decide +kernel
theorem dX12_feed_13 : decode cX12_feed 13 = .ok (.aload_n 0, 1) := by decide +kernel
theorem dX12_feed_14 : decode cX12_feed 14 = .ok (.getfield 9, 3) := by decide +kernel
theorem dX12_feed_17 : decode cX12_feed 17 = .ok (.bipush 55, 2) := by decide +kernel
theorem dX12_feed_19 : decode cX12_feed 19 = .ok (.iaload, 1) := by decide +kernel
theorem dX12_feed_20 : decode cX12_feed 20 = .ok (.bipush 100, 2) := by decide +kernel
theorem dX12_feed_22 : decode cX12_feed 22 = .ok (.if_icmp .ne 6, 3) := by decide +kernel
theorem dX12_feed_25 : decode cX12_feed 25 = .ok (.bipush (-4), 2) := by decide +kernel
theorem dX12_feed_27 : decode cX12_feed 27 = .ok (.ireturn, 1) := by decide +kernel
theorem dX12_feed_28 : decode cX12_feed 28 = .ok (.aload_n 0, 1) := by decide +kernel
theorem dX12_feed_29 : decode cX12_feed 29 = .ok (.getfield 9, 3) := by decide +kernel
theorem dX12_feed_32 : decode cX12_feed 32 = .ok (.sipush 132, 3) := by decide +kernel
theorem dX12_feed_35 : decode cX12_feed 35 = .ok (.aload_n 0, 1) := by decide +kernel
theorem dX12_feed_36 : decode cX12_feed 36 = .ok (.getfield 9, 3) := by decide +kernel
theorem dX12_feed_39 : decode cX12_feed 39 = .ok (.bipush 55, 2) := by decide +kernel
theorem dX12_feed_41 : decode cX12_feed 41 = .ok (.iaload, 1) := by decide +kernel
theorem dX12_feed_42 : decode cX12_feed 42 = .ok (.iadd, 1) := by decide +kernel
theorem dX12_feed_43 : decode cX12_feed 43 = .ok (.iload_n 1, 1) := by decide +kernel
theorem dX12_feed_44 : decode cX12_feed 44 = .ok (.iastore, 1) := by decide +kernel
theorem dX12_feed_45 : decode cX12_feed 45 = .ok (.aload_n 0, 1) := by decide +kernel
theorem dX12_feed_46 : decode cX12_feed 46 = .ok (.getfield 9, 3) := by decide +kernel
theorem dX12_feed_49 : decode cX12_feed 49 = .ok (.bipush 55, 2) := by decide +kernel
theorem dX12_feed_51 : decode cX12_feed 51 = .ok (.dup2, 1) := by decide +kernel
theorem dX12_feed_52 : decode cX12_feed 52 = .ok (.iaload, 1) := by decide +kernel
theorem dX12_feed_53 : decode cX12_feed 53 = .ok (.iconst 1, 1) := by decide +kernel
theorem dX12_feed_54 : decode cX12_feed 54 = .ok (.iadd, 1) := by decide +kernel
theorem dX12_feed_55 : decode cX12_feed 55 = .ok (.iastore, 1) := by decide +kernel
theorem dX12_feed_56 : decode cX12_feed 56 = .ok (.aload_n 0, 1) := by decide +kernel
theorem dX12_feed_57 : decode cX12_feed 57 = .ok (.getfield 9, 3) := by decide +kernel
theorem dX12_feed_60 : decode cX12_feed 60 = .ok (.bipush 55, 2) := by decide +kernel
theorem dX12_feed_62 : decode cX12_feed 62 = .ok (.iaload, 1) := by decide +kernel
theorem dX12_feed_63 : decode cX12_feed 63 = .ok (.ireturn, 1) := by decide +kernel
theorem dX12_here_0 : decode cX12_here 0 = .ok (.aload_n 0, 1) := by decide +kernel
theorem dX12_here_1 : decode cX12_here 1 = .ok (.getfield 54, 3) := by decide +kernel
theorem dX12_here_4 : decode cX12_here 4 = .ok (.aload_n 0, 1) := by decide +kernel
theorem dX12_here_5 : decode cX12_here 5 = .ok (.getfield 57, 3) := by decide +kernel
theorem dX12_here_8 : decode cX12_here 8 = .ok (.if_icmp .ge 19, 3) := by decide +kernel
theorem dX12_here_11 : decode cX12_here 11 = .ok (.aload_n 0, 1) := by decide +kernel
theorem dX12_here_12 : decode cX12_here 12 = .ok (.getfield 9, 3) := by decide +kernel
theorem dX12_here_15 : decode cX12_here 15 = .ok (.sipush 132, 3) := by decide +kernel
theorem dX12_here_18 : decode cX12_here 18 = .ok (.aload_n 0, 1) := by decide +kernel
theorem dX12_here_19 : decode cX12_here 19 = .ok (.getfield 54, 3) := by decide +kernel
theorem dX12_here_22 : decode cX12_here 22 = .ok (.iadd, 1) := by decide +kernel
theorem dX12_here_23 : decode cX12_here 23 = .ok (.iaload, 1) := by decide +kernel
