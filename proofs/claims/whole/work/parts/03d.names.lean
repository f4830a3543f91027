set_option maxRecDepth 20000 in
theorem gX2_read_X2_sign : GoodIn wsX2_read (wsV RX2 45 RX2 yX2_sign wsX2_sign) := goodIn_app (goodIn_of _ (by decide +kernel)) ggX2_read_X2_sign
set_option maxRecDepth 20000 in
theorem ggX2_read_X2_readGain : GoodIn wsX2_read wsX2_readGain := goodIn_r _ [16, 17, 18, 19, 10, 20, 21, 22, 23, 24, 25, 26, 27, 28, 29, 30, 31, 32, 33, 34, 35, 36, 37, 38, 39, 40, 41, 42, 43, 44, 45, 46, 47, 48, 49, 50, 51, 52, 53, 54, 55, 56, 57, 58, 59, 60, 61, 62, 63, 64, 65, 66, 67, 68, 69, 70, 71, 72, 73, 4, 5, 7, 8, 9, 11, 6, 12, 74, 75, 76, 77, 78, 79, 80, 81, 82, 83, 84, 85, 86, 87, 88, 89, 90, 91, 92, 93, 94, 95, 96, 97, 98, 99, 100, 101, 102, 103, 104, 105, 106, 107, 108, 109, 110, 111, 112, 113, 114, 115, 116, 117, 118, 119, 120, 121, 122, 123, 124, 125, 126, 127, 128, 129, 130, 131, 132, 133, 134, 135, 136, 137, 138, 139, 140, 141, 142, 143, 144, 145, 146, 147, 148, 149, 150, 151, 152, 153, 154, 155, 156, 157, 158, 163, 164, 165, 166, 167, 168, 169, 170, 171, 172, 173] (by decide +kernel) (by decide +kernel)
set_option maxRecDepth 20000 in
theorem gX2_read_X2_readGain : GoodIn wsX2_read (wsV RX2 51 RX2 yX2_readGain wsX2_readGain) := goodIn_app (goodIn_of _ (by decide +kernel)) ggX2_read_X2_readGain
set_option maxRecDepth 20000 in
theorem ggX2_read_X2_readShare : GoodIn wsX2_read wsX2_readShare := goodIn_r _ [162, 17, 18, 19, 10, 20, 21, 22, 23, 24, 25, 26, 27, 28, 29, 30, 31, 32, 33, 34, 35, 36, 37, 38, 39, 40, 41, 42, 43, 44, 45, 46, 47, 48, 49, 50, 51, 52, 53, 54, 55, 56, 57, 58, 59, 60, 61, 62, 63, 64, 65, 66, 67, 68, 69, 70, 71, 72, 73, 4, 5, 7, 8, 9, 11, 6, 12, 74, 75, 76, 77, 163, 164, 165, 166, 167, 168, 169, 170, 171, 172, 173] (by decide +kernel) (by decide +kernel)
set_option maxRecDepth 20000 in
theorem gX2_read_X2_readShare : GoodIn wsX2_read (wsV RX2 59 RX2 yX2_readShare wsX2_readShare) := goodIn_app (goodIn_of _ (by decide +kernel)) ggX2_read_X2_readShare
set_option maxRecDepth 20000 in
theorem ggX2_read_X2_take : GoodIn wsX2_read wsX2_take := goodIn_r _ [73, 4, 5, 7, 8, 9, 10, 11, 6, 12, 163, 164, 165, 166, 167, 168, 169, 170, 171, 172, 173] (by decide +kernel) (by decide +kernel)
set_option maxRecDepth 20000 in
theorem gX2_read_X2_take : GoodIn wsX2_read (wsV RX2 74 RX2 yX2_take wsX2_take) := goodIn_app (goodIn_of _ (by decide +kernel)) ggX2_read_X2_take
theorem dX2_read_0 : decode cX2_read 0 = .ok (.iconst 1, 1) := by decide +kernel
theorem dX2_read_1 : decode cX2_read 1 = .ok (.istore_n 1, 1) := by decide +kernel
theorem dX2_read_2 : decode cX2_read 2 = .ok (.iconst 1, 1) := by decide +kernel
theorem dX2_read_3 : decode cX2_read 3 = .ok (.istore_n 2, 1) := by decide +kernel
theorem dX2_read_4 : decode cX2_read 4 = .ok (.iload_n 2, 1) := by decide +kernel
theorem dX2_read_5 : decode cX2_read 5 = .ok (.bipush 10, 2) := by decide +kernel
theorem dX2_read_7 : decode cX2_read 7 = .ok (.if_icmp .gt 171, 3) := by decide +kernel
theorem dX2_read_10 : decode cX2_read 10 = .ok (.iload_n 1, 1) := by decide +kernel
theorem dX2_read_11 : decode cX2_read 11 = .ok (.ifCond .eq 167, 3) := by decide +kernel
theorem dX2_read_14 : decode cX2_read 14 = .ok (.aload_n 0, 1) := by decide +kernel
theorem dX2_read_15 : decode cX2_read 15 = .ok (.invokevirtual 45, 3) := by decide +kernel
theorem dX2_read_18 : decode cX2_read 18 = .ok (.tableswitch 117 102 112 #[78, 117, 117, 117, 117, 117, 68, 58, 117, 91, 104], 58) := by decide +kernel
theorem dX2_read_76 : decode cX2_read 76 = .ok (.aload_n 0, 1) := by decide +kernel
theorem dX2_read_77 : decode cX2_read 77 = .ok (.ldc 49, 2) := by decide +kernel
theorem dX2_read_79 : decode cX2_read 79 = .ok (.iconst 1, 1) := by decide +kernel
theorem dX2_read_80 : decode cX2_read 80 = .ok (.invokevirtual 51, 3) := by decide +kernel
theorem dX2_read_83 : decode cX2_read 83 = .ok (.goto 57, 3) := by decide +kernel
theorem dX2_read_86 : decode cX2_read 86 = .ok (.aload_n 0, 1) := by decide +kernel
theorem dX2_read_87 : decode cX2_read 87 = .ok (.ldc 55, 2) := by decide +kernel
theorem dX2_read_89 : decode cX2_read 89 = .ok (.iconst (-1), 1) := by decide +kernel
theorem dX2_read_90 : decode cX2_read 90 = .ok (.invokevirtual 51, 3) := by decide +kernel
theorem dX2_read_93 : decode cX2_read 93 = .ok (.goto 47, 3) := by decide +kernel
theorem dX2_read_96 : decode cX2_read 96 = .ok (.aload_n 0, 1) := by decide +kernel
theorem dX2_read_97 : decode cX2_read 97 = .ok (.aload_n 0, 1) := by decide +kernel
theorem dX2_read_98 : decode cX2_read 98 = .ok (.ldc 57, 2) := by decide +kernel
theorem dX2_read_100 : decode cX2_read 100 = .ok (.invokevirtual 59, 3) := by decide +kernel
theorem dX2_read_103 : decode cX2_read 103 = .ok (.putfield 7, 3) := by decide +kernel
theorem dX2_read_106 : decode cX2_read 106 = .ok (.goto 34, 3) := by decide +kernel
theorem dX2_read_109 : decode cX2_read 109 = .ok (.aload_n 0, 1) := by decide +kernel
theorem dX2_read_110 : decode cX2_read 110 = .ok (.aload_n 0, 1) := by decide +kernel
theorem dX2_read_111 : decode cX2_read 111 = .ok (.ldc 63, 2) := by decide +kernel
theorem dX2_read_113 : decode cX2_read 113 = .ok (.invokevirtual 59, 3) := by decide +kernel
theorem dX2_read_116 : decode cX2_read 116 = .ok (.putfield 13, 3) := by decide +kernel
theorem dX2_read_119 : decode cX2_read 119 = .ok (.goto 21, 3) := by decide +kernel
theorem dX2_read_122 : decode cX2_read 122 = .ok (.aload_n 0, 1) := by decide +kernel
theorem dX2_read_123 : decode cX2_read 123 = .ok (.aload_n 0, 1) := by decide +kernel
theorem dX2_read_124 : decode cX2_read 124 = .ok (.ldc 65, 2) := by decide +kernel
theorem dX2_read_126 : decode cX2_read 126 = .ok (.invokevirtual 59, 3) := by decide +kernel
theorem dX2_read_129 : decode cX2_read 129 = .ok (.putfield 16, 3) := by decide +kernel
theorem dX2_read_132 : decode cX2_read 132 = .ok (.goto 8, 3) := by decide +kernel
theorem dX2_read_135 : decode cX2_read 135 = .ok (.aload_n 0, 1) := by decide +kernel
theorem dX2_read_136 : decode cX2_read 136 = .ok (.iconst 1, 1) := by decide +kernel
theorem dX2_read_137 : decode cX2_read 137 = .ok (.putfield 67, 3) := by decide +kernel
theorem dX2_read_140 : decode cX2_read 140 = .ok (.iload_n 2, 1) := by decide +kernel
theorem dX2_read_141 : decode cX2_read 141 = .ok (.bipush 10, 2) := by decide +kernel
theorem dX2_read_143 : decode cX2_read 143 = .ok (.if_icmp .ge 27, 3) := by decide +kernel
theorem dX2_read_146 : decode cX2_read 146 = .ok (.aload_n 0, 1) := by decide +kernel
theorem dX2_read_147 : decode cX2_read 147 = .ok (.getfield 71, 3) := by decide +kernel
theorem dX2_read_150 : decode cX2_read 150 = .ok (.aload_n 0, 1) := by decide +kernel
theorem dX2_read_151 : decode cX2_read 151 = .ok (.getfield 32, 3) := by decide +kernel
theorem dX2_read_154 : decode cX2_read 154 = .ok (.if_icmp .ge 16, 3) := by decide +kernel
theorem dX2_read_157 : decode cX2_read 157 = .ok (.aload_n 0, 1) := by decide +kernel
theorem dX2_read_158 : decode cX2_read 158 = .ok (.bipush 59, 2) := by decide +kernel
theorem dX2_read_160 : decode cX2_read 160 = .ok (.invokevirtual 74, 3) := by decide +kernel
theorem dX2_read_163 : decode cX2_read 163 = .ok (.ifCond .eq 7, 3) := by decide +kernel
theorem dX2_read_166 : decode cX2_read 166 = .ok (.iconst 1, 1) := by decide +kernel
theorem dX2_read_167 : decode cX2_read 167 = .ok (.goto 4, 3) := by decide +kernel
theorem dX2_read_170 : decode cX2_read 170 = .ok (.iconst 0, 1) := by decide +kernel
theorem dX2_read_171 : decode cX2_read 171 = .ok (.istore_n 1, 1) := by decide +kernel
theorem dX2_read_172 : decode cX2_read 172 = .ok (.iinc 2 1, 3) := by decide +kernel
theorem dX2_read_175 : decode cX2_read 175 = .ok (.goto (-171), 3) := by decide +kernel
theorem dX2_read_178 : decode cX2_read 178 = .ok (.aload_n 0, 1) := by decide +kernel
theorem dX2_read_179 : decode cX2_read 179 = .ok (.getfield 67, 3) := by decide +kernel
theorem dX2_read_182 : decode cX2_read 182 = .ok (.ifCond .ne 14, 3) := by decide +kernel
theorem dX2_read_185 : decode cX2_read 185 = .ok (.aload_n 0, 1) := by decide +kernel
theorem dX2_read_186 : decode cX2_read 186 = .ok (.getfield 71, 3) := by decide +kernel
theorem dX2_read_189 : decode cX2_read 189 = .ok (.aload_n 0, 1) := by decide +kernel
theorem dX2_read_190 : decode cX2_read 190 = .ok (.getfield 32, 3) := by decide +kernel
theorem dX2_read_193 : decode cX2_read 193 = .ok (.if_icmp .ge 10, 3) := by decide +kernel
theorem dX2_read_196 : decode cX2_read 196 = .ok (.aload_n 0, 1) := by decide +kernel
theorem dX2_read_197 : decode cX2_read 197 = .ok (.getfield 71, 3) := by decide +kernel
theorem dX2_read_200 : decode cX2_read 200 = .ok (.goto 4, 3) := by decide +kernel
theorem dX2_read_203 : decode cX2_read 203 = .ok (.iconst (-1), 1) := by decide +kernel
theorem dX2_read_204 : decode cX2_read 204 = .ok (.ireturn, 1) := by decide +kernel
theorem dX2_raise_0 : decode cX2_raise 0 = .ok (.iconst 0, 1) := by decide +kernel
theorem dX2_raise_1 : decode cX2_raise 1 = .ok (.istore_n 2, 1) := by decide +kernel
theorem dX2_raise_2 : decode cX2_raise 2 = .ok (.iconst 0, 1) := by decide +kernel
theorem dX2_raise_3 : decode cX2_raise 3 = .ok (.istore_n 3, 1) := by decide +kernel
theorem dX2_raise_4 : decode cX2_raise 4 = .ok (.iconst 0, 1) := by decide +kernel
theorem dX2_raise_5 : decode cX2_raise 5 = .ok (.istore 4, 2) := by decide +kernel
theorem dX2_raise_7 : decode cX2_raise 7 = .ok (.iload 4, 2) := by decide +kernel
theorem dX2_raise_9 : decode cX2_raise 9 = .ok (.aload_n 0, 1) := by decide +kernel
theorem dX2_raise_10 : decode cX2_raise 10 = .ok (.getfield 78, 3) := by decide +kernel
theorem dX2_raise_13 : decode cX2_raise 13 = .ok (.if_icmp .ge 174, 3) := by decide +kernel
theorem dX2_raise_16 : decode cX2_raise 16 = .ok (.aload_n 0, 1) := by decide +kernel
theorem dX2_raise_17 : decode cX2_raise 17 = .ok (.getfield 35, 3) := by decide +kernel
theorem dX2_raise_20 : decode cX2_raise 20 = .ok (.iload 4, 2) := by decide +kernel
theorem dX2_raise_22 : decode cX2_raise 22 = .ok (.iaload, 1) := by decide +kernel
theorem dX2_raise_23 : decode cX2_raise 23 = .ok (.istore 5, 2) := by decide +kernel
theorem dX2_raise_25 : decode cX2_raise 25 = .ok (.iload_n 2, 1) := by decide +kernel
theorem dX2_raise_26 : decode cX2_raise 26 = .ok (.iconst 1, 1) := by decide +kernel
theorem dX2_raise_27 : decode cX2_raise 27 = .ok (.iand, 1) := by decide +kernel
theorem dX2_raise_28 : decode cX2_raise 28 = .ok (.istore 6, 2) := by decide +kernel
theorem dX2_raise_30 : decode cX2_raise 30 = .ok (.iload_n 2, 1) := by decide +kernel
theorem dX2_raise_31 : decode cX2_raise 31 = .ok (.iconst 1, 1) := by decide +kernel
theorem dX2_raise_32 : decode cX2_raise 32 = .ok (.ishr, 1) := by decide +kernel
theorem dX2_raise_33 : decode cX2_raise 33 = .ok (.iconst 1, 1) := by decide +kernel
theorem dX2_raise_34 : decode cX2_raise 34 = .ok (.iand, 1) := by decide +kernel
theorem dX2_raise_35 : decode cX2_raise 35 = .ok (.istore 7, 2) := by decide +kernel
theorem dX2_raise_37 : decode cX2_raise 37 = .ok (.iload 5, 2) := by decide +kernel
theorem dX2_raise_39 : decode cX2_raise 39 = .ok (.bipush (-4), 2) := by decide +kernel
theorem dX2_raise_41 : decode cX2_raise 41 = .ok (.if_icmp .ne 21, 3) := by decide +kernel
theorem dX2_raise_44 : decode cX2_raise 44 = .ok (.iload_n 3, 1) := by decide +kernel
theorem dX2_raise_45 : decode cX2_raise 45 = .ok (.iload 6, 2) := by decide +kernel
theorem dX2_raise_47 : decode cX2_raise 47 = .ok (.aload_n 0, 1) := by decide +kernel
theorem dX2_raise_48 : decode cX2_raise 48 = .ok (.getfield 39, 3) := by decide +kernel
theorem dX2_raise_51 : decode cX2_raise 51 = .ok (.iload 4, 2) := by decide +kernel
theorem dX2_raise_53 : decode cX2_raise 53 = .ok (.iaload, 1) := by decide +kernel
theorem dX2_raise_54 : decode cX2_raise 54 = .ok (.imul, 1) := by decide +kernel
theorem dX2_raise_55 : decode cX2_raise 55 = .ok (.iadd, 1) := by decide +kernel
theorem dX2_raise_56 : decode cX2_raise 56 = .ok (.istore_n 3, 1) := by decide +kernel
theorem dX2_raise_57 : decode cX2_raise 57 = .ok (.iconst 0, 1) := by decide +kernel
theorem dX2_raise_58 : decode cX2_raise 58 = .ok (.istore_n 2, 1) := by decide +kernel
theorem dX2_raise_59 : decode cX2_raise 59 = .ok (.goto 122, 3) := by decide +kernel
theorem dX2_raise_62 : decode cX2_raise 62 = .ok (.iload 5, 2) := by decide +kernel
theorem dX2_raise_64 : decode cX2_raise 64 = .ok (.iconst (-1), 1) := by decide +kernel
theorem dX2_raise_65 : decode cX2_raise 65 = .ok (.if_icmp .ne 10, 3) := by decide +kernel
theorem dX2_raise_68 : decode cX2_raise 68 = .ok (.iload_n 2, 1) := by decide +kernel
theorem dX2_raise_69 : decode cX2_raise 69 = .ok (.iconst 1, 1) := by decide +kernel
theorem dX2_raise_70 : decode cX2_raise 70 = .ok (.ixor, 1) := by decide +kernel
theorem dX2_raise_71 : decode cX2_raise 71 = .ok (.istore_n 2, 1) := by decide +kernel
theorem dX2_raise_72 : decode cX2_raise 72 = .ok (.goto 109, 3) := by decide +kernel
theorem dX2_raise_75 : decode cX2_raise 75 = .ok (.iload 5, 2) := by decide +kernel
theorem dX2_raise_77 : decode cX2_raise 77 = .ok (.bipush (-2), 2) := by decide +kernel
theorem dX2_raise_79 : decode cX2_raise 79 = .ok (.if_icmp .ne 18, 3) := by decide +kernel
theorem dX2_raise_82 : decode cX2_raise 82 = .ok (.iload_n 2, 1) := by decide +kernel
theorem dX2_raise_83 : decode cX2_raise 83 = .ok (.iconst 2, 1) := by decide +kernel
theorem dX2_raise_84 : decode cX2_raise 84 = .ok (.ishr, 1) := by decide +kernel
theorem dX2_raise_85 : decode cX2_raise 85 = .ok (.iconst 1, 1) := by decide +kernel
theorem dX2_raise_86 : decode cX2_raise 86 = .ok (.ishl, 1) := by decide +kernel
theorem dX2_raise_87 : decode cX2_raise 87 = .ok (.iload 6, 2) := by decide +kernel
theorem dX2_raise_89 : decode cX2_raise 89 = .ok (.iload 7, 2) := by decide +kernel
theorem dX2_raise_91 : decode cX2_raise 91 = .ok (.iand, 1) := by decide +kernel
theorem dX2_raise_92 : decode cX2_raise 92 = .ok (.ior, 1) := by decide +kernel
theorem dX2_raise_93 : decode cX2_raise 93 = .ok (.istore_n 2, 1) := by decide +kernel
theorem dX2_raise_94 : decode cX2_raise 94 = .ok (.goto 87, 3) := by decide +kernel
theorem dX2_raise_97 : decode cX2_raise 97 = .ok (.iload 5, 2) := by decide +kernel
theorem dX2_raise_99 : decode cX2_raise 99 = .ok (.bipush (-3), 2) := by decide +kernel
theorem dX2_raise_101 : decode cX2_raise 101 = .ok (.if_icmp .ne 18, 3) := by decide +kernel
theorem dX2_raise_104 : decode cX2_raise 104 = .ok (.iload_n 2, 1) := by decide +kernel
theorem dX2_raise_105 : decode cX2_raise 105 = .ok (.iconst 2, 1) := by decide +kernel
theorem dX2_raise_106 : decode cX2_raise 106 = .ok (.ishr, 1) := by decide +kernel
theorem dX2_raise_107 : decode cX2_raise 107 = .ok (.iconst 1, 1) := by decide +kernel
theorem dX2_raise_108 : decode cX2_raise 108 = .ok (.ishl, 1) := by decide +kernel
theorem dX2_raise_109 : decode cX2_raise 109 = .ok (.iload 6, 2) := by decide +kernel
theorem dX2_raise_111 : decode cX2_raise 111 = .ok (.ior, 1) := by decide +kernel
theorem dX2_raise_112 : decode cX2_raise 112 = .ok (.iload 7, 2) := by decide +kernel
theorem dX2_raise_114 : decode cX2_raise 114 = .ok (.ior, 1) := by decide +kernel
theorem dX2_raise_115 : decode cX2_raise 115 = .ok (.istore_n 2, 1) := by decide +kernel
theorem dX2_raise_116 : decode cX2_raise 116 = .ok (.goto 65, 3) := by decide +kernel
theorem dX2_raise_119 : decode cX2_raise 119 = .ok (.iload 5, 2) := by decide +kernel
theorem dX2_raise_121 : decode cX2_raise 121 = .ok (.ifCond .lt 60, 3) := by decide +kernel
theorem dX2_raise_124 : decode cX2_raise 124 = .ok (.iload 5, 2) := by decide +kernel
theorem dX2_raise_126 : decode cX2_raise 126 = .ok (.aload_n 1, 1) := by decide +kernel
theorem dX2_raise_127 : decode cX2_raise 127 = .ok (.arraylength, 1) := by decide +kernel
theorem dX2_raise_128 : decode cX2_raise 128 = .ok (.if_icmp .ge 53, 3) := by decide +kernel
theorem dX2_raise_131 : decode cX2_raise 131 = .ok (.aload_n 1, 1) := by decide +kernel
theorem dX2_raise_132 : decode cX2_raise 132 = .ok (.iload 5, 2) := by decide +kernel
theorem dX2_raise_134 : decode cX2_raise 134 = .ok (.iaload, 1) := by decide +kernel
theorem dX2_raise_135 : decode cX2_raise 135 = .ok (.aload_n 0, 1) := by decide +kernel
theorem dX2_raise_136 : decode cX2_raise 136 = .ok (.getfield 39, 3) := by decide +kernel
theorem dX2_raise_139 : decode cX2_raise 139 = .ok (.iload 4, 2) := by decide +kernel
theorem dX2_raise_141 : decode cX2_raise 141 = .ok (.iaload, 1) := by decide +kernel
theorem dX2_raise_142 : decode cX2_raise 142 = .ok (.if_icmp .lt 21, 3) := by decide +kernel
theorem dX2_raise_145 : decode cX2_raise 145 = .ok (.aload_n 1, 1) := by decide +kernel
theorem dX2_raise_146 : decode cX2_raise 146 = .ok (.iload 5, 2) := by decide +kernel
theorem dX2_raise_148 : decode cX2_raise 148 = .ok (.iaload, 1) := by decide +kernel
theorem dX2_raise_149 : decode cX2_raise 149 = .ok (.aload_n 0, 1) := by decide +kernel
theorem dX2_raise_150 : decode cX2_raise 150 = .ok (.getfield 42, 3) := by decide +kernel
theorem dX2_raise_153 : decode cX2_raise 153 = .ok (.iload 4, 2) := by decide +kernel
theorem dX2_raise_155 : decode cX2_raise 155 = .ok (.iaload, 1) := by decide +kernel
theorem dX2_raise_156 : decode cX2_raise 156 = .ok (.if_icmp .gt 7, 3) := by decide +kernel
theorem dX2_raise_159 : decode cX2_raise 159 = .ok (.iconst 1, 1) := by decide +kernel
theorem dX2_raise_160 : decode cX2_raise 160 = .ok (.goto 4, 3) := by decide +kernel
theorem dX2_raise_163 : decode cX2_raise 163 = .ok (.iconst 0, 1) := by decide +kernel
theorem dX2_raise_164 : decode cX2_raise 164 = .ok (.istore 8, 2) := by decide +kernel
theorem dX2_raise_166 : decode cX2_raise 166 = .ok (.iload_n 2, 1) := by decide +kernel
theorem dX2_raise_167 : decode cX2_raise 167 = .ok (.iconst 1, 1) := by decide +kernel
theorem dX2_raise_168 : decode cX2_raise 168 = .ok (.ishl, 1) := by decide +kernel
theorem dX2_raise_169 : decode cX2_raise 169 = .ok (.iload 8, 2) := by decide +kernel
theorem dX2_raise_171 : decode cX2_raise 171 = .ok (.ifCond .eq 7, 3) := by decide +kernel
theorem dX2_raise_174 : decode cX2_raise 174 = .ok (.iconst 1, 1) := by decide +kernel
theorem dX2_raise_175 : decode cX2_raise 175 = .ok (.goto 4, 3) := by decide +kernel
theorem dX2_raise_178 : decode cX2_raise 178 = .ok (.iconst 0, 1) := by decide +kernel
theorem dX2_raise_179 : decode cX2_raise 179 = .ok (.ior, 1) := by decide +kernel
theorem dX2_raise_180 : decode cX2_raise 180 = .ok (.istore_n 2, 1) := by decide +kernel
theorem dX2_raise_181 : decode cX2_raise 181 = .ok (.iinc 4 1, 3) := by decide +kernel
theorem dX2_raise_184 : decode cX2_raise 184 = .ok (.goto (-177), 3) := by decide +kernel
theorem dX2_raise_187 : decode cX2_raise 187 = .ok (.iload_n 3, 1) := by decide +kernel
theorem dX2_raise_188 : decode cX2_raise 188 = .ok (.ireturn, 1) := by decide +kernel
set_option maxRecDepth 20000 in
theorem ggX2_readShare_X2_takeAll : GoodIn wsX2_readShare wsX2_takeAll := goodIn_r _ [5, 6, 7, 8, 9, 10, 11, 12, 13, 14, 15, 16, 17, 18, 19, 20, 21, 22, 23, 24, 25, 26, 27, 28, 29, 30, 31, 32, 33, 34, 35, 36, 37, 38, 39, 40, 41, 42, 43, 44, 45, 46, 47, 48, 49, 50, 51, 52, 53, 54, 55, 56, 57, 4, 58, 59, 60, 61, 62, 63, 64, 65, 66, 71, 72, 73, 74, 75, 76, 77, 78, 79, 80, 81] (by decide +kernel) (by decide +kernel)
set_option maxRecDepth 20000 in
theorem gX2_readShare_X2_takeAll : GoodIn wsX2_readShare (wsV RX2 81 RX2 yX2_takeAll wsX2_takeAll) := goodIn_app (goodIn_of _ (by decide +kernel)) ggX2_readShare_X2_takeAll
set_option maxRecDepth 20000 in
theorem ggX2_readShare_X2_readNumber : GoodIn wsX2_readShare wsX2_readNumber := goodIn_r _ [70, 59, 60, 61, 62, 63, 4, 64, 65, 66, 71, 72, 73, 74, 75, 76, 77, 78, 79, 80, 81] (by decide +kernel) (by decide +kernel)
set_option maxRecDepth 20000 in
theorem gX2_readShare_X2_readNumber : GoodIn wsX2_readShare (wsV RX2 85 RX2 yX2_readNumber wsX2_readNumber) := goodIn_app (goodIn_of _ (by decide +kernel)) ggX2_readShare_X2_readNumber
theorem dX2_readShare_0 : decode cX2_readShare 0 = .ok (.aload_n 0, 1) := by decide +kernel
theorem dX2_readShare_1 : decode cX2_readShare 1 = .ok (.aload_n 1, 1) := by decide +kernel
theorem dX2_readShare_2 : decode cX2_readShare 2 = .ok (.invokevirtual 81, 3) := by decide +kernel
theorem dX2_readShare_5 : decode cX2_readShare 5 = .ok (.aload_n 0, 1) := by decide +kernel
theorem dX2_readShare_6 : decode cX2_readShare 6 = .ok (.invokevirtual 85, 3) := by decide +kernel
theorem dX2_readShare_9 : decode cX2_readShare 9 = .ok (.ireturn, 1) := by decide +kernel
set_option maxRecDepth 20000 in
theorem ggX2_readGain_X2_takeAll : GoodIn wsX2_readGain wsX2_takeAll := goodIn_r _ [5, 6, 7, 8, 9, 10, 11, 12, 13, 14, 15, 16, 17, 18, 19, 20, 21, 22, 23, 24, 25, 26, 27, 28, 29, 30, 31, 32, 33, 34, 35, 36, 37, 38, 39, 40, 41, 42, 43, 44, 45, 46, 47, 48, 49, 50, 51, 52, 53, 54, 55, 56, 57, 4, 58, 59, 60, 61, 62, 63, 64, 65, 66, 152, 153, 154, 155, 156, 157, 158, 159, 160, 161, 162] (by decide +kernel) (by decide +kernel)
set_option maxRecDepth 20000 in
theorem gX2_readGain_X2_takeAll : GoodIn wsX2_readGain (wsV RX2 81 RX2 yX2_takeAll wsX2_takeAll) := goodIn_app (goodIn_of _ (by decide +kernel)) ggX2_readGain_X2_takeAll
set_option maxRecDepth 20000 in
theorem ggX2_readGain_X2_readNumber : GoodIn wsX2_readGain wsX2_readNumber := goodIn_r _ [70, 59, 60, 61, 62, 63, 4, 64, 65, 66, 152, 153, 154, 155, 156, 157, 158, 159, 160, 161, 162] (by decide +kernel) (by decide +kernel)
set_option maxRecDepth 20000 in
theorem gX2_readGain_X2_readNumber : GoodIn wsX2_readGain (wsV RX2 85 RX2 yX2_readNumber wsX2_readNumber) := goodIn_app (goodIn_of _ (by decide +kernel)) ggX2_readGain_X2_readNumber
set_option maxRecDepth 20000 in
theorem ggX2_readGain_X2_take : GoodIn wsX2_readGain wsX2_take := goodIn_r _ [58, 59, 60, 61, 62, 63, 4, 64, 65, 66, 152, 153, 154, 155, 156, 157, 158, 159, 160, 161, 162] (by decide +kernel) (by decide +kernel)
set_option maxRecDepth 20000 in
theorem gX2_readGain_X2_take : GoodIn wsX2_readGain (wsV RX2 74 RX2 yX2_take wsX2_take) := goodIn_app (goodIn_of _ (by decide +kernel)) ggX2_readGain_X2_take
set_option maxRecDepth 20000 in
theorem ggX2_readGain_X2_readEither : GoodIn wsX2_readGain wsX2_readEither := goodIn_r _ [74, 65, 60, 75, 76, 77, 4, 61, 62, 63, 64, 59, 66, 78, 79, 80, 81, 82, 83, 84, 85, 86, 87, 88, 89, 90, 91, 92, 93, 9, 94, 95, 96, 97, 98, 11, 22, 23, 24, 25, 16, 17, 99, 7, 8, 10, 12, 13, 14, 15, 100, 101, 28, 102, 103, 104, 105, 106, 107, 108, 109, 110, 111, 112, 113, 114, 115, 116, 117, 40, 118, 119, 120, 121, 122, 123, 124, 125, 126, 127, 45, 46, 47, 128, 129, 130, 33, 131, 132, 36, 133, 134, 135, 136, 49, 50, 51, 52, 53, 54, 137, 138, 139, 140, 141, 142, 143, 144, 145, 146, 147, 148, 149, 150, 151, 71, 72, 73, 55, 56, 57, 58, 67, 68, 69, 70, 152, 153, 154, 155, 156, 157, 158, 159, 160, 161, 162] (by decide +kernel) (by decide +kernel)
set_option maxRecDepth 20000 in
theorem gX2_readGain_X2_readEither : GoodIn wsX2_readGain (wsV RX2 88 RX2 yX2_readEither wsX2_readEither) := goodIn_app (goodIn_of _ (by decide +kernel)) ggX2_readGain_X2_readEither
set_option maxRecDepth 20000 in
theorem ggX2_readGain_X2_add : GoodIn wsX2_readGain wsX2_add := goodIn_r _ [81, 59, 82, 65, 83, 84, 85, 152, 153, 154, 155, 156, 157, 158, 159, 160, 161, 162] (by decide +kernel) (by decide +kernel)
set_option maxRecDepth 20000 in
theorem gX2_readGain_X2_add : GoodIn wsX2_readGain (wsV RX2 92 RX2 yX2_add wsX2_add) := goodIn_app (goodIn_of _ (by decide +kernel)) ggX2_readGain_X2_add
theorem dX2_readGain_0 : decode cX2_readGain 0 = .ok (.aload_n 0, 1) := by decide +kernel
theorem dX2_readGain_1 : decode cX2_readGain 1 = .ok (.aload_n 1, 1) := by decide +kernel
theorem dX2_readGain_2 : decode cX2_readGain 2 = .ok (.invokevirtual 81, 3) := by decide +kernel
theorem dX2_readGain_5 : decode cX2_readGain 5 = .ok (.aload_n 0, 1) := by decide +kernel
theorem dX2_readGain_6 : decode cX2_readGain 6 = .ok (.invokevirtual 85, 3) := by decide +kernel
theorem dX2_readGain_9 : decode cX2_readGain 9 = .ok (.istore_n 3, 1) := by decide +kernel
theorem dX2_readGain_10 : decode cX2_readGain 10 = .ok (.aload_n 0, 1) := by decide +kernel
theorem dX2_readGain_11 : decode cX2_readGain 11 = .ok (.bipush 32, 2) := by decide +kernel
theorem dX2_readGain_13 : decode cX2_readGain 13 = .ok (.invokevirtual 74, 3) := by decide +kernel
theorem dX2_readGain_16 : decode cX2_readGain 16 = .ok (.pop, 1) := by decide +kernel
theorem dX2_readGain_17 : decode cX2_readGain 17 = .ok (.aload_n 0, 1) := by decide +kernel
theorem dX2_readGain_18 : decode cX2_readGain 18 = .ok (.iconst 0, 1) := by decide +kernel
theorem dX2_readGain_19 : decode cX2_readGain 19 = .ok (.invokevirtual 88, 3) := by decide +kernel
theorem dX2_readGain_22 : decode cX2_readGain 22 = .ok (.aload_n 0, 1) := by decide +kernel
theorem dX2_readGain_23 : decode cX2_readGain 23 = .ok (.bipush (-4), 2) := by decide +kernel
theorem dX2_readGain_25 : decode cX2_readGain 25 = .ok (.iload_n 2, 1) := by decide +kernel
theorem dX2_readGain_26 : decode cX2_readGain 26 = .ok (.iload_n 3, 1) := by decide +kernel
theorem dX2_readGain_27 : decode cX2_readGain 27 = .ok (.imul, 1) := by decide +kernel
theorem dX2_readGain_28 : decode cX2_readGain 28 = .ok (.iconst 0, 1) := by decide +kernel
theorem dX2_readGain_29 : decode cX2_readGain 29 = .ok (.invokevirtual 92, 3) := by decide +kernel
theorem dX2_readGain_32 : decode cX2_readGain 32 = .ok (.return_, 1) := by decide +kernel
set_option maxRecDepth 20000 in
theorem ggX2_readEither_X2_readBoth : GoodIn wsX2_readEither wsX2_readBoth := goodIn_r _ [21, 1, 2, 22, 23, 24, 6, 7, 8, 9, 10, 11, 12, 13, 14, 15, 16, 17, 18, 19, 20, 0, 3, 4, 5, 25, 26, 27, 28, 29, 30, 31, 32, 33, 34, 35, 36, 37, 38, 39, 40, 41, 42, 43, 44, 45, 46, 47, 48, 49, 50, 51, 52, 53, 54, 55, 56, 57, 58, 59, 60, 61, 62, 63, 64, 65, 66, 67, 68, 69, 70, 71, 72, 73, 74, 75, 76, 77, 78, 79, 80, 81, 82, 83, 84, 85, 86, 87, 88, 89, 90, 91, 92, 93, 94, 95, 96, 97, 98, 99, 100, 101, 102, 103, 104, 105, 106, 107, 108, 109, 110, 111, 112, 113, 114, 115, 116, 117, 118, 119, 120, 121, 122, 123, 124, 125, 126, 127, 128, 129, 130, 131, 132, 133, 134, 135, 136] (by decide +kernel) (by decide +kernel)
set_option maxRecDepth 20000 in
theorem gX2_readEither_X2_readBoth : GoodIn wsX2_readEither (wsV RX2 96 RX2 yX2_readBoth wsX2_readBoth) := goodIn_app (goodIn_of _ (by decide +kernel)) ggX2_readEither_X2_readBoth
set_option maxRecDepth 20000 in
theorem ggX2_readEither_X2_sign : GoodIn wsX2_readEither wsX2_sign := goodIn_r _ [10, 11, 2, 1, 12, 126, 127, 128, 129, 130, 131, 132, 133, 134, 135, 136] (by decide +kernel) (by decide +kernel)
set_option maxRecDepth 20000 in
theorem gX2_readEither_X2_sign : GoodIn wsX2_readEither (wsV RX2 45 RX2 yX2_sign wsX2_sign) := goodIn_app (goodIn_of _ (by decide +kernel)) ggX2_readEither_X2_sign
set_option maxRecDepth 20000 in
theorem ggX2_readEither_X2_add : GoodIn wsX2_readEither wsX2_add := goodIn_r _ [16, 11, 17, 1, 18, 19, 20, 126, 127, 128, 129, 130, 131, 132, 133, 134, 135, 136] (by decide +kernel) (by decide +kernel)
set_option maxRecDepth 20000 in
theorem gX2_readEither_X2_add : GoodIn wsX2_readEither (wsV RX2 92 RX2 yX2_add wsX2_add) := goodIn_app (goodIn_of _ (by decide +kernel)) ggX2_readEither_X2_add
theorem dX2_readEither_0 : decode cX2_readEither 0 = .ok (.aload_n 0, 1) := by decide +kernel
theorem dX2_readEither_1 : decode cX2_readEither 1 = .ok (.iload_n 1, 1) := by decide +kernel
theorem dX2_readEither_2 : decode cX2_readEither 2 = .ok (.invokevirtual 96, 3) := by decide +kernel
theorem dX2_readEither_5 : decode cX2_readEither 5 = .ok (.iconst 0, 1) := by decide +kernel
theorem dX2_readEither_6 : decode cX2_readEither 6 = .ok (.istore_n 2, 1) := by decide +kernel
theorem dX2_readEither_7 : decode cX2_readEither 7 = .ok (.iload_n 2, 1) := by decide +kernel
theorem dX2_readEither_8 : decode cX2_readEither 8 = .ok (.aload_n 0, 1) := by decide +kernel
theorem dX2_readEither_9 : decode cX2_readEither 9 = .ok (.getfield 32, 3) := by decide +kernel
theorem dX2_readEither_12 : decode cX2_readEither 12 = .ok (.if_icmp .ge 41, 3) := by decide +kernel
theorem dX2_readEither_15 : decode cX2_readEither 15 = .ok (.aload_n 0, 1) := by decide +kernel
theorem dX2_readEither_16 : decode cX2_readEither 16 = .ok (.invokevirtual 45, 3) := by decide +kernel
theorem dX2_readEither_19 : decode cX2_readEither 19 = .ok (.bipush 124, 2) := by decide +kernel
theorem dX2_readEither_21 : decode cX2_readEither 21 = .ok (.if_icmp .ne 32, 3) := by decide +kernel
theorem dX2_readEither_24 : decode cX2_readEither 24 = .ok (.aload_n 0, 1) := by decide +kernel
theorem dX2_readEither_25 : decode cX2_readEither 25 = .ok (.dup, 1) := by decide +kernel
theorem dX2_readEither_26 : decode cX2_readEither 26 = .ok (.getfield 71, 3) := by decide +kernel
theorem dX2_readEither_29 : decode cX2_readEither 29 = .ok (.iconst 1, 1) := by decide +kernel
theorem dX2_readEither_30 : decode cX2_readEither 30 = .ok (.iadd, 1) := by decide +kernel
theorem dX2_readEither_31 : decode cX2_readEither 31 = .ok (.putfield 71, 3) := by decide +kernel
theorem dX2_readEither_34 : decode cX2_readEither 34 = .ok (.aload_n 0, 1) := by decide +kernel
theorem dX2_readEither_35 : decode cX2_readEither 35 = .ok (.iload_n 1, 1) := by decide +kernel
theorem dX2_readEither_36 : decode cX2_readEither 36 = .ok (.invokevirtual 96, 3) := by decide +kernel
theorem dX2_readEither_39 : decode cX2_readEither 39 = .ok (.aload_n 0, 1) := by decide +kernel
theorem dX2_readEither_40 : decode cX2_readEither 40 = .ok (.bipush (-3), 2) := by decide +kernel
theorem dX2_readEither_42 : decode cX2_readEither 42 = .ok (.iconst 0, 1) := by decide +kernel
theorem dX2_readEither_43 : decode cX2_readEither 43 = .ok (.iconst 0, 1) := by decide +kernel
theorem dX2_readEither_44 : decode cX2_readEither 44 = .ok (.invokevirtual 92, 3) := by decide +kernel
theorem dX2_readEither_47 : decode cX2_readEither 47 = .ok (.iinc 2 1, 3) := by decide +kernel
theorem dX2_readEither_50 : decode cX2_readEither 50 = .ok (.goto (-43), 3) := by decide +kernel
theorem dX2_readEither_53 : decode cX2_readEither 53 = .ok (.return_, 1) := by decide +kernel
set_option maxRecDepth 20000 in
theorem ggX2_readBoth_X2_readPart : GoodIn wsX2_readBoth wsX2_readPart := goodIn_r _ [25, 2, 11, 7, 8, 9, 6, 10, 1, 12, 26, 27, 28, 29, 30, 31, 32, 33, 34, 35, 36, 37, 38, 39, 40, 41, 42, 43, 44, 45, 46, 47, 48, 49, 50, 51, 52, 53, 54, 55, 56, 57, 58, 59, 60, 61, 62, 63, 64, 65, 66, 67, 68, 69, 70, 71, 72, 73, 74, 75, 76, 77, 78, 79, 80, 81, 82, 83, 84, 85, 86, 87, 88, 89, 90, 91, 92, 93, 94, 95, 96, 97, 98, 99, 100, 101, 102, 103, 104, 105, 106, 107, 108, 109, 110, 111, 112, 113, 114, 3, 4, 5, 13, 14, 15, 16, 17, 18, 19, 20, 115, 116, 117, 118, 119, 120, 121, 122, 123, 124, 125, 0, 21, 22, 23, 24, 126, 127, 128, 129, 130, 131, 132, 133, 134, 135, 136] (by decide +kernel) (by decide +kernel)
set_option maxRecDepth 20000 in
theorem gX2_readBoth_X2_readPart : GoodIn wsX2_readBoth (wsV RX2 99 RX2 yX2_readPart wsX2_readPart) := goodIn_app (goodIn_of _ (by decide +kernel)) ggX2_readBoth_X2_readPart
set_option maxRecDepth 20000 in
theorem ggX2_readBoth_X2_sign : GoodIn wsX2_readBoth wsX2_sign := goodIn_r _ [10, 11, 2, 1, 12, 126, 127, 128, 129, 130, 131, 132, 133, 134, 135, 136] (by decide +kernel) (by decide +kernel)
set_option maxRecDepth 20000 in
theorem gX2_readBoth_X2_sign : GoodIn wsX2_readBoth (wsV RX2 45 RX2 yX2_sign wsX2_sign) := goodIn_app (goodIn_of _ (by decide +kernel)) ggX2_readBoth_X2_sign
set_option maxRecDepth 20000 in
theorem ggX2_readBoth_X2_add : GoodIn wsX2_readBoth wsX2_add := goodIn_r _ [16, 11, 17, 1, 18, 19, 20, 126, 127, 128, 129, 130, 131, 132, 133, 134, 135, 136] (by decide +kernel) (by decide +kernel)
set_option maxRecDepth 20000 in
theorem gX2_readBoth_X2_add : GoodIn wsX2_readBoth (wsV RX2 92 RX2 yX2_add wsX2_add) := goodIn_app (goodIn_of _ (by decide +kernel)) ggX2_readBoth_X2_add
theorem dX2_readBoth_0 : decode cX2_readBoth 0 = .ok (.aload_n 0, 1) := by decide +kernel
theorem dX2_readBoth_1 : decode cX2_readBoth 1 = .ok (.iload_n 1, 1) := by decide +kernel
theorem dX2_readBoth_2 : decode cX2_readBoth 2 = .ok (.invokevirtual 99, 3) := by decide +kernel
theorem dX2_readBoth_5 : decode cX2_readBoth 5 = .ok (.iconst 0, 1) := by decide +kernel
theorem dX2_readBoth_6 : decode cX2_readBoth 6 = .ok (.istore_n 2, 1) := by decide +kernel
theorem dX2_readBoth_7 : decode cX2_readBoth 7 = .ok (.iload_n 2, 1) := by decide +kernel
theorem dX2_readBoth_8 : decode cX2_readBoth 8 = .ok (.aload_n 0, 1) := by decide +kernel
theorem dX2_readBoth_9 : decode cX2_readBoth 9 = .ok (.getfield 32, 3) := by decide +kernel
theorem dX2_readBoth_12 : decode cX2_readBoth 12 = .ok (.if_icmp .ge 41, 3) := by decide +kernel
theorem dX2_readBoth_15 : decode cX2_readBoth 15 = .ok (.aload_n 0, 1) := by decide +kernel
theorem dX2_readBoth_16 : decode cX2_readBoth 16 = .ok (.invokevirtual 45, 3) := by decide +kernel
theorem dX2_readBoth_19 : decode cX2_readBoth 19 = .ok (.bipush 38, 2) := by decide +kernel
theorem dX2_readBoth_21 : decode cX2_readBoth 21 = .ok (.if_icmp .ne 32, 3) := by decide +kernel
theorem dX2_readBoth_24 : decode cX2_readBoth 24 = .ok (.aload_n 0, 1) := by decide +kernel
theorem dX2_readBoth_25 : decode cX2_readBoth 25 = .ok (.dup, 1) := by decide +kernel
theorem dX2_readBoth_26 : decode cX2_readBoth 26 = .ok (.getfield 71, 3) := by decide +kernel
theorem dX2_readBoth_29 : decode cX2_readBoth 29 = .ok (.iconst 1, 1) := by decide +kernel
theorem dX2_readBoth_30 : decode cX2_readBoth 30 = .ok (.iadd, 1) := by decide +kernel
theorem dX2_readBoth_31 : decode cX2_readBoth 31 = .ok (.putfield 71, 3) := by decide +kernel
theorem dX2_readBoth_34 : decode cX2_readBoth 34 = .ok (.aload_n 0, 1) := by decide +kernel
theorem dX2_readBoth_35 : decode cX2_readBoth 35 = .ok (.iload_n 1, 1) := by decide +kernel
theorem dX2_readBoth_36 : decode cX2_readBoth 36 = .ok (.invokevirtual 99, 3) := by decide +kernel
theorem dX2_readBoth_39 : decode cX2_readBoth 39 = .ok (.aload_n 0, 1) := by decide +kernel
theorem dX2_readBoth_40 : decode cX2_readBoth 40 = .ok (.bipush (-2), 2) := by decide +kernel
theorem dX2_readBoth_42 : decode cX2_readBoth 42 = .ok (.iconst 0, 1) := by decide +kernel
theorem dX2_readBoth_43 : decode cX2_readBoth 43 = .ok (.iconst 0, 1) := by decide +kernel
theorem dX2_readBoth_44 : decode cX2_readBoth 44 = .ok (.invokevirtual 92, 3) := by decide +kernel
theorem dX2_readBoth_47 : decode cX2_readBoth 47 = .ok (.iinc 2 1, 3) := by decide +kernel
theorem dX2_readBoth_50 : decode cX2_readBoth 50 = .ok (.goto (-43), 3) := by decide +kernel
theorem dX2_readBoth_53 : decode cX2_readBoth 53 = .ok (.return_, 1) := by decide +kernel
set_option maxRecDepth 20000 in
theorem ggX2_readPart_X2_sign : GoodIn wsX2_readPart wsX2_sign := goodIn_r _ [7, 2, 1, 8, 9, 126, 127, 128, 129, 130, 131, 132, 133, 134, 135, 136] (by decide +kernel) (by decide +kernel)
set_option maxRecDepth 20000 in
theorem gX2_readPart_X2_sign : GoodIn wsX2_readPart (wsV RX2 45 RX2 yX2_sign wsX2_sign) := goodIn_app (goodIn_of _ (by decide +kernel)) ggX2_readPart_X2_sign
set_option maxRecDepth 20000 in
theorem ggX2_readPart_J0_indexOf_0f7a4 : GoodIn wsX2_readPart wsJ0_indexOf_0f7a4 := goodIn_r _ [14, 15, 16, 17, 13, 18, 19, 20, 21, 22, 23, 24, 25, 26, 27, 28, 29, 30, 31, 32, 33, 34, 35, 36, 37, 38, 39, 40, 41, 42, 43, 44, 45, 46, 47, 48, 49, 50, 51, 52, 53, 54, 55, 56, 57, 58, 59, 60, 61, 62, 63, 64, 65, 66, 67, 68, 69, 70, 71, 72, 73, 74, 75, 76, 77, 78, 79, 80, 81, 82, 83, 84, 85, 86, 87, 88, 89, 90, 91, 92, 93, 94, 95, 96, 97, 98] (by decide +kernel) (by decide +kernel)
set_option maxRecDepth 20000 in
theorem gX2_readPart_J0_indexOf_0f7a4 : GoodIn wsX2_readPart (wsV RX2 104 RJ0 yJ0_indexOf_0f7a4 wsJ0_indexOf_0f7a4) := goodIn_app (goodIn_of _ (by decide +kernel)) ggX2_readPart_J0_indexOf_0f7a4
set_option maxRecDepth 20000 in
theorem ggX2_readPart_X2_readPart : GoodIn wsX2_readPart wsX2_readPart := goodIn_r _ [0, 1, 2, 3, 4, 5, 6, 7, 8, 9, 10, 11, 12, 13, 14, 15, 16, 17, 18, 19, 20, 21, 22, 23, 24, 25, 26, 27, 28, 29, 30, 31, 32, 33, 34, 35, 36, 37, 38, 39, 40, 41, 42, 43, 44, 45, 46, 47, 48, 49, 50, 51, 52, 53, 54, 55, 56, 57, 58, 59, 60, 61, 62, 63, 64, 65, 66, 67, 68, 69, 70, 71, 72, 73, 74, 75, 76, 77, 78, 79, 80, 81, 82, 83, 84, 85, 86, 87, 88, 89, 90, 91, 92, 93, 94, 95, 96, 97, 98, 99, 100, 101, 102, 103, 104, 105, 106, 107, 108, 109, 110, 111, 112, 113, 114, 115, 116, 117, 118, 119, 120, 121, 122, 123, 124, 125, 126, 127, 128, 129, 130, 131, 132, 133, 134, 135, 136] (by decide +kernel) (by decide +kernel)
set_option maxRecDepth 20000 in
theorem gX2_readPart_X2_readPart : GoodIn wsX2_readPart (wsV RX2 99 RX2 yX2_readPart wsX2_readPart) := goodIn_app (goodIn_of _ (by decide +kernel)) ggX2_readPart_X2_readPart
set_option maxRecDepth 20000 in
theorem ggX2_readPart_X2_add : GoodIn wsX2_readPart wsX2_add := goodIn_r _ [105, 2, 106, 8, 107, 108, 109, 126, 127, 128, 129, 130, 131, 132, 133, 134, 135, 136] (by decide +kernel) (by decide +kernel)
set_option maxRecDepth 20000 in
theorem gX2_readPart_X2_add : GoodIn wsX2_readPart (wsV RX2 92 RX2 yX2_add wsX2_add) := goodIn_app (goodIn_of _ (by decide +kernel)) ggX2_readPart_X2_add
set_option maxRecDepth 20000 in
theorem ggX2_readPart_X2_readEither : GoodIn wsX2_readPart wsX2_readEither := goodIn_r _ [122, 8, 1, 123, 124, 125, 6, 3, 4, 5, 7, 2, 9, 102, 103, 104, 105, 106, 107, 108, 109, 121, 99, 100, 101, 0, 10, 11, 12, 13, 14, 15, 16, 17, 18, 19, 20, 21, 22, 23, 24, 25, 26, 27, 28, 29, 30, 31, 32, 33, 34, 35, 36, 37, 38, 39, 40, 41, 42, 43, 44, 45, 46, 47, 48, 49, 50, 51, 52, 53, 54, 55, 56, 57, 58, 59, 60, 61, 62, 63, 64, 65, 66, 67, 68, 69, 70, 71, 72, 73, 74, 75, 76, 77, 78, 79, 80, 81, 82, 83, 84, 85, 86, 87, 88, 89, 90, 91, 92, 93, 94, 95, 96, 97, 98, 110, 111, 112, 113, 114, 115, 116, 117, 118, 119, 120, 126, 127, 128, 129, 130, 131, 132, 133, 134, 135, 136] (by decide +kernel) (by decide +kernel)
set_option maxRecDepth 20000 in
theorem gX2_readPart_X2_readEither : GoodIn wsX2_readPart (wsV RX2 88 RX2 yX2_readEither wsX2_readEither) := goodIn_app (goodIn_of _ (by decide +kernel)) ggX2_readPart_X2_readEither
set_option maxRecDepth 20000 in
theorem ggX2_readPart_X2_take : GoodIn wsX2_readPart wsX2_take := goodIn_r _ [116, 2, 1, 3, 4, 5, 6, 7, 8, 9, 126, 127, 128, 129, 130, 131, 132, 133, 134, 135, 136] (by decide +kernel) (by decide +kernel)
set_option maxRecDepth 20000 in
theorem gX2_readPart_X2_take : GoodIn wsX2_readPart (wsV RX2 74 RX2 yX2_take wsX2_take) := goodIn_app (goodIn_of _ (by decide +kernel)) ggX2_readPart_X2_take
set_option maxRecDepth 20000 in
theorem ggX2_readPart_X2_readNumber : GoodIn wsX2_readPart wsX2_readNumber := goodIn_r _ [120, 2, 1, 3, 4, 5, 6, 7, 8, 9, 126, 127, 128, 129, 130, 131, 132, 133, 134, 135, 136] (by decide +kernel) (by decide +kernel)
set_option maxRecDepth 20000 in
theorem gX2_readPart_X2_readNumber : GoodIn wsX2_readPart (wsV RX2 85 RX2 yX2_readNumber wsX2_readNumber) := goodIn_app (goodIn_of _ (by decide +kernel)) ggX2_readPart_X2_readNumber
theorem dX2_readPart_0 : decode cX2_readPart 0 = .ok (.aload_n 0, 1) := by decide +kernel
theorem dX2_readPart_1 : decode cX2_readPart 1 = .ok (.invokevirtual 45, 3) := by decide +kernel
theorem dX2_readPart_4 : decode cX2_readPart 4 = .ok (.istore_n 2, 1) := by decide +kernel
theorem dX2_readPart_5 : decode cX2_readPart 5 = .ok (.iload_n 2, 1) := by decide +kernel
theorem dX2_readPart_6 : decode cX2_readPart 6 = .ok (.ifCond .ge 7, 3) := by decide +kernel
theorem dX2_readPart_9 : decode cX2_readPart 9 = .ok (.iconst (-1), 1) := by decide +kernel
theorem dX2_readPart_10 : decode cX2_readPart 10 = .ok (.goto 10, 3) := by decide +kernel
theorem dX2_readPart_13 : decode cX2_readPart 13 = .ok (.ldc 102, 2) := by decide +kernel
theorem dX2_readPart_15 : decode cX2_readPart 15 = .ok (.iload_n 2, 1) := by decide +kernel
theorem dX2_readPart_16 : decode cX2_readPart 16 = .ok (.i2c, 1) := by decide +kernel
theorem dX2_readPart_17 : decode cX2_readPart 17 = .ok (.invokevirtual 104, 3) := by decide +kernel
theorem dX2_readPart_20 : decode cX2_readPart 20 = .ok (.istore_n 3, 1) := by decide +kernel
theorem dX2_readPart_21 : decode cX2_readPart 21 = .ok (.iload_n 2, 1) := by decide +kernel
theorem dX2_readPart_22 : decode cX2_readPart 22 = .ok (.bipush 33, 2) := by decide +kernel
theorem dX2_readPart_24 : decode cX2_readPart 24 = .ok (.if_icmp .ne 35, 3) := by decide +kernel
theorem dX2_readPart_27 : decode cX2_readPart 27 = .ok (.iload_n 1, 1) := by decide +kernel
theorem dX2_readPart_28 : decode cX2_readPart 28 = .ok (.iconst 5, 1) := by decide +kernel
theorem dX2_readPart_29 : decode cX2_readPart 29 = .ok (.if_icmp .ge 30, 3) := by decide +kernel
theorem dX2_readPart_32 : decode cX2_readPart 32 = .ok (.aload_n 0, 1) := by decide +kernel
theorem dX2_readPart_33 : decode cX2_readPart 33 = .ok (.dup, 1) := by decide +kernel
theorem dX2_readPart_34 : decode cX2_readPart 34 = .ok (.getfield 71, 3) := by decide +kernel
theorem dX2_readPart_37 : decode cX2_readPart 37 = .ok (.iconst 1, 1) := by decide +kernel
theorem dX2_readPart_38 : decode cX2_readPart 38 = .ok (.iadd, 1) := by decide +kernel
theorem dX2_readPart_39 : decode cX2_readPart 39 = .ok (.putfield 71, 3) := by decide +kernel
theorem dX2_readPart_42 : decode cX2_readPart 42 = .ok (.aload_n 0, 1) := by decide +kernel
theorem dX2_readPart_43 : decode cX2_readPart 43 = .ok (.iload_n 1, 1) := by decide +kernel
theorem dX2_readPart_44 : decode cX2_readPart 44 = .ok (.iconst 1, 1) := by decide +kernel
theorem dX2_readPart_45 : decode cX2_readPart 45 = .ok (.iadd, 1) := by decide +kernel
theorem dX2_readPart_46 : decode cX2_readPart 46 = .ok (.invokevirtual 99, 3) := by decide +kernel
theorem dX2_readPart_49 : decode cX2_readPart 49 = .ok (.aload_n 0, 1) := by decide +kernel
theorem dX2_readPart_50 : decode cX2_readPart 50 = .ok (.iconst (-1), 1) := by decide +kernel
theorem dX2_readPart_51 : decode cX2_readPart 51 = .ok (.iconst 0, 1) := by decide +kernel
theorem dX2_readPart_52 : decode cX2_readPart 52 = .ok (.iconst 0, 1) := by decide +kernel
theorem dX2_readPart_53 : decode cX2_readPart 53 = .ok (.invokevirtual 92, 3) := by decide +kernel
theorem dX2_readPart_56 : decode cX2_readPart 56 = .ok (.goto 165, 3) := by decide +kernel
theorem dX2_readPart_59 : decode cX2_readPart 59 = .ok (.iload_n 2, 1) := by decide +kernel
theorem dX2_readPart_60 : decode cX2_readPart 60 = .ok (.bipush 40, 2) := by decide +kernel
theorem dX2_readPart_62 : decode cX2_readPart 62 = .ok (.if_icmp .ne 35, 3) := by decide +kernel
theorem dX2_readPart_65 : decode cX2_readPart 65 = .ok (.iload_n 1, 1) := by decide +kernel
theorem dX2_readPart_66 : decode cX2_readPart 66 = .ok (.iconst 5, 1) := by decide +kernel
theorem dX2_readPart_67 : decode cX2_readPart 67 = .ok (.if_icmp .ge 30, 3) := by decide +kernel
theorem dX2_readPart_70 : decode cX2_readPart 70 = .ok (.aload_n 0, 1) := by decide +kernel
theorem dX2_readPart_71 : decode cX2_readPart 71 = .ok (.dup, 1) := by decide +kernel
theorem dX2_readPart_72 : decode cX2_readPart 72 = .ok (.getfield 71, 3) := by decide +kernel
theorem dX2_readPart_75 : decode cX2_readPart 75 = .ok (.iconst 1, 1) := by decide +kernel
theorem dX2_readPart_76 : decode cX2_readPart 76 = .ok (.iadd, 1) := by decide +kernel
theorem dX2_readPart_77 : decode cX2_readPart 77 = .ok (.putfield 71, 3) := by decide +kernel
theorem dX2_readPart_80 : decode cX2_readPart 80 = .ok (.aload_n 0, 1) := by decide +kernel
theorem dX2_readPart_81 : decode cX2_readPart 81 = .ok (.iload_n 1, 1) := by decide +kernel
theorem dX2_readPart_82 : decode cX2_readPart 82 = .ok (.iconst 1, 1) := by decide +kernel
theorem dX2_readPart_83 : decode cX2_readPart 83 = .ok (.iadd, 1) := by decide +kernel
theorem dX2_readPart_84 : decode cX2_readPart 84 = .ok (.invokevirtual 88, 3) := by decide +kernel
theorem dX2_readPart_87 : decode cX2_readPart 87 = .ok (.aload_n 0, 1) := by decide +kernel
theorem dX2_readPart_88 : decode cX2_readPart 88 = .ok (.bipush 41, 2) := by decide +kernel
theorem dX2_readPart_90 : decode cX2_readPart 90 = .ok (.invokevirtual 74, 3) := by decide +kernel
theorem dX2_readPart_93 : decode cX2_readPart 93 = .ok (.pop, 1) := by decide +kernel
theorem dX2_readPart_94 : decode cX2_readPart 94 = .ok (.goto 127, 3) := by decide +kernel
theorem dX2_readPart_97 : decode cX2_readPart 97 = .ok (.iload_n 3, 1) := by decide +kernel
theorem dX2_readPart_98 : decode cX2_readPart 98 = .ok (.ifCond .lt 118, 3) := by decide +kernel
theorem dX2_readPart_101 : decode cX2_readPart 101 = .ok (.aload_n 0, 1) := by decide +kernel
theorem dX2_readPart_102 : decode cX2_readPart 102 = .ok (.dup, 1) := by decide +kernel
theorem dX2_readPart_103 : decode cX2_readPart 103 = .ok (.getfield 71, 3) := by decide +kernel
theorem dX2_readPart_106 : decode cX2_readPart 106 = .ok (.iconst 1, 1) := by decide +kernel
theorem dX2_readPart_107 : decode cX2_readPart 107 = .ok (.iadd, 1) := by decide +kernel
theorem dX2_readPart_108 : decode cX2_readPart 108 = .ok (.putfield 71, 3) := by decide +kernel
theorem dX2_readPart_111 : decode cX2_readPart 111 = .ok (.aload_n 0, 1) := by decide +kernel
theorem dX2_readPart_112 : decode cX2_readPart 112 = .ok (.invokevirtual 45, 3) := by decide +kernel
theorem dX2_readPart_115 : decode cX2_readPart 115 = .ok (.istore 4, 2) := by decide +kernel
theorem dX2_readPart_117 : decode cX2_readPart 117 = .ok (.iload 4, 2) := by decide +kernel
theorem dX2_readPart_119 : decode cX2_readPart 119 = .ok (.bipush 60, 2) := by decide +kernel
theorem dX2_readPart_121 : decode cX2_readPart 121 = .ok (.if_icmp .eq 17, 3) := by decide +kernel
theorem dX2_readPart_124 : decode cX2_readPart 124 = .ok (.iload 4, 2) := by decide +kernel
theorem dX2_readPart_126 : decode cX2_readPart 126 = .ok (.bipush 61, 2) := by decide +kernel
theorem dX2_readPart_128 : decode cX2_readPart 128 = .ok (.if_icmp .eq 10, 3) := by decide +kernel
theorem dX2_readPart_131 : decode cX2_readPart 131 = .ok (.iload 4, 2) := by decide +kernel
theorem dX2_readPart_133 : decode cX2_readPart 133 = .ok (.bipush 62, 2) := by decide +kernel
theorem dX2_readPart_135 : decode cX2_readPart 135 = .ok (.if_icmp .ne 16, 3) := by decide +kernel
theorem dX2_readPart_138 : decode cX2_readPart 138 = .ok (.aload_n 0, 1) := by decide +kernel
theorem dX2_readPart_139 : decode cX2_readPart 139 = .ok (.dup, 1) := by decide +kernel
theorem dX2_readPart_140 : decode cX2_readPart 140 = .ok (.getfield 71, 3) := by decide +kernel
theorem dX2_readPart_143 : decode cX2_readPart 143 = .ok (.iconst 1, 1) := by decide +kernel
theorem dX2_readPart_144 : decode cX2_readPart 144 = .ok (.iadd, 1) := by decide +kernel
theorem dX2_readPart_145 : decode cX2_readPart 145 = .ok (.putfield 71, 3) := by decide +kernel
theorem dX2_readPart_148 : decode cX2_readPart 148 = .ok (.goto 8, 3) := by decide +kernel
theorem dX2_readPart_151 : decode cX2_readPart 151 = .ok (.aload_n 0, 1) := by decide +kernel
theorem dX2_readPart_152 : decode cX2_readPart 152 = .ok (.iconst 1, 1) := by decide +kernel
theorem dX2_readPart_153 : decode cX2_readPart 153 = .ok (.putfield 67, 3) := by decide +kernel
theorem dX2_readPart_156 : decode cX2_readPart 156 = .ok (.aload_n 0, 1) := by decide +kernel
theorem dX2_readPart_157 : decode cX2_readPart 157 = .ok (.invokevirtual 85, 3) := by decide +kernel
theorem dX2_readPart_160 : decode cX2_readPart 160 = .ok (.istore 5, 2) := by decide +kernel
theorem dX2_readPart_162 : decode cX2_readPart 162 = .ok (.iload 4, 2) := by decide +kernel
theorem dX2_readPart_164 : decode cX2_readPart 164 = .ok (.bipush 60, 2) := by decide +kernel
theorem dX2_readPart_166 : decode cX2_readPart 166 = .ok (.if_icmp .ne 16, 3) := by decide +kernel
theorem dX2_readPart_169 : decode cX2_readPart 169 = .ok (.aload_n 0, 1) := by decide +kernel
theorem dX2_readPart_170 : decode cX2_readPart 170 = .ok (.iload_n 3, 1) := by decide +kernel
theorem dX2_readPart_171 : decode cX2_readPart 171 = .ok (.iconst 0, 1) := by decide +kernel
theorem dX2_readPart_172 : decode cX2_readPart 172 = .ok (.iload 5, 2) := by decide +kernel
theorem dX2_readPart_174 : decode cX2_readPart 174 = .ok (.iconst 1, 1) := by decide +kernel
theorem dX2_readPart_175 : decode cX2_readPart 175 = .ok (.isub, 1) := by decide +kernel
theorem dX2_readPart_176 : decode cX2_readPart 176 = .ok (.invokevirtual 92, 3) := by decide +kernel
theorem dX2_readPart_179 : decode cX2_readPart 179 = .ok (.goto 34, 3) := by decide +kernel
theorem dX2_readPart_182 : decode cX2_readPart 182 = .ok (.iload 4, 2) := by decide +kernel
theorem dX2_readPart_184 : decode cX2_readPart 184 = .ok (.bipush 61, 2) := by decide +kernel
theorem dX2_readPart_186 : decode cX2_readPart 186 = .ok (.if_icmp .ne 15, 3) := by decide +kernel
theorem dX2_readPart_189 : decode cX2_readPart 189 = .ok (.aload_n 0, 1) := by decide +kernel
theorem dX2_readPart_190 : decode cX2_readPart 190 = .ok (.iload_n 3, 1) := by decide +kernel
theorem dX2_readPart_191 : decode cX2_readPart 191 = .ok (.iload 5, 2) := by decide +kernel
theorem dX2_readPart_193 : decode cX2_readPart 193 = .ok (.iload 5, 2) := by decide +kernel
theorem dX2_readPart_195 : decode cX2_readPart 195 = .ok (.invokevirtual 92, 3) := by decide +kernel
theorem dX2_readPart_198 : decode cX2_readPart 198 = .ok (.goto 15, 3) := by decide +kernel
theorem dX2_readPart_201 : decode cX2_readPart 201 = .ok (.aload_n 0, 1) := by decide +kernel
theorem dX2_readPart_202 : decode cX2_readPart 202 = .ok (.iload_n 3, 1) := by decide +kernel
theorem dX2_readPart_203 : decode cX2_readPart 203 = .ok (.iload 5, 2) := by decide +kernel
theorem dX2_readPart_205 : decode cX2_readPart 205 = .ok (.iconst 1, 1) := by decide +kernel
theorem dX2_readPart_206 : decode cX2_readPart 206 = .ok (.iadd, 1) := by decide +kernel
theorem dX2_readPart_207 : decode cX2_readPart 207 = .ok (.sipush 1000, 3) := by decide +kernel
theorem dX2_readPart_210 : decode cX2_readPart 210 = .ok (.invokevirtual 92, 3) := by decide +kernel
theorem dX2_readPart_213 : decode cX2_readPart 213 = .ok (.goto 8, 3) := by decide +kernel
theorem dX2_readPart_216 : decode cX2_readPart 216 = .ok (.aload_n 0, 1) := by decide +kernel
theorem dX2_readPart_217 : decode cX2_readPart 217 = .ok (.iconst 1, 1) := by decide +kernel
theorem dX2_readPart_218 : decode cX2_readPart 218 = .ok (.putfield 67, 3) := by decide +kernel
theorem dX2_readPart_221 : decode cX2_readPart 221 = .ok (.return_, 1) := by decide +kernel
set_option maxRecDepth 20000 in
theorem ggX2_readNumber_X2_sign : GoodIn wsX2_readNumber wsX2_sign := goodIn_r _ [7, 1, 2, 8, 9, 10, 11, 12, 13, 14, 15, 16, 17, 18, 19, 20] (by decide +kernel) (by decide +kernel)
set_option maxRecDepth 20000 in
theorem gX2_readNumber_X2_sign : GoodIn wsX2_readNumber (wsV RX2 45 RX2 yX2_sign wsX2_sign) := goodIn_app (goodIn_of _ (by decide +kernel)) ggX2_readNumber_X2_sign
theorem dX2_readNumber_0 : decode cX2_readNumber 0 = .ok (.aload_n 0, 1) := by decide +kernel
theorem dX2_readNumber_1 : decode cX2_readNumber 1 = .ok (.invokevirtual 45, 3) := by decide +kernel
theorem dX2_readNumber_4 : decode cX2_readNumber 4 = .ok (.istore_n 1, 1) := by decide +kernel
theorem dX2_readNumber_5 : decode cX2_readNumber 5 = .ok (.iload_n 1, 1) := by decide +kernel
theorem dX2_readNumber_6 : decode cX2_readNumber 6 = .ok (.bipush 48, 2) := by decide +kernel
theorem dX2_readNumber_8 : decode cX2_readNumber 8 = .ok (.if_icmp .lt 9, 3) := by decide +kernel
theorem dX2_readNumber_11 : decode cX2_readNumber 11 = .ok (.iload_n 1, 1) := by decide +kernel
theorem dX2_readNumber_12 : decode cX2_readNumber 12 = .ok (.bipush 57, 2) := by decide +kernel
theorem dX2_readNumber_14 : decode cX2_readNumber 14 = .ok (.if_icmp .le 10, 3) := by decide +kernel
theorem dX2_readNumber_17 : decode cX2_readNumber 17 = .ok (.aload_n 0, 1) := by decide +kernel
theorem dX2_readNumber_18 : decode cX2_readNumber 18 = .ok (.iconst 1, 1) := by decide +kernel
theorem dX2_readNumber_19 : decode cX2_readNumber 19 = .ok (.putfield 67, 3) := by decide +kernel
theorem dX2_readNumber_22 : decode cX2_readNumber 22 = .ok (.iconst 0, 1) := by decide +kernel
theorem dX2_readNumber_23 : decode cX2_readNumber 23 = .ok (.ireturn, 1) := by decide +kernel
theorem dX2_readNumber_24 : decode cX2_readNumber 24 = .ok (.aload_n 0, 1) := by decide +kernel
theorem dX2_readNumber_25 : decode cX2_readNumber 25 = .ok (.dup, 1) := by decide +kernel
theorem dX2_readNumber_26 : decode cX2_readNumber 26 = .ok (.getfield 71, 3) := by decide +kernel
theorem dX2_readNumber_29 : decode cX2_readNumber 29 = .ok (.iconst 1, 1) := by decide +kernel
theorem dX2_readNumber_30 : decode cX2_readNumber 30 = .ok (.iadd, 1) := by decide +kernel
theorem dX2_readNumber_31 : decode cX2_readNumber 31 = .ok (.putfield 71, 3) := by decide +kernel
theorem dX2_readNumber_34 : decode cX2_readNumber 34 = .ok (.aload_n 0, 1) := by decide +kernel
theorem dX2_readNumber_35 : decode cX2_readNumber 35 = .ok (.invokevirtual 45, 3) := by decide +kernel
theorem dX2_readNumber_38 : decode cX2_readNumber 38 = .ok (.istore_n 2, 1) := by decide +kernel
theorem dX2_readNumber_39 : decode cX2_readNumber 39 = .ok (.iload_n 1, 1) := by decide +kernel
theorem dX2_readNumber_40 : decode cX2_readNumber 40 = .ok (.bipush 48, 2) := by decide +kernel
theorem dX2_readNumber_42 : decode cX2_readNumber 42 = .ok (.if_icmp .eq 15, 3) := by decide +kernel
theorem dX2_readNumber_45 : decode cX2_readNumber 45 = .ok (.iload_n 2, 1) := by decide +kernel
theorem dX2_readNumber_46 : decode cX2_readNumber 46 = .ok (.bipush 48, 2) := by decide +kernel
theorem dX2_readNumber_48 : decode cX2_readNumber 48 = .ok (.if_icmp .lt 9, 3) := by decide +kernel
theorem dX2_readNumber_51 : decode cX2_readNumber 51 = .ok (.iload_n 2, 1) := by decide +kernel
theorem dX2_readNumber_52 : decode cX2_readNumber 52 = .ok (.bipush 57, 2) := by decide +kernel
theorem dX2_readNumber_54 : decode cX2_readNumber 54 = .ok (.if_icmp .le 8, 3) := by decide +kernel
theorem dX2_readNumber_57 : decode cX2_readNumber 57 = .ok (.iload_n 1, 1) := by decide +kernel
theorem dX2_readNumber_58 : decode cX2_readNumber 58 = .ok (.bipush 48, 2) := by decide +kernel
theorem dX2_readNumber_60 : decode cX2_readNumber 60 = .ok (.isub, 1) := by decide +kernel
theorem dX2_readNumber_61 : decode cX2_readNumber 61 = .ok (.ireturn, 1) := by decide +kernel
theorem dX2_readNumber_62 : decode cX2_readNumber 62 = .ok (.aload_n 0, 1) := by decide +kernel
theorem dX2_readNumber_63 : decode cX2_readNumber 63 = .ok (.dup, 1) := by decide +kernel
theorem dX2_readNumber_64 : decode cX2_readNumber 64 = .ok (.getfield 71, 3) := by decide +kernel
theorem dX2_readNumber_67 : decode cX2_readNumber 67 = .ok (.iconst 1, 1) := by decide +kernel
theorem dX2_readNumber_68 : decode cX2_readNumber 68 = .ok (.iadd, 1) := by decide +kernel
theorem dX2_readNumber_69 : decode cX2_readNumber 69 = .ok (.putfield 71, 3) := by decide +kernel
theorem dX2_readNumber_72 : decode cX2_readNumber 72 = .ok (.bipush 10, 2) := by decide +kernel
theorem dX2_readNumber_74 : decode cX2_readNumber 74 = .ok (.iload_n 1, 1) := by decide +kernel
theorem dX2_readNumber_75 : decode cX2_readNumber 75 = .ok (.bipush 48, 2) := by decide +kernel
theorem dX2_readNumber_77 : decode cX2_readNumber 77 = .ok (.isub, 1) := by decide +kernel
theorem dX2_readNumber_78 : decode cX2_readNumber 78 = .ok (.imul, 1) := by decide +kernel
theorem dX2_readNumber_79 : decode cX2_readNumber 79 = .ok (.iload_n 2, 1) := by decide +kernel
theorem dX2_readNumber_80 : decode cX2_readNumber 80 = .ok (.iadd, 1) := by decide +kernel
theorem dX2_readNumber_81 : decode cX2_readNumber 81 = .ok (.bipush 48, 2) := by decide +kernel
theorem dX2_readNumber_83 : decode cX2_readNumber 83 = .ok (.isub, 1) := by decide +kernel
theorem dX2_readNumber_84 : decode cX2_readNumber 84 = .ok (.ireturn, 1) := by decide +kernel
theorem dX2_sign_0 : decode cX2_sign 0 = .ok (.aload_n 0, 1) := by decide +kernel
theorem dX2_sign_1 : decode cX2_sign 1 = .ok (.getfield 67, 3) := by decide +kernel
theorem dX2_sign_4 : decode cX2_sign 4 = .ok (.ifCond .ne 21, 3) := by decide +kernel
theorem dX2_sign_7 : decode cX2_sign 7 = .ok (.aload_n 0, 1) := by decide +kernel
theorem dX2_sign_8 : decode cX2_sign 8 = .ok (.getfield 71, 3) := by decide +kernel
theorem dX2_sign_11 : decode cX2_sign 11 = .ok (.ifCond .lt 14, 3) := by decide +kernel
theorem dX2_sign_14 : decode cX2_sign 14 = .ok (.aload_n 0, 1) := by decide +kernel
theorem dX2_sign_15 : decode cX2_sign 15 = .ok (.getfield 71, 3) := by decide +kernel
theorem dX2_sign_18 : decode cX2_sign 18 = .ok (.aload_n 0, 1) := by decide +kernel
theorem dX2_sign_19 : decode cX2_sign 19 = .ok (.getfield 32, 3) := by decide +kernel
theorem dX2_sign_22 : decode cX2_sign 22 = .ok (.if_icmp .lt 7, 3) := by decide +kernel
theorem dX2_sign_25 : decode cX2_sign 25 = .ok (.iconst (-1), 1) := by decide +kernel
theorem dX2_sign_26 : decode cX2_sign 26 = .ok (.goto 12, 3) := by decide +kernel
theorem dX2_sign_29 : decode cX2_sign 29 = .ok (.aload_n 0, 1) := by decide +kernel
theorem dX2_sign_30 : decode cX2_sign 30 = .ok (.getfield 19, 3) := by decide +kernel
theorem dX2_sign_33 : decode cX2_sign 33 = .ok (.aload_n 0, 1) := by decide +kernel
theorem dX2_sign_34 : decode cX2_sign 34 = .ok (.getfield 71, 3) := by decide +kernel
theorem dX2_sign_37 : decode cX2_sign 37 = .ok (.caload, 1) := by decide +kernel
theorem dX2_sign_38 : decode cX2_sign 38 = .ok (.ireturn, 1) := by decide +kernel
set_option maxRecDepth 20000 in
theorem ggX2_takeAll_J0_length_8abf5 : GoodIn wsX2_takeAll wsJ0_length_8abf5 := goodIn_r _ [5, 6, 7, 8, 9, 4, 10, 11, 12] (by decide +kernel) (by decide +kernel)
set_option maxRecDepth 20000 in
theorem gX2_takeAll_J0_length_8abf5 : GoodIn wsX2_takeAll (wsV RX2 110 RJ0 yJ0_length_8abf5 wsJ0_length_8abf5) := goodIn_app (goodIn_of _ (by decide +kernel)) ggX2_takeAll_J0_length_8abf5
set_option maxRecDepth 20000 in
theorem ggX2_takeAll_J0_charAt_5068e : GoodIn wsX2_takeAll wsJ0_charAt_5068e := goodIn_r _ [16, 6, 17, 18, 19, 4, 20, 11, 12, 21, 22, 23, 24, 25, 26, 27, 28, 29, 30, 31, 32, 33, 34, 35, 36, 37, 38, 39, 40, 41, 42, 43, 44, 45, 46, 47, 48, 49] (by decide +kernel) (by decide +kernel)
set_option maxRecDepth 20000 in
theorem gX2_takeAll_J0_charAt_5068e : GoodIn wsX2_takeAll (wsV RX2 113 RJ0 yJ0_charAt_5068e wsJ0_charAt_5068e) := goodIn_app (goodIn_of _ (by decide +kernel)) ggX2_takeAll_J0_charAt_5068e
set_option maxRecDepth 20000 in
theorem ggX2_takeAll_X2_take : GoodIn wsX2_takeAll wsX2_take := goodIn_r _ [54, 55, 56, 57, 58, 59, 53, 60, 61, 62, 63, 64, 65, 66, 67, 68, 69, 70, 71, 72, 73] (by decide +kernel) (by decide +kernel)
set_option maxRecDepth 20000 in
theorem gX2_takeAll_X2_take : GoodIn wsX2_takeAll (wsV RX2 74 RX2 yX2_take wsX2_take) := goodIn_app (goodIn_of _ (by decide +kernel)) ggX2_takeAll_X2_take
theorem dX2_takeAll_0 : decode cX2_takeAll 0 = .ok (.iconst 0, 1) := by decide +kernel
theorem dX2_takeAll_1 : decode cX2_takeAll 1 = .ok (.istore_n 2, 1) := by decide +kernel
theorem dX2_takeAll_2 : decode cX2_takeAll 2 = .ok (.iload_n 2, 1) := by decide +kernel
theorem dX2_takeAll_3 : decode cX2_takeAll 3 = .ok (.aload_n 1, 1) := by decide +kernel
theorem dX2_takeAll_4 : decode cX2_takeAll 4 = .ok (.invokevirtual 110, 3) := by decide +kernel
theorem dX2_takeAll_7 : decode cX2_takeAll 7 = .ok (.if_icmp .ge 19, 3) := by decide +kernel
theorem dX2_takeAll_10 : decode cX2_takeAll 10 = .ok (.aload_n 0, 1) := by decide +kernel
theorem dX2_takeAll_11 : decode cX2_takeAll 11 = .ok (.aload_n 1, 1) := by decide +kernel
theorem dX2_takeAll_12 : decode cX2_takeAll 12 = .ok (.iload_n 2, 1) := by decide +kernel
theorem dX2_takeAll_13 : decode cX2_takeAll 13 = .ok (.invokevirtual 113, 3) := by decide +kernel
theorem dX2_takeAll_16 : decode cX2_takeAll 16 = .ok (.invokevirtual 74, 3) := by decide +kernel
theorem dX2_takeAll_19 : decode cX2_takeAll 19 = .ok (.pop, 1) := by decide +kernel
theorem dX2_takeAll_20 : decode cX2_takeAll 20 = .ok (.iinc 2 1, 3) := by decide +kernel
theorem dX2_takeAll_23 : decode cX2_takeAll 23 = .ok (.goto (-21), 3) := by decide +kernel
theorem dX2_takeAll_26 : decode cX2_takeAll 26 = .ok (.return_, 1) := by decide +kernel
set_option maxRecDepth 20000 in
theorem ggX2_take_X2_sign : GoodIn wsX2_take wsX2_sign := goodIn_r _ [7, 1, 2, 8, 9, 10, 11, 12, 13, 14, 15, 16, 17, 18, 19, 20] (by decide +kernel) (by decide +kernel)
set_option maxRecDepth 20000 in
theorem gX2_take_X2_sign : GoodIn wsX2_take (wsV RX2 45 RX2 yX2_sign wsX2_sign) := goodIn_app (goodIn_of _ (by decide +kernel)) ggX2_take_X2_sign
theorem dX2_take_0 : decode cX2_take 0 = .ok (.aload_n 0, 1) := by decide +kernel
theorem dX2_take_1 : decode cX2_take 1 = .ok (.invokevirtual 45, 3) := by decide +kernel
theorem dX2_take_4 : decode cX2_take 4 = .ok (.iload_n 1, 1) := by decide +kernel
theorem dX2_take_5 : decode cX2_take 5 = .ok (.if_icmp .eq 11, 3) := by decide +kernel
theorem dX2_take_8 : decode cX2_take 8 = .ok (.aload_n 0, 1) := by decide +kernel
theorem dX2_take_9 : decode cX2_take 9 = .ok (.iconst 1, 1) := by decide +kernel
theorem dX2_take_10 : decode cX2_take 10 = .ok (.putfield 67, 3) := by decide +kernel
theorem dX2_take_13 : decode cX2_take 13 = .ok (.goto 13, 3) := by decide +kernel
theorem dX2_take_16 : decode cX2_take 16 = .ok (.aload_n 0, 1) := by decide +kernel
theorem dX2_take_17 : decode cX2_take 17 = .ok (.dup, 1) := by decide +kernel
theorem dX2_take_18 : decode cX2_take 18 = .ok (.getfield 71, 3) := by decide +kernel
theorem dX2_take_21 : decode cX2_take 21 = .ok (.iconst 1, 1) := by decide +kernel
theorem dX2_take_22 : decode cX2_take 22 = .ok (.iadd, 1) := by decide +kernel
theorem dX2_take_23 : decode cX2_take 23 = .ok (.putfield 71, 3) := by decide +kernel
theorem dX2_take_26 : decode cX2_take 26 = .ok (.aload_n 0, 1) := by decide +kernel
theorem dX2_take_27 : decode cX2_take 27 = .ok (.getfield 67, 3) := by decide +kernel
theorem dX2_take_30 : decode cX2_take 30 = .ok (.ifCond .ne 7, 3) := by decide +kernel
theorem dX2_take_33 : decode cX2_take 33 = .ok (.iconst 1, 1) := by decide +kernel
theorem dX2_take_34 : decode cX2_take 34 = .ok (.goto 4, 3) := by decide +kernel
theorem dX2_take_37 : decode cX2_take 37 = .ok (.iconst 0, 1) := by decide +kernel
theorem dX2_take_38 : decode cX2_take 38 = .ok (.ireturn, 1) := by decide +kernel
theorem dX2_add_0 : decode cX2_add 0 = .ok (.aload_n 0, 1) := by decide +kernel
theorem dX2_add_1 : decode cX2_add 1 = .ok (.getfield 67, 3) := by decide +kernel
theorem dX2_add_4 : decode cX2_add 4 = .ok (.ifCond .ne 14, 3) := by decide +kernel
theorem dX2_add_7 : decode cX2_add 7 = .ok (.aload_n 0, 1) := by decide +kernel
theorem dX2_add_8 : decode cX2_add 8 = .ok (.getfield 78, 3) := by decide +kernel
theorem dX2_add_11 : decode cX2_add 11 = .ok (.aload_n 0, 1) := by decide +kernel
theorem dX2_add_12 : decode cX2_add 12 = .ok (.getfield 32, 3) := by decide +kernel
theorem dX2_add_15 : decode cX2_add 15 = .ok (.if_icmp .lt 4, 3) := by decide +kernel
theorem dX2_add_18 : decode cX2_add 18 = .ok (.return_, 1) := by decide +kernel
theorem dX2_add_19 : decode cX2_add 19 = .ok (.aload_n 0, 1) := by decide +kernel
theorem dX2_add_20 : decode cX2_add 20 = .ok (.getfield 35, 3) := by decide +kernel
theorem dX2_add_23 : decode cX2_add 23 = .ok (.aload_n 0, 1) := by decide +kernel
theorem dX2_add_24 : decode cX2_add 24 = .ok (.getfield 78, 3) := by decide +kernel
theorem dX2_add_27 : decode cX2_add 27 = .ok (.iload_n 1, 1) := by decide +kernel
theorem dX2_add_28 : decode cX2_add 28 = .ok (.iastore, 1) := by decide +kernel
theorem dX2_add_29 : decode cX2_add 29 = .ok (.aload_n 0, 1) := by decide +kernel
theorem dX2_add_30 : decode cX2_add 30 = .ok (.getfield 39, 3) := by decide +kernel
theorem dX2_add_33 : decode cX2_add 33 = .ok (.aload_n 0, 1) := by decide +kernel
theorem dX2_add_34 : decode cX2_add 34 = .ok (.getfield 78, 3) := by decide +kernel
theorem dX2_add_37 : decode cX2_add 37 = .ok (.iload_n 2, 1) := by decide +kernel
theorem dX2_add_38 : decode cX2_add 38 = .ok (.iastore, 1) := by decide +kernel
theorem dX2_add_39 : decode cX2_add 39 = .ok (.aload_n 0, 1) := by decide +kernel
theorem dX2_add_40 : decode cX2_add 40 = .ok (.getfield 42, 3) := by decide +kernel
theorem dX2_add_43 : decode cX2_add 43 = .ok (.aload_n 0, 1) := by decide +kernel
theorem dX2_add_44 : decode cX2_add 44 = .ok (.getfield 78, 3) := by decide +kernel
theorem dX2_add_47 : decode cX2_add 47 = .ok (.iload_n 3, 1) := by decide +kernel
theorem dX2_add_48 : decode cX2_add 48 = .ok (.iastore, 1) := by decide +kernel
theorem dX2_add_49 : decode cX2_add 49 = .ok (.aload_n 0, 1) := by decide +kernel
theorem dX2_add_50 : decode cX2_add 50 = .ok (.dup, 1) := by decide +kernel
theorem dX2_add_51 : decode cX2_add 51 = .ok (.getfield 78, 3) := by decide +kernel
theorem dX2_add_54 : decode cX2_add 54 = .ok (.iconst 1, 1) := by decide +kernel
theorem dX2_add_55 : decode cX2_add 55 = .ok (.iadd, 1) := by decide +kernel
theorem dX2_add_56 : decode cX2_add 56 = .ok (.putfield 78, 3) := by decide +kernel
theorem dX2_add_59 : decode cX2_add 59 = .ok (.return_, 1) := by decide +kernel
set_option maxRecDepth 20000 in
theorem ggX3_init_X9_init : GoodIn wsX3_init wsX9_init := goodIn_r _ [4, 5, 6, 7, 8, 9, 10, 11, 12, 13, 14, 15, 16, 17, 18, 19, 20, 21, 22, 23, 24, 25, 26, 27, 28, 29, 30, 31, 32, 33, 34, 35, 36, 37, 38, 39, 40, 41, 42, 43] (by decide +kernel) (by decide +kernel)
set_option maxRecDepth 20000 in
theorem gX3_init_X9_init : GoodIn wsX3_init (wsX9_init) := ggX3_init_X9_init
theorem dX3_init_0 : decode cX3_init 0 = .ok (.aload_n 0, 1) := by decide +kernel
theorem dX3_init_1 : decode cX3_init 1 = .ok (.iload_n 1, 1) := by decide +kernel
theorem dX3_init_2 : decode cX3_init 2 = .ok (.iload_n 2, 1) := by decide +kernel
theorem dX3_init_3 : decode cX3_init 3 = .ok (.iload_n 3, 1) := by decide +kernel
theorem dX3_init_4 : decode cX3_init 4 = .ok (.iload 4, 2) := by decide +kernel
theorem dX3_init_6 : decode cX3_init 6 = .ok (.invokespecial 1, 3) := by decide +kernel
theorem dX3_init_9 : decode cX3_init 9 = .ok (.return_, 1) := by decide +kernel
set_option maxRecDepth 20000 in
theorem ggX3_lineUp_X9_lineUp : GoodIn wsX3_lineUp wsX9_lineUp := goodIn_r _ [8] (by decide +kernel) (by decide +kernel)
set_option maxRecDepth 20000 in
theorem gX3_lineUp_X9_lineUp_s13 : GoodIn wsX3_lineUp (va_wsSU RX3 13 yX9_lineUp wsX9_lineUp) := goodIn_app (goodIn_of _ (by decide +kernel)) ggX3_lineUp_X9_lineUp
theorem dX3_lineUp_0 : decode cX3_lineUp 0 = .ok (.iconst (-1), 1) := by decide +kernel
theorem dX3_lineUp_1 : decode cX3_lineUp 1 = .ok (.istore 5, 2) := by decide +kernel
theorem dX3_lineUp_3 : decode cX3_lineUp 3 = .ok (.iconst 0, 1) := by decide +kernel
theorem dX3_lineUp_4 : decode cX3_lineUp 4 = .ok (.istore 6, 2) := by decide +kernel
theorem dX3_lineUp_6 : decode cX3_lineUp 6 = .ok (.iload 6, 2) := by decide +kernel
theorem dX3_lineUp_8 : decode cX3_lineUp 8 = .ok (.iload_n 2, 1) := by decide +kernel
theorem dX3_lineUp_9 : decode cX3_lineUp 9 = .ok (.if_icmp .ge 24, 3) := by decide +kernel
theorem dX3_lineUp_12 : decode cX3_lineUp 12 = .ok (.aload_n 1, 1) := by decide +kernel
theorem dX3_lineUp_13 : decode cX3_lineUp 13 = .ok (.iload 6, 2) := by decide +kernel
theorem dX3_lineUp_15 : decode cX3_lineUp 15 = .ok (.iaload, 1) := by decide +kernel
theorem dX3_lineUp_16 : decode cX3_lineUp 16 = .ok (.aload_n 0, 1) := by decide +kernel
theorem dX3_lineUp_17 : decode cX3_lineUp 17 = .ok (.getfield 7, 3) := by decide +kernel
theorem dX3_lineUp_20 : decode cX3_lineUp 20 = .ok (.if_icmp .ne 7, 3) := by decide +kernel
theorem dX3_lineUp_23 : decode cX3_lineUp 23 = .ok (.iload 6, 2) := by decide +kernel
theorem dX3_lineUp_25 : decode cX3_lineUp 25 = .ok (.istore 5, 2) := by decide +kernel
theorem dX3_lineUp_27 : decode cX3_lineUp 27 = .ok (.iinc 6 1, 3) := by decide +kernel
theorem dX3_lineUp_30 : decode cX3_lineUp 30 = .ok (.goto (-24), 3) := by decide +kernel
theorem dX3_lineUp_33 : decode cX3_lineUp 33 = .ok (.iload 5, 2) := by decide +kernel
theorem dX3_lineUp_35 : decode cX3_lineUp 35 = .ok (.ifCond .ge 13, 3) := by decide +kernel
theorem dX3_lineUp_38 : decode cX3_lineUp 38 = .ok (.aload_n 0, 1) := by decide +kernel
theorem dX3_lineUp_39 : decode cX3_lineUp 39 = .ok (.aload_n 1, 1) := by decide +kernel
theorem dX3_lineUp_40 : decode cX3_lineUp 40 = .ok (.iload_n 2, 1) := by decide +kernel
theorem dX3_lineUp_41 : decode cX3_lineUp 41 = .ok (.iload_n 3, 1) := by decide +kernel
theorem dX3_lineUp_42 : decode cX3_lineUp 42 = .ok (.aload 4, 2) := by decide +kernel
theorem dX3_lineUp_44 : decode cX3_lineUp 44 = .ok (.invokespecial 13, 3) := by decide +kernel
theorem dX3_lineUp_47 : decode cX3_lineUp 47 = .ok (.return_, 1) := by decide +kernel
theorem dX3_lineUp_48 : decode cX3_lineUp 48 = .ok (.aload 4, 2) := by decide +kernel
theorem dX3_lineUp_50 : decode cX3_lineUp 50 = .ok (.iconst 0, 1) := by decide +kernel
theorem dX3_lineUp_51 : decode cX3_lineUp 51 = .ok (.aload_n 0, 1) := by decide +kernel
theorem dX3_lineUp_52 : decode cX3_lineUp 52 = .ok (.getfield 7, 3) := by decide +kernel
theorem dX3_lineUp_55 : decode cX3_lineUp 55 = .ok (.iastore, 1) := by decide +kernel
theorem dX3_lineUp_56 : decode cX3_lineUp 56 = .ok (.iload_n 2, 1) := by decide +kernel
theorem dX3_lineUp_57 : decode cX3_lineUp 57 = .ok (.iconst 1, 1) := by decide +kernel
theorem dX3_lineUp_58 : decode cX3_lineUp 58 = .ok (.isub, 1) := by decide +kernel
theorem dX3_lineUp_59 : decode cX3_lineUp 59 = .ok (.istore 6, 2) := by decide +kernel
theorem dX3_lineUp_61 : decode cX3_lineUp 61 = .ok (.iconst 0, 1) := by decide +kernel
theorem dX3_lineUp_62 : decode cX3_lineUp 62 = .ok (.istore 7, 2) := by decide +kernel
theorem dX3_lineUp_64 : decode cX3_lineUp 64 = .ok (.iload 7, 2) := by decide +kernel
theorem dX3_lineUp_66 : decode cX3_lineUp 66 = .ok (.iload 6, 2) := by decide +kernel
theorem dX3_lineUp_68 : decode cX3_lineUp 68 = .ok (.if_icmp .ge 43, 3) := by decide +kernel
theorem dX3_lineUp_71 : decode cX3_lineUp 71 = .ok (.iload_n 3, 1) := by decide +kernel
theorem dX3_lineUp_72 : decode cX3_lineUp 72 = .ok (.iload 7, 2) := by decide +kernel
theorem dX3_lineUp_74 : decode cX3_lineUp 74 = .ok (.iadd, 1) := by decide +kernel
theorem dX3_lineUp_75 : decode cX3_lineUp 75 = .ok (.iload 6, 2) := by decide +kernel
theorem dX3_lineUp_77 : decode cX3_lineUp 77 = .ok (.irem, 1) := by decide +kernel
theorem dX3_lineUp_78 : decode cX3_lineUp 78 = .ok (.istore 8, 2) := by decide +kernel
theorem dX3_lineUp_80 : decode cX3_lineUp 80 = .ok (.aload 4, 2) := by decide +kernel
theorem dX3_lineUp_82 : decode cX3_lineUp 82 = .ok (.iload 7, 2) := by decide +kernel
theorem dX3_lineUp_84 : decode cX3_lineUp 84 = .ok (.iconst 1, 1) := by decide +kernel
theorem dX3_lineUp_85 : decode cX3_lineUp 85 = .ok (.iadd, 1) := by decide +kernel
theorem dX3_lineUp_86 : decode cX3_lineUp 86 = .ok (.aload_n 1, 1) := by decide +kernel
theorem dX3_lineUp_87 : decode cX3_lineUp 87 = .ok (.iload 8, 2) := by decide +kernel
theorem dX3_lineUp_89 : decode cX3_lineUp 89 = .ok (.iload 5, 2) := by decide +kernel
theorem dX3_lineUp_91 : decode cX3_lineUp 91 = .ok (.if_icmp .ge 8, 3) := by decide +kernel
theorem dX3_lineUp_94 : decode cX3_lineUp 94 = .ok (.iload 8, 2) := by decide +kernel
theorem dX3_lineUp_96 : decode cX3_lineUp 96 = .ok (.goto 7, 3) := by decide +kernel
theorem dX3_lineUp_99 : decode cX3_lineUp 99 = .ok (.iload 8, 2) := by decide +kernel
theorem dX3_lineUp_101 : decode cX3_lineUp 101 = .ok (.iconst 1, 1) := by decide +kernel
theorem dX3_lineUp_102 : decode cX3_lineUp 102 = .ok (.iadd, 1) := by decide +kernel
theorem dX3_lineUp_103 : decode cX3_lineUp 103 = .ok (.iaload, 1) := by decide +kernel
theorem dX3_lineUp_104 : decode cX3_lineUp 104 = .ok (.iastore, 1) := by decide +kernel
theorem dX3_lineUp_105 : decode cX3_lineUp 105 = .ok (.iinc 7 1, 3) := by decide +kernel
theorem dX3_lineUp_108 : decode cX3_lineUp 108 = .ok (.goto (-44), 3) := by decide +kernel
theorem dX3_lineUp_111 : decode cX3_lineUp 111 = .ok (.return_, 1) := by decide +kernel
set_option maxRecDepth 20000 in
theorem ggX3_works_X8_begin : GoodIn wsX3_works wsX8_begin := goodIn_r _ [7, 8, 9, 38, 39] (by decide +kernel) (by decide +kernel)
set_option maxRecDepth 20000 in
theorem gX3_works_X8_begin : GoodIn wsX3_works (wsV RX3 17 RX8 yX8_begin wsX8_begin) := goodIn_app (goodIn_of _ (by decide +kernel)) ggX3_works_X8_begin
theorem dX3_works_0 : decode cX3_works 0 = .ok (.aload_n 2, 1) := by decide +kernel
theorem dX3_works_1 : decode cX3_works 1 = .ok (.bipush 51, 2) := by decide +kernel
theorem dX3_works_3 : decode cX3_works 3 = .ok (.invokevirtual 17, 3) := by decide +kernel
theorem dX3_works_6 : decode cX3_works 6 = .ok (.aload_n 0, 1) := by decide +kernel
theorem dX3_works_7 : decode cX3_works 7 = .ok (.iload_n 1, 1) := by decide +kernel
theorem dX3_works_8 : decode cX3_works 8 = .ok (.aload_n 2, 1) := by decide +kernel
theorem dX3_works_9 : decode cX3_works 9 = .ok (.invokespecial 23, 3) := by decide +kernel
theorem dX3_works_12 : decode cX3_works 12 = .ok (.aload_n 0, 1) := by decide +kernel
theorem dX3_works_13 : decode cX3_works 13 = .ok (.getfield 27, 3) := by decide +kernel
theorem dX3_works_16 : decode cX3_works 16 = .ok (.ixor, 1) := by decide +kernel
theorem dX3_works_17 : decode cX3_works 17 = .ok (.ireturn, 1) := by decide +kernel
set_option maxRecDepth 20000 in
theorem ggX4_init_X0_init : GoodIn wsX4_init wsX0_init := goodIn_r _ [4, 5, 6, 7, 8, 9, 10, 11, 12, 13, 14, 15, 16, 17, 18, 19, 20, 21, 22, 23, 24, 25, 26, 27, 28, 29, 30, 31, 32, 33, 34, 35, 36, 37, 38, 39] (by decide +kernel) (by decide +kernel)
set_option maxRecDepth 20000 in
theorem gX4_init_X0_init : GoodIn wsX4_init (wsX0_init) := ggX4_init_X0_init
theorem dX4_init_0 : decode cX4_init 0 = .ok (.aload_n 0, 1) := by decide +kernel
theorem dX4_init_1 : decode cX4_init 1 = .ok (.iload_n 1, 1) := by decide +kernel
theorem dX4_init_2 : decode cX4_init 2 = .ok (.iload_n 2, 1) := by decide +kernel
theorem dX4_init_3 : decode cX4_init 3 = .ok (.iload_n 3, 1) := by decide +kernel
theorem dX4_init_4 : decode cX4_init 4 = .ok (.iload 4, 2) := by decide +kernel
theorem dX4_init_6 : decode cX4_init 6 = .ok (.invokespecial 1, 3) := by decide +kernel
theorem dX4_init_9 : decode cX4_init 9 = .ok (.return_, 1) := by decide +kernel
theorem dX4_seen_0 : decode cX4_seen 0 = .ok (.iload_n 1, 1) := by decide +kernel
theorem dX4_seen_1 : decode cX4_seen 1 = .ok (.bipush 10, 2) := by decide +kernel
theorem dX4_seen_3 : decode cX4_seen 3 = .ok (.aload_n 0, 1) := by decide +kernel
theorem dX4_seen_4 : decode cX4_seen 4 = .ok (.getfield 7, 3) := by decide +kernel
theorem dX4_seen_7 : decode cX4_seen 7 = .ok (.isub, 1) := by decide +kernel
theorem dX4_seen_8 : decode cX4_seen 8 = .ok (.imul, 1) := by decide +kernel
theorem dX4_seen_9 : decode cX4_seen 9 = .ok (.iload_n 2, 1) := by decide +kernel
theorem dX4_seen_10 : decode cX4_seen 10 = .ok (.aload_n 0, 1) := by decide +kernel
theorem dX4_seen_11 : decode cX4_seen 11 = .ok (.getfield 7, 3) := by decide +kernel
theorem dX4_seen_14 : decode cX4_seen 14 = .ok (.imul, 1) := by decide +kernel
theorem dX4_seen_15 : decode cX4_seen 15 = .ok (.iadd, 1) := by decide +kernel
theorem dX4_seen_16 : decode cX4_seen 16 = .ok (.bipush 10, 2) := by decide +kernel
theorem dX4_seen_18 : decode cX4_seen 18 = .ok (.idiv, 1) := by decide +kernel
theorem dX4_seen_19 : decode cX4_seen 19 = .ok (.ireturn, 1) := by decide +kernel
set_option maxRecDepth 20000 in
theorem ggX4_levels_X8_begin : GoodIn wsX4_levels wsX8_begin := goodIn_r _ [5, 6, 7, 67, 68] (by decide +kernel) (by decide +kernel)
set_option maxRecDepth 20000 in
theorem gX4_levels_X8_begin : GoodIn wsX4_levels (wsV RX4 13 RX8 yX8_begin wsX8_begin) := goodIn_app (goodIn_of _ (by decide +kernel)) ggX4_levels_X8_begin
set_option maxRecDepth 20000 in
theorem ggX4_levels_X0_levels : GoodIn wsX4_levels wsX0_levels := goodIn_r _ [13, 14, 2, 3, 4, 5, 6, 7, 15, 16, 17, 12, 18, 19, 20, 21, 22, 23, 24, 25, 26, 27, 28, 29, 30, 31, 32, 33, 34, 35, 36, 37, 38, 39, 40, 41, 42, 43, 44, 45, 46, 47, 48, 49, 50, 51, 52, 53, 54, 55, 56, 57, 58, 59, 60, 61, 62, 63, 64, 65, 66, 67, 68, 69, 70, 71, 72, 73, 74, 75, 76, 77, 78, 79, 80, 81, 82, 83, 84, 85, 86, 87, 88, 89, 90, 91, 92, 93, 94, 95, 96] (by decide +kernel) (by decide +kernel)
set_option maxRecDepth 20000 in
theorem gX4_levels_X0_levels_s19 : GoodIn wsX4_levels (va_wsSU RX4 19 yX0_levels wsX0_levels) := goodIn_app (goodIn_of _ (by decide +kernel)) ggX4_levels_X0_levels
theorem dX4_levels_0 : decode cX4_levels 0 = .ok (.aload_n 2, 1) := by decide +kernel
theorem dX4_levels_1 : decode cX4_levels 1 = .ok (.bipush 31, 2) := by decide +kernel
theorem dX4_levels_3 : decode cX4_levels 3 = .ok (.invokevirtual 13, 3) := by decide +kernel
theorem dX4_levels_6 : decode cX4_levels 6 = .ok (.aload_n 0, 1) := by decide +kernel
theorem dX4_levels_7 : decode cX4_levels 7 = .ok (.iload_n 1, 1) := by decide +kernel
theorem dX4_levels_8 : decode cX4_levels 8 = .ok (.aload_n 2, 1) := by decide +kernel
theorem dX4_levels_9 : decode cX4_levels 9 = .ok (.invokespecial 19, 3) := by decide +kernel
theorem dX4_levels_12 : decode cX4_levels 12 = .ok (.bipush 7, 2) := by decide +kernel
theorem dX4_levels_14 : decode cX4_levels 14 = .ok (.ixor, 1) := by decide +kernel
theorem dX4_levels_15 : decode cX4_levels 15 = .ok (.ireturn, 1) := by decide +kernel
set_option maxRecDepth 20000 in
theorem ggX5_init_X0_init : GoodIn wsX5_init wsX0_init := goodIn_r _ [4, 5, 6, 7, 8, 9, 10, 11, 12, 13, 14, 15, 16, 17, 18, 19, 20, 21, 22, 23, 24, 25, 26, 27, 28, 29, 30, 31, 32, 33, 34, 35, 36, 37, 38, 39] (by decide +kernel) (by decide +kernel)
set_option maxRecDepth 20000 in
theorem gX5_init_X0_init : GoodIn wsX5_init (wsX0_init) := ggX5_init_X0_init
theorem dX5_init_0 : decode cX5_init 0 = .ok (.aload_n 0, 1) := by decide +kernel
theorem dX5_init_1 : decode cX5_init 1 = .ok (.iload_n 1, 1) := by decide +kernel
theorem dX5_init_2 : decode cX5_init 2 = .ok (.iload_n 2, 1) := by decide +kernel
theorem dX5_init_3 : decode cX5_init 3 = .ok (.iload_n 3, 1) := by decide +kernel
theorem dX5_init_4 : decode cX5_init 4 = .ok (.iload 4, 2) := by decide +kernel
theorem dX5_init_6 : decode cX5_init 6 = .ok (.invokespecial 1, 3) := by decide +kernel
theorem dX5_init_9 : decode cX5_init 9 = .ok (.return_, 1) := by decide +kernel
theorem dX5_favour_0 : decode cX5_favour 0 = .ok (.aload_n 0, 1) := by decide +kernel
theorem dX5_favour_1 : decode cX5_favour 1 = .ok (.getfield 7, 3) := by decide +kernel
theorem dX5_favour_4 : decode cX5_favour 4 = .ok (.ireturn, 1) := by decide +kernel
set_option maxRecDepth 20000 in
theorem ggX5_works_X8_begin : GoodIn wsX5_works wsX8_begin := goodIn_r _ [5, 6, 7, 16, 17] (by decide +kernel) (by decide +kernel)
set_option maxRecDepth 20000 in
theorem gX5_works_X8_begin : GoodIn wsX5_works (wsV RX5 13 RX8 yX8_begin wsX8_begin) := goodIn_app (goodIn_of _ (by decide +kernel)) ggX5_works_X8_begin
set_option maxRecDepth 20000 in
theorem ggX5_works_X0_works : GoodIn wsX5_works wsX0_works := goodIn_r _ [13, 14, 15, 2, 3, 4, 5, 6, 7, 18, 19, 20, 21, 22, 23, 24, 25, 26, 27, 28, 29, 30, 31, 32, 33, 34, 35, 36, 37, 38, 39, 40, 41, 42, 43, 44, 45, 16, 17] (by decide +kernel) (by decide +kernel)
set_option maxRecDepth 20000 in
theorem gX5_works_X0_works_s19 : GoodIn wsX5_works (va_wsSU RX5 19 yX0_works wsX0_works) := goodIn_app (goodIn_of _ (by decide +kernel)) ggX5_works_X0_works
theorem dX5_works_0 : decode cX5_works 0 = .ok (.aload_n 2, 1) := by decide +kernel
theorem dX5_works_1 : decode cX5_works 1 = .ok (.bipush 11, 2) := by decide +kernel
theorem dX5_works_3 : decode cX5_works 3 = .ok (.invokevirtual 13, 3) := by decide +kernel
theorem dX5_works_6 : decode cX5_works 6 = .ok (.aload_n 0, 1) := by decide +kernel
theorem dX5_works_7 : decode cX5_works 7 = .ok (.iload_n 1, 1) := by decide +kernel
theorem dX5_works_8 : decode cX5_works 8 = .ok (.iconst 3, 1) := by decide +kernel
theorem dX5_works_9 : decode cX5_works 9 = .ok (.imul, 1) := by decide +kernel
theorem dX5_works_10 : decode cX5_works 10 = .ok (.aload_n 2, 1) := by decide +kernel
theorem dX5_works_11 : decode cX5_works 11 = .ok (.invokespecial 19, 3) := by decide +kernel
theorem dX5_works_14 : decode cX5_works 14 = .ok (.ireturn, 1) := by decide +kernel
set_option maxRecDepth 20000 in
theorem ggX6_init_X5_init : GoodIn wsX6_init wsX5_init := goodIn_r _ [4, 5, 6, 7, 8, 9, 10, 11, 12, 13, 14, 15, 16, 17, 18, 19, 20, 21, 22, 23, 24, 25, 26, 27, 28, 29, 30, 31, 32, 33, 34, 35, 36, 37, 38, 39, 40, 41, 42, 43] (by decide +kernel) (by decide +kernel)
set_option maxRecDepth 20000 in
theorem gX6_init_X5_init : GoodIn wsX6_init (wsX5_init) := ggX6_init_X5_init
theorem dX6_init_0 : decode cX6_init 0 = .ok (.aload_n 0, 1) := by decide +kernel
theorem dX6_init_1 : decode cX6_init 1 = .ok (.iload_n 1, 1) := by decide +kernel
theorem dX6_init_2 : decode cX6_init 2 = .ok (.iload_n 2, 1) := by decide +kernel
theorem dX6_init_3 : decode cX6_init 3 = .ok (.iload_n 3, 1) := by decide +kernel
theorem dX6_init_4 : decode cX6_init 4 = .ok (.iload 4, 2) := by decide +kernel
theorem dX6_init_6 : decode cX6_init 6 = .ok (.invokespecial 1, 3) := by decide +kernel
theorem dX6_init_9 : decode cX6_init 9 = .ok (.return_, 1) := by decide +kernel
set_option maxRecDepth 20000 in
theorem ggX6_favour_X5_favour : GoodIn wsX6_favour wsX5_favour := goodIn_r _ [12, 13, 14, 15, 16, 17, 18, 19, 20, 21, 22, 23, 24, 25, 26, 27, 28, 29, 30, 31, 32, 33, 34, 35, 36, 37, 38, 39, 40, 41, 42] (by decide +kernel) (by decide +kernel)
set_option maxRecDepth 20000 in
theorem gX6_favour_X5_favour_s7 : GoodIn wsX6_favour (va_wsSU RX6 7 yX5_favour wsX5_favour) := goodIn_app (goodIn_of _ (by decide +kernel)) ggX6_favour_X5_favour
theorem dX6_favour_0 : decode cX6_favour 0 = .ok (.aload_n 0, 1) := by decide +kernel
theorem dX6_favour_1 : decode cX6_favour 1 = .ok (.iload_n 1, 1) := by decide +kernel
theorem dX6_favour_2 : decode cX6_favour 2 = .ok (.invokespecial 7, 3) := by decide +kernel
theorem dX6_favour_5 : decode cX6_favour 5 = .ok (.bipush 9, 2) := by decide +kernel
theorem dX6_favour_7 : decode cX6_favour 7 = .ok (.iadd, 1) := by decide +kernel
theorem dX6_favour_8 : decode cX6_favour 8 = .ok (.aload_n 0, 1) := by decide +kernel
theorem dX6_favour_9 : decode cX6_favour 9 = .ok (.getfield 11, 3) := by decide +kernel
theorem dX6_favour_12 : decode cX6_favour 12 = .ok (.iload_n 1, 1) := by decide +kernel
theorem dX6_favour_13 : decode cX6_favour 13 = .ok (.isub, 1) := by decide +kernel
theorem dX6_favour_14 : decode cX6_favour 14 = .ok (.invokestatic 17, 3) := by decide +kernel
theorem dX6_favour_17 : decode cX6_favour 17 = .ok (.isub, 1) := by decide +kernel
theorem dX6_favour_18 : decode cX6_favour 18 = .ok (.ireturn, 1) := by decide +kernel
set_option maxRecDepth 20000 in
theorem ggX6_levels_X8_begin : GoodIn wsX6_levels wsX8_begin := goodIn_r _ [5, 6, 7, 23, 24] (by decide +kernel) (by decide +kernel)
set_option maxRecDepth 20000 in
theorem gX6_levels_X8_begin : GoodIn wsX6_levels (wsV RX6 22 RX8 yX8_begin wsX8_begin) := goodIn_app (goodIn_of _ (by decide +kernel)) ggX6_levels_X8_begin
set_option maxRecDepth 20000 in
theorem ggX6_levels_X5_works : GoodIn wsX6_levels wsX5_works := goodIn_r _ [13, 14, 2, 3, 4, 5, 6, 7, 15, 16, 17, 18, 19, 20, 21, 22, 23, 24, 25, 26, 27, 28, 29, 30, 31, 32, 33, 34, 35, 36, 37, 38, 39, 40, 41, 42, 43, 44, 45, 46, 47, 48, 49, 50, 51, 52] (by decide +kernel) (by decide +kernel)
set_option maxRecDepth 20000 in
theorem gX6_levels_X5_works_u32X6 : GoodIn wsX6_levels (va_wsU RX6 32 RX6 "ChiefGrades$Lenient" ⟨"ChiefGrades$Near", "works", "(ILChiefGrades$Trace;)I"⟩ yX5_works wsX5_works) := goodIn_app (goodIn_of _ (by decide +kernel)) ggX6_levels_X5_works
theorem dX6_levels_0 : decode cX6_levels 0 = .ok (.aload_n 2, 1) := by decide +kernel
theorem dX6_levels_1 : decode cX6_levels 1 = .ok (.bipush 41, 2) := by decide +kernel
theorem dX6_levels_3 : decode cX6_levels 3 = .ok (.invokevirtual 22, 3) := by decide +kernel
theorem dX6_levels_6 : decode cX6_levels 6 = .ok (.aload_n 0, 1) := by decide +kernel
theorem dX6_levels_7 : decode cX6_levels 7 = .ok (.iload_n 1, 1) := by decide +kernel
theorem dX6_levels_8 : decode cX6_levels 8 = .ok (.iconst 1, 1) := by decide +kernel
theorem dX6_levels_9 : decode cX6_levels 9 = .ok (.isub, 1) := by decide +kernel
theorem dX6_levels_10 : decode cX6_levels 10 = .ok (.aload_n 2, 1) := by decide +kernel
theorem dX6_levels_11 : decode cX6_levels 11 = .ok (.invokespecial 28, 3) := by decide +kernel
theorem dX6_levels_14 : decode cX6_levels 14 = .ok (.aload_n 0, 1) := by decide +kernel
theorem dX6_levels_15 : decode cX6_levels 15 = .ok (.iconst 2, 1) := by decide +kernel
theorem dX6_levels_16 : decode cX6_levels 16 = .ok (.aload_n 2, 1) := by decide +kernel
theorem dX6_levels_17 : decode cX6_levels 17 = .ok (.invokevirtual 32, 3) := by decide +kernel
theorem dX6_levels_20 : decode cX6_levels 20 = .ok (.iadd, 1) := by decide +kernel
theorem dX6_levels_21 : decode cX6_levels 21 = .ok (.ireturn, 1) := by decide +kernel
set_option maxRecDepth 20000 in
theorem ggX7_init_X4_init : GoodIn wsX7_init wsX4_init := goodIn_r _ [4, 5, 6, 7, 8, 9, 10, 11, 12, 13, 14, 15, 16, 17, 18, 19, 20, 21, 22, 23, 24, 25, 26, 27, 28, 29, 30, 31, 32, 33, 34, 35, 36, 37, 38, 39, 40, 41, 42, 43] (by decide +kernel) (by decide +kernel)
set_option maxRecDepth 20000 in
theorem gX7_init_X4_init : GoodIn wsX7_init (wsX4_init) := ggX7_init_X4_init
theorem dX7_init_0 : decode cX7_init 0 = .ok (.aload_n 0, 1) := by decide +kernel
theorem dX7_init_1 : decode cX7_init 1 = .ok (.iload_n 1, 1) := by decide +kernel
theorem dX7_init_2 : decode cX7_init 2 = .ok (.iload_n 2, 1) := by decide +kernel
theorem dX7_init_3 : decode cX7_init 3 = .ok (.iload_n 3, 1) := by decide +kernel
theorem dX7_init_4 : decode cX7_init 4 = .ok (.iload 4, 2) := by decide +kernel
theorem dX7_init_6 : decode cX7_init 6 = .ok (.invokespecial 1, 3) := by decide +kernel
theorem dX7_init_9 : decode cX7_init 9 = .ok (.return_, 1) := by decide +kernel
theorem dX7_favour_0 : decode cX7_favour 0 = .ok (.iconst 2, 1) := by decide +kernel
theorem dX7_favour_1 : decode cX7_favour 1 = .ok (.aload_n 0, 1) := by decide +kernel
theorem dX7_favour_2 : decode cX7_favour 2 = .ok (.getfield 7, 3) := by decide +kernel
theorem dX7_favour_5 : decode cX7_favour 5 = .ok (.imul, 1) := by decide +kernel
theorem dX7_favour_6 : decode cX7_favour 6 = .ok (.ireturn, 1) := by decide +kernel
set_option maxRecDepth 20000 in
theorem ggX7_grades_X8_begin : GoodIn wsX7_grades wsX8_begin := goodIn_r _ [7, 8, 9, 38, 39] (by decide +kernel) (by decide +kernel)
set_option maxRecDepth 20000 in
theorem gX7_grades_X8_begin : GoodIn wsX7_grades (wsV RX7 13 RX8 yX8_begin wsX8_begin) := goodIn_app (goodIn_of _ (by decide +kernel)) ggX7_grades_X8_begin
theorem dX7_grades_0 : decode cX7_grades 0 = .ok (.aload_n 2, 1) := by decide +kernel
theorem dX7_grades_1 : decode cX7_grades 1 = .ok (.bipush 61, 2) := by decide +kernel
theorem dX7_grades_3 : decode cX7_grades 3 = .ok (.invokevirtual 13, 3) := by decide +kernel
theorem dX7_grades_6 : decode cX7_grades 6 = .ok (.aload_n 0, 1) := by decide +kernel
theorem dX7_grades_7 : decode cX7_grades 7 = .ok (.iload_n 1, 1) := by decide +kernel
theorem dX7_grades_8 : decode cX7_grades 8 = .ok (.aload_n 2, 1) := by decide +kernel
theorem dX7_grades_9 : decode cX7_grades 9 = .ok (.invokespecial 19, 3) := by decide +kernel
theorem dX7_grades_12 : decode cX7_grades 12 = .ok (.aload_n 0, 1) := by decide +kernel
theorem dX7_grades_13 : decode cX7_grades 13 = .ok (.getfield 7, 3) := by decide +kernel
theorem dX7_grades_16 : decode cX7_grades 16 = .ok (.iadd, 1) := by decide +kernel
theorem dX7_grades_17 : decode cX7_grades 17 = .ok (.ireturn, 1) := by decide +kernel
theorem dX8_init_0 : decode cX8_init 0 = .ok (.aload_n 0, 1) := by decide +kernel
theorem dX8_init_1 : decode cX8_init 1 = .ok (.invokespecial 3, 3) := by decide +kernel
theorem dX8_init_4 : decode cX8_init 4 = .ok (.aload_n 0, 1) := by decide +kernel
theorem dX8_init_5 : decode cX8_init 5 = .ok (.bipush 20, 2) := by decide +kernel
theorem dX8_init_7 : decode cX8_init 7 = .ok (.newarray .int, 2) := by decide +kernel
theorem dX8_init_9 : decode cX8_init 9 = .ok (.putfield 9, 3) := by decide +kernel
theorem dX8_init_12 : decode cX8_init 12 = .ok (.return_, 1) := by decide +kernel
theorem dX8_begin_0 : decode cX8_begin 0 = .ok (.aload_n 0, 1) := by decide +kernel
theorem dX8_begin_1 : decode cX8_begin 1 = .ok (.getfield 15, 3) := by decide +kernel
theorem dX8_begin_4 : decode cX8_begin 4 = .ok (.ifCond .lt 22, 3) := by decide +kernel
theorem dX8_begin_7 : decode cX8_begin 7 = .ok (.aload_n 0, 1) := by decide +kernel
theorem dX8_begin_8 : decode cX8_begin 8 = .ok (.getfield 15, 3) := by decide +kernel
theorem dX8_begin_11 : decode cX8_begin 11 = .ok (.bipush 20, 2) := by decide +kernel
theorem dX8_begin_13 : decode cX8_begin 13 = .ok (.if_icmp .ge 13, 3) := by decide +kernel
theorem dX8_begin_16 : decode cX8_begin 16 = .ok (.aload_n 0, 1) := by decide +kernel
theorem dX8_begin_17 : decode cX8_begin 17 = .ok (.getfield 9, 3) := by decide +kernel
theorem dX8_begin_20 : decode cX8_begin 20 = .ok (.aload_n 0, 1) := by decide +kernel
theorem dX8_begin_21 : decode cX8_begin 21 = .ok (.getfield 15, 3) := by decide +kernel
theorem dX8_begin_24 : decode cX8_begin 24 = .ok (.iload_n 1, 1) := by decide +kernel
theorem dX8_begin_25 : decode cX8_begin 25 = .ok (.iastore, 1) := by decide +kernel
theorem dX8_begin_26 : decode cX8_begin 26 = .ok (.aload_n 0, 1) := by decide +kernel
theorem dX8_begin_27 : decode cX8_begin 27 = .ok (.dup, 1) := by decide +kernel
theorem dX8_begin_28 : decode cX8_begin 28 = .ok (.getfield 15, 3) := by decide +kernel
theorem dX8_begin_31 : decode cX8_begin 31 = .ok (.iconst 1, 1) := by decide +kernel
theorem dX8_begin_32 : decode cX8_begin 32 = .ok (.iadd, 1) := by decide +kernel
theorem dX8_begin_33 : decode cX8_begin 33 = .ok (.putfield 15, 3) := by decide +kernel
theorem dX8_begin_36 : decode cX8_begin 36 = .ok (.return_, 1) := by decide +kernel
set_option maxRecDepth 20000 in
theorem ggX9_init_X0_init : GoodIn wsX9_init wsX0_init := goodIn_r _ [4, 5, 6, 7, 8, 9, 10, 11, 12, 13, 14, 15, 16, 17, 18, 19, 20, 21, 22, 23, 24, 25, 26, 27, 28, 29, 30, 31, 32, 33, 34, 35, 36, 37, 38, 39] (by decide +kernel) (by decide +kernel)
set_option maxRecDepth 20000 in
theorem gX9_init_X0_init : GoodIn wsX9_init (wsX0_init) := ggX9_init_X0_init
theorem dX9_init_0 : decode cX9_init 0 = .ok (.aload_n 0, 1) := by decide +kernel
theorem dX9_init_1 : decode cX9_init 1 = .ok (.iload_n 1, 1) := by decide +kernel
theorem dX9_init_2 : decode cX9_init 2 = .ok (.iload_n 2, 1) := by decide +kernel
theorem dX9_init_3 : decode cX9_init 3 = .ok (.iload_n 3, 1) := by decide +kernel
theorem dX9_init_4 : decode cX9_init 4 = .ok (.iload 4, 2) := by decide +kernel
theorem dX9_init_6 : decode cX9_init 6 = .ok (.invokespecial 1, 3) := by decide +kernel
theorem dX9_init_9 : decode cX9_init 9 = .ok (.return_, 1) := by decide +kernel
theorem dX9_lineUp_0 : decode cX9_lineUp 0 = .ok (.iconst 0, 1) := by decide +kernel
theorem dX9_lineUp_1 : decode cX9_lineUp 1 = .ok (.istore 5, 2) := by decide +kernel
theorem dX9_lineUp_3 : decode cX9_lineUp 3 = .ok (.iload 5, 2) := by decide +kernel
theorem dX9_lineUp_5 : decode cX9_lineUp 5 = .ok (.iload_n 2, 1) := by decide +kernel
theorem dX9_lineUp_6 : decode cX9_lineUp 6 = .ok (.if_icmp .ge 22, 3) := by decide +kernel
theorem dX9_lineUp_9 : decode cX9_lineUp 9 = .ok (.aload 4, 2) := by decide +kernel
theorem dX9_lineUp_11 : decode cX9_lineUp 11 = .ok (.iload 5, 2) := by decide +kernel
theorem dX9_lineUp_13 : decode cX9_lineUp 13 = .ok (.aload_n 1, 1) := by decide +kernel
theorem dX9_lineUp_14 : decode cX9_lineUp 14 = .ok (.iload_n 3, 1) := by decide +kernel
theorem dX9_lineUp_15 : decode cX9_lineUp 15 = .ok (.iload 5, 2) := by decide +kernel
theorem dX9_lineUp_17 : decode cX9_lineUp 17 = .ok (.iadd, 1) := by decide +kernel
theorem dX9_lineUp_18 : decode cX9_lineUp 18 = .ok (.iload_n 2, 1) := by decide +kernel
theorem dX9_lineUp_19 : decode cX9_lineUp 19 = .ok (.irem, 1) := by decide +kernel
theorem dX9_lineUp_20 : decode cX9_lineUp 20 = .ok (.iaload, 1) := by decide +kernel
theorem dX9_lineUp_21 : decode cX9_lineUp 21 = .ok (.iastore, 1) := by decide +kernel
theorem dX9_lineUp_22 : decode cX9_lineUp 22 = .ok (.iinc 5 1, 3) := by decide +kernel
theorem dX9_lineUp_25 : decode cX9_lineUp 25 = .ok (.goto (-22), 3) := by decide +kernel
theorem dX9_lineUp_28 : decode cX9_lineUp 28 = .ok (.return_, 1) := by decide +kernel
set_option maxRecDepth 20000 in
theorem ggX9_grades_X8_begin : GoodIn wsX9_grades wsX8_begin := goodIn_r _ [5, 6, 7, 42, 43] (by decide +kernel) (by decide +kernel)
set_option maxRecDepth 20000 in
theorem gX9_grades_X8_begin : GoodIn wsX9_grades (wsV RX9 7 RX8 yX8_begin wsX8_begin) := goodIn_app (goodIn_of _ (by decide +kernel)) ggX9_grades_X8_begin
set_option maxRecDepth 20000 in
theorem ggX9_grades_X0_grades : GoodIn wsX9_grades wsX0_grades := goodIn_r _ [13, 14, 15, 2, 3, 4, 5, 6, 7, 16, 17, 18, 12, 19, 20, 21, 22, 23, 24, 25, 26, 27, 28, 29, 30, 31, 32, 33, 34, 35, 36, 37, 38, 39, 40, 41, 44, 45, 46, 47, 48, 49, 50, 51, 52, 53, 54, 55, 56, 57, 58, 59, 60, 61, 62, 63, 64, 65, 66, 67, 68, 69, 70, 71, 42, 43] (by decide +kernel) (by decide +kernel)
set_option maxRecDepth 20000 in
theorem gX9_grades_X0_grades_s13 : GoodIn wsX9_grades (va_wsSU RX9 13 yX0_grades wsX0_grades) := goodIn_app (goodIn_of _ (by decide +kernel)) ggX9_grades_X0_grades
theorem dX9_grades_0 : decode cX9_grades 0 = .ok (.aload_n 2, 1) := by decide +kernel
theorem dX9_grades_1 : decode cX9_grades 1 = .ok (.bipush 21, 2) := by decide +kernel
theorem dX9_grades_3 : decode cX9_grades 3 = .ok (.invokevirtual 7, 3) := by decide +kernel
theorem dX9_grades_6 : decode cX9_grades 6 = .ok (.aload_n 0, 1) := by decide +kernel
theorem dX9_grades_7 : decode cX9_grades 7 = .ok (.iload_n 1, 1) := by decide +kernel
theorem dX9_grades_8 : decode cX9_grades 8 = .ok (.aload_n 2, 1) := by decide +kernel
theorem dX9_grades_9 : decode cX9_grades 9 = .ok (.invokespecial 13, 3) := by decide +kernel
theorem dX9_grades_12 : decode cX9_grades 12 = .ok (.ineg, 1) := by decide +kernel
theorem dX9_grades_13 : decode cX9_grades 13 = .ok (.ireturn, 1) := by decide +kernel
set_option maxRecDepth 20000 in
theorem ggX10_init_X2_init : GoodIn wsX10_init wsX2_init := goodIn_r _ [25, 26, 2, 3, 27, 28, 29, 30, 31, 32, 33, 34, 35, 36, 37, 38, 6, 39, 40, 41, 61, 62, 63, 64, 65, 66, 67, 68, 69, 70, 71] (by decide +kernel) (by decide +kernel)
set_option maxRecDepth 20000 in
theorem gX10_init_X2_init : GoodIn wsX10_init (wsX2_init) := ggX10_init_X2_init
theorem dX10_init_0 : decode cX10_init 0 = .ok (.aload_n 0, 1) := by decide +kernel
theorem dX10_init_1 : decode cX10_init 1 = .ok (.invokespecial 3, 3) := by decide +kernel
theorem dX10_init_4 : decode cX10_init 4 = .ok (.aload_n 0, 1) := by decide +kernel
theorem dX10_init_5 : decode cX10_init 5 = .ok (.bipush 50, 2) := by decide +kernel
theorem dX10_init_7 : decode cX10_init 7 = .ok (.putfield 9, 3) := by decide +kernel
theorem dX10_init_10 : decode cX10_init 10 = .ok (.aload_n 0, 1) := by decide +kernel
theorem dX10_init_11 : decode cX10_init 11 = .ok (.bipush 50, 2) := by decide +kernel
theorem dX10_init_13 : decode cX10_init 13 = .ok (.putfield 15, 3) := by decide +kernel
theorem dX10_init_16 : decode cX10_init 16 = .ok (.aload_n 0, 1) := by decide +kernel
theorem dX10_init_17 : decode cX10_init 17 = .ok (.bipush 10, 2) := by decide +kernel
theorem dX10_init_19 : decode cX10_init 19 = .ok (.newarray .int, 2) := by decide +kernel
theorem dX10_init_21 : decode cX10_init 21 = .ok (.putfield 18, 3) := by decide +kernel
theorem dX10_init_24 : decode cX10_init 24 = .ok (.aload_n 0, 1) := by decide +kernel
theorem dX10_init_25 : decode cX10_init 25 = .ok (.bipush 10, 2) := by decide +kernel
theorem dX10_init_27 : decode cX10_init 27 = .ok (.newarray .int, 2) := by decide +kernel
theorem dX10_init_29 : decode cX10_init 29 = .ok (.putfield 22, 3) := by decide +kernel
theorem dX10_init_32 : decode cX10_init 32 = .ok (.aload_n 0, 1) := by decide +kernel
theorem dX10_init_33 : decode cX10_init 33 = .ok (.bipush 10, 2) := by decide +kernel
theorem dX10_init_35 : decode cX10_init 35 = .ok (.newarray .int, 2) := by decide +kernel
theorem dX10_init_37 : decode cX10_init 37 = .ok (.putfield 25, 3) := by decide +kernel
theorem dX10_init_40 : decode cX10_init 40 = .ok (.aload_n 0, 1) := by decide +kernel
theorem dX10_init_41 : decode cX10_init 41 = .ok (.bipush 10, 2) := by decide +kernel
theorem dX10_init_43 : decode cX10_init 43 = .ok (.newarray .int, 2) := by decide +kernel
theorem dX10_init_45 : decode cX10_init 45 = .ok (.putfield 28, 3) := by decide +kernel
theorem dX10_init_48 : decode cX10_init 48 = .ok (.aload_n 0, 1) := by decide +kernel
theorem dX10_init_49 : decode cX10_init 49 = .ok (.bipush 10, 2) := by decide +kernel
theorem dX10_init_51 : decode cX10_init 51 = .ok (.newarray .int, 2) := by decide +kernel
theorem dX10_init_53 : decode cX10_init 53 = .ok (.putfield 31, 3) := by decide +kernel
theorem dX10_init_56 : decode cX10_init 56 = .ok (.aload_n 0, 1) := by decide +kernel
theorem dX10_init_57 : decode cX10_init 57 = .ok (.iconst 4, 1) := by decide +kernel
theorem dX10_init_58 : decode cX10_init 58 = .ok (.anewarray 34, 3) := by decide +kernel
theorem dX10_init_61 : decode cX10_init 61 = .ok (.putfield 36, 3) := by decide +kernel
theorem dX10_init_64 : decode cX10_init 64 = .ok (.aload_n 0, 1) := by decide +kernel
theorem dX10_init_65 : decode cX10_init 65 = .ok (.bipush 20, 2) := by decide +kernel
theorem dX10_init_67 : decode cX10_init 67 = .ok (.newarray .int, 2) := by decide +kernel
theorem dX10_init_69 : decode cX10_init 69 = .ok (.putfield 40, 3) := by decide +kernel
theorem dX10_init_72 : decode cX10_init 72 = .ok (.aload_n 0, 1) := by decide +kernel
theorem dX10_init_73 : decode cX10_init 73 = .ok (.bipush 20, 2) := by decide +kernel
theorem dX10_init_75 : decode cX10_init 75 = .ok (.newarray .int, 2) := by decide +kernel
theorem dX10_init_77 : decode cX10_init 77 = .ok (.putfield 43, 3) := by decide +kernel
theorem dX10_init_80 : decode cX10_init 80 = .ok (.aload_n 0, 1) := by decide +kernel
theorem dX10_init_81 : decode cX10_init 81 = .ok (.bipush 20, 2) := by decide +kernel
theorem dX10_init_83 : decode cX10_init 83 = .ok (.newarray .int, 2) := by decide +kernel
theorem dX10_init_85 : decode cX10_init 85 = .ok (.putfield 46, 3) := by decide +kernel
theorem dX10_init_88 : decode cX10_init 88 = .ok (.aload_n 0, 1) := by decide +kernel
theorem dX10_init_89 : decode cX10_init 89 = .ok (.bipush 100, 2) := by decide +kernel
theorem dX10_init_91 : decode cX10_init 91 = .ok (.newarray .char, 2) := by decide +kernel
theorem dX10_init_93 : decode cX10_init 93 = .ok (.putfield 49, 3) := by decide +kernel
theorem dX10_init_96 : decode cX10_init 96 = .ok (.aload_n 0, 1) := by decide +kernel
theorem dX10_init_97 : decode cX10_init 97 = .ok (.new 53, 3) := by decide +kernel
theorem dX10_init_100 : decode cX10_init 100 = .ok (.dup, 1) := by decide +kernel
theorem dX10_init_101 : decode cX10_init 101 = .ok (.iconst 0, 1) := by decide +kernel
theorem dX10_init_102 : decode cX10_init 102 = .ok (.newarray .char, 2) := by decide +kernel
theorem dX10_init_104 : decode cX10_init 104 = .ok (.iconst 0, 1) := by decide +kernel
theorem dX10_init_105 : decode cX10_init 105 = .ok (.invokespecial 55, 3) := by decide +kernel
theorem dX10_init_108 : decode cX10_init 108 = .ok (.putfield 58, 3) := by decide +kernel
theorem dX10_init_111 : decode cX10_init 111 = .ok (.return_, 1) := by decide +kernel
theorem dX10_become_0 : decode cX10_become 0 = .ok (.aload_n 0, 1) := by decide +kernel
theorem dX10_become_1 : decode cX10_become 1 = .ok (.aload_n 1, 1) := by decide +kernel
theorem dX10_become_2 : decode cX10_become 2 = .ok (.getfield 62, 3) := by decide +kernel
theorem dX10_become_5 : decode cX10_become 5 = .ok (.putfield 62, 3) := by decide +kernel
theorem dX10_become_8 : decode cX10_become 8 = .ok (.aload_n 0, 1) := by decide +kernel
theorem dX10_become_9 : decode cX10_become 9 = .ok (.aload_n 1, 1) := by decide +kernel
theorem dX10_become_10 : decode cX10_become 10 = .ok (.getfield 65, 3) := by decide +kernel
theorem dX10_become_13 : decode cX10_become 13 = .ok (.putfield 65, 3) := by decide +kernel
theorem dX10_become_16 : decode cX10_become 16 = .ok (.aload_n 0, 1) := by decide +kernel
theorem dX10_become_17 : decode cX10_become 17 = .ok (.aload_n 1, 1) := by decide +kernel
theorem dX10_become_18 : decode cX10_become 18 = .ok (.getfield 68, 3) := by decide +kernel
theorem dX10_become_21 : decode cX10_become 21 = .ok (.putfield 68, 3) := by decide +kernel
theorem dX10_become_24 : decode cX10_become 24 = .ok (.aload_n 0, 1) := by decide +kernel
theorem dX10_become_25 : decode cX10_become 25 = .ok (.aload_n 1, 1) := by decide +kernel
theorem dX10_become_26 : decode cX10_become 26 = .ok (.getfield 71, 3) := by decide +kernel
theorem dX10_become_29 : decode cX10_become 29 = .ok (.putfield 71, 3) := by decide +kernel
theorem dX10_become_32 : decode cX10_become 32 = .ok (.aload_n 0, 1) := by decide +kernel
theorem dX10_become_33 : decode cX10_become 33 = .ok (.aload_n 1, 1) := by decide +kernel
theorem dX10_become_34 : decode cX10_become 34 = .ok (.getfield 74, 3) := by decide +kernel
theorem dX10_become_37 : decode cX10_become 37 = .ok (.putfield 74, 3) := by decide +kernel
theorem dX10_become_40 : decode cX10_become 40 = .ok (.aload_n 0, 1) := by decide +kernel
theorem dX10_become_41 : decode cX10_become 41 = .ok (.aload_n 1, 1) := by decide +kernel
theorem dX10_become_42 : decode cX10_become 42 = .ok (.getfield 77, 3) := by decide +kernel
theorem dX10_become_45 : decode cX10_become 45 = .ok (.putfield 77, 3) := by decide +kernel
theorem dX10_become_48 : decode cX10_become 48 = .ok (.aload_n 0, 1) := by decide +kernel
theorem dX10_become_49 : decode cX10_become 49 = .ok (.aload_n 1, 1) := by decide +kernel
theorem dX10_become_50 : decode cX10_become 50 = .ok (.getfield 9, 3) := by decide +kernel
theorem dX10_become_53 : decode cX10_become 53 = .ok (.putfield 9, 3) := by decide +kernel
theorem dX10_become_56 : decode cX10_become 56 = .ok (.aload_n 0, 1) := by decide +kernel
theorem dX10_become_57 : decode cX10_become 57 = .ok (.aload_n 1, 1) := by decide +kernel
theorem dX10_become_58 : decode cX10_become 58 = .ok (.getfield 15, 3) := by decide +kernel
theorem dX10_become_61 : decode cX10_become 61 = .ok (.putfield 15, 3) := by decide +kernel
theorem dX10_become_64 : decode cX10_become 64 = .ok (.aload_n 0, 1) := by decide +kernel
theorem dX10_become_65 : decode cX10_become 65 = .ok (.aload_n 1, 1) := by decide +kernel
theorem dX10_become_66 : decode cX10_become 66 = .ok (.getfield 58, 3) := by decide +kernel
theorem dX10_become_69 : decode cX10_become 69 = .ok (.putfield 58, 3) := by decide +kernel
theorem dX10_become_72 : decode cX10_become 72 = .ok (.aload_n 1, 1) := by decide +kernel
theorem dX10_become_73 : decode cX10_become 73 = .ok (.getfield 18, 3) := by decide +kernel
theorem dX10_become_76 : decode cX10_become 76 = .ok (.iconst 0, 1) := by decide +kernel
theorem dX10_become_77 : decode cX10_become 77 = .ok (.aload_n 0, 1) := by decide +kernel
theorem dX10_become_78 : decode cX10_become 78 = .ok (.getfield 18, 3) := by decide +kernel
theorem dX10_become_81 : decode cX10_become 81 = .ok (.iconst 0, 1) := by decide +kernel
theorem dX10_become_82 : decode cX10_become 82 = .ok (.bipush 10, 2) := by decide +kernel
theorem dX10_become_84 : decode cX10_become 84 = .ok (.invokestatic 80, 3) := by decide +kernel
theorem dX10_become_87 : decode cX10_become 87 = .ok (.aload_n 1, 1) := by decide +kernel
theorem dX10_become_88 : decode cX10_become 88 = .ok (.getfield 22, 3) := by decide +kernel
theorem dX10_become_91 : decode cX10_become 91 = .ok (.iconst 0, 1) := by decide +kernel
theorem dX10_become_92 : decode cX10_become 92 = .ok (.aload_n 0, 1) := by decide +kernel
theorem dX10_become_93 : decode cX10_become 93 = .ok (.getfield 22, 3) := by decide +kernel
theorem dX10_become_96 : decode cX10_become 96 = .ok (.iconst 0, 1) := by decide +kernel
theorem dX10_become_97 : decode cX10_become 97 = .ok (.bipush 10, 2) := by decide +kernel
theorem dX10_become_99 : decode cX10_become 99 = .ok (.invokestatic 80, 3) := by decide +kernel
theorem dX10_become_102 : decode cX10_become 102 = .ok (.aload_n 1, 1) := by decide +kernel
theorem dX10_become_103 : decode cX10_become 103 = .ok (.getfield 25, 3) := by decide +kernel
theorem dX10_become_106 : decode cX10_become 106 = .ok (.iconst 0, 1) := by decide +kernel
theorem dX10_become_107 : decode cX10_become 107 = .ok (.aload_n 0, 1) := by decide +kernel
theorem dX10_become_108 : decode cX10_become 108 = .ok (.getfield 25, 3) := by decide +kernel
theorem dX10_become_111 : decode cX10_become 111 = .ok (.iconst 0, 1) := by decide +kernel
theorem dX10_become_112 : decode cX10_become 112 = .ok (.bipush 10, 2) := by decide +kernel
theorem dX10_become_114 : decode cX10_become 114 = .ok (.invokestatic 80, 3) := by decide +kernel
theorem dX10_become_117 : decode cX10_become 117 = .ok (.aload_n 1, 1) := by decide +kernel
theorem dX10_become_118 : decode cX10_become 118 = .ok (.getfield 28, 3) := by decide +kernel
theorem dX10_become_121 : decode cX10_become 121 = .ok (.iconst 0, 1) := by decide +kernel
theorem dX10_become_122 : decode cX10_become 122 = .ok (.aload_n 0, 1) := by decide +kernel
theorem dX10_become_123 : decode cX10_become 123 = .ok (.getfield 28, 3) := by decide +kernel
theorem dX10_become_126 : decode cX10_become 126 = .ok (.iconst 0, 1) := by decide +kernel
theorem dX10_become_127 : decode cX10_become 127 = .ok (.bipush 10, 2) := by decide +kernel
theorem dX10_become_129 : decode cX10_become 129 = .ok (.invokestatic 80, 3) := by decide +kernel
theorem dX10_become_132 : decode cX10_become 132 = .ok (.aload_n 1, 1) := by decide +kernel
theorem dX10_become_133 : decode cX10_become 133 = .ok (.getfield 31, 3) := by decide +kernel
theorem dX10_become_136 : decode cX10_become 136 = .ok (.iconst 0, 1) := by decide +kernel
theorem dX10_become_137 : decode cX10_become 137 = .ok (.aload_n 0, 1) := by decide +kernel
theorem dX10_become_138 : decode cX10_become 138 = .ok (.getfield 31, 3) := by decide +kernel
theorem dX10_become_141 : decode cX10_become 141 = .ok (.iconst 0, 1) := by decide +kernel
theorem dX10_become_142 : decode cX10_become 142 = .ok (.bipush 10, 2) := by decide +kernel
theorem dX10_become_144 : decode cX10_become 144 = .ok (.invokestatic 80, 3) := by decide +kernel
theorem dX10_become_147 : decode cX10_become 147 = .ok (.aload_n 1, 1) := by decide +kernel
theorem dX10_become_148 : decode cX10_become 148 = .ok (.getfield 40, 3) := by decide +kernel
theorem dX10_become_151 : decode cX10_become 151 = .ok (.iconst 0, 1) := by decide +kernel
theorem dX10_become_152 : decode cX10_become 152 = .ok (.aload_n 0, 1) := by decide +kernel
theorem dX10_become_153 : decode cX10_become 153 = .ok (.getfield 40, 3) := by decide +kernel
theorem dX10_become_156 : decode cX10_become 156 = .ok (.iconst 0, 1) := by decide +kernel
theorem dX10_become_157 : decode cX10_become 157 = .ok (.bipush 20, 2) := by decide +kernel
theorem dX10_become_159 : decode cX10_become 159 = .ok (.invokestatic 80, 3) := by decide +kernel
theorem dX10_become_162 : decode cX10_become 162 = .ok (.aload_n 1, 1) := by decide +kernel
theorem dX10_become_163 : decode cX10_become 163 = .ok (.getfield 43, 3) := by decide +kernel
theorem dX10_become_166 : decode cX10_become 166 = .ok (.iconst 0, 1) := by decide +kernel
theorem dX10_become_167 : decode cX10_become 167 = .ok (.aload_n 0, 1) := by decide +kernel
theorem dX10_become_168 : decode cX10_become 168 = .ok (.getfield 43, 3) := by decide +kernel
theorem dX10_become_171 : decode cX10_become 171 = .ok (.iconst 0, 1) := by decide +kernel
theorem dX10_become_172 : decode cX10_become 172 = .ok (.bipush 20, 2) := by decide +kernel
theorem dX10_become_174 : decode cX10_become 174 = .ok (.invokestatic 80, 3) := by decide +kernel
theorem dX10_become_177 : decode cX10_become 177 = .ok (.aload_n 1, 1) := by decide +kernel
theorem dX10_become_178 : decode cX10_become 178 = .ok (.getfield 46, 3) := by decide +kernel
theorem dX10_become_181 : decode cX10_become 181 = .ok (.iconst 0, 1) := by decide +kernel
theorem dX10_become_182 : decode cX10_become 182 = .ok (.aload_n 0, 1) := by decide +kernel
theorem dX10_become_183 : decode cX10_become 183 = .ok (.getfield 46, 3) := by decide +kernel
theorem dX10_become_186 : decode cX10_become 186 = .ok (.iconst 0, 1) := by decide +kernel
theorem dX10_become_187 : decode cX10_become 187 = .ok (.bipush 20, 2) := by decide +kernel
theorem dX10_become_189 : decode cX10_become 189 = .ok (.invokestatic 80, 3) := by decide +kernel
theorem dX10_become_192 : decode cX10_become 192 = .ok (.aload_n 1, 1) := by decide +kernel
theorem dX10_become_193 : decode cX10_become 193 = .ok (.getfield 49, 3) := by decide +kernel
theorem dX10_become_196 : decode cX10_become 196 = .ok (.iconst 0, 1) := by decide +kernel
theorem dX10_become_197 : decode cX10_become 197 = .ok (.aload_n 0, 1) := by decide +kernel
theorem dX10_become_198 : decode cX10_become 198 = .ok (.getfield 49, 3) := by decide +kernel
theorem dX10_become_201 : decode cX10_become 201 = .ok (.iconst 0, 1) := by decide +kernel
theorem dX10_become_202 : decode cX10_become 202 = .ok (.bipush 100, 2) := by decide +kernel
theorem dX10_become_204 : decode cX10_become 204 = .ok (.invokestatic 80, 3) := by decide +kernel
theorem dX10_become_207 : decode cX10_become 207 = .ok (.iconst 0, 1) := by decide +kernel
theorem dX10_become_208 : decode cX10_become 208 = .ok (.istore_n 2, 1) := by decide +kernel
theorem dX10_become_209 : decode cX10_become 209 = .ok (.iload_n 2, 1) := by decide +kernel
theorem dX10_become_210 : decode cX10_become 210 = .ok (.iconst 4, 1) := by decide +kernel
theorem dX10_become_211 : decode cX10_become 211 = .ok (.if_icmp .ge 21, 3) := by decide +kernel
theorem dX10_become_214 : decode cX10_become 214 = .ok (.aload_n 0, 1) := by decide +kernel
theorem dX10_become_215 : decode cX10_become 215 = .ok (.getfield 36, 3) := by decide +kernel
theorem dX10_become_218 : decode cX10_become 218 = .ok (.iload_n 2, 1) := by decide +kernel
theorem dX10_become_219 : decode cX10_become 219 = .ok (.aload_n 1, 1) := by decide +kernel
theorem dX10_become_220 : decode cX10_become 220 = .ok (.getfield 36, 3) := by decide +kernel
theorem dX10_become_223 : decode cX10_become 223 = .ok (.iload_n 2, 1) := by decide +kernel
theorem dX10_become_224 : decode cX10_become 224 = .ok (.aaload, 1) := by decide +kernel
theorem dX10_become_225 : decode cX10_become 225 = .ok (.aastore, 1) := by decide +kernel
theorem dX10_become_226 : decode cX10_become 226 = .ok (.iinc 2 1, 3) := by decide +kernel
theorem dX10_become_229 : decode cX10_become 229 = .ok (.goto (-20), 3) := by decide +kernel
theorem dX10_become_232 : decode cX10_become 232 = .ok (.return_, 1) := by decide +kernel
theorem dX10_hasWorker_0 : decode cX10_hasWorker 0 = .ok (.iload_n 1, 1) := by decide +kernel
theorem dX10_hasWorker_1 : decode cX10_hasWorker 1 = .ok (.ifCond .lt 21, 3) := by decide +kernel
theorem dX10_hasWorker_4 : decode cX10_hasWorker 4 = .ok (.iload_n 1, 1) := by decide +kernel
theorem dX10_hasWorker_5 : decode cX10_hasWorker 5 = .ok (.aload_n 0, 1) := by decide +kernel
theorem dX10_hasWorker_6 : decode cX10_hasWorker 6 = .ok (.getfield 62, 3) := by decide +kernel
theorem dX10_hasWorker_9 : decode cX10_hasWorker 9 = .ok (.if_icmp .ge 13, 3) := by decide +kernel
theorem dX10_hasWorker_12 : decode cX10_hasWorker 12 = .ok (.iload_n 1, 1) := by decide +kernel
theorem dX10_hasWorker_13 : decode cX10_hasWorker 13 = .ok (.bipush 10, 2) := by decide +kernel
theorem dX10_hasWorker_15 : decode cX10_hasWorker 15 = .ok (.if_icmp .ge 7, 3) := by decide +kernel
theorem dX10_hasWorker_18 : decode cX10_hasWorker 18 = .ok (.iconst 1, 1) := by decide +kernel
theorem dX10_hasWorker_19 : decode cX10_hasWorker 19 = .ok (.goto 4, 3) := by decide +kernel
theorem dX10_hasWorker_22 : decode cX10_hasWorker 22 = .ok (.iconst 0, 1) := by decide +kernel
theorem dX10_hasWorker_23 : decode cX10_hasWorker 23 = .ok (.ireturn, 1) := by decide +kernel
theorem dX10_chiefAt_0 : decode cX10_chiefAt 0 = .ok (.iload_n 1, 1) := by decide +kernel
theorem dX10_chiefAt_1 : decode cX10_chiefAt 1 = .ok (.ifCond .lt 25, 3) := by decide +kernel
theorem dX10_chiefAt_4 : decode cX10_chiefAt 4 = .ok (.iload_n 1, 1) := by decide +kernel
theorem dX10_chiefAt_5 : decode cX10_chiefAt 5 = .ok (.aload_n 0, 1) := by decide +kernel
theorem dX10_chiefAt_6 : decode cX10_chiefAt 6 = .ok (.getfield 65, 3) := by decide +kernel
theorem dX10_chiefAt_9 : decode cX10_chiefAt 9 = .ok (.if_icmp .ge 17, 3) := by decide +kernel
theorem dX10_chiefAt_12 : decode cX10_chiefAt 12 = .ok (.iload_n 1, 1) := by decide +kernel
theorem dX10_chiefAt_13 : decode cX10_chiefAt 13 = .ok (.iconst 4, 1) := by decide +kernel
theorem dX10_chiefAt_14 : decode cX10_chiefAt 14 = .ok (.if_icmp .ge 12, 3) := by decide +kernel
theorem dX10_chiefAt_17 : decode cX10_chiefAt 17 = .ok (.aload_n 0, 1) := by decide +kernel
theorem dX10_chiefAt_18 : decode cX10_chiefAt 18 = .ok (.getfield 36, 3) := by decide +kernel
theorem dX10_chiefAt_21 : decode cX10_chiefAt 21 = .ok (.iload_n 1, 1) := by decide +kernel
theorem dX10_chiefAt_22 : decode cX10_chiefAt 22 = .ok (.aaload, 1) := by decide +kernel
theorem dX10_chiefAt_23 : decode cX10_chiefAt 23 = .ok (.goto 4, 3) := by decide +kernel
theorem dX10_chiefAt_26 : decode cX10_chiefAt 26 = .ok (.aconst_null, 1) := by decide +kernel
theorem dX10_chiefAt_27 : decode cX10_chiefAt 27 = .ok (.areturn, 1) := by decide +kernel
theorem dX10_teamBits_0 : decode cX10_teamBits 0 = .ok (.iconst 0, 1) := by decide +kernel
theorem dX10_teamBits_1 : decode cX10_teamBits 1 = .ok (.istore_n 2, 1) := by decide +kernel
theorem dX10_teamBits_2 : decode cX10_teamBits 2 = .ok (.iconst 0, 1) := by decide +kernel
theorem dX10_teamBits_3 : decode cX10_teamBits 3 = .ok (.istore_n 3, 1) := by decide +kernel
theorem dX10_teamBits_4 : decode cX10_teamBits 4 = .ok (.iload_n 3, 1) := by decide +kernel
theorem dX10_teamBits_5 : decode cX10_teamBits 5 = .ok (.aload_n 0, 1) := by decide +kernel
theorem dX10_teamBits_6 : decode cX10_teamBits 6 = .ok (.getfield 62, 3) := by decide +kernel
theorem dX10_teamBits_9 : decode cX10_teamBits 9 = .ok (.if_icmp .ge 25, 3) := by decide +kernel
theorem dX10_teamBits_12 : decode cX10_teamBits 12 = .ok (.aload_n 0, 1) := by decide +kernel
theorem dX10_teamBits_13 : decode cX10_teamBits 13 = .ok (.getfield 25, 3) := by decide +kernel
theorem dX10_teamBits_16 : decode cX10_teamBits 16 = .ok (.iload_n 3, 1) := by decide +kernel
theorem dX10_teamBits_17 : decode cX10_teamBits 17 = .ok (.iaload, 1) := by decide +kernel
theorem dX10_teamBits_18 : decode cX10_teamBits 18 = .ok (.iload_n 1, 1) := by decide +kernel
theorem dX10_teamBits_19 : decode cX10_teamBits 19 = .ok (.if_icmp .ne 9, 3) := by decide +kernel
theorem dX10_teamBits_22 : decode cX10_teamBits 22 = .ok (.iload_n 2, 1) := by decide +kernel
theorem dX10_teamBits_23 : decode cX10_teamBits 23 = .ok (.iconst 1, 1) := by decide +kernel
theorem dX10_teamBits_24 : decode cX10_teamBits 24 = .ok (.iload_n 3, 1) := by decide +kernel
theorem dX10_teamBits_25 : decode cX10_teamBits 25 = .ok (.ishl, 1) := by decide +kernel
theorem dX10_teamBits_26 : decode cX10_teamBits 26 = .ok (.ior, 1) := by decide +kernel
theorem dX10_teamBits_27 : decode cX10_teamBits 27 = .ok (.istore_n 2, 1) := by decide +kernel
theorem dX10_teamBits_28 : decode cX10_teamBits 28 = .ok (.iinc 3 1, 3) := by decide +kernel
theorem dX10_teamBits_31 : decode cX10_teamBits 31 = .ok (.goto (-27), 3) := by decide +kernel
theorem dX10_teamBits_34 : decode cX10_teamBits 34 = .ok (.iload_n 2, 1) := by decide +kernel
theorem dX10_teamBits_35 : decode cX10_teamBits 35 = .ok (.ireturn, 1) := by decide +kernel
theorem dX10_worthTogether_0 : decode cX10_worthTogether 0 = .ok (.iconst 0, 1) := by decide +kernel
theorem dX10_worthTogether_1 : decode cX10_worthTogether 1 = .ok (.istore_n 1, 1) := by decide +kernel
theorem dX10_worthTogether_2 : decode cX10_worthTogether 2 = .ok (.iconst 0, 1) := by decide +kernel
theorem dX10_worthTogether_3 : decode cX10_worthTogether 3 = .ok (.istore_n 2, 1) := by decide +kernel
theorem dX10_worthTogether_4 : decode cX10_worthTogether 4 = .ok (.iload_n 2, 1) := by decide +kernel
theorem dX10_worthTogether_5 : decode cX10_worthTogether 5 = .ok (.aload_n 0, 1) := by decide +kernel
theorem dX10_worthTogether_6 : decode cX10_worthTogether 6 = .ok (.getfield 62, 3) := by decide +kernel
theorem dX10_worthTogether_9 : decode cX10_worthTogether 9 = .ok (.if_icmp .ge 18, 3) := by decide +kernel
theorem dX10_worthTogether_12 : decode cX10_worthTogether 12 = .ok (.iload_n 1, 1) := by decide +kernel
theorem dX10_worthTogether_13 : decode cX10_worthTogether 13 = .ok (.aload_n 0, 1) := by decide +kernel
theorem dX10_worthTogether_14 : decode cX10_worthTogether 14 = .ok (.getfield 18, 3) := by decide +kernel
theorem dX10_worthTogether_17 : decode cX10_worthTogether 17 = .ok (.iload_n 2, 1) := by decide +kernel
theorem dX10_worthTogether_18 : decode cX10_worthTogether 18 = .ok (.iaload, 1) := by decide +kernel
theorem dX10_worthTogether_19 : decode cX10_worthTogether 19 = .ok (.iadd, 1) := by decide +kernel
theorem dX10_worthTogether_20 : decode cX10_worthTogether 20 = .ok (.istore_n 1, 1) := by decide +kernel
theorem dX10_worthTogether_21 : decode cX10_worthTogether 21 = .ok (.iinc 2 1, 3) := by decide +kernel
theorem dX10_worthTogether_24 : decode cX10_worthTogether 24 = .ok (.goto (-20), 3) := by decide +kernel
theorem dX10_worthTogether_27 : decode cX10_worthTogether 27 = .ok (.iload_n 1, 1) := by decide +kernel
theorem dX10_worthTogether_28 : decode cX10_worthTogether 28 = .ok (.ireturn, 1) := by decide +kernel
set_option maxRecDepth 20000 in
theorem ggX10_replace_X10_hasWorker : GoodIn wsX10_replace wsX10_hasWorker := goodIn_r _ [10, 11, 12, 13, 14, 15, 16, 17, 18, 19, 20, 21, 22, 23, 24, 25, 26, 27, 28, 29, 30] (by decide +kernel) (by decide +kernel)
set_option maxRecDepth 20000 in
theorem gX10_replace_X10_hasWorker : GoodIn wsX10_replace (wsV RX10 86 RX10 yX10_hasWorker wsX10_hasWorker) := goodIn_app (goodIn_of _ (by decide +kernel)) ggX10_replace_X10_hasWorker
theorem dX10_replace_0 : decode cX10_replace 0 = .ok (.aload_n 0, 1) := by decide +kernel
theorem dX10_replace_1 : decode cX10_replace 1 = .ok (.iload_n 1, 1) := by decide +kernel
theorem dX10_replace_2 : decode cX10_replace 2 = .ok (.invokevirtual 86, 3) := by decide +kernel
theorem dX10_replace_5 : decode cX10_replace 5 = .ok (.ifCond .ne 4, 3) := by decide +kernel
theorem dX10_replace_8 : decode cX10_replace 8 = .ok (.return_, 1) := by decide +kernel
theorem dX10_replace_9 : decode cX10_replace 9 = .ok (.aload_n 0, 1) := by decide +kernel
theorem dX10_replace_10 : decode cX10_replace 10 = .ok (.getfield 18, 3) := by decide +kernel
theorem dX10_replace_13 : decode cX10_replace 13 = .ok (.iload_n 1, 1) := by decide +kernel
theorem dX10_replace_14 : decode cX10_replace 14 = .ok (.aload_n 0, 1) := by decide +kernel
theorem dX10_replace_15 : decode cX10_replace 15 = .ok (.getfield 9, 3) := by decide +kernel
theorem dX10_replace_18 : decode cX10_replace 18 = .ok (.iastore, 1) := by decide +kernel
theorem dX10_replace_19 : decode cX10_replace 19 = .ok (.aload_n 0, 1) := by decide +kernel
theorem dX10_replace_20 : decode cX10_replace 20 = .ok (.getfield 22, 3) := by decide +kernel
theorem dX10_replace_23 : decode cX10_replace 23 = .ok (.iload_n 1, 1) := by decide +kernel
theorem dX10_replace_24 : decode cX10_replace 24 = .ok (.aload_n 0, 1) := by decide +kernel
theorem dX10_replace_25 : decode cX10_replace 25 = .ok (.getfield 15, 3) := by decide +kernel
theorem dX10_replace_28 : decode cX10_replace 28 = .ok (.iastore, 1) := by decide +kernel
theorem dX10_replace_29 : decode cX10_replace 29 = .ok (.aload_n 0, 1) := by decide +kernel
theorem dX10_replace_30 : decode cX10_replace 30 = .ok (.getfield 31, 3) := by decide +kernel
theorem dX10_replace_33 : decode cX10_replace 33 = .ok (.iload_n 1, 1) := by decide +kernel
theorem dX10_replace_34 : decode cX10_replace 34 = .ok (.iconst 0, 1) := by decide +kernel
theorem dX10_replace_35 : decode cX10_replace 35 = .ok (.iastore, 1) := by decide +kernel
theorem dX10_replace_36 : decode cX10_replace 36 = .ok (.return_, 1) := by decide +kernel
theorem dX10_exchange_0 : decode cX10_exchange 0 = .ok (.aload_n 0, 1) := by decide +kernel
theorem dX10_exchange_1 : decode cX10_exchange 1 = .ok (.getfield 25, 3) := by decide +kernel
theorem dX10_exchange_4 : decode cX10_exchange 4 = .ok (.iload_n 1, 1) := by decide +kernel
theorem dX10_exchange_5 : decode cX10_exchange 5 = .ok (.iaload, 1) := by decide +kernel
theorem dX10_exchange_6 : decode cX10_exchange 6 = .ok (.istore_n 3, 1) := by decide +kernel
theorem dX10_exchange_7 : decode cX10_exchange 7 = .ok (.aload_n 0, 1) := by decide +kernel
theorem dX10_exchange_8 : decode cX10_exchange 8 = .ok (.getfield 28, 3) := by decide +kernel
theorem dX10_exchange_11 : decode cX10_exchange 11 = .ok (.iload_n 1, 1) := by decide +kernel
theorem dX10_exchange_12 : decode cX10_exchange 12 = .ok (.iaload, 1) := by decide +kernel
theorem dX10_exchange_13 : decode cX10_exchange 13 = .ok (.istore 4, 2) := by decide +kernel
theorem dX10_exchange_15 : decode cX10_exchange 15 = .ok (.aload_n 0, 1) := by decide +kernel
theorem dX10_exchange_16 : decode cX10_exchange 16 = .ok (.getfield 25, 3) := by decide +kernel
theorem dX10_exchange_19 : decode cX10_exchange 19 = .ok (.iload_n 1, 1) := by decide +kernel
theorem dX10_exchange_20 : decode cX10_exchange 20 = .ok (.aload_n 0, 1) := by decide +kernel
theorem dX10_exchange_21 : decode cX10_exchange 21 = .ok (.getfield 25, 3) := by decide +kernel
theorem dX10_exchange_24 : decode cX10_exchange 24 = .ok (.iload_n 2, 1) := by decide +kernel
theorem dX10_exchange_25 : decode cX10_exchange 25 = .ok (.iaload, 1) := by decide +kernel
theorem dX10_exchange_26 : decode cX10_exchange 26 = .ok (.iastore, 1) := by decide +kernel
theorem dX10_exchange_27 : decode cX10_exchange 27 = .ok (.aload_n 0, 1) := by decide +kernel
theorem dX10_exchange_28 : decode cX10_exchange 28 = .ok (.getfield 28, 3) := by decide +kernel
theorem dX10_exchange_31 : decode cX10_exchange 31 = .ok (.iload_n 1, 1) := by decide +kernel
theorem dX10_exchange_32 : decode cX10_exchange 32 = .ok (.aload_n 0, 1) := by decide +kernel
theorem dX10_exchange_33 : decode cX10_exchange 33 = .ok (.getfield 28, 3) := by decide +kernel
theorem dX10_exchange_36 : decode cX10_exchange 36 = .ok (.iload_n 2, 1) := by decide +kernel
theorem dX10_exchange_37 : decode cX10_exchange 37 = .ok (.iaload, 1) := by decide +kernel
theorem dX10_exchange_38 : decode cX10_exchange 38 = .ok (.iastore, 1) := by decide +kernel
theorem dX10_exchange_39 : decode cX10_exchange 39 = .ok (.aload_n 0, 1) := by decide +kernel
theorem dX10_exchange_40 : decode cX10_exchange 40 = .ok (.getfield 25, 3) := by decide +kernel
theorem dX10_exchange_43 : decode cX10_exchange 43 = .ok (.iload_n 2, 1) := by decide +kernel
theorem dX10_exchange_44 : decode cX10_exchange 44 = .ok (.iload_n 3, 1) := by decide +kernel
theorem dX10_exchange_45 : decode cX10_exchange 45 = .ok (.iastore, 1) := by decide +kernel
theorem dX10_exchange_46 : decode cX10_exchange 46 = .ok (.aload_n 0, 1) := by decide +kernel
theorem dX10_exchange_47 : decode cX10_exchange 47 = .ok (.getfield 28, 3) := by decide +kernel
theorem dX10_exchange_50 : decode cX10_exchange 50 = .ok (.iload_n 2, 1) := by decide +kernel
theorem dX10_exchange_51 : decode cX10_exchange 51 = .ok (.iload 4, 2) := by decide +kernel
theorem dX10_exchange_53 : decode cX10_exchange 53 = .ok (.iastore, 1) := by decide +kernel
theorem dX10_exchange_54 : decode cX10_exchange 54 = .ok (.return_, 1) := by decide +kernel
theorem dX10_firstGrade_0 : decode cX10_firstGrade 0 = .ok (.iconst 0, 1) := by decide +kernel
theorem dX10_firstGrade_1 : decode cX10_firstGrade 1 = .ok (.istore_n 3, 1) := by decide +kernel
theorem dX10_firstGrade_2 : decode cX10_firstGrade 2 = .ok (.iload_n 3, 1) := by decide +kernel
theorem dX10_firstGrade_3 : decode cX10_firstGrade 3 = .ok (.aload_n 0, 1) := by decide +kernel
theorem dX10_firstGrade_4 : decode cX10_firstGrade 4 = .ok (.getfield 71, 3) := by decide +kernel
theorem dX10_firstGrade_7 : decode cX10_firstGrade 7 = .ok (.if_icmp .ge 36, 3) := by decide +kernel
theorem dX10_firstGrade_10 : decode cX10_firstGrade 10 = .ok (.aload_n 0, 1) := by decide +kernel
theorem dX10_firstGrade_11 : decode cX10_firstGrade 11 = .ok (.getfield 40, 3) := by decide +kernel
theorem dX10_firstGrade_14 : decode cX10_firstGrade 14 = .ok (.iload_n 3, 1) := by decide +kernel
theorem dX10_firstGrade_15 : decode cX10_firstGrade 15 = .ok (.iaload, 1) := by decide +kernel
theorem dX10_firstGrade_16 : decode cX10_firstGrade 16 = .ok (.iload_n 1, 1) := by decide +kernel
theorem dX10_firstGrade_17 : decode cX10_firstGrade 17 = .ok (.if_icmp .ne 20, 3) := by decide +kernel
theorem dX10_firstGrade_20 : decode cX10_firstGrade 20 = .ok (.aload_n 0, 1) := by decide +kernel
theorem dX10_firstGrade_21 : decode cX10_firstGrade 21 = .ok (.getfield 43, 3) := by decide +kernel
theorem dX10_firstGrade_24 : decode cX10_firstGrade 24 = .ok (.iload_n 3, 1) := by decide +kernel
theorem dX10_firstGrade_25 : decode cX10_firstGrade 25 = .ok (.iaload, 1) := by decide +kernel
theorem dX10_firstGrade_26 : decode cX10_firstGrade 26 = .ok (.iload_n 2, 1) := by decide +kernel
theorem dX10_firstGrade_27 : decode cX10_firstGrade 27 = .ok (.if_icmp .ne 10, 3) := by decide +kernel
theorem dX10_firstGrade_30 : decode cX10_firstGrade 30 = .ok (.aload_n 0, 1) := by decide +kernel
theorem dX10_firstGrade_31 : decode cX10_firstGrade 31 = .ok (.getfield 46, 3) := by decide +kernel
theorem dX10_firstGrade_34 : decode cX10_firstGrade 34 = .ok (.iload_n 3, 1) := by decide +kernel
theorem dX10_firstGrade_35 : decode cX10_firstGrade 35 = .ok (.iaload, 1) := by decide +kernel
theorem dX10_firstGrade_36 : decode cX10_firstGrade 36 = .ok (.ireturn, 1) := by decide +kernel
theorem dX10_firstGrade_37 : decode cX10_firstGrade 37 = .ok (.iinc 3 1, 3) := by decide +kernel
theorem dX10_firstGrade_40 : decode cX10_firstGrade 40 = .ok (.goto (-38), 3) := by decide +kernel
theorem dX10_firstGrade_43 : decode cX10_firstGrade 43 = .ok (.iconst 0, 1) := by decide +kernel
theorem dX10_firstGrade_44 : decode cX10_firstGrade 44 = .ok (.ireturn, 1) := by decide +kernel
set_option maxRecDepth 20000 in
theorem ggX11_init_X10_init : GoodIn wsX11_init wsX10_init := goodIn_r _ [22, 23, 2, 3, 24, 25, 18, 26, 27, 28, 29, 30, 31, 32, 33, 34, 35, 36, 37, 38, 39, 40, 41, 42, 43, 44, 45, 46, 47, 48, 49, 50, 51, 52, 53, 54, 55, 56, 57, 58, 59, 60, 87, 88, 89, 90, 91, 92, 93, 94, 95, 96, 97, 98, 99, 100, 101, 102, 103, 104, 105, 122, 123, 124, 125, 126, 127, 128, 129, 130, 131, 132] (by decide +kernel) (by decide +kernel)
set_option maxRecDepth 20000 in
theorem gX11_init_X10_init : GoodIn wsX11_init (wsX10_init) := ggX11_init_X10_init
set_option maxRecDepth 20000 in
theorem ggX11_init_X1_init : GoodIn wsX11_init wsX1_init := goodIn_r _ [63, 64, 2, 3, 18, 65, 66, 67, 68, 69, 70, 71, 72, 73, 74, 75, 76, 77, 78, 79, 80, 81, 113, 114, 115, 116, 117, 118, 119, 133, 134, 135, 136, 137, 138, 139, 140, 141, 142, 143, 144, 145, 146, 147, 148, 149, 150, 151, 152, 153, 154, 155, 156, 157, 158, 159, 160] (by decide +kernel) (by decide +kernel)
set_option maxRecDepth 20000 in
theorem gX11_init_X1_init : GoodIn wsX11_init (wsX1_init) := ggX11_init_X1_init
set_option maxRecDepth 20000 in
theorem ggX11_init_X8_init : GoodIn wsX11_init wsX8_init := goodIn_r _ [84, 85, 2, 3, 18, 86, 120, 121] (by decide +kernel) (by decide +kernel)
set_option maxRecDepth 20000 in
theorem gX11_init_X8_init : GoodIn wsX11_init (wsX8_init) := ggX11_init_X8_init
theorem dX11_init_0 : decode cX11_init 0 = .ok (.aload_n 0, 1) := by decide +kernel
theorem dX11_init_1 : decode cX11_init 1 = .ok (.invokespecial 3, 3) := by decide +kernel
theorem dX11_init_4 : decode cX11_init 4 = .ok (.aload_n 0, 1) := by decide +kernel
theorem dX11_init_5 : decode cX11_init 5 = .ok (.new 9, 3) := by decide +kernel
theorem dX11_init_8 : decode cX11_init 8 = .ok (.dup, 1) := by decide +kernel
theorem dX11_init_9 : decode cX11_init 9 = .ok (.invokespecial 11, 3) := by decide +kernel
theorem dX11_init_12 : decode cX11_init 12 = .ok (.putfield 12, 3) := by decide +kernel
theorem dX11_init_15 : decode cX11_init 15 = .ok (.aload_n 0, 1) := by decide +kernel
theorem dX11_init_16 : decode cX11_init 16 = .ok (.new 9, 3) := by decide +kernel
theorem dX11_init_19 : decode cX11_init 19 = .ok (.dup, 1) := by decide +kernel
theorem dX11_init_20 : decode cX11_init 20 = .ok (.invokespecial 11, 3) := by decide +kernel
theorem dX11_init_23 : decode cX11_init 23 = .ok (.putfield 18, 3) := by decide +kernel
theorem dX11_init_26 : decode cX11_init 26 = .ok (.aload_n 0, 1) := by decide +kernel
theorem dX11_init_27 : decode cX11_init 27 = .ok (.new 9, 3) := by decide +kernel
theorem dX11_init_30 : decode cX11_init 30 = .ok (.dup, 1) := by decide +kernel
theorem dX11_init_31 : decode cX11_init 31 = .ok (.invokespecial 11, 3) := by decide +kernel
theorem dX11_init_34 : decode cX11_init 34 = .ok (.putfield 21, 3) := by decide +kernel
theorem dX11_init_37 : decode cX11_init 37 = .ok (.aload_n 0, 1) := by decide +kernel
theorem dX11_init_38 : decode cX11_init 38 = .ok (.new 24, 3) := by decide +kernel
theorem dX11_init_41 : decode cX11_init 41 = .ok (.dup, 1) := by decide +kernel
theorem dX11_init_42 : decode cX11_init 42 = .ok (.invokespecial 26, 3) := by decide +kernel
theorem dX11_init_45 : decode cX11_init 45 = .ok (.putfield 27, 3) := by decide +kernel
theorem dX11_init_48 : decode cX11_init 48 = .ok (.aload_n 0, 1) := by decide +kernel
theorem dX11_init_49 : decode cX11_init 49 = .ok (.new 31, 3) := by decide +kernel
theorem dX11_init_52 : decode cX11_init 52 = .ok (.dup, 1) := by decide +kernel
theorem dX11_init_53 : decode cX11_init 53 = .ok (.invokespecial 33, 3) := by decide +kernel
theorem dX11_init_56 : decode cX11_init 56 = .ok (.putfield 34, 3) := by decide +kernel
theorem dX11_init_59 : decode cX11_init 59 = .ok (.aload_n 0, 1) := by decide +kernel
theorem dX11_init_60 : decode cX11_init 60 = .ok (.bipush 10, 2) := by decide +kernel
theorem dX11_init_62 : decode cX11_init 62 = .ok (.newarray .int, 2) := by decide +kernel
theorem dX11_init_64 : decode cX11_init 64 = .ok (.putfield 38, 3) := by decide +kernel
theorem dX11_init_67 : decode cX11_init 67 = .ok (.return_, 1) := by decide +kernel
theorem dX11_feed_0 : decode cX11_feed 0 = .ok (.iload_n 1, 1) := by decide +kernel
theorem dX11_feed_1 : decode cX11_feed 1 = .ok (.ifCond .lt 9, 3) := by decide +kernel
theorem dX11_feed_4 : decode cX11_feed 4 = .ok (.iload_n 1, 1) := by decide +kernel
theorem dX11_feed_5 : decode cX11_feed 5 = .ok (.bipush 127, 2) := by decide +kernel
theorem dX11_feed_7 : decode cX11_feed 7 = .ok (.if_icmp .le 6, 3) := by decide +kernel
theorem dX11_feed_10 : decode cX11_feed 10 = .ok (.bipush (-2), 2) := by decide +kernel
theorem dX11_feed_12 : decode cX11_feed 12 = .ok (.ireturn, 1) := by decide +kernel
theorem dX11_feed_13 : decode cX11_feed 13 = .ok (.aload_n 0, 1) := by decide +kernel
theorem dX11_feed_14 : decode cX11_feed 14 = .ok (.getfield 12, 3) := by decide +kernel
theorem dX11_feed_17 : decode cX11_feed 17 = .ok (.getfield 42, 3) := by decide +kernel
theorem dX11_feed_20 : decode cX11_feed 20 = .ok (.bipush 100, 2) := by decide +kernel
theorem dX11_feed_22 : decode cX11_feed 22 = .ok (.if_icmp .lt 6, 3) := by decide +kernel
theorem dX11_feed_25 : decode cX11_feed 25 = .ok (.bipush (-4), 2) := by decide +kernel
theorem dX11_feed_27 : decode cX11_feed 27 = .ok (.ireturn, 1) := by decide +kernel
theorem dX11_feed_28 : decode cX11_feed 28 = .ok (.aload_n 0, 1) := by decide +kernel
theorem dX11_feed_29 : decode cX11_feed 29 = .ok (.getfield 12, 3) := by decide +kernel
theorem dX11_feed_32 : decode cX11_feed 32 = .ok (.getfield 46, 3) := by decide +kernel
theorem dX11_feed_35 : decode cX11_feed 35 = .ok (.aload_n 0, 1) := by decide +kernel
theorem dX11_feed_36 : decode cX11_feed 36 = .ok (.getfield 12, 3) := by decide +kernel
theorem dX11_feed_39 : decode cX11_feed 39 = .ok (.getfield 42, 3) := by decide +kernel
theorem dX11_feed_42 : decode cX11_feed 42 = .ok (.iload_n 1, 1) := by decide +kernel
theorem dX11_feed_43 : decode cX11_feed 43 = .ok (.i2c, 1) := by decide +kernel
theorem dX11_feed_44 : decode cX11_feed 44 = .ok (.castore, 1) := by decide +kernel
theorem dX11_feed_45 : decode cX11_feed 45 = .ok (.aload_n 0, 1) := by decide +kernel
theorem dX11_feed_46 : decode cX11_feed 46 = .ok (.getfield 12, 3) := by decide +kernel
theorem dX11_feed_49 : decode cX11_feed 49 = .ok (.dup, 1) := by decide +kernel
theorem dX11_feed_50 : decode cX11_feed 50 = .ok (.getfield 42, 3) := by decide +kernel
theorem dX11_feed_53 : decode cX11_feed 53 = .ok (.iconst 1, 1) := by decide +kernel
theorem dX11_feed_54 : decode cX11_feed 54 = .ok (.iadd, 1) := by decide +kernel
theorem dX11_feed_55 : decode cX11_feed 55 = .ok (.putfield 42, 3) := by decide +kernel
theorem dX11_feed_58 : decode cX11_feed 58 = .ok (.aload_n 0, 1) := by decide +kernel
theorem dX11_feed_59 : decode cX11_feed 59 = .ok (.getfield 12, 3) := by decide +kernel
theorem dX11_feed_62 : decode cX11_feed 62 = .ok (.getfield 42, 3) := by decide +kernel
theorem dX11_feed_65 : decode cX11_feed 65 = .ok (.ireturn, 1) := by decide +kernel
set_option maxRecDepth 20000 in
theorem ggX11_house_X2_init : GoodIn wsX11_house wsX2_init := goodIn_r _ [11, 12, 13, 14, 15, 16, 17, 18, 19, 20, 21, 22, 23, 24, 25, 26, 27, 28, 29, 30, 209, 210, 211, 212, 213, 214, 215, 216, 217, 218, 219] (by decide +kernel) (by decide +kernel)
set_option maxRecDepth 20000 in
theorem gX11_house_X2_init : GoodIn wsX11_house (wsX2_init) := ggX11_house_X2_init
set_option maxRecDepth 20000 in
theorem ggX11_house_X2_read : GoodIn wsX11_house wsX2_read := goodIn_r _ [34, 15, 16, 17, 35, 36, 26, 37, 38, 39, 5, 40, 18, 41, 42, 43, 44, 45, 46, 47, 48, 49, 50, 51, 52, 53, 54, 55, 56, 57, 58, 59, 60, 61, 62, 63, 64, 65, 66, 67, 68, 69, 70, 71, 72, 73, 74, 75, 76, 77, 78, 79, 80, 81, 82, 83, 84, 85, 86, 87, 88, 89, 90, 91, 92, 93, 94, 95, 96, 97, 98, 99, 100, 101, 102, 103, 104, 105, 106, 107, 108, 109, 110, 111, 112, 113, 114, 115, 116, 117, 28, 29, 30, 118, 119, 120, 121, 122, 123, 124, 125, 126, 127, 128, 129, 130, 131, 132, 133, 134, 135, 24, 21, 25, 136, 20, 22, 137, 138, 139, 140, 141, 142, 143, 144, 145, 146, 147, 148, 149, 150, 151, 152, 153, 154, 155, 156, 157, 158, 159, 160, 161, 162, 163, 164, 165, 166, 167, 168, 169, 170, 171, 172, 173, 174, 175, 176, 177, 178, 179, 180, 181, 182, 209, 210, 211, 212, 213, 214, 215, 216, 217, 218, 219] (by decide +kernel) (by decide +kernel)
set_option maxRecDepth 20000 in
theorem gX11_house_X2_read : GoodIn wsX11_house (wsV RX11 58 RX2 yX2_read wsX2_read) := goodIn_app (goodIn_of _ (by decide +kernel)) ggX11_house_X2_read
theorem dX11_house_0 : decode cX11_house 0 = .ok (.aload_n 0, 1) := by decide +kernel
theorem dX11_house_1 : decode cX11_house 1 = .ok (.getfield 12, 3) := by decide +kernel
theorem dX11_house_4 : decode cX11_house 4 = .ok (.getfield 50, 3) := by decide +kernel
theorem dX11_house_7 : decode cX11_house 7 = .ok (.iconst 5, 1) := by decide +kernel
theorem dX11_house_8 : decode cX11_house 8 = .ok (.if_icmp .lt 6, 3) := by decide +kernel
theorem dX11_house_11 : decode cX11_house 11 = .ok (.bipush (-4), 2) := by decide +kernel
theorem dX11_house_13 : decode cX11_house 13 = .ok (.ireturn, 1) := by decide +kernel
theorem dX11_house_14 : decode cX11_house 14 = .ok (.new 53, 3) := by decide +kernel
theorem dX11_house_17 : decode cX11_house 17 = .ok (.dup, 1) := by decide +kernel
theorem dX11_house_18 : decode cX11_house 18 = .ok (.aload_n 0, 1) := by decide +kernel
theorem dX11_house_19 : decode cX11_house 19 = .ok (.getfield 12, 3) := by decide +kernel
theorem dX11_house_22 : decode cX11_house 22 = .ok (.getfield 46, 3) := by decide +kernel
theorem dX11_house_25 : decode cX11_house 25 = .ok (.aload_n 0, 1) := by decide +kernel
theorem dX11_house_26 : decode cX11_house 26 = .ok (.getfield 12, 3) := by decide +kernel
theorem dX11_house_29 : decode cX11_house 29 = .ok (.getfield 42, 3) := by decide +kernel
theorem dX11_house_32 : decode cX11_house 32 = .ok (.invokespecial 55, 3) := by decide +kernel
theorem dX11_house_35 : decode cX11_house 35 = .ok (.astore_n 1, 1) := by decide +kernel
theorem dX11_house_36 : decode cX11_house 36 = .ok (.aload_n 1, 1) := by decide +kernel
theorem dX11_house_37 : decode cX11_house 37 = .ok (.invokevirtual 58, 3) := by decide +kernel
theorem dX11_house_40 : decode cX11_house 40 = .ok (.istore_n 2, 1) := by decide +kernel
theorem dX11_house_41 : decode cX11_house 41 = .ok (.aload_n 0, 1) := by decide +kernel
theorem dX11_house_42 : decode cX11_house 42 = .ok (.getfield 12, 3) := by decide +kernel
theorem dX11_house_45 : decode cX11_house 45 = .ok (.iconst 0, 1) := by decide +kernel
theorem dX11_house_46 : decode cX11_house 46 = .ok (.putfield 42, 3) := by decide +kernel
theorem dX11_house_49 : decode cX11_house 49 = .ok (.iload_n 2, 1) := by decide +kernel
theorem dX11_house_50 : decode cX11_house 50 = .ok (.ifCond .lt 8, 3) := by decide +kernel
theorem dX11_house_53 : decode cX11_house 53 = .ok (.bipush (-10), 2) := by decide +kernel
theorem dX11_house_55 : decode cX11_house 55 = .ok (.iload_n 2, 1) := by decide +kernel
theorem dX11_house_56 : decode cX11_house 56 = .ok (.isub, 1) := by decide +kernel
theorem dX11_house_57 : decode cX11_house 57 = .ok (.ireturn, 1) := by decide +kernel
theorem dX11_house_58 : decode cX11_house 58 = .ok (.aload_n 0, 1) := by decide +kernel
theorem dX11_house_59 : decode cX11_house 59 = .ok (.getfield 12, 3) := by decide +kernel
theorem dX11_house_62 : decode cX11_house 62 = .ok (.aload_n 1, 1) := by decide +kernel
theorem dX11_house_63 : decode cX11_house 63 = .ok (.putfield 62, 3) := by decide +kernel
theorem dX11_house_66 : decode cX11_house 66 = .ok (.aload_n 0, 1) := by decide +kernel
theorem dX11_house_67 : decode cX11_house 67 = .ok (.getfield 12, 3) := by decide +kernel
theorem dX11_house_70 : decode cX11_house 70 = .ok (.dup, 1) := by decide +kernel
theorem dX11_house_71 : decode cX11_house 71 = .ok (.getfield 50, 3) := by decide +kernel
theorem dX11_house_74 : decode cX11_house 74 = .ok (.iconst 1, 1) := by decide +kernel
theorem dX11_house_75 : decode cX11_house 75 = .ok (.iadd, 1) := by decide +kernel
theorem dX11_house_76 : decode cX11_house 76 = .ok (.putfield 50, 3) := by decide +kernel
theorem dX11_house_79 : decode cX11_house 79 = .ok (.aload_n 0, 1) := by decide +kernel
theorem dX11_house_80 : decode cX11_house 80 = .ok (.getfield 12, 3) := by decide +kernel
theorem dX11_house_83 : decode cX11_house 83 = .ok (.getfield 50, 3) := by decide +kernel
theorem dX11_house_86 : decode cX11_house 86 = .ok (.iconst 1, 1) := by decide +kernel
theorem dX11_house_87 : decode cX11_house 87 = .ok (.isub, 1) := by decide +kernel
theorem dX11_house_88 : decode cX11_house 88 = .ok (.ireturn, 1) := by decide +kernel
theorem dX11_told_0 : decode cX11_told 0 = .ok (.iload_n 1, 1) := by decide +kernel
theorem dX11_told_1 : decode cX11_told 1 = .ok (.tableswitch 96 0 5 #[39, 50, 61, 72, 80, 88], 39) := by decide +kernel
theorem dX11_told_40 : decode cX11_told 40 = .ok (.aload_n 0, 1) := by decide +kernel
theorem dX11_told_41 : decode cX11_told 41 = .ok (.getfield 12, 3) := by decide +kernel
theorem dX11_told_44 : decode cX11_told 44 = .ok (.getfield 62, 3) := by decide +kernel
theorem dX11_told_47 : decode cX11_told 47 = .ok (.getfield 66, 3) := by decide +kernel
theorem dX11_told_50 : decode cX11_told 50 = .ok (.ireturn, 1) := by decide +kernel
theorem dX11_told_51 : decode cX11_told 51 = .ok (.aload_n 0, 1) := by decide +kernel
theorem dX11_told_52 : decode cX11_told 52 = .ok (.getfield 12, 3) := by decide +kernel
theorem dX11_told_55 : decode cX11_told 55 = .ok (.getfield 62, 3) := by decide +kernel
theorem dX11_told_58 : decode cX11_told 58 = .ok (.getfield 69, 3) := by decide +kernel
theorem dX11_told_61 : decode cX11_told 61 = .ok (.ireturn, 1) := by decide +kernel
theorem dX11_told_62 : decode cX11_told 62 = .ok (.aload_n 0, 1) := by decide +kernel
theorem dX11_told_63 : decode cX11_told 63 = .ok (.getfield 12, 3) := by decide +kernel
theorem dX11_told_66 : decode cX11_told 66 = .ok (.getfield 62, 3) := by decide +kernel
theorem dX11_told_69 : decode cX11_told 69 = .ok (.getfield 72, 3) := by decide +kernel
theorem dX11_told_72 : decode cX11_told 72 = .ok (.ireturn, 1) := by decide +kernel
theorem dX11_told_73 : decode cX11_told 73 = .ok (.aload_n 0, 1) := by decide +kernel
theorem dX11_told_74 : decode cX11_told 74 = .ok (.getfield 12, 3) := by decide +kernel
theorem dX11_told_77 : decode cX11_told 77 = .ok (.getfield 75, 3) := by decide +kernel
theorem dX11_told_80 : decode cX11_told 80 = .ok (.ireturn, 1) := by decide +kernel
theorem dX11_told_81 : decode cX11_told 81 = .ok (.aload_n 0, 1) := by decide +kernel
theorem dX11_told_82 : decode cX11_told 82 = .ok (.getfield 12, 3) := by decide +kernel
theorem dX11_told_85 : decode cX11_told 85 = .ok (.getfield 78, 3) := by decide +kernel
theorem dX11_told_88 : decode cX11_told 88 = .ok (.ireturn, 1) := by decide +kernel
theorem dX11_told_89 : decode cX11_told 89 = .ok (.aload_n 0, 1) := by decide +kernel
theorem dX11_told_90 : decode cX11_told 90 = .ok (.getfield 12, 3) := by decide +kernel
theorem dX11_told_93 : decode cX11_told 93 = .ok (.getfield 81, 3) := by decide +kernel
theorem dX11_told_96 : decode cX11_told 96 = .ok (.ireturn, 1) := by decide +kernel
theorem dX11_told_97 : decode cX11_told 97 = .ok (.iconst (-1), 1) := by decide +kernel
theorem dX11_told_98 : decode cX11_told 98 = .ok (.ireturn, 1) := by decide +kernel
set_option maxRecDepth 20000 in
theorem ggX11_chief_X11_isWithin : GoodIn wsX11_chief wsX11_isWithin := goodIn_r _ [7] (by decide +kernel) (by decide +kernel)
set_option maxRecDepth 20000 in
theorem gX11_chief_X11_isWithin : GoodIn wsX11_chief (va_wsS RX11 84 yX11_isWithin wsX11_isWithin) := goodIn_app (goodIn_of _ (by decide +kernel)) ggX11_chief_X11_isWithin
set_option maxRecDepth 20000 in
theorem ggX11_chief_X0_make : GoodIn wsX11_chief wsX0_make := goodIn_r _ [11, 12, 13, 14, 15, 16, 17, 18, 19, 20, 21, 22, 23, 24, 25, 26, 27, 28, 29, 30, 31, 10, 32, 33, 34, 35, 36, 37, 38, 39, 40, 41, 42, 43, 44, 45, 46, 47, 48, 49, 50, 51, 52, 53, 54, 55, 56, 57, 58, 59, 60, 61, 62, 63, 64, 65, 92, 93, 94, 95, 96, 97, 98, 99, 100, 101, 102, 103, 104, 105, 106, 107, 108, 109, 110, 111, 112, 113, 114, 115, 116, 117, 118, 119] (by decide +kernel) (by decide +kernel)
set_option maxRecDepth 20000 in
theorem gX11_chief_X0_make : GoodIn wsX11_chief (va_wsS RX11 95 yX0_make wsX0_make) := goodIn_app (goodIn_of _ (by decide +kernel)) ggX11_chief_X0_make
theorem dX11_chief_0 : decode cX11_chief 0 = .ok (.iload_n 1, 1) := by decide +kernel
theorem dX11_chief_1 : decode cX11_chief 1 = .ok (.ifCond .lt 9, 3) := by decide +kernel
theorem dX11_chief_4 : decode cX11_chief 4 = .ok (.iload_n 1, 1) := by decide +kernel
theorem dX11_chief_5 : decode cX11_chief 5 = .ok (.bipush 7, 2) := by decide +kernel
theorem dX11_chief_7 : decode cX11_chief 7 = .ok (.if_icmp .lt 5, 3) := by decide +kernel
theorem dX11_chief_10 : decode cX11_chief 10 = .ok (.iconst (-1), 1) := by decide +kernel
theorem dX11_chief_11 : decode cX11_chief 11 = .ok (.ireturn, 1) := by decide +kernel
theorem dX11_chief_12 : decode cX11_chief 12 = .ok (.iload_n 2, 1) := by decide +kernel
theorem dX11_chief_13 : decode cX11_chief 13 = .ok (.bipush 9, 2) := by decide +kernel
theorem dX11_chief_15 : decode cX11_chief 15 = .ok (.invokestatic 84, 3) := by decide +kernel
theorem dX11_chief_18 : decode cX11_chief 18 = .ok (.ifCond .eq 12, 3) := by decide +kernel
theorem dX11_chief_21 : decode cX11_chief 21 = .ok (.iload_n 3, 1) := by decide +kernel
theorem dX11_chief_22 : decode cX11_chief 22 = .ok (.bipush 9, 2) := by decide +kernel
theorem dX11_chief_24 : decode cX11_chief 24 = .ok (.invokestatic 84, 3) := by decide +kernel
theorem dX11_chief_27 : decode cX11_chief 27 = .ok (.ifCond .ne 6, 3) := by decide +kernel
theorem dX11_chief_30 : decode cX11_chief 30 = .ok (.bipush (-2), 2) := by decide +kernel
theorem dX11_chief_32 : decode cX11_chief 32 = .ok (.ireturn, 1) := by decide +kernel
theorem dX11_chief_33 : decode cX11_chief 33 = .ok (.aload_n 0, 1) := by decide +kernel
theorem dX11_chief_34 : decode cX11_chief 34 = .ok (.getfield 12, 3) := by decide +kernel
theorem dX11_chief_37 : decode cX11_chief 37 = .ok (.getfield 88, 3) := by decide +kernel
theorem dX11_chief_40 : decode cX11_chief 40 = .ok (.iconst 4, 1) := by decide +kernel
theorem dX11_chief_41 : decode cX11_chief 41 = .ok (.if_icmp .lt 6, 3) := by decide +kernel
theorem dX11_chief_44 : decode cX11_chief 44 = .ok (.bipush (-4), 2) := by decide +kernel
theorem dX11_chief_46 : decode cX11_chief 46 = .ok (.ireturn, 1) := by decide +kernel
theorem dX11_chief_47 : decode cX11_chief 47 = .ok (.aload_n 0, 1) := by decide +kernel
theorem dX11_chief_48 : decode cX11_chief 48 = .ok (.getfield 12, 3) := by decide +kernel
theorem dX11_chief_51 : decode cX11_chief 51 = .ok (.getfield 91, 3) := by decide +kernel
theorem dX11_chief_54 : decode cX11_chief 54 = .ok (.aload_n 0, 1) := by decide +kernel
theorem dX11_chief_55 : decode cX11_chief 55 = .ok (.getfield 12, 3) := by decide +kernel
theorem dX11_chief_58 : decode cX11_chief 58 = .ok (.getfield 88, 3) := by decide +kernel
theorem dX11_chief_61 : decode cX11_chief 61 = .ok (.iload_n 1, 1) := by decide +kernel
theorem dX11_chief_62 : decode cX11_chief 62 = .ok (.aload_n 0, 1) := by decide +kernel
theorem dX11_chief_63 : decode cX11_chief 63 = .ok (.getfield 12, 3) := by decide +kernel
theorem dX11_chief_66 : decode cX11_chief 66 = .ok (.getfield 88, 3) := by decide +kernel
theorem dX11_chief_69 : decode cX11_chief 69 = .ok (.iload_n 2, 1) := by decide +kernel
theorem dX11_chief_70 : decode cX11_chief 70 = .ok (.iload_n 3, 1) := by decide +kernel
theorem dX11_chief_71 : decode cX11_chief 71 = .ok (.invokestatic 95, 3) := by decide +kernel
theorem dX11_chief_74 : decode cX11_chief 74 = .ok (.aastore, 1) := by decide +kernel
theorem dX11_chief_75 : decode cX11_chief 75 = .ok (.aload_n 0, 1) := by decide +kernel
theorem dX11_chief_76 : decode cX11_chief 76 = .ok (.getfield 12, 3) := by decide +kernel
theorem dX11_chief_79 : decode cX11_chief 79 = .ok (.dup, 1) := by decide +kernel
theorem dX11_chief_80 : decode cX11_chief 80 = .ok (.getfield 88, 3) := by decide +kernel
theorem dX11_chief_83 : decode cX11_chief 83 = .ok (.iconst 1, 1) := by decide +kernel
theorem dX11_chief_84 : decode cX11_chief 84 = .ok (.iadd, 1) := by decide +kernel
theorem dX11_chief_85 : decode cX11_chief 85 = .ok (.putfield 88, 3) := by decide +kernel
theorem dX11_chief_88 : decode cX11_chief 88 = .ok (.aload_n 0, 1) := by decide +kernel
theorem dX11_chief_89 : decode cX11_chief 89 = .ok (.getfield 12, 3) := by decide +kernel
theorem dX11_chief_92 : decode cX11_chief 92 = .ok (.getfield 88, 3) := by decide +kernel
theorem dX11_chief_95 : decode cX11_chief 95 = .ok (.iconst 1, 1) := by decide +kernel
theorem dX11_chief_96 : decode cX11_chief 96 = .ok (.isub, 1) := by decide +kernel
theorem dX11_chief_97 : decode cX11_chief 97 = .ok (.ireturn, 1) := by decide +kernel
set_option maxRecDepth 20000 in
theorem ggX11_worker_X10_chiefAt : GoodIn wsX11_worker wsX10_chiefAt := goodIn_r _ [12, 13, 14, 26, 27, 28, 29, 30, 31, 32, 33, 34, 35, 36, 37, 38, 39, 40, 41, 42, 43, 44] (by decide +kernel) (by decide +kernel)
set_option maxRecDepth 20000 in
theorem gX11_worker_X10_chiefAt : GoodIn wsX11_worker (wsV RX11 101 RX10 yX10_chiefAt wsX10_chiefAt) := goodIn_app (goodIn_of _ (by decide +kernel)) ggX11_worker_X10_chiefAt
set_option maxRecDepth 20000 in
theorem ggX11_worker_X11_isWithin : GoodIn wsX11_worker wsX11_isWithin := goodIn_r _ [18] (by decide +kernel) (by decide +kernel)
set_option maxRecDepth 20000 in
theorem gX11_worker_X11_isWithin : GoodIn wsX11_worker (va_wsS RX11 84 yX11_isWithin wsX11_isWithin) := goodIn_app (goodIn_of _ (by decide +kernel)) ggX11_worker_X11_isWithin
theorem dX11_worker_0 : decode cX11_worker 0 = .ok (.aload_n 0, 1) := by decide +kernel
theorem dX11_worker_1 : decode cX11_worker 1 = .ok (.getfield 12, 3) := by decide +kernel
theorem dX11_worker_4 : decode cX11_worker 4 = .ok (.iload_n 1, 1) := by decide +kernel
theorem dX11_worker_5 : decode cX11_worker 5 = .ok (.invokevirtual 101, 3) := by decide +kernel
theorem dX11_worker_8 : decode cX11_worker 8 = .ok (.ifnonnull 5, 3) := by decide +kernel
theorem dX11_worker_11 : decode cX11_worker 11 = .ok (.iconst (-1), 1) := by decide +kernel
theorem dX11_worker_12 : decode cX11_worker 12 = .ok (.ireturn, 1) := by decide +kernel
theorem dX11_worker_13 : decode cX11_worker 13 = .ok (.iload_n 2, 1) := by decide +kernel
theorem dX11_worker_14 : decode cX11_worker 14 = .ok (.bipush 99, 2) := by decide +kernel
theorem dX11_worker_16 : decode cX11_worker 16 = .ok (.invokestatic 84, 3) := by decide +kernel
theorem dX11_worker_19 : decode cX11_worker 19 = .ok (.ifCond .eq 12, 3) := by decide +kernel
theorem dX11_worker_22 : decode cX11_worker 22 = .ok (.iload_n 3, 1) := by decide +kernel
theorem dX11_worker_23 : decode cX11_worker 23 = .ok (.bipush 99, 2) := by decide +kernel
theorem dX11_worker_25 : decode cX11_worker 25 = .ok (.invokestatic 84, 3) := by decide +kernel
theorem dX11_worker_28 : decode cX11_worker 28 = .ok (.ifCond .ne 6, 3) := by decide +kernel
theorem dX11_worker_31 : decode cX11_worker 31 = .ok (.bipush (-2), 2) := by decide +kernel
theorem dX11_worker_33 : decode cX11_worker 33 = .ok (.ireturn, 1) := by decide +kernel
theorem dX11_worker_34 : decode cX11_worker 34 = .ok (.iload 4, 2) := by decide +kernel
theorem dX11_worker_36 : decode cX11_worker 36 = .ok (.bipush 9, 2) := by decide +kernel
theorem dX11_worker_38 : decode cX11_worker 38 = .ok (.invokestatic 84, 3) := by decide +kernel
theorem dX11_worker_41 : decode cX11_worker 41 = .ok (.ifCond .ne 6, 3) := by decide +kernel
theorem dX11_worker_44 : decode cX11_worker 44 = .ok (.bipush (-2), 2) := by decide +kernel
theorem dX11_worker_46 : decode cX11_worker 46 = .ok (.ireturn, 1) := by decide +kernel
theorem dX11_worker_47 : decode cX11_worker 47 = .ok (.aload_n 0, 1) := by decide +kernel
theorem dX11_worker_48 : decode cX11_worker 48 = .ok (.getfield 12, 3) := by decide +kernel
theorem dX11_worker_51 : decode cX11_worker 51 = .ok (.getfield 105, 3) := by decide +kernel
theorem dX11_worker_54 : decode cX11_worker 54 = .ok (.bipush 10, 2) := by decide +kernel
theorem dX11_worker_56 : decode cX11_worker 56 = .ok (.if_icmp .lt 6, 3) := by decide +kernel
theorem dX11_worker_59 : decode cX11_worker 59 = .ok (.bipush (-4), 2) := by decide +kernel
theorem dX11_worker_61 : decode cX11_worker 61 = .ok (.ireturn, 1) := by decide +kernel
theorem dX11_worker_62 : decode cX11_worker 62 = .ok (.aload_n 0, 1) := by decide +kernel
theorem dX11_worker_63 : decode cX11_worker 63 = .ok (.getfield 12, 3) := by decide +kernel
theorem dX11_worker_66 : decode cX11_worker 66 = .ok (.getfield 105, 3) := by decide +kernel
theorem dX11_worker_69 : decode cX11_worker 69 = .ok (.istore 5, 2) := by decide +kernel
theorem dX11_worker_71 : decode cX11_worker 71 = .ok (.aload_n 0, 1) := by decide +kernel
theorem dX11_worker_72 : decode cX11_worker 72 = .ok (.getfield 12, 3) := by decide +kernel
theorem dX11_worker_75 : decode cX11_worker 75 = .ok (.getfield 108, 3) := by decide +kernel
theorem dX11_worker_78 : decode cX11_worker 78 = .ok (.iload 5, 2) := by decide +kernel
theorem dX11_worker_80 : decode cX11_worker 80 = .ok (.iload_n 2, 1) := by decide +kernel
theorem dX11_worker_81 : decode cX11_worker 81 = .ok (.iastore, 1) := by decide +kernel
theorem dX11_worker_82 : decode cX11_worker 82 = .ok (.aload_n 0, 1) := by decide +kernel
theorem dX11_worker_83 : decode cX11_worker 83 = .ok (.getfield 12, 3) := by decide +kernel
theorem dX11_worker_86 : decode cX11_worker 86 = .ok (.getfield 111, 3) := by decide +kernel
theorem dX11_worker_89 : decode cX11_worker 89 = .ok (.iload 5, 2) := by decide +kernel
theorem dX11_worker_91 : decode cX11_worker 91 = .ok (.iload_n 3, 1) := by decide +kernel
theorem dX11_worker_92 : decode cX11_worker 92 = .ok (.iastore, 1) := by decide +kernel
theorem dX11_worker_93 : decode cX11_worker 93 = .ok (.aload_n 0, 1) := by decide +kernel
theorem dX11_worker_94 : decode cX11_worker 94 = .ok (.getfield 12, 3) := by decide +kernel
theorem dX11_worker_97 : decode cX11_worker 97 = .ok (.getfield 114, 3) := by decide +kernel
theorem dX11_worker_100 : decode cX11_worker 100 = .ok (.iload 5, 2) := by decide +kernel
theorem dX11_worker_102 : decode cX11_worker 102 = .ok (.iload_n 1, 1) := by decide +kernel
theorem dX11_worker_103 : decode cX11_worker 103 = .ok (.iastore, 1) := by decide +kernel
theorem dX11_worker_104 : decode cX11_worker 104 = .ok (.aload_n 0, 1) := by decide +kernel
theorem dX11_worker_105 : decode cX11_worker 105 = .ok (.getfield 12, 3) := by decide +kernel
theorem dX11_worker_108 : decode cX11_worker 108 = .ok (.getfield 117, 3) := by decide +kernel
theorem dX11_worker_111 : decode cX11_worker 111 = .ok (.iload 5, 2) := by decide +kernel
theorem dX11_worker_113 : decode cX11_worker 113 = .ok (.iload 4, 2) := by decide +kernel
theorem dX11_worker_115 : decode cX11_worker 115 = .ok (.iastore, 1) := by decide +kernel
theorem dX11_worker_116 : decode cX11_worker 116 = .ok (.aload_n 0, 1) := by decide +kernel
theorem dX11_worker_117 : decode cX11_worker 117 = .ok (.getfield 12, 3) := by decide +kernel
theorem dX11_worker_120 : decode cX11_worker 120 = .ok (.getfield 120, 3) := by decide +kernel
theorem dX11_worker_123 : decode cX11_worker 123 = .ok (.iload 5, 2) := by decide +kernel
theorem dX11_worker_125 : decode cX11_worker 125 = .ok (.iconst 0, 1) := by decide +kernel
theorem dX11_worker_126 : decode cX11_worker 126 = .ok (.iastore, 1) := by decide +kernel
theorem dX11_worker_127 : decode cX11_worker 127 = .ok (.aload_n 0, 1) := by decide +kernel
theorem dX11_worker_128 : decode cX11_worker 128 = .ok (.getfield 12, 3) := by decide +kernel
theorem dX11_worker_131 : decode cX11_worker 131 = .ok (.dup, 1) := by decide +kernel
theorem dX11_worker_132 : decode cX11_worker 132 = .ok (.getfield 105, 3) := by decide +kernel
theorem dX11_worker_135 : decode cX11_worker 135 = .ok (.iconst 1, 1) := by decide +kernel
theorem dX11_worker_136 : decode cX11_worker 136 = .ok (.iadd, 1) := by decide +kernel
theorem dX11_worker_137 : decode cX11_worker 137 = .ok (.putfield 105, 3) := by decide +kernel
theorem dX11_worker_140 : decode cX11_worker 140 = .ok (.iload 5, 2) := by decide +kernel
theorem dX11_worker_142 : decode cX11_worker 142 = .ok (.ireturn, 1) := by decide +kernel
set_option maxRecDepth 20000 in
theorem ggX11_of_X10_hasWorker : GoodIn wsX11_of wsX10_hasWorker := goodIn_r _ [13, 14, 201, 202, 203, 204, 205, 206, 207, 208, 209, 210, 211, 212, 213, 214, 215, 216, 217, 218, 219] (by decide +kernel) (by decide +kernel)
set_option maxRecDepth 20000 in
theorem gX11_of_X10_hasWorker : GoodIn wsX11_of (wsV RX11 122 RX10 yX10_hasWorker wsX10_hasWorker) := goodIn_app (goodIn_of _ (by decide +kernel)) ggX11_of_X10_hasWorker
set_option maxRecDepth 20000 in
theorem ggX11_of_X11_mark : GoodIn wsX11_of wsX11_mark := goodIn_r _ [19, 1, 7, 20, 21, 22, 12, 23, 24, 25, 9, 10, 11, 13, 14, 26, 27, 28, 29, 30, 31, 32, 33, 34, 35, 36, 37, 38, 39, 40, 41, 42, 43, 44, 45, 46, 47, 48, 49, 50, 51, 52, 53, 54, 55, 56, 57, 58, 59, 60, 61, 62, 63, 64, 65, 66, 67, 68, 69, 70, 71, 72, 73, 74, 75, 76, 77, 78, 79, 80, 81, 82, 83, 84, 85, 86, 87, 88, 89, 90, 91, 92, 93, 94, 95, 96, 97, 98, 99, 100, 101, 102, 103, 104, 105, 106, 107, 108, 109, 110, 111, 112, 113, 114, 194, 195, 196, 197, 198, 199, 200, 201, 202, 203, 204, 205, 206, 207, 208, 209, 210, 211, 212, 213, 214, 215, 216, 217, 218, 219, 220, 221, 222, 223, 224, 225, 226, 227, 228, 229, 230, 231, 232, 233, 234, 235, 236, 237, 238, 239, 240, 241, 242, 243, 244, 245, 246, 247, 248, 249, 250, 251, 252, 253, 254, 255, 256, 257, 258, 259, 260, 261, 262, 263, 264, 265] (by decide +kernel) (by decide +kernel)
set_option maxRecDepth 20000 in
theorem gX11_of_X11_mark : GoodIn wsX11_of (wsV RX11 126 RX11 yX11_mark wsX11_mark) := goodIn_app (goodIn_of _ (by decide +kernel)) ggX11_of_X11_mark
set_option maxRecDepth 20000 in
theorem ggX11_of_X1_gradeHad : GoodIn wsX11_of wsX1_gradeHad := goodIn_r _ [118, 119, 120, 39, 10, 11, 12, 13, 14, 121, 21, 22, 23, 24, 25, 122, 123, 124, 29, 125, 32, 40, 41, 42, 43, 44, 126, 127, 128, 129, 130, 131, 132, 133, 134, 135, 136, 137, 27, 28, 30, 31, 33, 34, 35, 36, 37, 38, 45, 46, 47, 48, 49, 50, 51, 52, 53, 54, 55, 56, 57, 58, 59, 60, 61, 62, 63, 64, 65, 66, 67, 68, 69, 70, 71, 72, 73, 74, 75, 76, 77, 78, 79, 80, 81, 82, 83, 84, 85, 86, 87, 88, 89, 90, 91, 92, 93, 94, 95, 96, 97, 98, 99, 100, 101, 102, 103, 104, 105, 106, 107, 108, 109, 110, 111, 112, 113, 114, 138, 139, 140, 141, 142, 143, 144, 145, 146, 147, 148, 149, 150, 151, 152, 153, 154, 155, 156, 157, 158, 159, 160, 161, 162, 163, 164, 165, 166, 167, 168, 169, 170, 171, 172, 173, 174, 175, 176, 177, 178, 201, 202, 203, 204, 205, 206, 207, 208, 209, 210, 211, 212, 213, 214, 215, 216, 217, 218, 219, 220, 221, 222, 223, 224, 225, 226, 227, 228, 229, 230, 231, 232, 233, 234, 235, 236, 237, 238, 239, 240, 241, 242, 243, 244, 245, 246, 247, 248, 249, 250, 251, 252, 253, 254, 255, 256, 257, 258, 259, 260, 261, 262, 263, 264, 265] (by decide +kernel) (by decide +kernel)
set_option maxRecDepth 20000 in
theorem gX11_of_X1_gradeHad : GoodIn wsX11_of (wsV RX11 130 RX1 yX1_gradeHad wsX1_gradeHad) := goodIn_app (goodIn_of _ (by decide +kernel)) ggX11_of_X1_gradeHad
set_option maxRecDepth 20000 in
theorem ggX11_of_X1_gradeDue : GoodIn wsX11_of wsX1_gradeDue := goodIn_r _ [182, 183, 130, 136, 131, 34, 184, 126, 127, 128, 29, 129, 138, 139, 140, 141, 38, 142, 143, 144, 145, 94, 146, 147, 120, 35, 148, 149, 150, 151, 152, 153, 154, 155, 156, 157, 55, 158, 159, 160, 161, 162, 163, 164, 165, 166, 167, 168, 169, 170, 171, 172, 173, 174, 175, 176, 177, 178, 201, 202, 203, 204, 205, 206, 207, 208, 209, 210, 211, 212, 213, 214, 215, 216, 217, 218, 219, 220, 221, 222, 223, 224, 225, 226, 255, 256, 257, 258, 259, 260, 261, 262, 263, 264, 265, 227, 228, 229, 230, 231, 232, 233, 234, 235, 236, 237, 238, 239, 240, 241, 242, 243, 244, 245, 246, 247, 248, 249, 250, 251, 252, 253, 254] (by decide +kernel) (by decide +kernel)
set_option maxRecDepth 20000 in
theorem gX11_of_X1_gradeDue : GoodIn wsX11_of (wsV RX11 134 RX1 yX1_gradeDue wsX1_gradeDue) := goodIn_app (goodIn_of _ (by decide +kernel)) ggX11_of_X1_gradeDue
set_option maxRecDepth 20000 in
theorem ggX11_of_X1_gradeLevelled : GoodIn wsX11_of wsX1_gradeLevelled := goodIn_r _ [188, 189, 183, 130, 136, 131, 121, 21, 22, 12, 23, 24, 25, 40, 41, 42, 43, 14, 44, 126, 127, 128, 29, 129, 132, 133, 134, 135, 137, 27, 28, 30, 31, 32, 33, 34, 35, 36, 37, 38, 39, 10, 11, 13, 45, 46, 47, 48, 49, 50, 51, 52, 53, 54, 55, 56, 57, 58, 59, 60, 61, 62, 63, 64, 65, 66, 67, 68, 69, 70, 71, 72, 73, 74, 75, 76, 77, 78, 79, 80, 81, 82, 83, 84, 85, 86, 87, 88, 89, 90, 91, 92, 93, 94, 95, 96, 97, 98, 99, 100, 101, 102, 103, 104, 105, 106, 107, 108, 109, 110, 111, 112, 113, 114, 190, 191, 192, 193, 138, 139, 140, 141, 142, 143, 144, 145, 146, 147, 120, 148, 149, 150, 151, 152, 153, 154, 155, 156, 157, 158, 159, 160, 161, 162, 163, 164, 165, 166, 167, 168, 169, 170, 171, 172, 173, 174, 175, 176, 177, 178, 201, 202, 203, 204, 205, 206, 207, 208, 209, 210, 211, 212, 213, 214, 215, 216, 217, 218, 219, 220, 221, 222, 223, 224, 225, 226, 227, 228, 229, 230, 231, 232, 233, 234, 235, 236, 237, 238, 239, 240, 241, 242, 243, 244, 245, 246, 247, 248, 249, 250, 251, 252, 253, 254, 255, 256, 257, 258, 259, 260, 261, 262, 263, 264, 265] (by decide +kernel) (by decide +kernel)
set_option maxRecDepth 20000 in
theorem gX11_of_X1_gradeLevelled : GoodIn wsX11_of (wsV RX11 141 RX1 yX1_gradeLevelled wsX1_gradeLevelled) := goodIn_app (goodIn_of _ (by decide +kernel)) ggX11_of_X1_gradeLevelled
theorem dX11_of_0 : decode cX11_of 0 = .ok (.aload_n 0, 1) := by decide +kernel
theorem dX11_of_1 : decode cX11_of 1 = .ok (.getfield 12, 3) := by decide +kernel
theorem dX11_of_4 : decode cX11_of 4 = .ok (.iload_n 1, 1) := by decide +kernel
theorem dX11_of_5 : decode cX11_of 5 = .ok (.invokevirtual 122, 3) := by decide +kernel
theorem dX11_of_8 : decode cX11_of 8 = .ok (.ifCond .ne 7, 3) := by decide +kernel
theorem dX11_of_11 : decode cX11_of 11 = .ok (.sipush (-1001), 3) := by decide +kernel
theorem dX11_of_14 : decode cX11_of 14 = .ok (.ireturn, 1) := by decide +kernel
theorem dX11_of_15 : decode cX11_of 15 = .ok (.iload_n 2, 1) := by decide +kernel
theorem dX11_of_16 : decode cX11_of 16 = .ok (.tableswitch 172 0 8 #[52, 62, 72, 82, 92, 102, 117, 130, 151], 52) := by decide +kernel
theorem dX11_of_68 : decode cX11_of 68 = .ok (.aload_n 0, 1) := by decide +kernel
theorem dX11_of_69 : decode cX11_of 69 = .ok (.getfield 12, 3) := by decide +kernel
theorem dX11_of_72 : decode cX11_of 72 = .ok (.getfield 108, 3) := by decide +kernel
theorem dX11_of_75 : decode cX11_of 75 = .ok (.iload_n 1, 1) := by decide +kernel
theorem dX11_of_76 : decode cX11_of 76 = .ok (.iaload, 1) := by decide +kernel
theorem dX11_of_77 : decode cX11_of 77 = .ok (.ireturn, 1) := by decide +kernel
theorem dX11_of_78 : decode cX11_of 78 = .ok (.aload_n 0, 1) := by decide +kernel
theorem dX11_of_79 : decode cX11_of 79 = .ok (.getfield 12, 3) := by decide +kernel
theorem dX11_of_82 : decode cX11_of 82 = .ok (.getfield 111, 3) := by decide +kernel
theorem dX11_of_85 : decode cX11_of 85 = .ok (.iload_n 1, 1) := by decide +kernel
theorem dX11_of_86 : decode cX11_of 86 = .ok (.iaload, 1) := by decide +kernel
theorem dX11_of_87 : decode cX11_of 87 = .ok (.ireturn, 1) := by decide +kernel
theorem dX11_of_88 : decode cX11_of 88 = .ok (.aload_n 0, 1) := by decide +kernel
theorem dX11_of_89 : decode cX11_of 89 = .ok (.getfield 12, 3) := by decide +kernel
theorem dX11_of_92 : decode cX11_of 92 = .ok (.getfield 114, 3) := by decide +kernel
theorem dX11_of_95 : decode cX11_of 95 = .ok (.iload_n 1, 1) := by decide +kernel
theorem dX11_of_96 : decode cX11_of 96 = .ok (.iaload, 1) := by decide +kernel
theorem dX11_of_97 : decode cX11_of 97 = .ok (.ireturn, 1) := by decide +kernel
theorem dX11_of_98 : decode cX11_of 98 = .ok (.aload_n 0, 1) := by decide +kernel
theorem dX11_of_99 : decode cX11_of 99 = .ok (.getfield 12, 3) := by decide +kernel
theorem dX11_of_102 : decode cX11_of 102 = .ok (.getfield 117, 3) := by decide +kernel
theorem dX11_of_105 : decode cX11_of 105 = .ok (.iload_n 1, 1) := by decide +kernel
theorem dX11_of_106 : decode cX11_of 106 = .ok (.iaload, 1) := by decide +kernel
theorem dX11_of_107 : decode cX11_of 107 = .ok (.ireturn, 1) := by decide +kernel
theorem dX11_of_108 : decode cX11_of 108 = .ok (.aload_n 0, 1) := by decide +kernel
theorem dX11_of_109 : decode cX11_of 109 = .ok (.getfield 12, 3) := by decide +kernel
theorem dX11_of_112 : decode cX11_of 112 = .ok (.getfield 120, 3) := by decide +kernel
theorem dX11_of_115 : decode cX11_of 115 = .ok (.iload_n 1, 1) := by decide +kernel
theorem dX11_of_116 : decode cX11_of 116 = .ok (.iaload, 1) := by decide +kernel
theorem dX11_of_117 : decode cX11_of 117 = .ok (.ireturn, 1) := by decide +kernel
theorem dX11_of_118 : decode cX11_of 118 = .ok (.aload_n 0, 1) := by decide +kernel
theorem dX11_of_119 : decode cX11_of 119 = .ok (.iload_n 1, 1) := by decide +kernel
theorem dX11_of_120 : decode cX11_of 120 = .ok (.aload_n 0, 1) := by decide +kernel
theorem dX11_of_121 : decode cX11_of 121 = .ok (.getfield 12, 3) := by decide +kernel
theorem dX11_of_124 : decode cX11_of 124 = .ok (.getfield 114, 3) := by decide +kernel
theorem dX11_of_127 : decode cX11_of 127 = .ok (.iload_n 1, 1) := by decide +kernel
theorem dX11_of_128 : decode cX11_of 128 = .ok (.iaload, 1) := by decide +kernel
theorem dX11_of_129 : decode cX11_of 129 = .ok (.invokevirtual 126, 3) := by decide +kernel
theorem dX11_of_132 : decode cX11_of 132 = .ok (.ireturn, 1) := by decide +kernel
theorem dX11_of_133 : decode cX11_of 133 = .ok (.aload_n 0, 1) := by decide +kernel
theorem dX11_of_134 : decode cX11_of 134 = .ok (.getfield 27, 3) := by decide +kernel
theorem dX11_of_137 : decode cX11_of 137 = .ok (.aload_n 0, 1) := by decide +kernel
theorem dX11_of_138 : decode cX11_of 138 = .ok (.getfield 12, 3) := by decide +kernel
theorem dX11_of_141 : decode cX11_of 141 = .ok (.iload_n 1, 1) := by decide +kernel
theorem dX11_of_142 : decode cX11_of 142 = .ok (.invokevirtual 130, 3) := by decide +kernel
theorem dX11_of_145 : decode cX11_of 145 = .ok (.ireturn, 1) := by decide +kernel
theorem dX11_of_146 : decode cX11_of 146 = .ok (.aload_n 0, 1) := by decide +kernel
theorem dX11_of_147 : decode cX11_of 147 = .ok (.getfield 27, 3) := by decide +kernel
theorem dX11_of_150 : decode cX11_of 150 = .ok (.aload_n 0, 1) := by decide +kernel
theorem dX11_of_151 : decode cX11_of 151 = .ok (.getfield 12, 3) := by decide +kernel
theorem dX11_of_154 : decode cX11_of 154 = .ok (.invokevirtual 134, 3) := by decide +kernel
theorem dX11_of_157 : decode cX11_of 157 = .ok (.aload_n 0, 1) := by decide +kernel
theorem dX11_of_158 : decode cX11_of 158 = .ok (.getfield 27, 3) := by decide +kernel
theorem dX11_of_161 : decode cX11_of 161 = .ok (.getfield 138, 3) := by decide +kernel
theorem dX11_of_164 : decode cX11_of 164 = .ok (.iload_n 1, 1) := by decide +kernel
theorem dX11_of_165 : decode cX11_of 165 = .ok (.iaload, 1) := by decide +kernel
theorem dX11_of_166 : decode cX11_of 166 = .ok (.ireturn, 1) := by decide +kernel
theorem dX11_of_167 : decode cX11_of 167 = .ok (.aload_n 0, 1) := by decide +kernel
theorem dX11_of_168 : decode cX11_of 168 = .ok (.getfield 27, 3) := by decide +kernel
theorem dX11_of_171 : decode cX11_of 171 = .ok (.aload_n 0, 1) := by decide +kernel
theorem dX11_of_172 : decode cX11_of 172 = .ok (.getfield 12, 3) := by decide +kernel
theorem dX11_of_175 : decode cX11_of 175 = .ok (.invokevirtual 141, 3) := by decide +kernel
theorem dX11_of_178 : decode cX11_of 178 = .ok (.aload_n 0, 1) := by decide +kernel
theorem dX11_of_179 : decode cX11_of 179 = .ok (.getfield 27, 3) := by decide +kernel
theorem dX11_of_182 : decode cX11_of 182 = .ok (.getfield 138, 3) := by decide +kernel
theorem dX11_of_185 : decode cX11_of 185 = .ok (.iload_n 1, 1) := by decide +kernel
theorem dX11_of_186 : decode cX11_of 186 = .ok (.iaload, 1) := by decide +kernel
theorem dX11_of_187 : decode cX11_of 187 = .ok (.ireturn, 1) := by decide +kernel
theorem dX11_of_188 : decode cX11_of 188 = .ok (.sipush (-1001), 3) := by decide +kernel
theorem dX11_of_191 : decode cX11_of 191 = .ok (.ireturn, 1) := by decide +kernel
set_option maxRecDepth 20000 in
theorem ggX11_by_X10_chiefAt : GoodIn wsX11_by wsX10_chiefAt := goodIn_r _ [9, 10, 11, 60, 61, 62, 63, 64, 65, 66, 67, 68, 69, 70, 71, 72, 73, 74, 75, 76, 77, 78] (by decide +kernel) (by decide +kernel)
set_option maxRecDepth 20000 in
theorem gX11_by_X10_chiefAt : GoodIn wsX11_by (wsV RX11 101 RX10 yX10_chiefAt wsX10_chiefAt) := goodIn_app (goodIn_of _ (by decide +kernel)) ggX11_by_X10_chiefAt
set_option maxRecDepth 20000 in
theorem ggX11_by_X10_teamBits : GoodIn wsX11_by wsX10_teamBits := goodIn_r _ [15, 16, 17, 60, 61, 62, 63, 64, 65, 66, 67, 68, 69, 70, 71, 72, 73, 74, 75, 76, 77, 78] (by decide +kernel) (by decide +kernel)
set_option maxRecDepth 20000 in
theorem gX11_by_X10_teamBits : GoodIn wsX11_by (wsV RX11 152 RX10 yX10_teamBits wsX10_teamBits) := goodIn_app (goodIn_of _ (by decide +kernel)) ggX11_by_X10_teamBits
set_option maxRecDepth 20000 in
theorem ggX11_by_J6_bitCount_0f7a4 : GoodIn wsX11_by wsJ6_bitCount_0f7a4 := goodIn_r _ [21, 22, 23, 24] (by decide +kernel) (by decide +kernel)
set_option maxRecDepth 20000 in
theorem gX11_by_J6_bitCount_0f7a4 : GoodIn wsX11_by (va_wsS RX11 156 yJ6_bitCount_0f7a4 wsJ6_bitCount_0f7a4) := goodIn_app (goodIn_of _ (by decide +kernel)) ggX11_by_J6_bitCount_0f7a4
theorem dX11_by_0 : decode cX11_by 0 = .ok (.aload_n 0, 1) := by decide +kernel
theorem dX11_by_1 : decode cX11_by 1 = .ok (.getfield 12, 3) := by decide +kernel
theorem dX11_by_4 : decode cX11_by 4 = .ok (.iload_n 1, 1) := by decide +kernel
theorem dX11_by_5 : decode cX11_by 5 = .ok (.invokevirtual 101, 3) := by decide +kernel
theorem dX11_by_8 : decode cX11_by 8 = .ok (.astore_n 3, 1) := by decide +kernel
theorem dX11_by_9 : decode cX11_by 9 = .ok (.aload_n 3, 1) := by decide +kernel
theorem dX11_by_10 : decode cX11_by 10 = .ok (.ifnonnull 5, 3) := by decide +kernel
theorem dX11_by_13 : decode cX11_by 13 = .ok (.iconst (-1), 1) := by decide +kernel
theorem dX11_by_14 : decode cX11_by 14 = .ok (.ireturn, 1) := by decide +kernel
theorem dX11_by_15 : decode cX11_by 15 = .ok (.iload_n 2, 1) := by decide +kernel
theorem dX11_by_16 : decode cX11_by 16 = .ok (.tableswitch 72 0 4 #[36, 41, 46, 51, 63], 36) := by decide +kernel
theorem dX11_by_52 : decode cX11_by 52 = .ok (.aload_n 3, 1) := by decide +kernel
theorem dX11_by_53 : decode cX11_by 53 = .ok (.getfield 144, 3) := by decide +kernel
theorem dX11_by_56 : decode cX11_by 56 = .ok (.ireturn, 1) := by decide +kernel
theorem dX11_by_57 : decode cX11_by 57 = .ok (.aload_n 3, 1) := by decide +kernel
theorem dX11_by_58 : decode cX11_by 58 = .ok (.getfield 147, 3) := by decide +kernel
theorem dX11_by_61 : decode cX11_by 61 = .ok (.ireturn, 1) := by decide +kernel
theorem dX11_by_62 : decode cX11_by 62 = .ok (.aload_n 3, 1) := by decide +kernel
theorem dX11_by_63 : decode cX11_by 63 = .ok (.getfield 150, 3) := by decide +kernel
theorem dX11_by_66 : decode cX11_by 66 = .ok (.ireturn, 1) := by decide +kernel
theorem dX11_by_67 : decode cX11_by 67 = .ok (.aload_n 0, 1) := by decide +kernel
theorem dX11_by_68 : decode cX11_by 68 = .ok (.getfield 12, 3) := by decide +kernel
theorem dX11_by_71 : decode cX11_by 71 = .ok (.iload_n 1, 1) := by decide +kernel
theorem dX11_by_72 : decode cX11_by 72 = .ok (.invokevirtual 152, 3) := by decide +kernel
theorem dX11_by_75 : decode cX11_by 75 = .ok (.invokestatic 156, 3) := by decide +kernel
theorem dX11_by_78 : decode cX11_by 78 = .ok (.ireturn, 1) := by decide +kernel
theorem dX11_by_79 : decode cX11_by 79 = .ok (.aload_n 0, 1) := by decide +kernel
theorem dX11_by_80 : decode cX11_by 80 = .ok (.getfield 12, 3) := by decide +kernel
theorem dX11_by_83 : decode cX11_by 83 = .ok (.iload_n 1, 1) := by decide +kernel
theorem dX11_by_84 : decode cX11_by 84 = .ok (.invokevirtual 152, 3) := by decide +kernel
theorem dX11_by_87 : decode cX11_by 87 = .ok (.ireturn, 1) := by decide +kernel
theorem dX11_by_88 : decode cX11_by 88 = .ok (.iconst (-1), 1) := by decide +kernel
theorem dX11_by_89 : decode cX11_by 89 = .ok (.ireturn, 1) := by decide +kernel
set_option maxRecDepth 20000 in
theorem ggX11_move_X10_hasWorker : GoodIn wsX11_move wsX10_hasWorker := goodIn_r _ [7, 8, 22, 23, 24, 25, 26, 27, 28, 29, 30, 31, 32, 33, 34, 35, 36, 37, 38, 39, 40] (by decide +kernel) (by decide +kernel)
set_option maxRecDepth 20000 in
theorem gX11_move_X10_hasWorker : GoodIn wsX11_move (wsV RX11 122 RX10 yX10_hasWorker wsX10_hasWorker) := goodIn_app (goodIn_of _ (by decide +kernel)) ggX11_move_X10_hasWorker
set_option maxRecDepth 20000 in
theorem ggX11_move_X10_chiefAt : GoodIn wsX11_move wsX10_chiefAt := goodIn_r _ [12, 13, 14, 22, 23, 24, 25, 26, 27, 28, 29, 30, 31, 32, 33, 34, 35, 36, 37, 38, 39, 40] (by decide +kernel) (by decide +kernel)
set_option maxRecDepth 20000 in
theorem gX11_move_X10_chiefAt : GoodIn wsX11_move (wsV RX11 101 RX10 yX10_chiefAt wsX10_chiefAt) := goodIn_app (goodIn_of _ (by decide +kernel)) ggX11_move_X10_chiefAt
theorem dX11_move_0 : decode cX11_move 0 = .ok (.aload_n 0, 1) := by decide +kernel
theorem dX11_move_1 : decode cX11_move 1 = .ok (.getfield 12, 3) := by decide +kernel
theorem dX11_move_4 : decode cX11_move 4 = .ok (.iload_n 1, 1) := by decide +kernel
theorem dX11_move_5 : decode cX11_move 5 = .ok (.invokevirtual 122, 3) := by decide +kernel
theorem dX11_move_8 : decode cX11_move 8 = .ok (.ifCond .eq 14, 3) := by decide +kernel
theorem dX11_move_11 : decode cX11_move 11 = .ok (.aload_n 0, 1) := by decide +kernel
theorem dX11_move_12 : decode cX11_move 12 = .ok (.getfield 12, 3) := by decide +kernel
theorem dX11_move_15 : decode cX11_move 15 = .ok (.iload_n 2, 1) := by decide +kernel
theorem dX11_move_16 : decode cX11_move 16 = .ok (.invokevirtual 101, 3) := by decide +kernel
theorem dX11_move_19 : decode cX11_move 19 = .ok (.ifnonnull 5, 3) := by decide +kernel
theorem dX11_move_22 : decode cX11_move 22 = .ok (.iconst (-1), 1) := by decide +kernel
theorem dX11_move_23 : decode cX11_move 23 = .ok (.ireturn, 1) := by decide +kernel
theorem dX11_move_24 : decode cX11_move 24 = .ok (.aload_n 0, 1) := by decide +kernel
theorem dX11_move_25 : decode cX11_move 25 = .ok (.getfield 12, 3) := by decide +kernel
theorem dX11_move_28 : decode cX11_move 28 = .ok (.getfield 114, 3) := by decide +kernel
theorem dX11_move_31 : decode cX11_move 31 = .ok (.iload_n 1, 1) := by decide +kernel
theorem dX11_move_32 : decode cX11_move 32 = .ok (.iaload, 1) := by decide +kernel
theorem dX11_move_33 : decode cX11_move 33 = .ok (.istore_n 3, 1) := by decide +kernel
theorem dX11_move_34 : decode cX11_move 34 = .ok (.aload_n 0, 1) := by decide +kernel
theorem dX11_move_35 : decode cX11_move 35 = .ok (.getfield 12, 3) := by decide +kernel
theorem dX11_move_38 : decode cX11_move 38 = .ok (.getfield 114, 3) := by decide +kernel
theorem dX11_move_41 : decode cX11_move 41 = .ok (.iload_n 1, 1) := by decide +kernel
theorem dX11_move_42 : decode cX11_move 42 = .ok (.iload_n 2, 1) := by decide +kernel
theorem dX11_move_43 : decode cX11_move 43 = .ok (.iastore, 1) := by decide +kernel
theorem dX11_move_44 : decode cX11_move 44 = .ok (.iload_n 3, 1) := by decide +kernel
theorem dX11_move_45 : decode cX11_move 45 = .ok (.ireturn, 1) := by decide +kernel
set_option maxRecDepth 20000 in
theorem ggX11_set_X10_hasWorker : GoodIn wsX11_set wsX10_hasWorker := goodIn_r _ [9, 10, 22, 23, 24, 25, 26, 27, 28, 29, 30, 31, 32, 33, 34, 35, 36, 37, 38, 39, 40] (by decide +kernel) (by decide +kernel)
set_option maxRecDepth 20000 in
theorem gX11_set_X10_hasWorker : GoodIn wsX11_set (wsV RX11 122 RX10 yX10_hasWorker wsX10_hasWorker) := goodIn_app (goodIn_of _ (by decide +kernel)) ggX11_set_X10_hasWorker
set_option maxRecDepth 20000 in
theorem ggX11_set_X11_isWithin : GoodIn wsX11_set wsX11_isWithin := goodIn_r _ [14] (by decide +kernel) (by decide +kernel)
set_option maxRecDepth 20000 in
theorem gX11_set_X11_isWithin : GoodIn wsX11_set (va_wsS RX11 84 yX11_isWithin wsX11_isWithin) := goodIn_app (goodIn_of _ (by decide +kernel)) ggX11_set_X11_isWithin
theorem dX11_set_0 : decode cX11_set 0 = .ok (.aload_n 0, 1) := by decide +kernel
theorem dX11_set_1 : decode cX11_set 1 = .ok (.getfield 12, 3) := by decide +kernel
theorem dX11_set_4 : decode cX11_set 4 = .ok (.iload_n 1, 1) := by decide +kernel
theorem dX11_set_5 : decode cX11_set 5 = .ok (.invokevirtual 122, 3) := by decide +kernel
theorem dX11_set_8 : decode cX11_set 8 = .ok (.ifCond .eq 12, 3) := by decide +kernel
theorem dX11_set_11 : decode cX11_set 11 = .ok (.iload_n 2, 1) := by decide +kernel
theorem dX11_set_12 : decode cX11_set 12 = .ok (.ifCond .lt 8, 3) := by decide +kernel
theorem dX11_set_15 : decode cX11_set 15 = .ok (.iload_n 2, 1) := by decide +kernel
theorem dX11_set_16 : decode cX11_set 16 = .ok (.iconst 2, 1) := by decide +kernel
theorem dX11_set_17 : decode cX11_set 17 = .ok (.if_icmp .le 5, 3) := by decide +kernel
theorem dX11_set_20 : decode cX11_set 20 = .ok (.iconst (-1), 1) := by decide +kernel
theorem dX11_set_21 : decode cX11_set 21 = .ok (.ireturn, 1) := by decide +kernel
theorem dX11_set_22 : decode cX11_set 22 = .ok (.iload_n 3, 1) := by decide +kernel
theorem dX11_set_23 : decode cX11_set 23 = .ok (.iload_n 2, 1) := by decide +kernel
theorem dX11_set_24 : decode cX11_set 24 = .ok (.iconst 2, 1) := by decide +kernel
theorem dX11_set_25 : decode cX11_set 25 = .ok (.if_icmp .ne 8, 3) := by decide +kernel
theorem dX11_set_28 : decode cX11_set 28 = .ok (.bipush 9, 2) := by decide +kernel
theorem dX11_set_30 : decode cX11_set 30 = .ok (.goto 5, 3) := by decide +kernel
theorem dX11_set_33 : decode cX11_set 33 = .ok (.bipush 99, 2) := by decide +kernel
theorem dX11_set_35 : decode cX11_set 35 = .ok (.invokestatic 84, 3) := by decide +kernel
theorem dX11_set_38 : decode cX11_set 38 = .ok (.ifCond .ne 6, 3) := by decide +kernel
theorem dX11_set_41 : decode cX11_set 41 = .ok (.bipush (-2), 2) := by decide +kernel
theorem dX11_set_43 : decode cX11_set 43 = .ok (.ireturn, 1) := by decide +kernel
theorem dX11_set_44 : decode cX11_set 44 = .ok (.iload_n 2, 1) := by decide +kernel
theorem dX11_set_45 : decode cX11_set 45 = .ok (.ifCond .ne 13, 3) := by decide +kernel
theorem dX11_set_48 : decode cX11_set 48 = .ok (.aload_n 0, 1) := by decide +kernel
theorem dX11_set_49 : decode cX11_set 49 = .ok (.getfield 12, 3) := by decide +kernel
theorem dX11_set_52 : decode cX11_set 52 = .ok (.getfield 108, 3) := by decide +kernel
theorem dX11_set_55 : decode cX11_set 55 = .ok (.goto 25, 3) := by decide +kernel
theorem dX11_set_58 : decode cX11_set 58 = .ok (.iload_n 2, 1) := by decide +kernel
theorem dX11_set_59 : decode cX11_set 59 = .ok (.iconst 1, 1) := by decide +kernel
theorem dX11_set_60 : decode cX11_set 60 = .ok (.if_icmp .ne 13, 3) := by decide +kernel
theorem dX11_set_63 : decode cX11_set 63 = .ok (.aload_n 0, 1) := by decide +kernel
theorem dX11_set_64 : decode cX11_set 64 = .ok (.getfield 12, 3) := by decide +kernel
theorem dX11_set_67 : decode cX11_set 67 = .ok (.getfield 111, 3) := by decide +kernel
theorem dX11_set_70 : decode cX11_set 70 = .ok (.goto 10, 3) := by decide +kernel
theorem dX11_set_73 : decode cX11_set 73 = .ok (.aload_n 0, 1) := by decide +kernel
theorem dX11_set_74 : decode cX11_set 74 = .ok (.getfield 12, 3) := by decide +kernel
theorem dX11_set_77 : decode cX11_set 77 = .ok (.getfield 117, 3) := by decide +kernel
theorem dX11_set_80 : decode cX11_set 80 = .ok (.astore 4, 2) := by decide +kernel
theorem dX11_set_82 : decode cX11_set 82 = .ok (.aload 4, 2) := by decide +kernel
theorem dX11_set_84 : decode cX11_set 84 = .ok (.iload_n 1, 1) := by decide +kernel
theorem dX11_set_85 : decode cX11_set 85 = .ok (.iaload, 1) := by decide +kernel
theorem dX11_set_86 : decode cX11_set 86 = .ok (.istore 5, 2) := by decide +kernel
theorem dX11_set_88 : decode cX11_set 88 = .ok (.aload 4, 2) := by decide +kernel
theorem dX11_set_90 : decode cX11_set 90 = .ok (.iload_n 1, 1) := by decide +kernel
theorem dX11_set_91 : decode cX11_set 91 = .ok (.iload_n 3, 1) := by decide +kernel
theorem dX11_set_92 : decode cX11_set 92 = .ok (.iastore, 1) := by decide +kernel
theorem dX11_set_93 : decode cX11_set 93 = .ok (.iload 5, 2) := by decide +kernel
theorem dX11_set_95 : decode cX11_set 95 = .ok (.ireturn, 1) := by decide +kernel
set_option maxRecDepth 20000 in
theorem ggX11_fresh_X11_isWithin : GoodIn wsX11_fresh wsX11_isWithin := goodIn_r _ [7] (by decide +kernel) (by decide +kernel)
set_option maxRecDepth 20000 in
theorem gX11_fresh_X11_isWithin : GoodIn wsX11_fresh (va_wsS RX11 84 yX11_isWithin wsX11_isWithin) := goodIn_app (goodIn_of _ (by decide +kernel)) ggX11_fresh_X11_isWithin
theorem dX11_fresh_0 : decode cX11_fresh 0 = .ok (.iload_n 1, 1) := by decide +kernel
theorem dX11_fresh_1 : decode cX11_fresh 1 = .ok (.bipush 99, 2) := by decide +kernel
theorem dX11_fresh_3 : decode cX11_fresh 3 = .ok (.invokestatic 84, 3) := by decide +kernel
theorem dX11_fresh_6 : decode cX11_fresh 6 = .ok (.ifCond .eq 12, 3) := by decide +kernel
theorem dX11_fresh_9 : decode cX11_fresh 9 = .ok (.iload_n 2, 1) := by decide +kernel
theorem dX11_fresh_10 : decode cX11_fresh 10 = .ok (.bipush 99, 2) := by decide +kernel
theorem dX11_fresh_12 : decode cX11_fresh 12 = .ok (.invokestatic 84, 3) := by decide +kernel
theorem dX11_fresh_15 : decode cX11_fresh 15 = .ok (.ifCond .ne 6, 3) := by decide +kernel
theorem dX11_fresh_18 : decode cX11_fresh 18 = .ok (.bipush (-2), 2) := by decide +kernel
theorem dX11_fresh_20 : decode cX11_fresh 20 = .ok (.ireturn, 1) := by decide +kernel
theorem dX11_fresh_21 : decode cX11_fresh 21 = .ok (.aload_n 0, 1) := by decide +kernel
theorem dX11_fresh_22 : decode cX11_fresh 22 = .ok (.getfield 12, 3) := by decide +kernel
theorem dX11_fresh_25 : decode cX11_fresh 25 = .ok (.getfield 78, 3) := by decide +kernel
theorem dX11_fresh_28 : decode cX11_fresh 28 = .ok (.istore_n 3, 1) := by decide +kernel
theorem dX11_fresh_29 : decode cX11_fresh 29 = .ok (.aload_n 0, 1) := by decide +kernel
theorem dX11_fresh_30 : decode cX11_fresh 30 = .ok (.getfield 12, 3) := by decide +kernel
theorem dX11_fresh_33 : decode cX11_fresh 33 = .ok (.iload_n 1, 1) := by decide +kernel
theorem dX11_fresh_34 : decode cX11_fresh 34 = .ok (.putfield 78, 3) := by decide +kernel
theorem dX11_fresh_37 : decode cX11_fresh 37 = .ok (.aload_n 0, 1) := by decide +kernel
theorem dX11_fresh_38 : decode cX11_fresh 38 = .ok (.getfield 12, 3) := by decide +kernel
theorem dX11_fresh_41 : decode cX11_fresh 41 = .ok (.iload_n 2, 1) := by decide +kernel
theorem dX11_fresh_42 : decode cX11_fresh 42 = .ok (.putfield 81, 3) := by decide +kernel
theorem dX11_fresh_45 : decode cX11_fresh 45 = .ok (.iload_n 3, 1) := by decide +kernel
theorem dX11_fresh_46 : decode cX11_fresh 46 = .ok (.ireturn, 1) := by decide +kernel
set_option maxRecDepth 20000 in
theorem ggX11_mark_X10_chiefAt : GoodIn wsX11_mark wsX10_chiefAt := goodIn_r _ [7, 8, 9, 111, 112, 113, 114, 115, 116, 117, 118, 119, 120, 121, 122, 123, 124, 125, 126, 127, 128, 129] (by decide +kernel) (by decide +kernel)
set_option maxRecDepth 20000 in
theorem gX11_mark_X10_chiefAt : GoodIn wsX11_mark (wsV RX11 101 RX10 yX10_chiefAt wsX10_chiefAt) := goodIn_app (goodIn_of _ (by decide +kernel)) ggX11_mark_X10_chiefAt
set_option maxRecDepth 20000 in
theorem ggX11_mark_X10_hasWorker : GoodIn wsX11_mark wsX10_hasWorker := goodIn_r _ [13, 14, 111, 112, 113, 114, 115, 116, 117, 118, 119, 120, 121, 122, 123, 124, 125, 126, 127, 128, 129] (by decide +kernel) (by decide +kernel)
set_option maxRecDepth 20000 in
theorem gX11_mark_X10_hasWorker : GoodIn wsX11_mark (wsV RX11 122 RX10 yX10_hasWorker wsX10_hasWorker) := goodIn_app (goodIn_of _ (by decide +kernel)) ggX11_mark_X10_hasWorker
set_option maxRecDepth 20000 in
theorem ggX11_mark_X1_markBy : GoodIn wsX11_mark wsX1_markBy := goodIn_r _ [19, 20, 21, 22, 23, 24, 25, 26, 27, 28, 11, 12, 6, 13, 14, 29, 30, 31, 32, 33, 34, 35, 36, 37, 38, 39, 40, 41, 42, 43, 44, 45, 46, 47, 48, 49, 50, 51, 52, 53, 54, 55, 56, 57, 58, 59, 60, 61, 62, 63, 64, 65, 66, 67, 68, 69, 70, 71, 72, 73, 74, 75, 76, 77, 78, 79, 80, 81, 82, 83, 84, 85, 86, 87, 88, 89, 90, 91, 92, 93, 94, 95, 96, 97, 98, 99, 100, 101, 102, 103, 130, 131, 132, 133, 134, 135, 136, 137, 138, 139, 140, 141, 142, 143, 144, 145, 146, 147, 148, 149, 150, 151, 152, 153, 154, 155, 156, 157, 158, 159, 160, 161, 162, 163, 164, 111, 112, 113, 114, 115, 116, 117, 118, 119, 120, 121, 122, 123, 124, 125, 126, 127, 128, 129, 165, 166, 167, 168, 169, 170, 171, 172, 173, 174, 175] (by decide +kernel) (by decide +kernel)
set_option maxRecDepth 20000 in
theorem gX11_mark_X1_markBy : GoodIn wsX11_mark (wsV RX11 161 RX1 yX1_markBy wsX1_markBy) := goodIn_app (goodIn_of _ (by decide +kernel)) ggX11_mark_X1_markBy
theorem dX11_mark_0 : decode cX11_mark 0 = .ok (.aload_n 0, 1) := by decide +kernel
theorem dX11_mark_1 : decode cX11_mark 1 = .ok (.getfield 12, 3) := by decide +kernel
theorem dX11_mark_4 : decode cX11_mark 4 = .ok (.iload_n 2, 1) := by decide +kernel
theorem dX11_mark_5 : decode cX11_mark 5 = .ok (.invokevirtual 101, 3) := by decide +kernel
theorem dX11_mark_8 : decode cX11_mark 8 = .ok (.astore_n 3, 1) := by decide +kernel
theorem dX11_mark_9 : decode cX11_mark 9 = .ok (.aload_n 0, 1) := by decide +kernel
theorem dX11_mark_10 : decode cX11_mark 10 = .ok (.getfield 12, 3) := by decide +kernel
theorem dX11_mark_13 : decode cX11_mark 13 = .ok (.iload_n 1, 1) := by decide +kernel
theorem dX11_mark_14 : decode cX11_mark 14 = .ok (.invokevirtual 122, 3) := by decide +kernel
theorem dX11_mark_17 : decode cX11_mark 17 = .ok (.ifCond .eq 7, 3) := by decide +kernel
theorem dX11_mark_20 : decode cX11_mark 20 = .ok (.aload_n 3, 1) := by decide +kernel
theorem dX11_mark_21 : decode cX11_mark 21 = .ok (.ifnonnull 7, 3) := by decide +kernel
theorem dX11_mark_24 : decode cX11_mark 24 = .ok (.sipush (-1001), 3) := by decide +kernel
theorem dX11_mark_27 : decode cX11_mark 27 = .ok (.ireturn, 1) := by decide +kernel
theorem dX11_mark_28 : decode cX11_mark 28 = .ok (.aload_n 0, 1) := by decide +kernel
theorem dX11_mark_29 : decode cX11_mark 29 = .ok (.getfield 27, 3) := by decide +kernel
theorem dX11_mark_32 : decode cX11_mark 32 = .ok (.aload_n 0, 1) := by decide +kernel
theorem dX11_mark_33 : decode cX11_mark 33 = .ok (.getfield 12, 3) := by decide +kernel
theorem dX11_mark_36 : decode cX11_mark 36 = .ok (.iload_n 1, 1) := by decide +kernel
theorem dX11_mark_37 : decode cX11_mark 37 = .ok (.aload_n 3, 1) := by decide +kernel
theorem dX11_mark_38 : decode cX11_mark 38 = .ok (.invokevirtual 161, 3) := by decide +kernel
theorem dX11_mark_41 : decode cX11_mark 41 = .ok (.ireturn, 1) := by decide +kernel
set_option maxRecDepth 20000 in
theorem ggX11_wrong_X1_gradeDue : GoodIn wsX11_wrong wsX1_gradeDue := goodIn_r _ [14, 15, 16, 17, 18, 19, 20, 21, 22, 23, 13, 24, 25, 26, 27, 28, 29, 30, 31, 32, 33, 34, 35, 36, 37, 38, 39, 40, 41, 42, 43, 44, 45, 46, 47, 48, 49, 50, 51, 52, 53, 54, 55, 56, 57, 58, 59, 60, 61, 62, 63, 64, 65, 66, 67, 68, 69, 70, 192, 193, 194, 195, 196, 197, 198, 199, 200, 201, 202, 203, 204, 205, 206, 207, 208, 209, 210, 185, 186, 187, 188, 189, 190, 191, 211, 212, 213, 214, 215, 216, 217, 218, 219, 220, 221, 222, 223, 224, 225, 226, 227, 228, 229, 230, 231, 232, 233, 234, 235, 236, 237, 238, 239, 240, 241, 242, 243, 244, 245, 246, 247, 248, 249] (by decide +kernel) (by decide +kernel)
set_option maxRecDepth 20000 in
theorem gX11_wrong_X1_gradeDue : GoodIn wsX11_wrong (wsV RX11 134 RX1 yX1_gradeDue wsX1_gradeDue) := goodIn_app (goodIn_of _ (by decide +kernel)) ggX11_wrong_X1_gradeDue
set_option maxRecDepth 20000 in
theorem ggX11_wrong_X1_gradeAll : GoodIn wsX11_wrong wsX1_gradeAll := goodIn_r _ [74, 75, 76, 77, 78, 79, 80, 81, 82, 83, 84, 85, 13, 86, 87, 88, 89, 90, 91, 92, 93, 21, 22, 23, 24, 16, 18, 94, 95, 96, 97, 17, 98, 99, 100, 101, 102, 103, 19, 38, 104, 105, 29, 106, 107, 108, 109, 110, 111, 112, 113, 114, 115, 116, 117, 118, 119, 49, 120, 121, 122, 123, 124, 125, 126, 127, 128, 129, 130, 131, 132, 133, 134, 135, 136, 137, 138, 139, 140, 141, 142, 143, 144, 145, 146, 147, 148, 149, 150, 151, 152, 153, 154, 155, 156, 157, 34, 158, 159, 160, 161, 162, 163, 164, 165, 166, 167, 168, 169, 170, 171, 172, 173, 174, 175, 176, 177, 25, 26, 27, 28, 30, 31, 32, 33, 35, 36, 37, 39, 40, 41, 42, 43, 44, 45, 46, 47, 48, 50, 51, 52, 53, 54, 55, 56, 57, 58, 59, 60, 61, 62, 63, 64, 65, 66, 67, 68, 69, 70, 192, 193, 194, 195, 196, 197, 198, 199, 200, 201, 202, 203, 204, 205, 206, 207, 208, 209, 210, 222, 223, 224, 225, 226, 227, 228, 229, 230, 231, 232, 233, 234, 235, 236, 237, 238, 239, 240, 241, 242, 243, 244, 245, 246, 247, 248, 249, 185, 186, 187, 188, 189, 190, 191, 211, 212, 213, 214, 215, 216, 217, 218, 219, 220, 221] (by decide +kernel) (by decide +kernel)
set_option maxRecDepth 20000 in
theorem gX11_wrong_X1_gradeAll : GoodIn wsX11_wrong (wsV RX11 171 RX1 yX1_gradeAll wsX1_gradeAll) := goodIn_app (goodIn_of _ (by decide +kernel)) ggX11_wrong_X1_gradeAll
theorem dX11_wrong_0 : decode cX11_wrong 0 = .ok (.iload_n 1, 1) := by decide +kernel
theorem dX11_wrong_1 : decode cX11_wrong 1 = .ok (.ifCond .lt 8, 3) := by decide +kernel
theorem dX11_wrong_4 : decode cX11_wrong 4 = .ok (.iload_n 1, 1) := by decide +kernel
theorem dX11_wrong_5 : decode cX11_wrong 5 = .ok (.iconst 2, 1) := by decide +kernel
theorem dX11_wrong_6 : decode cX11_wrong 6 = .ok (.if_icmp .le 5, 3) := by decide +kernel
theorem dX11_wrong_9 : decode cX11_wrong 9 = .ok (.iconst (-1), 1) := by decide +kernel
theorem dX11_wrong_10 : decode cX11_wrong 10 = .ok (.ireturn, 1) := by decide +kernel
theorem dX11_wrong_11 : decode cX11_wrong 11 = .ok (.aload_n 0, 1) := by decide +kernel
theorem dX11_wrong_12 : decode cX11_wrong 12 = .ok (.getfield 27, 3) := by decide +kernel
theorem dX11_wrong_15 : decode cX11_wrong 15 = .ok (.aload_n 0, 1) := by decide +kernel
theorem dX11_wrong_16 : decode cX11_wrong 16 = .ok (.getfield 12, 3) := by decide +kernel
theorem dX11_wrong_19 : decode cX11_wrong 19 = .ok (.invokevirtual 134, 3) := by decide +kernel
theorem dX11_wrong_22 : decode cX11_wrong 22 = .ok (.aload_n 0, 1) := by decide +kernel
theorem dX11_wrong_23 : decode cX11_wrong 23 = .ok (.getfield 27, 3) := by decide +kernel
theorem dX11_wrong_26 : decode cX11_wrong 26 = .ok (.getfield 138, 3) := by decide +kernel
theorem dX11_wrong_29 : decode cX11_wrong 29 = .ok (.iconst 0, 1) := by decide +kernel
theorem dX11_wrong_30 : decode cX11_wrong 30 = .ok (.aload_n 0, 1) := by decide +kernel
theorem dX11_wrong_31 : decode cX11_wrong 31 = .ok (.getfield 38, 3) := by decide +kernel
theorem dX11_wrong_34 : decode cX11_wrong 34 = .ok (.iconst 0, 1) := by decide +kernel
theorem dX11_wrong_35 : decode cX11_wrong 35 = .ok (.bipush 10, 2) := by decide +kernel
theorem dX11_wrong_37 : decode cX11_wrong 37 = .ok (.invokestatic 165, 3) := by decide +kernel
theorem dX11_wrong_40 : decode cX11_wrong 40 = .ok (.aload_n 0, 1) := by decide +kernel
theorem dX11_wrong_41 : decode cX11_wrong 41 = .ok (.getfield 27, 3) := by decide +kernel
theorem dX11_wrong_44 : decode cX11_wrong 44 = .ok (.aload_n 0, 1) := by decide +kernel
theorem dX11_wrong_45 : decode cX11_wrong 45 = .ok (.getfield 12, 3) := by decide +kernel
theorem dX11_wrong_48 : decode cX11_wrong 48 = .ok (.invokevirtual 171, 3) := by decide +kernel
theorem dX11_wrong_51 : decode cX11_wrong 51 = .ok (.iconst 0, 1) := by decide +kernel
theorem dX11_wrong_52 : decode cX11_wrong 52 = .ok (.istore_n 2, 1) := by decide +kernel
theorem dX11_wrong_53 : decode cX11_wrong 53 = .ok (.iconst 0, 1) := by decide +kernel
theorem dX11_wrong_54 : decode cX11_wrong 54 = .ok (.istore_n 3, 1) := by decide +kernel
theorem dX11_wrong_55 : decode cX11_wrong 55 = .ok (.iconst 0, 1) := by decide +kernel
theorem dX11_wrong_56 : decode cX11_wrong 56 = .ok (.istore 4, 2) := by decide +kernel
theorem dX11_wrong_58 : decode cX11_wrong 58 = .ok (.iconst 0, 1) := by decide +kernel
theorem dX11_wrong_59 : decode cX11_wrong 59 = .ok (.istore 5, 2) := by decide +kernel
theorem dX11_wrong_61 : decode cX11_wrong 61 = .ok (.iload 5, 2) := by decide +kernel
theorem dX11_wrong_63 : decode cX11_wrong 63 = .ok (.aload_n 0, 1) := by decide +kernel
theorem dX11_wrong_64 : decode cX11_wrong 64 = .ok (.getfield 12, 3) := by decide +kernel
theorem dX11_wrong_67 : decode cX11_wrong 67 = .ok (.getfield 105, 3) := by decide +kernel
theorem dX11_wrong_70 : decode cX11_wrong 70 = .ok (.if_icmp .ge 73, 3) := by decide +kernel
theorem dX11_wrong_73 : decode cX11_wrong 73 = .ok (.iload 5, 2) := by decide +kernel
theorem dX11_wrong_75 : decode cX11_wrong 75 = .ok (.bipush 10, 2) := by decide +kernel
theorem dX11_wrong_77 : decode cX11_wrong 77 = .ok (.if_icmp .ge 66, 3) := by decide +kernel
theorem dX11_wrong_80 : decode cX11_wrong 80 = .ok (.aload_n 0, 1) := by decide +kernel
theorem dX11_wrong_81 : decode cX11_wrong 81 = .ok (.getfield 27, 3) := by decide +kernel
theorem dX11_wrong_84 : decode cX11_wrong 84 = .ok (.getfield 138, 3) := by decide +kernel
theorem dX11_wrong_87 : decode cX11_wrong 87 = .ok (.iload 5, 2) := by decide +kernel
theorem dX11_wrong_89 : decode cX11_wrong 89 = .ok (.iaload, 1) := by decide +kernel
theorem dX11_wrong_90 : decode cX11_wrong 90 = .ok (.istore 6, 2) := by decide +kernel
theorem dX11_wrong_92 : decode cX11_wrong 92 = .ok (.iload 6, 2) := by decide +kernel
theorem dX11_wrong_94 : decode cX11_wrong 94 = .ok (.aload_n 0, 1) := by decide +kernel
theorem dX11_wrong_95 : decode cX11_wrong 95 = .ok (.getfield 38, 3) := by decide +kernel
theorem dX11_wrong_98 : decode cX11_wrong 98 = .ok (.iload 5, 2) := by decide +kernel
theorem dX11_wrong_100 : decode cX11_wrong 100 = .ok (.iaload, 1) := by decide +kernel
theorem dX11_wrong_101 : decode cX11_wrong 101 = .ok (.if_icmp .eq 10, 3) := by decide +kernel
theorem dX11_wrong_104 : decode cX11_wrong 104 = .ok (.iload_n 2, 1) := by decide +kernel
theorem dX11_wrong_105 : decode cX11_wrong 105 = .ok (.iconst 1, 1) := by decide +kernel
theorem dX11_wrong_106 : decode cX11_wrong 106 = .ok (.iload 5, 2) := by decide +kernel
theorem dX11_wrong_108 : decode cX11_wrong 108 = .ok (.ishl, 1) := by decide +kernel
theorem dX11_wrong_109 : decode cX11_wrong 109 = .ok (.ior, 1) := by decide +kernel
theorem dX11_wrong_110 : decode cX11_wrong 110 = .ok (.istore_n 2, 1) := by decide +kernel
theorem dX11_wrong_111 : decode cX11_wrong 111 = .ok (.iload 6, 2) := by decide +kernel
theorem dX11_wrong_113 : decode cX11_wrong 113 = .ok (.aload_n 0, 1) := by decide +kernel
theorem dX11_wrong_114 : decode cX11_wrong 114 = .ok (.getfield 38, 3) := by decide +kernel
theorem dX11_wrong_117 : decode cX11_wrong 117 = .ok (.iload 5, 2) := by decide +kernel
theorem dX11_wrong_119 : decode cX11_wrong 119 = .ok (.iaload, 1) := by decide +kernel
theorem dX11_wrong_120 : decode cX11_wrong 120 = .ok (.if_icmp .ge 10, 3) := by decide +kernel
theorem dX11_wrong_123 : decode cX11_wrong 123 = .ok (.iload_n 3, 1) := by decide +kernel
theorem dX11_wrong_124 : decode cX11_wrong 124 = .ok (.iconst 1, 1) := by decide +kernel
theorem dX11_wrong_125 : decode cX11_wrong 125 = .ok (.iload 5, 2) := by decide +kernel
theorem dX11_wrong_127 : decode cX11_wrong 127 = .ok (.ishl, 1) := by decide +kernel
theorem dX11_wrong_128 : decode cX11_wrong 128 = .ok (.ior, 1) := by decide +kernel
theorem dX11_wrong_129 : decode cX11_wrong 129 = .ok (.istore_n 3, 1) := by decide +kernel
theorem dX11_wrong_130 : decode cX11_wrong 130 = .ok (.iload 4, 2) := by decide +kernel
theorem dX11_wrong_132 : decode cX11_wrong 132 = .ok (.iload 6, 2) := by decide +kernel
theorem dX11_wrong_134 : decode cX11_wrong 134 = .ok (.iadd, 1) := by decide +kernel
theorem dX11_wrong_135 : decode cX11_wrong 135 = .ok (.istore 4, 2) := by decide +kernel
theorem dX11_wrong_137 : decode cX11_wrong 137 = .ok (.iinc 5 1, 3) := by decide +kernel
theorem dX11_wrong_140 : decode cX11_wrong 140 = .ok (.goto (-79), 3) := by decide +kernel
theorem dX11_wrong_143 : decode cX11_wrong 143 = .ok (.iload_n 1, 1) := by decide +kernel
theorem dX11_wrong_144 : decode cX11_wrong 144 = .ok (.ifCond .ne 7, 3) := by decide +kernel
theorem dX11_wrong_147 : decode cX11_wrong 147 = .ok (.iload_n 2, 1) := by decide +kernel
theorem dX11_wrong_148 : decode cX11_wrong 148 = .ok (.goto 14, 3) := by decide +kernel
theorem dX11_wrong_151 : decode cX11_wrong 151 = .ok (.iload_n 1, 1) := by decide +kernel
theorem dX11_wrong_152 : decode cX11_wrong 152 = .ok (.iconst 1, 1) := by decide +kernel
theorem dX11_wrong_153 : decode cX11_wrong 153 = .ok (.if_icmp .ne 7, 3) := by decide +kernel
theorem dX11_wrong_156 : decode cX11_wrong 156 = .ok (.iload_n 3, 1) := by decide +kernel
theorem dX11_wrong_157 : decode cX11_wrong 157 = .ok (.goto 5, 3) := by decide +kernel
theorem dX11_wrong_160 : decode cX11_wrong 160 = .ok (.iload 4, 2) := by decide +kernel
theorem dX11_wrong_162 : decode cX11_wrong 162 = .ok (.ireturn, 1) := by decide +kernel
set_option maxRecDepth 20000 in
theorem ggX11_moved_X10_chiefAt : GoodIn wsX11_moved wsX10_chiefAt := goodIn_r _ [6, 7, 8, 205, 206, 207, 208, 209, 210, 211, 212, 213, 214, 215, 216, 217, 218, 219, 220, 221, 222, 223] (by decide +kernel) (by decide +kernel)
set_option maxRecDepth 20000 in
theorem gX11_moved_X10_chiefAt : GoodIn wsX11_moved (wsV RX11 101 RX10 yX10_chiefAt wsX10_chiefAt) := goodIn_app (goodIn_of _ (by decide +kernel)) ggX11_moved_X10_chiefAt
set_option maxRecDepth 20000 in
theorem ggX11_moved_X10_hasWorker : GoodIn wsX11_moved wsX10_hasWorker := goodIn_r _ [12, 13, 205, 206, 207, 208, 209, 210, 211, 212, 213, 214, 215, 216, 217, 218, 219, 220, 221, 222, 223] (by decide +kernel) (by decide +kernel)
set_option maxRecDepth 20000 in
theorem gX11_moved_X10_hasWorker : GoodIn wsX11_moved (wsV RX11 122 RX10 yX10_hasWorker wsX10_hasWorker) := goodIn_app (goodIn_of _ (by decide +kernel)) ggX11_moved_X10_hasWorker
set_option maxRecDepth 20000 in
theorem ggX11_moved_X11_gradeUnder : GoodIn wsX11_moved wsX11_gradeUnder := goodIn_r _ [18, 19, 1, 20, 21, 22, 23, 24, 25, 5, 26, 13, 7, 27, 28, 29, 30, 31, 32, 33, 34, 35, 36, 37, 38, 39, 40, 41, 42, 43, 44, 45, 46, 8, 47, 48, 49, 50, 51, 52, 53, 54, 10, 11, 12, 55, 3, 4, 6, 56, 57, 58, 59, 60, 61, 62, 63, 64, 65, 66, 67, 68, 69, 70, 71, 72, 73, 74, 75, 76, 77, 78, 79, 80, 81, 82, 83, 84, 85, 86, 87, 88, 89, 90, 91, 92, 93, 94, 95, 96, 97, 98, 99, 100, 101, 102, 103, 104, 105, 106, 107, 108, 109, 110, 111, 112, 113, 114, 115, 116, 117, 118, 119, 120, 121, 122, 123, 124, 125, 126, 127, 128, 129, 130, 131, 132, 133, 134, 135, 136, 137, 138, 139, 140, 141, 142, 143, 144, 145, 146, 147, 148, 149, 150, 151, 152, 153, 154, 155, 156, 157, 158, 159, 160, 161, 162, 163, 164, 165, 166, 167, 168, 169, 170, 171, 172, 173, 174, 175, 176, 177, 178, 179, 180, 181, 182, 183, 184, 185, 186, 187, 188, 189, 190, 191, 192, 193, 194, 195, 196, 197, 198, 199, 200, 201, 202, 203, 204, 205, 206, 207, 208, 209, 210, 211, 212, 213, 214, 215, 216, 217, 218, 219, 220, 221, 222, 223, 224, 225, 226, 227, 228, 229, 230, 231, 232, 233, 234, 235, 236, 237, 238, 239, 240, 241, 242, 243, 244, 245, 246, 247, 248, 249, 250, 251, 252, 253, 254, 255, 256, 257, 258, 259, 260, 261, 262, 263, 264, 265, 266, 267, 268, 269] (by decide +kernel) (by decide +kernel)
set_option maxRecDepth 20000 in
theorem gX11_moved_X11_gradeUnder : GoodIn wsX11_moved (wsV RX11 174 RX11 yX11_gradeUnder wsX11_gradeUnder) := goodIn_app (goodIn_of _ (by decide +kernel)) ggX11_moved_X11_gradeUnder
theorem dX11_moved_0 : decode cX11_moved 0 = .ok (.aload_n 0, 1) := by decide +kernel
theorem dX11_moved_1 : decode cX11_moved 1 = .ok (.getfield 12, 3) := by decide +kernel
theorem dX11_moved_4 : decode cX11_moved 4 = .ok (.iload_n 2, 1) := by decide +kernel
theorem dX11_moved_5 : decode cX11_moved 5 = .ok (.invokevirtual 101, 3) := by decide +kernel
theorem dX11_moved_8 : decode cX11_moved 8 = .ok (.astore_n 3, 1) := by decide +kernel
theorem dX11_moved_9 : decode cX11_moved 9 = .ok (.aload_n 0, 1) := by decide +kernel
theorem dX11_moved_10 : decode cX11_moved 10 = .ok (.getfield 12, 3) := by decide +kernel
theorem dX11_moved_13 : decode cX11_moved 13 = .ok (.iload_n 1, 1) := by decide +kernel
theorem dX11_moved_14 : decode cX11_moved 14 = .ok (.invokevirtual 122, 3) := by decide +kernel
theorem dX11_moved_17 : decode cX11_moved 17 = .ok (.ifCond .eq 7, 3) := by decide +kernel
theorem dX11_moved_20 : decode cX11_moved 20 = .ok (.aload_n 3, 1) := by decide +kernel
theorem dX11_moved_21 : decode cX11_moved 21 = .ok (.ifnonnull 5, 3) := by decide +kernel
theorem dX11_moved_24 : decode cX11_moved 24 = .ok (.iconst (-1), 1) := by decide +kernel
theorem dX11_moved_25 : decode cX11_moved 25 = .ok (.ireturn, 1) := by decide +kernel
theorem dX11_moved_26 : decode cX11_moved 26 = .ok (.aload_n 0, 1) := by decide +kernel
theorem dX11_moved_27 : decode cX11_moved 27 = .ok (.iload_n 1, 1) := by decide +kernel
theorem dX11_moved_28 : decode cX11_moved 28 = .ok (.aload_n 3, 1) := by decide +kernel
theorem dX11_moved_29 : decode cX11_moved 29 = .ok (.invokevirtual 174, 3) := by decide +kernel
theorem dX11_moved_32 : decode cX11_moved 32 = .ok (.ireturn, 1) := by decide +kernel
set_option maxRecDepth 20000 in
theorem ggX11_best_X10_hasWorker : GoodIn wsX11_best wsX10_hasWorker := goodIn_r _ [6, 7, 205, 206, 207, 208, 209, 210, 211, 212, 213, 214, 215, 216, 217, 218, 219, 220, 221, 222, 223] (by decide +kernel) (by decide +kernel)
set_option maxRecDepth 20000 in
theorem gX11_best_X10_hasWorker : GoodIn wsX11_best (wsV RX11 122 RX10 yX10_hasWorker wsX10_hasWorker) := goodIn_app (goodIn_of _ (by decide +kernel)) ggX11_best_X10_hasWorker
set_option maxRecDepth 20000 in
theorem ggX11_best_X10_chiefAt : GoodIn wsX11_best wsX10_chiefAt := goodIn_r _ [11, 12, 13, 205, 206, 207, 208, 209, 210, 211, 212, 213, 214, 215, 216, 217, 218, 219, 220, 221, 222, 223] (by decide +kernel) (by decide +kernel)
set_option maxRecDepth 20000 in
theorem gX11_best_X10_chiefAt : GoodIn wsX11_best (wsV RX11 101 RX10 yX10_chiefAt wsX10_chiefAt) := goodIn_app (goodIn_of _ (by decide +kernel)) ggX11_best_X10_chiefAt
set_option maxRecDepth 20000 in
theorem ggX11_best_X11_gradeUnder : GoodIn wsX11_best wsX11_gradeUnder := goodIn_r _ [18, 19, 1, 20, 21, 22, 23, 24, 25, 5, 26, 7, 12, 27, 28, 29, 30, 31, 32, 33, 34, 35, 36, 37, 38, 39, 40, 41, 42, 43, 44, 45, 46, 13, 47, 48, 49, 50, 51, 52, 53, 54, 3, 4, 6, 55, 9, 10, 11, 56, 57, 58, 59, 60, 61, 62, 63, 64, 65, 66, 67, 68, 69, 70, 71, 72, 73, 74, 75, 76, 77, 78, 79, 80, 81, 82, 83, 84, 85, 86, 87, 88, 89, 90, 91, 92, 93, 94, 95, 96, 97, 98, 99, 100, 101, 102, 103, 104, 105, 106, 107, 108, 109, 110, 111, 112, 113, 114, 115, 116, 117, 118, 119, 120, 121, 122, 123, 124, 125, 126, 127, 128, 129, 130, 131, 132, 133, 134, 135, 136, 137, 138, 139, 140, 141, 142, 143, 144, 145, 146, 147, 148, 149, 150, 151, 152, 153, 154, 155, 156, 157, 158, 159, 160, 161, 162, 163, 164, 165, 166, 167, 168, 169, 170, 171, 172, 173, 174, 175, 176, 177, 178, 179, 180, 181, 182, 183, 184, 185, 186, 187, 188, 189, 190, 191, 192, 193, 194, 195, 196, 197, 198, 199, 200, 201, 202, 203, 204, 205, 206, 207, 208, 209, 210, 211, 212, 213, 214, 215, 216, 217, 218, 219, 220, 221, 222, 223, 224, 225, 226, 227, 228, 229, 230, 231, 232, 233, 234, 235, 236, 237, 238, 239, 240, 241, 242, 243, 244, 245, 246, 247, 248, 249, 250, 251, 252, 253, 254, 255, 256, 257, 258, 259, 260, 261, 262, 263, 264, 265, 266, 267, 268, 269] (by decide +kernel) (by decide +kernel)
