theorem dX12_swap_92 : decode cX12_swap 92 = .ok (.istore 7, 2) := by decide +kernel
theorem dX12_swap_94 : decode cX12_swap 94 = .ok (.aload_n 0, 1) := by decide +kernel
theorem dX12_swap_95 : decode cX12_swap 95 = .ok (.iload 4, 2) := by decide +kernel
theorem dX12_swap_97 : decode cX12_swap 97 = .ok (.iload 5, 2) := by decide +kernel
theorem dX12_swap_99 : decode cX12_swap 99 = .ok (.invokevirtual 203, 3) := by decide +kernel
theorem dX12_swap_102 : decode cX12_swap 102 = .ok (.aload_n 0, 1) := by decide +kernel
theorem dX12_swap_103 : decode cX12_swap 103 = .ok (.invokevirtual 191, 3) := by decide +kernel
theorem dX12_swap_106 : decode cX12_swap 106 = .ok (.aload_n 0, 1) := by decide +kernel
theorem dX12_swap_107 : decode cX12_swap 107 = .ok (.getfield 31, 3) := by decide +kernel
theorem dX12_swap_110 : decode cX12_swap 110 = .ok (.iload 4, 2) := by decide +kernel
theorem dX12_swap_112 : decode cX12_swap 112 = .ok (.iaload, 1) := by decide +kernel
theorem dX12_swap_113 : decode cX12_swap 113 = .ok (.iload 6, 2) := by decide +kernel
theorem dX12_swap_115 : decode cX12_swap 115 = .ok (.if_icmp .le 19, 3) := by decide +kernel
theorem dX12_swap_118 : decode cX12_swap 118 = .ok (.aload_n 0, 1) := by decide +kernel
theorem dX12_swap_119 : decode cX12_swap 119 = .ok (.getfield 31, 3) := by decide +kernel
theorem dX12_swap_122 : decode cX12_swap 122 = .ok (.iload 5, 2) := by decide +kernel
theorem dX12_swap_124 : decode cX12_swap 124 = .ok (.iaload, 1) := by decide +kernel
theorem dX12_swap_125 : decode cX12_swap 125 = .ok (.iload 7, 2) := by decide +kernel
theorem dX12_swap_127 : decode cX12_swap 127 = .ok (.if_icmp .le 7, 3) := by decide +kernel
theorem dX12_swap_130 : decode cX12_swap 130 = .ok (.iconst 1, 1) := by decide +kernel
theorem dX12_swap_131 : decode cX12_swap 131 = .ok (.goto 4, 3) := by decide +kernel
theorem dX12_swap_134 : decode cX12_swap 134 = .ok (.iconst 0, 1) := by decide +kernel
theorem dX12_swap_135 : decode cX12_swap 135 = .ok (.istore 8, 2) := by decide +kernel
theorem dX12_swap_137 : decode cX12_swap 137 = .ok (.aload_n 0, 1) := by decide +kernel
theorem dX12_swap_138 : decode cX12_swap 138 = .ok (.iload 4, 2) := by decide +kernel
theorem dX12_swap_140 : decode cX12_swap 140 = .ok (.iload 5, 2) := by decide +kernel
theorem dX12_swap_142 : decode cX12_swap 142 = .ok (.invokevirtual 203, 3) := by decide +kernel
theorem dX12_swap_145 : decode cX12_swap 145 = .ok (.iload_n 2, 1) := by decide +kernel
theorem dX12_swap_146 : decode cX12_swap 146 = .ok (.iload 8, 2) := by decide +kernel
theorem dX12_swap_148 : decode cX12_swap 148 = .ok (.ifCond .eq 7, 3) := by decide +kernel
theorem dX12_swap_151 : decode cX12_swap 151 = .ok (.iconst 1, 1) := by decide +kernel
theorem dX12_swap_152 : decode cX12_swap 152 = .ok (.goto 4, 3) := by decide +kernel
theorem dX12_swap_155 : decode cX12_swap 155 = .ok (.iconst 0, 1) := by decide +kernel
theorem dX12_swap_156 : decode cX12_swap 156 = .ok (.iadd, 1) := by decide +kernel
theorem dX12_swap_157 : decode cX12_swap 157 = .ok (.istore_n 2, 1) := by decide +kernel
theorem dX12_swap_158 : decode cX12_swap 158 = .ok (.iload 8, 2) := by decide +kernel
theorem dX12_swap_160 : decode cX12_swap 160 = .ok (.ifCond .eq 20, 3) := by decide +kernel
theorem dX12_swap_163 : decode cX12_swap 163 = .ok (.iload_n 3, 1) := by decide +kernel
theorem dX12_swap_164 : decode cX12_swap 164 = .ok (.bipush (-5), 2) := by decide +kernel
theorem dX12_swap_166 : decode cX12_swap 166 = .ok (.if_icmp .ne 14, 3) := by decide +kernel
theorem dX12_swap_169 : decode cX12_swap 169 = .ok (.bipush 10, 2) := by decide +kernel
theorem dX12_swap_171 : decode cX12_swap 171 = .ok (.iload 4, 2) := by decide +kernel
theorem dX12_swap_173 : decode cX12_swap 173 = .ok (.imul, 1) := by decide +kernel
theorem dX12_swap_174 : decode cX12_swap 174 = .ok (.iload 5, 2) := by decide +kernel
theorem dX12_swap_176 : decode cX12_swap 176 = .ok (.iadd, 1) := by decide +kernel
theorem dX12_swap_177 : decode cX12_swap 177 = .ok (.goto 4, 3) := by decide +kernel
theorem dX12_swap_180 : decode cX12_swap 180 = .ok (.iload_n 3, 1) := by decide +kernel
theorem dX12_swap_181 : decode cX12_swap 181 = .ok (.istore_n 3, 1) := by decide +kernel
theorem dX12_swap_182 : decode cX12_swap 182 = .ok (.iinc 5 1, 3) := by decide +kernel
theorem dX12_swap_185 : decode cX12_swap 185 = .ok (.goto (-148), 3) := by decide +kernel
theorem dX12_swap_188 : decode cX12_swap 188 = .ok (.iinc 4 1, 3) := by decide +kernel
theorem dX12_swap_191 : decode cX12_swap 191 = .ok (.goto (-172), 3) := by decide +kernel
theorem dX12_swap_194 : decode cX12_swap 194 = .ok (.iload_n 1, 1) := by decide +kernel
theorem dX12_swap_195 : decode cX12_swap 195 = .ok (.ifCond .ne 7, 3) := by decide +kernel
theorem dX12_swap_198 : decode cX12_swap 198 = .ok (.iload_n 2, 1) := by decide +kernel
theorem dX12_swap_199 : decode cX12_swap 199 = .ok (.goto 4, 3) := by decide +kernel
theorem dX12_swap_202 : decode cX12_swap 202 = .ok (.iload_n 3, 1) := by decide +kernel
theorem dX12_swap_203 : decode cX12_swap 203 = .ok (.ireturn, 1) := by decide +kernel
theorem dX12_newOne_0 : decode cX12_newOne 0 = .ok (.aload_n 0, 1) := by decide +kernel
theorem dX12_newOne_1 : decode cX12_newOne 1 = .ok (.getfield 9, 3) := by decide +kernel
theorem dX12_newOne_4 : decode cX12_newOne 4 = .ok (.iconst 1, 1) := by decide +kernel
theorem dX12_newOne_5 : decode cX12_newOne 5 = .ok (.iload_n 1, 1) := by decide +kernel
theorem dX12_newOne_6 : decode cX12_newOne 6 = .ok (.iadd, 1) := by decide +kernel
theorem dX12_newOne_7 : decode cX12_newOne 7 = .ok (.aload_n 0, 1) := by decide +kernel
theorem dX12_newOne_8 : decode cX12_newOne 8 = .ok (.getfield 9, 3) := by decide +kernel
theorem dX12_newOne_11 : decode cX12_newOne 11 = .ok (.bipush 57, 2) := by decide +kernel
theorem dX12_newOne_13 : decode cX12_newOne 13 = .ok (.iaload, 1) := by decide +kernel
theorem dX12_newOne_14 : decode cX12_newOne 14 = .ok (.iastore, 1) := by decide +kernel
theorem dX12_newOne_15 : decode cX12_newOne 15 = .ok (.aload_n 0, 1) := by decide +kernel
theorem dX12_newOne_16 : decode cX12_newOne 16 = .ok (.getfield 9, 3) := by decide +kernel
theorem dX12_newOne_19 : decode cX12_newOne 19 = .ok (.bipush 11, 2) := by decide +kernel
theorem dX12_newOne_21 : decode cX12_newOne 21 = .ok (.iload_n 1, 1) := by decide +kernel
theorem dX12_newOne_22 : decode cX12_newOne 22 = .ok (.iadd, 1) := by decide +kernel
theorem dX12_newOne_23 : decode cX12_newOne 23 = .ok (.aload_n 0, 1) := by decide +kernel
theorem dX12_newOne_24 : decode cX12_newOne 24 = .ok (.getfield 9, 3) := by decide +kernel
theorem dX12_newOne_27 : decode cX12_newOne 27 = .ok (.bipush 58, 2) := by decide +kernel
theorem dX12_newOne_29 : decode cX12_newOne 29 = .ok (.iaload, 1) := by decide +kernel
theorem dX12_newOne_30 : decode cX12_newOne 30 = .ok (.iastore, 1) := by decide +kernel
theorem dX12_newOne_31 : decode cX12_newOne 31 = .ok (.aload_n 0, 1) := by decide +kernel
theorem dX12_newOne_32 : decode cX12_newOne 32 = .ok (.getfield 9, 3) := by decide +kernel
theorem dX12_newOne_35 : decode cX12_newOne 35 = .ok (.bipush 21, 2) := by decide +kernel
theorem dX12_newOne_37 : decode cX12_newOne 37 = .ok (.iload_n 1, 1) := by decide +kernel
theorem dX12_newOne_38 : decode cX12_newOne 38 = .ok (.iadd, 1) := by decide +kernel
theorem dX12_newOne_39 : decode cX12_newOne 39 = .ok (.iconst 0, 1) := by decide +kernel
theorem dX12_newOne_40 : decode cX12_newOne 40 = .ok (.iastore, 1) := by decide +kernel
theorem dX12_newOne_41 : decode cX12_newOne 41 = .ok (.return_, 1) := by decide +kernel
set_option maxRecDepth 20000 in
theorem ggX12_yearGoes_X12_duesAll : GoodIn wsX12_yearGoes wsX12_duesAll := goodIn_r _ [8, 1, 9, 10, 2, 11, 12, 7, 13, 14, 15, 16, 17, 18, 19, 20, 21, 22, 23, 24, 25, 26, 27, 28, 29, 30, 31, 32, 33, 34, 35, 36, 37, 75, 76, 77, 78, 79, 80, 81, 82, 83, 84, 85, 86, 87, 88, 89, 90, 91, 92, 93, 94, 95, 96] (by decide +kernel) (by decide +kernel)
set_option maxRecDepth 20000 in
theorem gX12_yearGoes_X12_duesAll : GoodIn wsX12_yearGoes (wsV RX12 194 RX12 yX12_duesAll wsX12_duesAll) := goodIn_app (goodIn_of _ (by decide +kernel)) ggX12_yearGoes_X12_duesAll
set_option maxRecDepth 20000 in
theorem ggX12_yearGoes_X12_gradesAll : GoodIn wsX12_yearGoes wsX12_gradesAll := goodIn_r _ [41, 1, 10, 42, 43, 44, 7, 45, 46, 47, 48, 49, 50, 51, 52, 53, 54, 55, 18, 19, 20, 21, 56, 57, 58, 59, 60, 61, 62, 9, 3, 11, 12, 13, 14, 15, 16, 17, 22, 23, 24, 25, 26, 27, 28, 29, 30, 31, 32, 33, 63, 64, 65, 66, 67, 68, 69, 70, 34, 35, 36, 37, 75, 76, 77, 78, 79, 80, 81, 82, 83, 84, 85, 86, 87, 88, 89, 90, 91, 92, 93, 94, 95, 96] (by decide +kernel) (by decide +kernel)
set_option maxRecDepth 20000 in
theorem gX12_yearGoes_X12_gradesAll : GoodIn wsX12_yearGoes (wsV RX12 191 RX12 yX12_gradesAll wsX12_gradesAll) := goodIn_app (goodIn_of _ (by decide +kernel)) ggX12_yearGoes_X12_gradesAll
set_option maxRecDepth 20000 in
theorem ggX12_yearGoes_X12_told : GoodIn wsX12_yearGoes wsX12_told := goodIn_r _ [17, 1, 18, 19, 20, 7, 21, 75, 76, 77, 78, 79, 80, 81, 82, 83, 84, 85, 86, 87, 88, 89, 90, 91, 92, 93, 94, 95, 96] (by decide +kernel) (by decide +kernel)
set_option maxRecDepth 20000 in
theorem gX12_yearGoes_X12_told : GoodIn wsX12_yearGoes (wsV RX12 169 RX12 yX12_told wsX12_told) := goodIn_app (goodIn_of _ (by decide +kernel)) ggX12_yearGoes_X12_told
set_option maxRecDepth 20000 in
theorem ggX12_yearGoes_X12_newOne : GoodIn wsX12_yearGoes wsX12_newOne := goodIn_r _ [74, 1, 75, 76, 77, 78, 79, 80, 81, 82, 83, 84, 85, 86, 87, 88, 89, 90, 91, 92, 93, 94, 95, 96] (by decide +kernel) (by decide +kernel)
set_option maxRecDepth 20000 in
theorem gX12_yearGoes_X12_newOne : GoodIn wsX12_yearGoes (wsV RX12 206 RX12 yX12_newOne wsX12_newOne) := goodIn_app (goodIn_of _ (by decide +kernel)) ggX12_yearGoes_X12_newOne
theorem dX12_yearGoes_0 : decode cX12_yearGoes 0 = .ok (.aload_n 0, 1) := by decide +kernel
theorem dX12_yearGoes_1 : decode cX12_yearGoes 1 = .ok (.invokevirtual 194, 3) := by decide +kernel
theorem dX12_yearGoes_4 : decode cX12_yearGoes 4 = .ok (.aload_n 0, 1) := by decide +kernel
theorem dX12_yearGoes_5 : decode cX12_yearGoes 5 = .ok (.invokevirtual 191, 3) := by decide +kernel
theorem dX12_yearGoes_8 : decode cX12_yearGoes 8 = .ok (.aload_n 0, 1) := by decide +kernel
theorem dX12_yearGoes_9 : decode cX12_yearGoes 9 = .ok (.getfield 9, 3) := by decide +kernel
theorem dX12_yearGoes_12 : decode cX12_yearGoes 12 = .ok (.bipush 51, 2) := by decide +kernel
theorem dX12_yearGoes_14 : decode cX12_yearGoes 14 = .ok (.iaload, 1) := by decide +kernel
theorem dX12_yearGoes_15 : decode cX12_yearGoes 15 = .ok (.istore_n 2, 1) := by decide +kernel
theorem dX12_yearGoes_16 : decode cX12_yearGoes 16 = .ok (.iconst 0, 1) := by decide +kernel
theorem dX12_yearGoes_17 : decode cX12_yearGoes 17 = .ok (.istore_n 3, 1) := by decide +kernel
theorem dX12_yearGoes_18 : decode cX12_yearGoes 18 = .ok (.iconst 0, 1) := by decide +kernel
theorem dX12_yearGoes_19 : decode cX12_yearGoes 19 = .ok (.istore 4, 2) := by decide +kernel
theorem dX12_yearGoes_21 : decode cX12_yearGoes 21 = .ok (.iload 4, 2) := by decide +kernel
theorem dX12_yearGoes_23 : decode cX12_yearGoes 23 = .ok (.iload_n 2, 1) := by decide +kernel
theorem dX12_yearGoes_24 : decode cX12_yearGoes 24 = .ok (.if_icmp .ge 94, 3) := by decide +kernel
theorem dX12_yearGoes_27 : decode cX12_yearGoes 27 = .ok (.iload_n 1, 1) := by decide +kernel
theorem dX12_yearGoes_28 : decode cX12_yearGoes 28 = .ok (.iconst 3, 1) := by decide +kernel
theorem dX12_yearGoes_29 : decode cX12_yearGoes 29 = .ok (.if_icmp .ne 13, 3) := by decide +kernel
theorem dX12_yearGoes_32 : decode cX12_yearGoes 32 = .ok (.aload_n 0, 1) := by decide +kernel
theorem dX12_yearGoes_33 : decode cX12_yearGoes 33 = .ok (.getfield 34, 3) := by decide +kernel
theorem dX12_yearGoes_36 : decode cX12_yearGoes 36 = .ok (.iload 4, 2) := by decide +kernel
theorem dX12_yearGoes_38 : decode cX12_yearGoes 38 = .ok (.iaload, 1) := by decide +kernel
theorem dX12_yearGoes_39 : decode cX12_yearGoes 39 = .ok (.goto 10, 3) := by decide +kernel
theorem dX12_yearGoes_42 : decode cX12_yearGoes 42 = .ok (.aload_n 0, 1) := by decide +kernel
theorem dX12_yearGoes_43 : decode cX12_yearGoes 43 = .ok (.getfield 31, 3) := by decide +kernel
theorem dX12_yearGoes_46 : decode cX12_yearGoes 46 = .ok (.iload 4, 2) := by decide +kernel
theorem dX12_yearGoes_48 : decode cX12_yearGoes 48 = .ok (.iaload, 1) := by decide +kernel
theorem dX12_yearGoes_49 : decode cX12_yearGoes 49 = .ok (.istore 5, 2) := by decide +kernel
theorem dX12_yearGoes_51 : decode cX12_yearGoes 51 = .ok (.aload_n 0, 1) := by decide +kernel
theorem dX12_yearGoes_52 : decode cX12_yearGoes 52 = .ok (.getfield 9, 3) := by decide +kernel
theorem dX12_yearGoes_55 : decode cX12_yearGoes 55 = .ok (.bipush 21, 2) := by decide +kernel
theorem dX12_yearGoes_57 : decode cX12_yearGoes 57 = .ok (.iload 4, 2) := by decide +kernel
theorem dX12_yearGoes_59 : decode cX12_yearGoes 59 = .ok (.iadd, 1) := by decide +kernel
theorem dX12_yearGoes_60 : decode cX12_yearGoes 60 = .ok (.iaload, 1) := by decide +kernel
theorem dX12_yearGoes_61 : decode cX12_yearGoes 61 = .ok (.aload_n 0, 1) := by decide +kernel
theorem dX12_yearGoes_62 : decode cX12_yearGoes 62 = .ok (.iconst 2, 1) := by decide +kernel
theorem dX12_yearGoes_63 : decode cX12_yearGoes 63 = .ok (.invokevirtual 169, 3) := by decide +kernel
theorem dX12_yearGoes_66 : decode cX12_yearGoes 66 = .ok (.iload 5, 2) := by decide +kernel
theorem dX12_yearGoes_68 : decode cX12_yearGoes 68 = .ok (.imul, 1) := by decide +kernel
theorem dX12_yearGoes_69 : decode cX12_yearGoes 69 = .ok (.iadd, 1) := by decide +kernel
theorem dX12_yearGoes_70 : decode cX12_yearGoes 70 = .ok (.istore 6, 2) := by decide +kernel
theorem dX12_yearGoes_72 : decode cX12_yearGoes 72 = .ok (.aload_n 0, 1) := by decide +kernel
theorem dX12_yearGoes_73 : decode cX12_yearGoes 73 = .ok (.getfield 9, 3) := by decide +kernel
theorem dX12_yearGoes_76 : decode cX12_yearGoes 76 = .ok (.bipush 21, 2) := by decide +kernel
theorem dX12_yearGoes_78 : decode cX12_yearGoes 78 = .ok (.iload 4, 2) := by decide +kernel
theorem dX12_yearGoes_80 : decode cX12_yearGoes 80 = .ok (.iadd, 1) := by decide +kernel
theorem dX12_yearGoes_81 : decode cX12_yearGoes 81 = .ok (.iload 6, 2) := by decide +kernel
theorem dX12_yearGoes_83 : decode cX12_yearGoes 83 = .ok (.sipush 9999, 3) := by decide +kernel
theorem dX12_yearGoes_86 : decode cX12_yearGoes 86 = .ok (.if_icmp .le 9, 3) := by decide +kernel
theorem dX12_yearGoes_89 : decode cX12_yearGoes 89 = .ok (.sipush 9999, 3) := by decide +kernel
theorem dX12_yearGoes_92 : decode cX12_yearGoes 92 = .ok (.goto 5, 3) := by decide +kernel
theorem dX12_yearGoes_95 : decode cX12_yearGoes 95 = .ok (.iload 6, 2) := by decide +kernel
theorem dX12_yearGoes_97 : decode cX12_yearGoes 97 = .ok (.iastore, 1) := by decide +kernel
theorem dX12_yearGoes_98 : decode cX12_yearGoes 98 = .ok (.iload_n 3, 1) := by decide +kernel
theorem dX12_yearGoes_99 : decode cX12_yearGoes 99 = .ok (.iload 5, 2) := by decide +kernel
theorem dX12_yearGoes_101 : decode cX12_yearGoes 101 = .ok (.iconst 1, 1) := by decide +kernel
theorem dX12_yearGoes_102 : decode cX12_yearGoes 102 = .ok (.if_icmp .ne 7, 3) := by decide +kernel
theorem dX12_yearGoes_105 : decode cX12_yearGoes 105 = .ok (.iconst 1, 1) := by decide +kernel
theorem dX12_yearGoes_106 : decode cX12_yearGoes 106 = .ok (.goto 4, 3) := by decide +kernel
theorem dX12_yearGoes_109 : decode cX12_yearGoes 109 = .ok (.iconst 0, 1) := by decide +kernel
theorem dX12_yearGoes_110 : decode cX12_yearGoes 110 = .ok (.iadd, 1) := by decide +kernel
theorem dX12_yearGoes_111 : decode cX12_yearGoes 111 = .ok (.istore_n 3, 1) := by decide +kernel
theorem dX12_yearGoes_112 : decode cX12_yearGoes 112 = .ok (.iinc 4 1, 3) := by decide +kernel
theorem dX12_yearGoes_115 : decode cX12_yearGoes 115 = .ok (.goto (-94), 3) := by decide +kernel
theorem dX12_yearGoes_118 : decode cX12_yearGoes 118 = .ok (.iload_n 1, 1) := by decide +kernel
theorem dX12_yearGoes_119 : decode cX12_yearGoes 119 = .ok (.iconst 1, 1) := by decide +kernel
theorem dX12_yearGoes_120 : decode cX12_yearGoes 120 = .ok (.if_icmp .ne 7, 3) := by decide +kernel
theorem dX12_yearGoes_123 : decode cX12_yearGoes 123 = .ok (.iconst 0, 1) := by decide +kernel
theorem dX12_yearGoes_124 : decode cX12_yearGoes 124 = .ok (.goto 4, 3) := by decide +kernel
theorem dX12_yearGoes_127 : decode cX12_yearGoes 127 = .ok (.iload_n 3, 1) := by decide +kernel
theorem dX12_yearGoes_128 : decode cX12_yearGoes 128 = .ok (.istore_n 3, 1) := by decide +kernel
theorem dX12_yearGoes_129 : decode cX12_yearGoes 129 = .ok (.iconst 0, 1) := by decide +kernel
theorem dX12_yearGoes_130 : decode cX12_yearGoes 130 = .ok (.istore 4, 2) := by decide +kernel
theorem dX12_yearGoes_132 : decode cX12_yearGoes 132 = .ok (.iload 4, 2) := by decide +kernel
theorem dX12_yearGoes_134 : decode cX12_yearGoes 134 = .ok (.iload_n 2, 1) := by decide +kernel
theorem dX12_yearGoes_135 : decode cX12_yearGoes 135 = .ok (.if_icmp .ge 118, 3) := by decide +kernel
theorem dX12_yearGoes_138 : decode cX12_yearGoes 138 = .ok (.iload_n 1, 1) := by decide +kernel
theorem dX12_yearGoes_139 : decode cX12_yearGoes 139 = .ok (.iconst 3, 1) := by decide +kernel
theorem dX12_yearGoes_140 : decode cX12_yearGoes 140 = .ok (.if_icmp .ne 22, 3) := by decide +kernel
theorem dX12_yearGoes_143 : decode cX12_yearGoes 143 = .ok (.aload_n 0, 1) := by decide +kernel
theorem dX12_yearGoes_144 : decode cX12_yearGoes 144 = .ok (.getfield 34, 3) := by decide +kernel
theorem dX12_yearGoes_147 : decode cX12_yearGoes 147 = .ok (.iload 4, 2) := by decide +kernel
theorem dX12_yearGoes_149 : decode cX12_yearGoes 149 = .ok (.iaload, 1) := by decide +kernel
theorem dX12_yearGoes_150 : decode cX12_yearGoes 150 = .ok (.iconst 1, 1) := by decide +kernel
theorem dX12_yearGoes_151 : decode cX12_yearGoes 151 = .ok (.if_icmp .ne 7, 3) := by decide +kernel
theorem dX12_yearGoes_154 : decode cX12_yearGoes 154 = .ok (.iconst 1, 1) := by decide +kernel
theorem dX12_yearGoes_155 : decode cX12_yearGoes 155 = .ok (.goto 23, 3) := by decide +kernel
theorem dX12_yearGoes_158 : decode cX12_yearGoes 158 = .ok (.iconst 0, 1) := by decide +kernel
theorem dX12_yearGoes_159 : decode cX12_yearGoes 159 = .ok (.goto 19, 3) := by decide +kernel
theorem dX12_yearGoes_162 : decode cX12_yearGoes 162 = .ok (.aload_n 0, 1) := by decide +kernel
theorem dX12_yearGoes_163 : decode cX12_yearGoes 163 = .ok (.getfield 31, 3) := by decide +kernel
theorem dX12_yearGoes_166 : decode cX12_yearGoes 166 = .ok (.iload 4, 2) := by decide +kernel
theorem dX12_yearGoes_168 : decode cX12_yearGoes 168 = .ok (.iaload, 1) := by decide +kernel
theorem dX12_yearGoes_169 : decode cX12_yearGoes 169 = .ok (.iconst 1, 1) := by decide +kernel
theorem dX12_yearGoes_170 : decode cX12_yearGoes 170 = .ok (.if_icmp .ne 7, 3) := by decide +kernel
theorem dX12_yearGoes_173 : decode cX12_yearGoes 173 = .ok (.iconst 1, 1) := by decide +kernel
theorem dX12_yearGoes_174 : decode cX12_yearGoes 174 = .ok (.goto 4, 3) := by decide +kernel
theorem dX12_yearGoes_177 : decode cX12_yearGoes 177 = .ok (.iconst 0, 1) := by decide +kernel
theorem dX12_yearGoes_178 : decode cX12_yearGoes 178 = .ok (.istore 5, 2) := by decide +kernel
theorem dX12_yearGoes_180 : decode cX12_yearGoes 180 = .ok (.iload 4, 2) := by decide +kernel
theorem dX12_yearGoes_182 : decode cX12_yearGoes 182 = .ok (.bipush 7, 2) := by decide +kernel
theorem dX12_yearGoes_184 : decode cX12_yearGoes 184 = .ok (.aload_n 0, 1) := by decide +kernel
theorem dX12_yearGoes_185 : decode cX12_yearGoes 185 = .ok (.getfield 9, 3) := by decide +kernel
theorem dX12_yearGoes_188 : decode cX12_yearGoes 188 = .ok (.iconst 0, 1) := by decide +kernel
theorem dX12_yearGoes_189 : decode cX12_yearGoes 189 = .ok (.iaload, 1) := by decide +kernel
theorem dX12_yearGoes_190 : decode cX12_yearGoes 190 = .ok (.imul, 1) := by decide +kernel
theorem dX12_yearGoes_191 : decode cX12_yearGoes 191 = .ok (.iload_n 2, 1) := by decide +kernel
theorem dX12_yearGoes_192 : decode cX12_yearGoes 192 = .ok (.irem, 1) := by decide +kernel
theorem dX12_yearGoes_193 : decode cX12_yearGoes 193 = .ok (.isub, 1) := by decide +kernel
theorem dX12_yearGoes_194 : decode cX12_yearGoes 194 = .ok (.iload_n 2, 1) := by decide +kernel
theorem dX12_yearGoes_195 : decode cX12_yearGoes 195 = .ok (.iadd, 1) := by decide +kernel
theorem dX12_yearGoes_196 : decode cX12_yearGoes 196 = .ok (.iload_n 2, 1) := by decide +kernel
theorem dX12_yearGoes_197 : decode cX12_yearGoes 197 = .ok (.irem, 1) := by decide +kernel
theorem dX12_yearGoes_198 : decode cX12_yearGoes 198 = .ok (.istore 6, 2) := by decide +kernel
theorem dX12_yearGoes_200 : decode cX12_yearGoes 200 = .ok (.iload_n 1, 1) := by decide +kernel
theorem dX12_yearGoes_201 : decode cX12_yearGoes 201 = .ok (.iconst 2, 1) := by decide +kernel
theorem dX12_yearGoes_202 : decode cX12_yearGoes 202 = .ok (.if_icmp .ne 17, 3) := by decide +kernel
theorem dX12_yearGoes_205 : decode cX12_yearGoes 205 = .ok (.iload 6, 2) := by decide +kernel
theorem dX12_yearGoes_207 : decode cX12_yearGoes 207 = .ok (.iload_n 3, 1) := by decide +kernel
theorem dX12_yearGoes_208 : decode cX12_yearGoes 208 = .ok (.if_icmp .ge 7, 3) := by decide +kernel
theorem dX12_yearGoes_211 : decode cX12_yearGoes 211 = .ok (.iconst 1, 1) := by decide +kernel
theorem dX12_yearGoes_212 : decode cX12_yearGoes 212 = .ok (.goto 22, 3) := by decide +kernel
theorem dX12_yearGoes_215 : decode cX12_yearGoes 215 = .ok (.iconst 0, 1) := by decide +kernel
theorem dX12_yearGoes_216 : decode cX12_yearGoes 216 = .ok (.goto 18, 3) := by decide +kernel
theorem dX12_yearGoes_219 : decode cX12_yearGoes 219 = .ok (.iload 5, 2) := by decide +kernel
theorem dX12_yearGoes_221 : decode cX12_yearGoes 221 = .ok (.ifCond .eq 12, 3) := by decide +kernel
theorem dX12_yearGoes_224 : decode cX12_yearGoes 224 = .ok (.iload_n 1, 1) := by decide +kernel
theorem dX12_yearGoes_225 : decode cX12_yearGoes 225 = .ok (.iconst 1, 1) := by decide +kernel
theorem dX12_yearGoes_226 : decode cX12_yearGoes 226 = .ok (.if_icmp .eq 7, 3) := by decide +kernel
theorem dX12_yearGoes_229 : decode cX12_yearGoes 229 = .ok (.iconst 1, 1) := by decide +kernel
theorem dX12_yearGoes_230 : decode cX12_yearGoes 230 = .ok (.goto 4, 3) := by decide +kernel
theorem dX12_yearGoes_233 : decode cX12_yearGoes 233 = .ok (.iconst 0, 1) := by decide +kernel
theorem dX12_yearGoes_234 : decode cX12_yearGoes 234 = .ok (.istore 5, 2) := by decide +kernel
theorem dX12_yearGoes_236 : decode cX12_yearGoes 236 = .ok (.iload 5, 2) := by decide +kernel
theorem dX12_yearGoes_238 : decode cX12_yearGoes 238 = .ok (.ifCond .eq 9, 3) := by decide +kernel
theorem dX12_yearGoes_241 : decode cX12_yearGoes 241 = .ok (.aload_n 0, 1) := by decide +kernel
theorem dX12_yearGoes_242 : decode cX12_yearGoes 242 = .ok (.iload 4, 2) := by decide +kernel
theorem dX12_yearGoes_244 : decode cX12_yearGoes 244 = .ok (.invokevirtual 206, 3) := by decide +kernel
theorem dX12_yearGoes_247 : decode cX12_yearGoes 247 = .ok (.iinc 4 1, 3) := by decide +kernel
theorem dX12_yearGoes_250 : decode cX12_yearGoes 250 = .ok (.goto (-118), 3) := by decide +kernel
theorem dX12_yearGoes_253 : decode cX12_yearGoes 253 = .ok (.aload_n 0, 1) := by decide +kernel
theorem dX12_yearGoes_254 : decode cX12_yearGoes 254 = .ok (.getfield 9, 3) := by decide +kernel
theorem dX12_yearGoes_257 : decode cX12_yearGoes 257 = .ok (.iconst 0, 1) := by decide +kernel
theorem dX12_yearGoes_258 : decode cX12_yearGoes 258 = .ok (.dup2, 1) := by decide +kernel
theorem dX12_yearGoes_259 : decode cX12_yearGoes 259 = .ok (.iaload, 1) := by decide +kernel
theorem dX12_yearGoes_260 : decode cX12_yearGoes 260 = .ok (.iconst 1, 1) := by decide +kernel
theorem dX12_yearGoes_261 : decode cX12_yearGoes 261 = .ok (.iadd, 1) := by decide +kernel
theorem dX12_yearGoes_262 : decode cX12_yearGoes 262 = .ok (.iastore, 1) := by decide +kernel
theorem dX12_yearGoes_263 : decode cX12_yearGoes 263 = .ok (.iload_n 3, 1) := by decide +kernel
theorem dX12_yearGoes_264 : decode cX12_yearGoes 264 = .ok (.ireturn, 1) := by decide +kernel
set_option maxRecDepth 20000 in
theorem ggX12_year_X12_yearGoes : GoodIn wsX12_year wsX12_yearGoes := goodIn_r _ [6, 1, 7, 8, 9, 10, 11, 5, 12, 13, 14, 15, 16, 17, 18, 19, 20, 21, 22, 23, 24, 25, 26, 27, 28, 29, 30, 31, 32, 33, 34, 35, 36, 37, 38, 39, 40, 41, 42, 43, 44, 45, 46, 47, 48, 49, 50, 51, 52, 53, 54, 55, 56, 57, 58, 59, 60, 61, 62, 63, 64, 65, 66, 67, 68, 69, 70, 71, 72, 73, 74, 75, 76, 77, 78, 79, 80, 81, 82, 83, 84, 85, 86, 87, 88, 89, 90, 91, 92, 93, 94, 95, 96, 97, 98, 99, 100] (by decide +kernel) (by decide +kernel)
set_option maxRecDepth 20000 in
theorem gX12_year_X12_yearGoes : GoodIn wsX12_year (wsV RX12 209 RX12 yX12_yearGoes wsX12_yearGoes) := goodIn_app (goodIn_of _ (by decide +kernel)) ggX12_year_X12_yearGoes
theorem dX12_year_0 : decode cX12_year 0 = .ok (.aload_n 0, 1) := by decide +kernel
theorem dX12_year_1 : decode cX12_year 1 = .ok (.getfield 9, 3) := by decide +kernel
theorem dX12_year_4 : decode cX12_year 4 = .ok (.iconst 0, 1) := by decide +kernel
theorem dX12_year_5 : decode cX12_year 5 = .ok (.iaload, 1) := by decide +kernel
theorem dX12_year_6 : decode cX12_year 6 = .ok (.bipush 99, 2) := by decide +kernel
theorem dX12_year_8 : decode cX12_year 8 = .ok (.if_icmp .ne 8, 3) := by decide +kernel
theorem dX12_year_11 : decode cX12_year 11 = .ok (.bipush (-3), 2) := by decide +kernel
theorem dX12_year_13 : decode cX12_year 13 = .ok (.goto 8, 3) := by decide +kernel
theorem dX12_year_16 : decode cX12_year 16 = .ok (.aload_n 0, 1) := by decide +kernel
theorem dX12_year_17 : decode cX12_year 17 = .ok (.iconst 0, 1) := by decide +kernel
theorem dX12_year_18 : decode cX12_year 18 = .ok (.invokevirtual 209, 3) := by decide +kernel
theorem dX12_year_21 : decode cX12_year 21 = .ok (.ireturn, 1) := by decide +kernel
set_option maxRecDepth 20000 in
theorem ggX12_years_X12_in : GoodIn wsX12_years wsX12_in := goodIn_r _ [5] (by decide +kernel) (by decide +kernel)
set_option maxRecDepth 20000 in
theorem gX12_years_X12_in : GoodIn wsX12_years (va_wsS RX12 50 yX12_in wsX12_in) := goodIn_app (goodIn_of _ (by decide +kernel)) ggX12_years_X12_in
set_option maxRecDepth 20000 in
theorem ggX12_years_X12_isWorker : GoodIn wsX12_years wsX12_isWorker := goodIn_r _ [9, 1, 2, 3, 4, 5, 95, 96, 97, 98, 99, 100, 101, 102, 103, 104, 105, 106, 107, 108, 109, 110, 111, 112, 113, 114, 115, 116] (by decide +kernel) (by decide +kernel)
set_option maxRecDepth 20000 in
theorem gX12_years_X12_isWorker : GoodIn wsX12_years (wsV RX12 146 RX12 yX12_isWorker wsX12_isWorker) := goodIn_app (goodIn_of _ (by decide +kernel)) ggX12_years_X12_isWorker
set_option maxRecDepth 20000 in
theorem ggX12_years_X12_keeps : GoodIn wsX12_years wsX12_keeps := goodIn_r _ [13, 14, 1, 95, 96, 97, 98, 99, 100, 101, 102, 103, 104, 105, 106, 107, 108, 109, 110, 111, 112, 113, 114, 115, 116] (by decide +kernel) (by decide +kernel)
set_option maxRecDepth 20000 in
theorem gX12_years_X12_keeps : GoodIn wsX12_years (wsV RX12 212 RX12 yX12_keeps wsX12_keeps) := goodIn_app (goodIn_of _ (by decide +kernel)) ggX12_years_X12_keeps
set_option maxRecDepth 20000 in
theorem ggX12_years_X12_yearGoes : GoodIn wsX12_years wsX12_yearGoes := goodIn_r _ [18, 1, 19, 20, 21, 22, 23, 4, 24, 25, 26, 27, 28, 29, 30, 31, 32, 33, 34, 35, 36, 37, 38, 39, 40, 41, 42, 43, 44, 45, 46, 47, 48, 49, 50, 51, 52, 53, 54, 55, 56, 57, 58, 59, 60, 61, 62, 63, 64, 65, 66, 67, 68, 69, 70, 71, 72, 73, 74, 75, 76, 77, 78, 79, 80, 81, 82, 83, 84, 85, 86, 87, 88, 89, 90, 95, 96, 97, 98, 99, 100, 101, 102, 103, 104, 105, 106, 107, 108, 109, 110, 111, 112, 113, 114, 115, 116] (by decide +kernel) (by decide +kernel)
set_option maxRecDepth 20000 in
theorem gX12_years_X12_yearGoes : GoodIn wsX12_years (wsV RX12 209 RX12 yX12_yearGoes wsX12_yearGoes) := goodIn_app (goodIn_of _ (by decide +kernel)) ggX12_years_X12_yearGoes
set_option maxRecDepth 20000 in
theorem ggX12_years_X12_goesBack : GoodIn wsX12_years wsX12_goesBack := goodIn_r _ [94, 1, 14, 95, 96, 97, 98, 99, 100, 101, 102, 103, 104, 105, 106, 107, 108, 109, 110, 111, 112, 113, 114, 115, 116] (by decide +kernel) (by decide +kernel)
set_option maxRecDepth 20000 in
theorem gX12_years_X12_goesBack : GoodIn wsX12_years (wsV RX12 215 RX12 yX12_goesBack wsX12_goesBack) := goodIn_app (goodIn_of _ (by decide +kernel)) ggX12_years_X12_goesBack
theorem dX12_years_0 : decode cX12_years 0 = .ok (.iload_n 2, 1) := by decide +kernel
theorem dX12_years_1 : decode cX12_years 1 = .ok (.iconst 0, 1) := by decide +kernel
theorem dX12_years_2 : decode cX12_years 2 = .ok (.iconst 3, 1) := by decide +kernel
theorem dX12_years_3 : decode cX12_years 3 = .ok (.invokestatic 50, 3) := by decide +kernel
theorem dX12_years_6 : decode cX12_years 6 = .ok (.ifCond .eq 29, 3) := by decide +kernel
theorem dX12_years_9 : decode cX12_years 9 = .ok (.iload_n 3, 1) := by decide +kernel
theorem dX12_years_10 : decode cX12_years 10 = .ok (.iconst 0, 1) := by decide +kernel
theorem dX12_years_11 : decode cX12_years 11 = .ok (.iconst 1, 1) := by decide +kernel
theorem dX12_years_12 : decode cX12_years 12 = .ok (.invokestatic 50, 3) := by decide +kernel
theorem dX12_years_15 : decode cX12_years 15 = .ok (.ifCond .ne 24, 3) := by decide +kernel
theorem dX12_years_18 : decode cX12_years 18 = .ok (.iload_n 3, 1) := by decide +kernel
theorem dX12_years_19 : decode cX12_years 19 = .ok (.bipush 10, 2) := by decide +kernel
theorem dX12_years_21 : decode cX12_years 21 = .ok (.if_icmp .lt 14, 3) := by decide +kernel
theorem dX12_years_24 : decode cX12_years 24 = .ok (.aload_n 0, 1) := by decide +kernel
theorem dX12_years_25 : decode cX12_years 25 = .ok (.iload_n 3, 1) := by decide +kernel
theorem dX12_years_26 : decode cX12_years 26 = .ok (.bipush 10, 2) := by decide +kernel
theorem dX12_years_28 : decode cX12_years 28 = .ok (.isub, 1) := by decide +kernel
theorem dX12_years_29 : decode cX12_years 29 = .ok (.invokevirtual 146, 3) := by decide +kernel
theorem dX12_years_32 : decode cX12_years 32 = .ok (.ifCond .ne 7, 3) := by decide +kernel
theorem dX12_years_35 : decode cX12_years 35 = .ok (.sipush (-1001), 3) := by decide +kernel
theorem dX12_years_38 : decode cX12_years 38 = .ok (.ireturn, 1) := by decide +kernel
theorem dX12_years_39 : decode cX12_years 39 = .ok (.iload_n 1, 1) := by decide +kernel
theorem dX12_years_40 : decode cX12_years 40 = .ok (.iconst 0, 1) := by decide +kernel
theorem dX12_years_41 : decode cX12_years 41 = .ok (.bipush 20, 2) := by decide +kernel
theorem dX12_years_43 : decode cX12_years 43 = .ok (.invokestatic 50, 3) := by decide +kernel
theorem dX12_years_46 : decode cX12_years 46 = .ok (.ifCond .ne 7, 3) := by decide +kernel
theorem dX12_years_49 : decode cX12_years 49 = .ok (.sipush (-1002), 3) := by decide +kernel
theorem dX12_years_52 : decode cX12_years 52 = .ok (.ireturn, 1) := by decide +kernel
theorem dX12_years_53 : decode cX12_years 53 = .ok (.aload_n 0, 1) := by decide +kernel
theorem dX12_years_54 : decode cX12_years 54 = .ok (.invokevirtual 212, 3) := by decide +kernel
theorem dX12_years_57 : decode cX12_years 57 = .ok (.iconst 0, 1) := by decide +kernel
theorem dX12_years_58 : decode cX12_years 58 = .ok (.istore 4, 2) := by decide +kernel
theorem dX12_years_60 : decode cX12_years 60 = .ok (.iconst 0, 1) := by decide +kernel
theorem dX12_years_61 : decode cX12_years 61 = .ok (.istore 5, 2) := by decide +kernel
theorem dX12_years_63 : decode cX12_years 63 = .ok (.iload 5, 2) := by decide +kernel
theorem dX12_years_65 : decode cX12_years 65 = .ok (.iload_n 1, 1) := by decide +kernel
theorem dX12_years_66 : decode cX12_years 66 = .ok (.if_icmp .ge 19, 3) := by decide +kernel
theorem dX12_years_69 : decode cX12_years 69 = .ok (.iload 4, 2) := by decide +kernel
theorem dX12_years_71 : decode cX12_years 71 = .ok (.aload_n 0, 1) := by decide +kernel
theorem dX12_years_72 : decode cX12_years 72 = .ok (.iload_n 2, 1) := by decide +kernel
theorem dX12_years_73 : decode cX12_years 73 = .ok (.invokevirtual 209, 3) := by decide +kernel
theorem dX12_years_76 : decode cX12_years 76 = .ok (.iadd, 1) := by decide +kernel
theorem dX12_years_77 : decode cX12_years 77 = .ok (.istore 4, 2) := by decide +kernel
theorem dX12_years_79 : decode cX12_years 79 = .ok (.iinc 5 1, 3) := by decide +kernel
theorem dX12_years_82 : decode cX12_years 82 = .ok (.goto (-19), 3) := by decide +kernel
theorem dX12_years_85 : decode cX12_years 85 = .ok (.iconst 0, 1) := by decide +kernel
theorem dX12_years_86 : decode cX12_years 86 = .ok (.istore 5, 2) := by decide +kernel
theorem dX12_years_88 : decode cX12_years 88 = .ok (.iconst 0, 1) := by decide +kernel
theorem dX12_years_89 : decode cX12_years 89 = .ok (.istore 6, 2) := by decide +kernel
theorem dX12_years_91 : decode cX12_years 91 = .ok (.iload 6, 2) := by decide +kernel
theorem dX12_years_93 : decode cX12_years 93 = .ok (.aload_n 0, 1) := by decide +kernel
theorem dX12_years_94 : decode cX12_years 94 = .ok (.getfield 9, 3) := by decide +kernel
theorem dX12_years_97 : decode cX12_years 97 = .ok (.bipush 51, 2) := by decide +kernel
theorem dX12_years_99 : decode cX12_years 99 = .ok (.iaload, 1) := by decide +kernel
theorem dX12_years_100 : decode cX12_years 100 = .ok (.if_icmp .ge 23, 3) := by decide +kernel
theorem dX12_years_103 : decode cX12_years 103 = .ok (.iload 5, 2) := by decide +kernel
theorem dX12_years_105 : decode cX12_years 105 = .ok (.aload_n 0, 1) := by decide +kernel
theorem dX12_years_106 : decode cX12_years 106 = .ok (.getfield 9, 3) := by decide +kernel
theorem dX12_years_109 : decode cX12_years 109 = .ok (.iconst 1, 1) := by decide +kernel
theorem dX12_years_110 : decode cX12_years 110 = .ok (.iload 6, 2) := by decide +kernel
theorem dX12_years_112 : decode cX12_years 112 = .ok (.iadd, 1) := by decide +kernel
theorem dX12_years_113 : decode cX12_years 113 = .ok (.iaload, 1) := by decide +kernel
theorem dX12_years_114 : decode cX12_years 114 = .ok (.iadd, 1) := by decide +kernel
theorem dX12_years_115 : decode cX12_years 115 = .ok (.istore 5, 2) := by decide +kernel
theorem dX12_years_117 : decode cX12_years 117 = .ok (.iinc 6 1, 3) := by decide +kernel
theorem dX12_years_120 : decode cX12_years 120 = .ok (.goto (-29), 3) := by decide +kernel
theorem dX12_years_123 : decode cX12_years 123 = .ok (.iload_n 3, 1) := by decide +kernel
theorem dX12_years_124 : decode cX12_years 124 = .ok (.ifCond .ne 8, 3) := by decide +kernel
theorem dX12_years_127 : decode cX12_years 127 = .ok (.iload 5, 2) := by decide +kernel
theorem dX12_years_129 : decode cX12_years 129 = .ok (.goto 25, 3) := by decide +kernel
theorem dX12_years_132 : decode cX12_years 132 = .ok (.iload_n 3, 1) := by decide +kernel
theorem dX12_years_133 : decode cX12_years 133 = .ok (.iconst 1, 1) := by decide +kernel
theorem dX12_years_134 : decode cX12_years 134 = .ok (.if_icmp .ne 8, 3) := by decide +kernel
theorem dX12_years_137 : decode cX12_years 137 = .ok (.iload 4, 2) := by decide +kernel
theorem dX12_years_139 : decode cX12_years 139 = .ok (.goto 15, 3) := by decide +kernel
theorem dX12_years_142 : decode cX12_years 142 = .ok (.aload_n 0, 1) := by decide +kernel
theorem dX12_years_143 : decode cX12_years 143 = .ok (.getfield 9, 3) := by decide +kernel
theorem dX12_years_146 : decode cX12_years 146 = .ok (.bipush 21, 2) := by decide +kernel
theorem dX12_years_148 : decode cX12_years 148 = .ok (.iload_n 3, 1) := by decide +kernel
theorem dX12_years_149 : decode cX12_years 149 = .ok (.iadd, 1) := by decide +kernel
theorem dX12_years_150 : decode cX12_years 150 = .ok (.bipush 10, 2) := by decide +kernel
theorem dX12_years_152 : decode cX12_years 152 = .ok (.isub, 1) := by decide +kernel
theorem dX12_years_153 : decode cX12_years 153 = .ok (.iaload, 1) := by decide +kernel
theorem dX12_years_154 : decode cX12_years 154 = .ok (.istore 6, 2) := by decide +kernel
theorem dX12_years_156 : decode cX12_years 156 = .ok (.aload_n 0, 1) := by decide +kernel
theorem dX12_years_157 : decode cX12_years 157 = .ok (.invokevirtual 215, 3) := by decide +kernel
theorem dX12_years_160 : decode cX12_years 160 = .ok (.iload 6, 2) := by decide +kernel
theorem dX12_years_162 : decode cX12_years 162 = .ok (.ireturn, 1) := by decide +kernel
theorem dX12_chooses_0 : decode cX12_chooses 0 = .ok (.iload_n 1, 1) := by decide +kernel
theorem dX12_chooses_1 : decode cX12_chooses 1 = .ok (.ifCond .lt 8, 3) := by decide +kernel
theorem dX12_chooses_4 : decode cX12_chooses 4 = .ok (.iload_n 1, 1) := by decide +kernel
theorem dX12_chooses_5 : decode cX12_chooses 5 = .ok (.iload_n 0, 1) := by decide +kernel
theorem dX12_chooses_6 : decode cX12_chooses 6 = .ok (.if_icmp .le 5, 3) := by decide +kernel
theorem dX12_chooses_9 : decode cX12_chooses 9 = .ok (.lconst 0, 1) := by decide +kernel
theorem dX12_chooses_10 : decode cX12_chooses 10 = .ok (.lreturn, 1) := by decide +kernel
theorem dX12_chooses_11 : decode cX12_chooses 11 = .ok (.lconst 1, 1) := by decide +kernel
theorem dX12_chooses_12 : decode cX12_chooses 12 = .ok (.lstore_n 2, 1) := by decide +kernel
theorem dX12_chooses_13 : decode cX12_chooses 13 = .ok (.iconst 1, 1) := by decide +kernel
theorem dX12_chooses_14 : decode cX12_chooses 14 = .ok (.istore 4, 2) := by decide +kernel
theorem dX12_chooses_16 : decode cX12_chooses 16 = .ok (.iload 4, 2) := by decide +kernel
theorem dX12_chooses_18 : decode cX12_chooses 18 = .ok (.iload_n 1, 1) := by decide +kernel
theorem dX12_chooses_19 : decode cX12_chooses 19 = .ok (.if_icmp .gt 23, 3) := by decide +kernel
theorem dX12_chooses_22 : decode cX12_chooses 22 = .ok (.lload_n 2, 1) := by decide +kernel
theorem dX12_chooses_23 : decode cX12_chooses 23 = .ok (.iload_n 0, 1) := by decide +kernel
theorem dX12_chooses_24 : decode cX12_chooses 24 = .ok (.iload_n 1, 1) := by decide +kernel
theorem dX12_chooses_25 : decode cX12_chooses 25 = .ok (.isub, 1) := by decide +kernel
theorem dX12_chooses_26 : decode cX12_chooses 26 = .ok (.iload 4, 2) := by decide +kernel
theorem dX12_chooses_28 : decode cX12_chooses 28 = .ok (.iadd, 1) := by decide +kernel
theorem dX12_chooses_29 : decode cX12_chooses 29 = .ok (.i2l, 1) := by decide +kernel
theorem dX12_chooses_30 : decode cX12_chooses 30 = .ok (.lmul, 1) := by decide +kernel
theorem dX12_chooses_31 : decode cX12_chooses 31 = .ok (.iload 4, 2) := by decide +kernel
theorem dX12_chooses_33 : decode cX12_chooses 33 = .ok (.i2l, 1) := by decide +kernel
theorem dX12_chooses_34 : decode cX12_chooses 34 = .ok (.ldiv, 1) := by decide +kernel
theorem dX12_chooses_35 : decode cX12_chooses 35 = .ok (.lstore_n 2, 1) := by decide +kernel
theorem dX12_chooses_36 : decode cX12_chooses 36 = .ok (.iinc 4 1, 3) := by decide +kernel
theorem dX12_chooses_39 : decode cX12_chooses 39 = .ok (.goto (-23), 3) := by decide +kernel
theorem dX12_chooses_42 : decode cX12_chooses 42 = .ok (.lload_n 2, 1) := by decide +kernel
theorem dX12_chooses_43 : decode cX12_chooses 43 = .ok (.lreturn, 1) := by decide +kernel
theorem dX12_divisor_0 : decode cX12_divisor 0 = .ok (.lload_n 0, 1) := by decide +kernel
theorem dX12_divisor_1 : decode cX12_divisor 1 = .ok (.lconst 0, 1) := by decide +kernel
theorem dX12_divisor_2 : decode cX12_divisor 2 = .ok (.lcmp, 1) := by decide +kernel
theorem dX12_divisor_3 : decode cX12_divisor 3 = .ok (.ifCond .ge 8, 3) := by decide +kernel
theorem dX12_divisor_6 : decode cX12_divisor 6 = .ok (.lload_n 0, 1) := by decide +kernel
theorem dX12_divisor_7 : decode cX12_divisor 7 = .ok (.lneg, 1) := by decide +kernel
theorem dX12_divisor_8 : decode cX12_divisor 8 = .ok (.goto 4, 3) := by decide +kernel
theorem dX12_divisor_11 : decode cX12_divisor 11 = .ok (.lload_n 0, 1) := by decide +kernel
theorem dX12_divisor_12 : decode cX12_divisor 12 = .ok (.lstore 4, 2) := by decide +kernel
theorem dX12_divisor_14 : decode cX12_divisor 14 = .ok (.lload_n 2, 1) := by decide +kernel
theorem dX12_divisor_15 : decode cX12_divisor 15 = .ok (.lstore 6, 2) := by decide +kernel
theorem dX12_divisor_17 : decode cX12_divisor 17 = .ok (.lload 6, 2) := by decide +kernel
theorem dX12_divisor_19 : decode cX12_divisor 19 = .ok (.lconst 0, 1) := by decide +kernel
theorem dX12_divisor_20 : decode cX12_divisor 20 = .ok (.lcmp, 1) := by decide +kernel
theorem dX12_divisor_21 : decode cX12_divisor 21 = .ok (.ifCond .eq 21, 3) := by decide +kernel
theorem dX12_divisor_24 : decode cX12_divisor 24 = .ok (.lload 4, 2) := by decide +kernel
theorem dX12_divisor_26 : decode cX12_divisor 26 = .ok (.lload 6, 2) := by decide +kernel
theorem dX12_divisor_28 : decode cX12_divisor 28 = .ok (.lrem, 1) := by decide +kernel
theorem dX12_divisor_29 : decode cX12_divisor 29 = .ok (.lstore 8, 2) := by decide +kernel
theorem dX12_divisor_31 : decode cX12_divisor 31 = .ok (.lload 6, 2) := by decide +kernel
theorem dX12_divisor_33 : decode cX12_divisor 33 = .ok (.lstore 4, 2) := by decide +kernel
theorem dX12_divisor_35 : decode cX12_divisor 35 = .ok (.lload 8, 2) := by decide +kernel
theorem dX12_divisor_37 : decode cX12_divisor 37 = .ok (.lstore 6, 2) := by decide +kernel
theorem dX12_divisor_39 : decode cX12_divisor 39 = .ok (.goto (-22), 3) := by decide +kernel
theorem dX12_divisor_42 : decode cX12_divisor 42 = .ok (.lload 4, 2) := by decide +kernel
theorem dX12_divisor_44 : decode cX12_divisor 44 = .ok (.lreturn, 1) := by decide +kernel
set_option maxRecDepth 20000 in
theorem ggX12_lowest_X12_divisor : GoodIn wsX12_lowest wsX12_divisor := goodIn_r _ [4] (by decide +kernel) (by decide +kernel)
set_option maxRecDepth 20000 in
theorem gX12_lowest_X12_divisor : GoodIn wsX12_lowest (va_wsS RX12 218 yX12_divisor wsX12_divisor) := goodIn_app (goodIn_of _ (by decide +kernel)) ggX12_lowest_X12_divisor
theorem dX12_lowest_0 : decode cX12_lowest 0 = .ok (.iload 4, 2) := by decide +kernel
theorem dX12_lowest_2 : decode cX12_lowest 2 = .ok (.ifCond .ne 7, 3) := by decide +kernel
theorem dX12_lowest_5 : decode cX12_lowest 5 = .ok (.lload_n 0, 1) := by decide +kernel
theorem dX12_lowest_6 : decode cX12_lowest 6 = .ok (.goto 4, 3) := by decide +kernel
theorem dX12_lowest_9 : decode cX12_lowest 9 = .ok (.lload_n 2, 1) := by decide +kernel
theorem dX12_lowest_10 : decode cX12_lowest 10 = .ok (.lload_n 0, 1) := by decide +kernel
theorem dX12_lowest_11 : decode cX12_lowest 11 = .ok (.lload_n 2, 1) := by decide +kernel
theorem dX12_lowest_12 : decode cX12_lowest 12 = .ok (.invokestatic 218, 3) := by decide +kernel
theorem dX12_lowest_15 : decode cX12_lowest 15 = .ok (.ldiv, 1) := by decide +kernel
theorem dX12_lowest_16 : decode cX12_lowest 16 = .ok (.lreturn, 1) := by decide +kernel
set_option maxRecDepth 20000 in
theorem ggX12_chance_X12_in : GoodIn wsX12_chance wsX12_in := goodIn_r _ [5] (by decide +kernel) (by decide +kernel)
set_option maxRecDepth 20000 in
theorem gX12_chance_X12_in : GoodIn wsX12_chance (va_wsS RX12 50 yX12_in wsX12_in) := goodIn_app (goodIn_of _ (by decide +kernel)) ggX12_chance_X12_in
set_option maxRecDepth 20000 in
theorem ggX12_chance_X12_chooses : GoodIn wsX12_chance wsX12_chooses := goodIn_r _ [8] (by decide +kernel) (by decide +kernel)
set_option maxRecDepth 20000 in
theorem gX12_chance_X12_chooses : GoodIn wsX12_chance (va_wsS RX12 224 yX12_chooses wsX12_chooses) := goodIn_app (goodIn_of _ (by decide +kernel)) ggX12_chance_X12_chooses
set_option maxRecDepth 20000 in
theorem ggX12_chance_X12_lowest : GoodIn wsX12_chance wsX12_lowest := goodIn_r _ [11, 12, 13, 4, 14] (by decide +kernel) (by decide +kernel)
set_option maxRecDepth 20000 in
theorem gX12_chance_X12_lowest : GoodIn wsX12_chance (va_wsS RX12 228 yX12_lowest wsX12_lowest) := goodIn_app (goodIn_of _ (by decide +kernel)) ggX12_chance_X12_lowest
theorem dX12_chance_0 : decode cX12_chance 0 = .ok (.iload_n 1, 1) := by decide +kernel
theorem dX12_chance_1 : decode cX12_chance 1 = .ok (.iconst 1, 1) := by decide +kernel
theorem dX12_chance_2 : decode cX12_chance 2 = .ok (.bipush 30, 2) := by decide +kernel
theorem dX12_chance_4 : decode cX12_chance 4 = .ok (.invokestatic 50, 3) := by decide +kernel
theorem dX12_chance_7 : decode cX12_chance 7 = .ok (.ifCond .eq 41, 3) := by decide +kernel
theorem dX12_chance_10 : decode cX12_chance 10 = .ok (.iload_n 2, 1) := by decide +kernel
theorem dX12_chance_11 : decode cX12_chance 11 = .ok (.iconst 0, 1) := by decide +kernel
theorem dX12_chance_12 : decode cX12_chance 12 = .ok (.iload_n 1, 1) := by decide +kernel
theorem dX12_chance_13 : decode cX12_chance 13 = .ok (.invokestatic 50, 3) := by decide +kernel
theorem dX12_chance_16 : decode cX12_chance 16 = .ok (.ifCond .eq 32, 3) := by decide +kernel
theorem dX12_chance_19 : decode cX12_chance 19 = .ok (.iload_n 3, 1) := by decide +kernel
theorem dX12_chance_20 : decode cX12_chance 20 = .ok (.iconst 0, 1) := by decide +kernel
theorem dX12_chance_21 : decode cX12_chance 21 = .ok (.iload_n 1, 1) := by decide +kernel
theorem dX12_chance_22 : decode cX12_chance 22 = .ok (.invokestatic 50, 3) := by decide +kernel
theorem dX12_chance_25 : decode cX12_chance 25 = .ok (.ifCond .eq 23, 3) := by decide +kernel
theorem dX12_chance_28 : decode cX12_chance 28 = .ok (.iload 4, 2) := by decide +kernel
theorem dX12_chance_30 : decode cX12_chance 30 = .ok (.iconst 0, 1) := by decide +kernel
theorem dX12_chance_31 : decode cX12_chance 31 = .ok (.iload_n 3, 1) := by decide +kernel
theorem dX12_chance_32 : decode cX12_chance 32 = .ok (.invokestatic 50, 3) := by decide +kernel
theorem dX12_chance_35 : decode cX12_chance 35 = .ok (.ifCond .eq 13, 3) := by decide +kernel
theorem dX12_chance_38 : decode cX12_chance 38 = .ok (.iload 5, 2) := by decide +kernel
theorem dX12_chance_40 : decode cX12_chance 40 = .ok (.iconst 0, 1) := by decide +kernel
theorem dX12_chance_41 : decode cX12_chance 41 = .ok (.iconst 1, 1) := by decide +kernel
theorem dX12_chance_42 : decode cX12_chance 42 = .ok (.invokestatic 50, 3) := by decide +kernel
theorem dX12_chance_45 : decode cX12_chance 45 = .ok (.ifCond .ne 7, 3) := by decide +kernel
theorem dX12_chance_48 : decode cX12_chance 48 = .ok (.ldc2_w 222, 3) := by decide +kernel
theorem dX12_chance_51 : decode cX12_chance 51 = .ok (.lreturn, 1) := by decide +kernel
theorem dX12_chance_52 : decode cX12_chance 52 = .ok (.iload_n 2, 1) := by decide +kernel
theorem dX12_chance_53 : decode cX12_chance 53 = .ok (.iload 4, 2) := by decide +kernel
theorem dX12_chance_55 : decode cX12_chance 55 = .ok (.invokestatic 224, 3) := by decide +kernel
theorem dX12_chance_58 : decode cX12_chance 58 = .ok (.iload_n 1, 1) := by decide +kernel
theorem dX12_chance_59 : decode cX12_chance 59 = .ok (.iload_n 2, 1) := by decide +kernel
theorem dX12_chance_60 : decode cX12_chance 60 = .ok (.isub, 1) := by decide +kernel
theorem dX12_chance_61 : decode cX12_chance 61 = .ok (.iload_n 3, 1) := by decide +kernel
theorem dX12_chance_62 : decode cX12_chance 62 = .ok (.iload 4, 2) := by decide +kernel
theorem dX12_chance_64 : decode cX12_chance 64 = .ok (.isub, 1) := by decide +kernel
theorem dX12_chance_65 : decode cX12_chance 65 = .ok (.invokestatic 224, 3) := by decide +kernel
theorem dX12_chance_68 : decode cX12_chance 68 = .ok (.lmul, 1) := by decide +kernel
theorem dX12_chance_69 : decode cX12_chance 69 = .ok (.iload_n 1, 1) := by decide +kernel
theorem dX12_chance_70 : decode cX12_chance 70 = .ok (.iload_n 3, 1) := by decide +kernel
theorem dX12_chance_71 : decode cX12_chance 71 = .ok (.invokestatic 224, 3) := by decide +kernel
theorem dX12_chance_74 : decode cX12_chance 74 = .ok (.iload 5, 2) := by decide +kernel
theorem dX12_chance_76 : decode cX12_chance 76 = .ok (.invokestatic 228, 3) := by decide +kernel
theorem dX12_chance_79 : decode cX12_chance 79 = .ok (.lreturn, 1) := by decide +kernel
set_option maxRecDepth 20000 in
theorem ggX12_book_X12_isWorker : GoodIn wsX12_book wsX12_isWorker := goodIn_r _ [6, 1, 7, 8, 5, 9, 14, 15, 16, 17, 18, 19, 20, 21, 22, 23, 24, 25, 26, 27, 28, 29, 30, 31, 32, 33, 34, 35] (by decide +kernel) (by decide +kernel)
set_option maxRecDepth 20000 in
theorem gX12_book_X12_isWorker : GoodIn wsX12_book (wsV RX12 146 RX12 yX12_isWorker wsX12_isWorker) := goodIn_app (goodIn_of _ (by decide +kernel)) ggX12_book_X12_isWorker
set_option maxRecDepth 20000 in
theorem ggX12_book_X12_isChief : GoodIn wsX12_book wsX12_isChief := goodIn_r _ [13, 1, 7, 8, 5, 9, 14, 15, 16, 17, 18, 19, 20, 21, 22, 23, 24, 25, 26, 27, 28, 29, 30, 31, 32, 33, 34, 35] (by decide +kernel) (by decide +kernel)
set_option maxRecDepth 20000 in
theorem gX12_book_X12_isChief : GoodIn wsX12_book (wsV RX12 138 RX12 yX12_isChief wsX12_isChief) := goodIn_app (goodIn_of _ (by decide +kernel)) ggX12_book_X12_isChief
set_option maxRecDepth 20000 in
theorem ggX12_book_X12_in : GoodIn wsX12_book wsX12_in := goodIn_r _ [9] (by decide +kernel) (by decide +kernel)
set_option maxRecDepth 20000 in
theorem gX12_book_X12_in : GoodIn wsX12_book (va_wsS RX12 50 yX12_in wsX12_in) := goodIn_app (goodIn_of _ (by decide +kernel)) ggX12_book_X12_in
theorem dX12_book_0 : decode cX12_book 0 = .ok (.aload_n 0, 1) := by decide +kernel
theorem dX12_book_1 : decode cX12_book 1 = .ok (.iload_n 1, 1) := by decide +kernel
theorem dX12_book_2 : decode cX12_book 2 = .ok (.invokevirtual 146, 3) := by decide +kernel
theorem dX12_book_5 : decode cX12_book 5 = .ok (.ifCond .eq 11, 3) := by decide +kernel
theorem dX12_book_8 : decode cX12_book 8 = .ok (.aload_n 0, 1) := by decide +kernel
theorem dX12_book_9 : decode cX12_book 9 = .ok (.iload_n 2, 1) := by decide +kernel
theorem dX12_book_10 : decode cX12_book 10 = .ok (.invokevirtual 138, 3) := by decide +kernel
theorem dX12_book_13 : decode cX12_book 13 = .ok (.ifCond .ne 5, 3) := by decide +kernel
theorem dX12_book_16 : decode cX12_book 16 = .ok (.iconst (-1), 1) := by decide +kernel
theorem dX12_book_17 : decode cX12_book 17 = .ok (.ireturn, 1) := by decide +kernel
theorem dX12_book_18 : decode cX12_book 18 = .ok (.iload_n 3, 1) := by decide +kernel
theorem dX12_book_19 : decode cX12_book 19 = .ok (.iconst 1, 1) := by decide +kernel
theorem dX12_book_20 : decode cX12_book 20 = .ok (.iconst 5, 1) := by decide +kernel
theorem dX12_book_21 : decode cX12_book 21 = .ok (.invokestatic 50, 3) := by decide +kernel
theorem dX12_book_24 : decode cX12_book 24 = .ok (.ifCond .ne 6, 3) := by decide +kernel
theorem dX12_book_27 : decode cX12_book 27 = .ok (.bipush (-2), 2) := by decide +kernel
theorem dX12_book_29 : decode cX12_book 29 = .ok (.ireturn, 1) := by decide +kernel
theorem dX12_book_30 : decode cX12_book 30 = .ok (.aload_n 0, 1) := by decide +kernel
theorem dX12_book_31 : decode cX12_book 31 = .ok (.getfield 9, 3) := by decide +kernel
theorem dX12_book_34 : decode cX12_book 34 = .ok (.bipush 54, 2) := by decide +kernel
theorem dX12_book_36 : decode cX12_book 36 = .ok (.iaload, 1) := by decide +kernel
theorem dX12_book_37 : decode cX12_book 37 = .ok (.bipush 20, 2) := by decide +kernel
theorem dX12_book_39 : decode cX12_book 39 = .ok (.if_icmp .ne 6, 3) := by decide +kernel
theorem dX12_book_42 : decode cX12_book 42 = .ok (.bipush (-4), 2) := by decide +kernel
theorem dX12_book_44 : decode cX12_book 44 = .ok (.ireturn, 1) := by decide +kernel
theorem dX12_book_45 : decode cX12_book 45 = .ok (.aload_n 0, 1) := by decide +kernel
theorem dX12_book_46 : decode cX12_book 46 = .ok (.getfield 9, 3) := by decide +kernel
theorem dX12_book_49 : decode cX12_book 49 = .ok (.bipush 54, 2) := by decide +kernel
theorem dX12_book_51 : decode cX12_book 51 = .ok (.iaload, 1) := by decide +kernel
theorem dX12_book_52 : decode cX12_book 52 = .ok (.istore 4, 2) := by decide +kernel
theorem dX12_book_54 : decode cX12_book 54 = .ok (.aload_n 0, 1) := by decide +kernel
theorem dX12_book_55 : decode cX12_book 55 = .ok (.getfield 9, 3) := by decide +kernel
theorem dX12_book_58 : decode cX12_book 58 = .ok (.bipush 72, 2) := by decide +kernel
theorem dX12_book_60 : decode cX12_book 60 = .ok (.iload 4, 2) := by decide +kernel
theorem dX12_book_62 : decode cX12_book 62 = .ok (.iadd, 1) := by decide +kernel
theorem dX12_book_63 : decode cX12_book 63 = .ok (.iload_n 1, 1) := by decide +kernel
theorem dX12_book_64 : decode cX12_book 64 = .ok (.iastore, 1) := by decide +kernel
theorem dX12_book_65 : decode cX12_book 65 = .ok (.aload_n 0, 1) := by decide +kernel
theorem dX12_book_66 : decode cX12_book 66 = .ok (.getfield 9, 3) := by decide +kernel
theorem dX12_book_69 : decode cX12_book 69 = .ok (.bipush 92, 2) := by decide +kernel
theorem dX12_book_71 : decode cX12_book 71 = .ok (.iload 4, 2) := by decide +kernel
theorem dX12_book_73 : decode cX12_book 73 = .ok (.iadd, 1) := by decide +kernel
theorem dX12_book_74 : decode cX12_book 74 = .ok (.iload_n 2, 1) := by decide +kernel
theorem dX12_book_75 : decode cX12_book 75 = .ok (.iastore, 1) := by decide +kernel
theorem dX12_book_76 : decode cX12_book 76 = .ok (.aload_n 0, 1) := by decide +kernel
theorem dX12_book_77 : decode cX12_book 77 = .ok (.getfield 9, 3) := by decide +kernel
theorem dX12_book_80 : decode cX12_book 80 = .ok (.bipush 112, 2) := by decide +kernel
theorem dX12_book_82 : decode cX12_book 82 = .ok (.iload 4, 2) := by decide +kernel
theorem dX12_book_84 : decode cX12_book 84 = .ok (.iadd, 1) := by decide +kernel
theorem dX12_book_85 : decode cX12_book 85 = .ok (.iload_n 3, 1) := by decide +kernel
theorem dX12_book_86 : decode cX12_book 86 = .ok (.iastore, 1) := by decide +kernel
theorem dX12_book_87 : decode cX12_book 87 = .ok (.aload_n 0, 1) := by decide +kernel
theorem dX12_book_88 : decode cX12_book 88 = .ok (.getfield 9, 3) := by decide +kernel
theorem dX12_book_91 : decode cX12_book 91 = .ok (.bipush 54, 2) := by decide +kernel
theorem dX12_book_93 : decode cX12_book 93 = .ok (.dup2, 1) := by decide +kernel
theorem dX12_book_94 : decode cX12_book 94 = .ok (.iaload, 1) := by decide +kernel
theorem dX12_book_95 : decode cX12_book 95 = .ok (.iconst 1, 1) := by decide +kernel
theorem dX12_book_96 : decode cX12_book 96 = .ok (.iadd, 1) := by decide +kernel
theorem dX12_book_97 : decode cX12_book 97 = .ok (.iastore, 1) := by decide +kernel
theorem dX12_book_98 : decode cX12_book 98 = .ok (.aload_n 0, 1) := by decide +kernel
theorem dX12_book_99 : decode cX12_book 99 = .ok (.getfield 9, 3) := by decide +kernel
theorem dX12_book_102 : decode cX12_book 102 = .ok (.bipush 54, 2) := by decide +kernel
theorem dX12_book_104 : decode cX12_book 104 = .ok (.iaload, 1) := by decide +kernel
theorem dX12_book_105 : decode cX12_book 105 = .ok (.ireturn, 1) := by decide +kernel
theorem dX12_clear_0 : decode cX12_clear 0 = .ok (.aload_n 0, 1) := by decide +kernel
theorem dX12_clear_1 : decode cX12_clear 1 = .ok (.getfield 9, 3) := by decide +kernel
theorem dX12_clear_4 : decode cX12_clear 4 = .ok (.bipush 54, 2) := by decide +kernel
theorem dX12_clear_6 : decode cX12_clear 6 = .ok (.iaload, 1) := by decide +kernel
theorem dX12_clear_7 : decode cX12_clear 7 = .ok (.istore_n 1, 1) := by decide +kernel
theorem dX12_clear_8 : decode cX12_clear 8 = .ok (.aload_n 0, 1) := by decide +kernel
theorem dX12_clear_9 : decode cX12_clear 9 = .ok (.getfield 9, 3) := by decide +kernel
theorem dX12_clear_12 : decode cX12_clear 12 = .ok (.bipush 54, 2) := by decide +kernel
theorem dX12_clear_14 : decode cX12_clear 14 = .ok (.iconst 0, 1) := by decide +kernel
theorem dX12_clear_15 : decode cX12_clear 15 = .ok (.iastore, 1) := by decide +kernel
theorem dX12_clear_16 : decode cX12_clear 16 = .ok (.iload_n 1, 1) := by decide +kernel
theorem dX12_clear_17 : decode cX12_clear 17 = .ok (.ireturn, 1) := by decide +kernel
theorem dX12_firstRow_0 : decode cX12_firstRow 0 = .ok (.iconst 0, 1) := by decide +kernel
theorem dX12_firstRow_1 : decode cX12_firstRow 1 = .ok (.istore_n 3, 1) := by decide +kernel
theorem dX12_firstRow_2 : decode cX12_firstRow 2 = .ok (.iload_n 3, 1) := by decide +kernel
theorem dX12_firstRow_3 : decode cX12_firstRow 3 = .ok (.aload_n 0, 1) := by decide +kernel
theorem dX12_firstRow_4 : decode cX12_firstRow 4 = .ok (.getfield 9, 3) := by decide +kernel
theorem dX12_firstRow_7 : decode cX12_firstRow 7 = .ok (.bipush 54, 2) := by decide +kernel
theorem dX12_firstRow_9 : decode cX12_firstRow 9 = .ok (.iaload, 1) := by decide +kernel
theorem dX12_firstRow_10 : decode cX12_firstRow 10 = .ok (.if_icmp .ge 37, 3) := by decide +kernel
theorem dX12_firstRow_13 : decode cX12_firstRow 13 = .ok (.aload_n 0, 1) := by decide +kernel
theorem dX12_firstRow_14 : decode cX12_firstRow 14 = .ok (.getfield 9, 3) := by decide +kernel
theorem dX12_firstRow_17 : decode cX12_firstRow 17 = .ok (.bipush 92, 2) := by decide +kernel
theorem dX12_firstRow_19 : decode cX12_firstRow 19 = .ok (.iload_n 3, 1) := by decide +kernel
theorem dX12_firstRow_20 : decode cX12_firstRow 20 = .ok (.iadd, 1) := by decide +kernel
theorem dX12_firstRow_21 : decode cX12_firstRow 21 = .ok (.iaload, 1) := by decide +kernel
theorem dX12_firstRow_22 : decode cX12_firstRow 22 = .ok (.iload_n 1, 1) := by decide +kernel
theorem dX12_firstRow_23 : decode cX12_firstRow 23 = .ok (.if_icmp .ne 18, 3) := by decide +kernel
theorem dX12_firstRow_26 : decode cX12_firstRow 26 = .ok (.aload_n 0, 1) := by decide +kernel
theorem dX12_firstRow_27 : decode cX12_firstRow 27 = .ok (.getfield 9, 3) := by decide +kernel
theorem dX12_firstRow_30 : decode cX12_firstRow 30 = .ok (.bipush 72, 2) := by decide +kernel
theorem dX12_firstRow_32 : decode cX12_firstRow 32 = .ok (.iload_n 3, 1) := by decide +kernel
theorem dX12_firstRow_33 : decode cX12_firstRow 33 = .ok (.iadd, 1) := by decide +kernel
theorem dX12_firstRow_34 : decode cX12_firstRow 34 = .ok (.iaload, 1) := by decide +kernel
theorem dX12_firstRow_35 : decode cX12_firstRow 35 = .ok (.iload_n 2, 1) := by decide +kernel
theorem dX12_firstRow_36 : decode cX12_firstRow 36 = .ok (.if_icmp .ne 5, 3) := by decide +kernel
theorem dX12_firstRow_39 : decode cX12_firstRow 39 = .ok (.iload_n 3, 1) := by decide +kernel
theorem dX12_firstRow_40 : decode cX12_firstRow 40 = .ok (.ireturn, 1) := by decide +kernel
theorem dX12_firstRow_41 : decode cX12_firstRow 41 = .ok (.iinc 3 1, 3) := by decide +kernel
theorem dX12_firstRow_44 : decode cX12_firstRow 44 = .ok (.goto (-42), 3) := by decide +kernel
theorem dX12_firstRow_47 : decode cX12_firstRow 47 = .ok (.iconst (-1), 1) := by decide +kernel
theorem dX12_firstRow_48 : decode cX12_firstRow 48 = .ok (.ireturn, 1) := by decide +kernel
set_option maxRecDepth 20000 in
theorem ggX12_haveBoth_X12_firstRow : GoodIn wsX12_haveBoth wsX12_firstRow := goodIn_r _ [6, 1, 7, 8, 9, 10, 11, 12, 13, 14, 15, 16, 17, 18, 19, 20, 21, 22, 23, 24, 25, 26, 27, 28] (by decide +kernel) (by decide +kernel)
set_option maxRecDepth 20000 in
theorem gX12_haveBoth_X12_firstRow : GoodIn wsX12_haveBoth (wsV RX12 232 RX12 yX12_firstRow wsX12_firstRow) := goodIn_app (goodIn_of _ (by decide +kernel)) ggX12_haveBoth_X12_firstRow
theorem dX12_haveBoth_0 : decode cX12_haveBoth 0 = .ok (.iconst 0, 1) := by decide +kernel
theorem dX12_haveBoth_1 : decode cX12_haveBoth 1 = .ok (.istore_n 3, 1) := by decide +kernel
theorem dX12_haveBoth_2 : decode cX12_haveBoth 2 = .ok (.iconst 0, 1) := by decide +kernel
theorem dX12_haveBoth_3 : decode cX12_haveBoth 3 = .ok (.istore 4, 2) := by decide +kernel
theorem dX12_haveBoth_5 : decode cX12_haveBoth 5 = .ok (.iload 4, 2) := by decide +kernel
theorem dX12_haveBoth_7 : decode cX12_haveBoth 7 = .ok (.aload_n 0, 1) := by decide +kernel
theorem dX12_haveBoth_8 : decode cX12_haveBoth 8 = .ok (.getfield 9, 3) := by decide +kernel
theorem dX12_haveBoth_11 : decode cX12_haveBoth 11 = .ok (.bipush 51, 2) := by decide +kernel
theorem dX12_haveBoth_13 : decode cX12_haveBoth 13 = .ok (.iaload, 1) := by decide +kernel
theorem dX12_haveBoth_14 : decode cX12_haveBoth 14 = .ok (.if_icmp .ge 41, 3) := by decide +kernel
theorem dX12_haveBoth_17 : decode cX12_haveBoth 17 = .ok (.iload_n 3, 1) := by decide +kernel
theorem dX12_haveBoth_18 : decode cX12_haveBoth 18 = .ok (.ifCond .ne 25, 3) := by decide +kernel
theorem dX12_haveBoth_21 : decode cX12_haveBoth 21 = .ok (.aload_n 0, 1) := by decide +kernel
theorem dX12_haveBoth_22 : decode cX12_haveBoth 22 = .ok (.iload_n 1, 1) := by decide +kernel
theorem dX12_haveBoth_23 : decode cX12_haveBoth 23 = .ok (.iload 4, 2) := by decide +kernel
theorem dX12_haveBoth_25 : decode cX12_haveBoth 25 = .ok (.invokevirtual 232, 3) := by decide +kernel
theorem dX12_haveBoth_28 : decode cX12_haveBoth 28 = .ok (.iconst (-1), 1) := by decide +kernel
theorem dX12_haveBoth_29 : decode cX12_haveBoth 29 = .ok (.if_icmp .eq 18, 3) := by decide +kernel
theorem dX12_haveBoth_32 : decode cX12_haveBoth 32 = .ok (.aload_n 0, 1) := by decide +kernel
theorem dX12_haveBoth_33 : decode cX12_haveBoth 33 = .ok (.iload_n 2, 1) := by decide +kernel
theorem dX12_haveBoth_34 : decode cX12_haveBoth 34 = .ok (.iload 4, 2) := by decide +kernel
theorem dX12_haveBoth_36 : decode cX12_haveBoth 36 = .ok (.invokevirtual 232, 3) := by decide +kernel
theorem dX12_haveBoth_39 : decode cX12_haveBoth 39 = .ok (.iconst (-1), 1) := by decide +kernel
theorem dX12_haveBoth_40 : decode cX12_haveBoth 40 = .ok (.if_icmp .eq 7, 3) := by decide +kernel
theorem dX12_haveBoth_43 : decode cX12_haveBoth 43 = .ok (.iconst 1, 1) := by decide +kernel
theorem dX12_haveBoth_44 : decode cX12_haveBoth 44 = .ok (.goto 4, 3) := by decide +kernel
theorem dX12_haveBoth_47 : decode cX12_haveBoth 47 = .ok (.iconst 0, 1) := by decide +kernel
theorem dX12_haveBoth_48 : decode cX12_haveBoth 48 = .ok (.istore_n 3, 1) := by decide +kernel
theorem dX12_haveBoth_49 : decode cX12_haveBoth 49 = .ok (.iinc 4 1, 3) := by decide +kernel
theorem dX12_haveBoth_52 : decode cX12_haveBoth 52 = .ok (.goto (-47), 3) := by decide +kernel
theorem dX12_haveBoth_55 : decode cX12_haveBoth 55 = .ok (.iload_n 3, 1) := by decide +kernel
theorem dX12_haveBoth_56 : decode cX12_haveBoth 56 = .ok (.ireturn, 1) := by decide +kernel
set_option maxRecDepth 20000 in
theorem ggX12_netOf_X12_haveBoth : GoodIn wsX12_netOf wsX12_haveBoth := goodIn_r _ [6, 1, 7, 8, 9, 5, 10, 11, 12, 13, 14, 15, 16, 17, 18, 19, 20, 21, 22, 23, 24, 25, 26, 27, 28, 29, 30, 31, 32] (by decide +kernel) (by decide +kernel)
set_option maxRecDepth 20000 in
theorem gX12_netOf_X12_haveBoth : GoodIn wsX12_netOf (wsV RX12 235 RX12 yX12_haveBoth wsX12_haveBoth) := goodIn_app (goodIn_of _ (by decide +kernel)) ggX12_netOf_X12_haveBoth
theorem dX12_netOf_0 : decode cX12_netOf 0 = .ok (.iconst 1, 1) := by decide +kernel
theorem dX12_netOf_1 : decode cX12_netOf 1 = .ok (.iload_n 1, 1) := by decide +kernel
theorem dX12_netOf_2 : decode cX12_netOf 2 = .ok (.ishl, 1) := by decide +kernel
theorem dX12_netOf_3 : decode cX12_netOf 3 = .ok (.istore_n 2, 1) := by decide +kernel
theorem dX12_netOf_4 : decode cX12_netOf 4 = .ok (.iconst 0, 1) := by decide +kernel
theorem dX12_netOf_5 : decode cX12_netOf 5 = .ok (.istore_n 3, 1) := by decide +kernel
theorem dX12_netOf_6 : decode cX12_netOf 6 = .ok (.iload_n 3, 1) := by decide +kernel
theorem dX12_netOf_7 : decode cX12_netOf 7 = .ok (.iconst 4, 1) := by decide +kernel
theorem dX12_netOf_8 : decode cX12_netOf 8 = .ok (.if_icmp .ge 83, 3) := by decide +kernel
theorem dX12_netOf_11 : decode cX12_netOf 11 = .ok (.iconst 0, 1) := by decide +kernel
theorem dX12_netOf_12 : decode cX12_netOf 12 = .ok (.istore 4, 2) := by decide +kernel
theorem dX12_netOf_14 : decode cX12_netOf 14 = .ok (.iload 4, 2) := by decide +kernel
theorem dX12_netOf_16 : decode cX12_netOf 16 = .ok (.aload_n 0, 1) := by decide +kernel
theorem dX12_netOf_17 : decode cX12_netOf 17 = .ok (.getfield 9, 3) := by decide +kernel
theorem dX12_netOf_20 : decode cX12_netOf 20 = .ok (.bipush 52, 2) := by decide +kernel
theorem dX12_netOf_22 : decode cX12_netOf 22 = .ok (.iaload, 1) := by decide +kernel
theorem dX12_netOf_23 : decode cX12_netOf 23 = .ok (.if_icmp .ge 62, 3) := by decide +kernel
theorem dX12_netOf_26 : decode cX12_netOf 26 = .ok (.iconst 0, 1) := by decide +kernel
theorem dX12_netOf_27 : decode cX12_netOf 27 = .ok (.istore 5, 2) := by decide +kernel
theorem dX12_netOf_29 : decode cX12_netOf 29 = .ok (.iload 5, 2) := by decide +kernel
theorem dX12_netOf_31 : decode cX12_netOf 31 = .ok (.aload_n 0, 1) := by decide +kernel
theorem dX12_netOf_32 : decode cX12_netOf 32 = .ok (.getfield 9, 3) := by decide +kernel
theorem dX12_netOf_35 : decode cX12_netOf 35 = .ok (.bipush 52, 2) := by decide +kernel
theorem dX12_netOf_37 : decode cX12_netOf 37 = .ok (.iaload, 1) := by decide +kernel
theorem dX12_netOf_38 : decode cX12_netOf 38 = .ok (.if_icmp .ge 41, 3) := by decide +kernel
theorem dX12_netOf_41 : decode cX12_netOf 41 = .ok (.iload_n 2, 1) := by decide +kernel
theorem dX12_netOf_42 : decode cX12_netOf 42 = .ok (.iload_n 2, 1) := by decide +kernel
theorem dX12_netOf_43 : decode cX12_netOf 43 = .ok (.iload 4, 2) := by decide +kernel
theorem dX12_netOf_45 : decode cX12_netOf 45 = .ok (.ishr, 1) := by decide +kernel
theorem dX12_netOf_46 : decode cX12_netOf 46 = .ok (.iconst 1, 1) := by decide +kernel
theorem dX12_netOf_47 : decode cX12_netOf 47 = .ok (.iand, 1) := by decide +kernel
theorem dX12_netOf_48 : decode cX12_netOf 48 = .ok (.iconst 1, 1) := by decide +kernel
theorem dX12_netOf_49 : decode cX12_netOf 49 = .ok (.if_icmp .ne 21, 3) := by decide +kernel
theorem dX12_netOf_52 : decode cX12_netOf 52 = .ok (.aload_n 0, 1) := by decide +kernel
theorem dX12_netOf_53 : decode cX12_netOf 53 = .ok (.iload 4, 2) := by decide +kernel
theorem dX12_netOf_55 : decode cX12_netOf 55 = .ok (.iload 5, 2) := by decide +kernel
theorem dX12_netOf_57 : decode cX12_netOf 57 = .ok (.invokevirtual 235, 3) := by decide +kernel
theorem dX12_netOf_60 : decode cX12_netOf 60 = .ok (.ifCond .eq 10, 3) := by decide +kernel
theorem dX12_netOf_63 : decode cX12_netOf 63 = .ok (.iconst 1, 1) := by decide +kernel
theorem dX12_netOf_64 : decode cX12_netOf 64 = .ok (.iload 5, 2) := by decide +kernel
theorem dX12_netOf_66 : decode cX12_netOf 66 = .ok (.ishl, 1) := by decide +kernel
theorem dX12_netOf_67 : decode cX12_netOf 67 = .ok (.goto 4, 3) := by decide +kernel
theorem dX12_netOf_70 : decode cX12_netOf 70 = .ok (.iconst 0, 1) := by decide +kernel
theorem dX12_netOf_71 : decode cX12_netOf 71 = .ok (.ior, 1) := by decide +kernel
theorem dX12_netOf_72 : decode cX12_netOf 72 = .ok (.istore_n 2, 1) := by decide +kernel
theorem dX12_netOf_73 : decode cX12_netOf 73 = .ok (.iinc 5 1, 3) := by decide +kernel
theorem dX12_netOf_76 : decode cX12_netOf 76 = .ok (.goto (-47), 3) := by decide +kernel
theorem dX12_netOf_79 : decode cX12_netOf 79 = .ok (.iinc 4 1, 3) := by decide +kernel
theorem dX12_netOf_82 : decode cX12_netOf 82 = .ok (.goto (-68), 3) := by decide +kernel
theorem dX12_netOf_85 : decode cX12_netOf 85 = .ok (.iinc 3 1, 3) := by decide +kernel
theorem dX12_netOf_88 : decode cX12_netOf 88 = .ok (.goto (-82), 3) := by decide +kernel
theorem dX12_netOf_91 : decode cX12_netOf 91 = .ok (.iload_n 2, 1) := by decide +kernel
theorem dX12_netOf_92 : decode cX12_netOf 92 = .ok (.ireturn, 1) := by decide +kernel
set_option maxRecDepth 20000 in
theorem ggX12_nets_X12_in : GoodIn wsX12_nets wsX12_in := goodIn_r _ [5] (by decide +kernel) (by decide +kernel)
set_option maxRecDepth 20000 in
theorem gX12_nets_X12_in : GoodIn wsX12_nets (va_wsS RX12 50 yX12_in wsX12_in) := goodIn_app (goodIn_of _ (by decide +kernel)) ggX12_nets_X12_in
set_option maxRecDepth 20000 in
theorem ggX12_nets_X12_netOf : GoodIn wsX12_nets wsX12_netOf := goodIn_r _ [9, 1, 10, 11, 12, 4, 13, 14, 15, 16, 17, 18, 19, 20, 21, 22, 23, 24, 25, 26, 27, 28, 29, 30, 31, 32, 33, 34, 35, 36, 37, 38, 39] (by decide +kernel) (by decide +kernel)
set_option maxRecDepth 20000 in
theorem gX12_nets_X12_netOf : GoodIn wsX12_nets (wsV RX12 239 RX12 yX12_netOf wsX12_netOf) := goodIn_app (goodIn_of _ (by decide +kernel)) ggX12_nets_X12_netOf
theorem dX12_nets_0 : decode cX12_nets 0 = .ok (.iload_n 1, 1) := by decide +kernel
theorem dX12_nets_1 : decode cX12_nets 1 = .ok (.iconst (-1), 1) := by decide +kernel
theorem dX12_nets_2 : decode cX12_nets 2 = .ok (.aload_n 0, 1) := by decide +kernel
theorem dX12_nets_3 : decode cX12_nets 3 = .ok (.getfield 9, 3) := by decide +kernel
theorem dX12_nets_6 : decode cX12_nets 6 = .ok (.bipush 52, 2) := by decide +kernel
theorem dX12_nets_8 : decode cX12_nets 8 = .ok (.iaload, 1) := by decide +kernel
theorem dX12_nets_9 : decode cX12_nets 9 = .ok (.iconst 1, 1) := by decide +kernel
theorem dX12_nets_10 : decode cX12_nets 10 = .ok (.isub, 1) := by decide +kernel
theorem dX12_nets_11 : decode cX12_nets 11 = .ok (.invokestatic 50, 3) := by decide +kernel
theorem dX12_nets_14 : decode cX12_nets 14 = .ok (.ifCond .ne 5, 3) := by decide +kernel
theorem dX12_nets_17 : decode cX12_nets 17 = .ok (.iconst (-1), 1) := by decide +kernel
theorem dX12_nets_18 : decode cX12_nets 18 = .ok (.ireturn, 1) := by decide +kernel
theorem dX12_nets_19 : decode cX12_nets 19 = .ok (.iload_n 1, 1) := by decide +kernel
theorem dX12_nets_20 : decode cX12_nets 20 = .ok (.iconst (-1), 1) := by decide +kernel
theorem dX12_nets_21 : decode cX12_nets 21 = .ok (.if_icmp .eq 9, 3) := by decide +kernel
theorem dX12_nets_24 : decode cX12_nets 24 = .ok (.aload_n 0, 1) := by decide +kernel
theorem dX12_nets_25 : decode cX12_nets 25 = .ok (.iload_n 1, 1) := by decide +kernel
theorem dX12_nets_26 : decode cX12_nets 26 = .ok (.invokevirtual 239, 3) := by decide +kernel
theorem dX12_nets_29 : decode cX12_nets 29 = .ok (.ireturn, 1) := by decide +kernel
theorem dX12_nets_30 : decode cX12_nets 30 = .ok (.iconst 0, 1) := by decide +kernel
theorem dX12_nets_31 : decode cX12_nets 31 = .ok (.istore_n 2, 1) := by decide +kernel
theorem dX12_nets_32 : decode cX12_nets 32 = .ok (.iconst 0, 1) := by decide +kernel
theorem dX12_nets_33 : decode cX12_nets 33 = .ok (.istore_n 3, 1) := by decide +kernel
theorem dX12_nets_34 : decode cX12_nets 34 = .ok (.iload_n 3, 1) := by decide +kernel
theorem dX12_nets_35 : decode cX12_nets 35 = .ok (.aload_n 0, 1) := by decide +kernel
theorem dX12_nets_36 : decode cX12_nets 36 = .ok (.getfield 9, 3) := by decide +kernel
theorem dX12_nets_39 : decode cX12_nets 39 = .ok (.bipush 52, 2) := by decide +kernel
theorem dX12_nets_41 : decode cX12_nets 41 = .ok (.iaload, 1) := by decide +kernel
theorem dX12_nets_42 : decode cX12_nets 42 = .ok (.if_icmp .ge 31, 3) := by decide +kernel
theorem dX12_nets_45 : decode cX12_nets 45 = .ok (.iload_n 2, 1) := by decide +kernel
theorem dX12_nets_46 : decode cX12_nets 46 = .ok (.aload_n 0, 1) := by decide +kernel
theorem dX12_nets_47 : decode cX12_nets 47 = .ok (.iload_n 3, 1) := by decide +kernel
theorem dX12_nets_48 : decode cX12_nets 48 = .ok (.invokevirtual 239, 3) := by decide +kernel
theorem dX12_nets_51 : decode cX12_nets 51 = .ok (.iconst 1, 1) := by decide +kernel
theorem dX12_nets_52 : decode cX12_nets 52 = .ok (.iload_n 3, 1) := by decide +kernel
theorem dX12_nets_53 : decode cX12_nets 53 = .ok (.ishl, 1) := by decide +kernel
theorem dX12_nets_54 : decode cX12_nets 54 = .ok (.iconst 1, 1) := by decide +kernel
theorem dX12_nets_55 : decode cX12_nets 55 = .ok (.isub, 1) := by decide +kernel
theorem dX12_nets_56 : decode cX12_nets 56 = .ok (.iand, 1) := by decide +kernel
theorem dX12_nets_57 : decode cX12_nets 57 = .ok (.ifCond .ne 7, 3) := by decide +kernel
theorem dX12_nets_60 : decode cX12_nets 60 = .ok (.iconst 1, 1) := by decide +kernel
theorem dX12_nets_61 : decode cX12_nets 61 = .ok (.goto 4, 3) := by decide +kernel
theorem dX12_nets_64 : decode cX12_nets 64 = .ok (.iconst 0, 1) := by decide +kernel
theorem dX12_nets_65 : decode cX12_nets 65 = .ok (.iadd, 1) := by decide +kernel
theorem dX12_nets_66 : decode cX12_nets 66 = .ok (.istore_n 2, 1) := by decide +kernel
theorem dX12_nets_67 : decode cX12_nets 67 = .ok (.iinc 3 1, 3) := by decide +kernel
theorem dX12_nets_70 : decode cX12_nets 70 = .ok (.goto (-36), 3) := by decide +kernel
theorem dX12_nets_73 : decode cX12_nets 73 = .ok (.iload_n 2, 1) := by decide +kernel
theorem dX12_nets_74 : decode cX12_nets 74 = .ok (.ireturn, 1) := by decide +kernel
set_option maxRecDepth 20000 in
theorem ggX12_leans_X12_isChief : GoodIn wsX12_leans wsX12_isChief := goodIn_r _ [7, 2, 8, 9, 6, 10, 21, 22, 23, 24, 25, 26, 27, 28, 29, 30, 31, 32, 33, 34, 35, 36, 37, 38, 39, 40, 41, 42] (by decide +kernel) (by decide +kernel)
set_option maxRecDepth 20000 in
theorem gX12_leans_X12_isChief : GoodIn wsX12_leans (wsV RX12 138 RX12 yX12_isChief wsX12_isChief) := goodIn_app (goodIn_of _ (by decide +kernel)) ggX12_leans_X12_isChief
set_option maxRecDepth 20000 in
theorem ggX12_leans_X12_in : GoodIn wsX12_leans wsX12_in := goodIn_r _ [10] (by decide +kernel) (by decide +kernel)
set_option maxRecDepth 20000 in
theorem gX12_leans_X12_in : GoodIn wsX12_leans (va_wsS RX12 50 yX12_in wsX12_in) := goodIn_app (goodIn_of _ (by decide +kernel)) ggX12_leans_X12_in
set_option maxRecDepth 20000 in
theorem ggX12_leans_X12_firstRow : GoodIn wsX12_leans wsX12_firstRow := goodIn_r _ [14, 2, 21, 22, 23, 24, 25, 26, 27, 28, 29, 30, 31, 32, 33, 34, 35, 36, 37, 38, 39, 40, 41, 42] (by decide +kernel) (by decide +kernel)
set_option maxRecDepth 20000 in
theorem gX12_leans_X12_firstRow : GoodIn wsX12_leans (wsV RX12 232 RX12 yX12_firstRow wsX12_firstRow) := goodIn_app (goodIn_of _ (by decide +kernel)) ggX12_leans_X12_firstRow
set_option maxRecDepth 20000 in
theorem ggX12_leans_X12_lowest : GoodIn wsX12_leans wsX12_lowest := goodIn_r _ [17, 18, 19, 6, 20] (by decide +kernel) (by decide +kernel)
set_option maxRecDepth 20000 in
theorem gX12_leans_X12_lowest : GoodIn wsX12_leans (va_wsS RX12 228 yX12_lowest wsX12_lowest) := goodIn_app (goodIn_of _ (by decide +kernel)) ggX12_leans_X12_lowest
theorem dX12_leans_0 : decode cX12_leans 0 = .ok (.aload_n 0, 1) := by decide +kernel
theorem dX12_leans_1 : decode cX12_leans 1 = .ok (.iload_n 1, 1) := by decide +kernel
theorem dX12_leans_2 : decode cX12_leans 2 = .ok (.invokevirtual 138, 3) := by decide +kernel
theorem dX12_leans_5 : decode cX12_leans 5 = .ok (.ifCond .eq 25, 3) := by decide +kernel
theorem dX12_leans_8 : decode cX12_leans 8 = .ok (.aload_n 0, 1) := by decide +kernel
theorem dX12_leans_9 : decode cX12_leans 9 = .ok (.iload_n 2, 1) := by decide +kernel
theorem dX12_leans_10 : decode cX12_leans 10 = .ok (.invokevirtual 138, 3) := by decide +kernel
theorem dX12_leans_13 : decode cX12_leans 13 = .ok (.ifCond .eq 17, 3) := by decide +kernel
theorem dX12_leans_16 : decode cX12_leans 16 = .ok (.iload_n 1, 1) := by decide +kernel
theorem dX12_leans_17 : decode cX12_leans 17 = .ok (.iload_n 2, 1) := by decide +kernel
theorem dX12_leans_18 : decode cX12_leans 18 = .ok (.if_icmp .eq 12, 3) := by decide +kernel
theorem dX12_leans_21 : decode cX12_leans 21 = .ok (.iload_n 3, 1) := by decide +kernel
theorem dX12_leans_22 : decode cX12_leans 22 = .ok (.iconst 0, 1) := by decide +kernel
theorem dX12_leans_23 : decode cX12_leans 23 = .ok (.iconst 1, 1) := by decide +kernel
theorem dX12_leans_24 : decode cX12_leans 24 = .ok (.invokestatic 50, 3) := by decide +kernel
theorem dX12_leans_27 : decode cX12_leans 27 = .ok (.ifCond .ne 7, 3) := by decide +kernel
theorem dX12_leans_30 : decode cX12_leans 30 = .ok (.ldc2_w 222, 3) := by decide +kernel
theorem dX12_leans_33 : decode cX12_leans 33 = .ok (.lreturn, 1) := by decide +kernel
theorem dX12_leans_34 : decode cX12_leans 34 = .ok (.iconst 0, 1) := by decide +kernel
theorem dX12_leans_35 : decode cX12_leans 35 = .ok (.istore 4, 2) := by decide +kernel
theorem dX12_leans_37 : decode cX12_leans 37 = .ok (.iconst 0, 1) := by decide +kernel
theorem dX12_leans_38 : decode cX12_leans 38 = .ok (.istore 5, 2) := by decide +kernel
theorem dX12_leans_40 : decode cX12_leans 40 = .ok (.iconst 0, 1) := by decide +kernel
theorem dX12_leans_41 : decode cX12_leans 41 = .ok (.istore 6, 2) := by decide +kernel
theorem dX12_leans_43 : decode cX12_leans 43 = .ok (.iload 6, 2) := by decide +kernel
theorem dX12_leans_45 : decode cX12_leans 45 = .ok (.aload_n 0, 1) := by decide +kernel
theorem dX12_leans_46 : decode cX12_leans 46 = .ok (.getfield 9, 3) := by decide +kernel
theorem dX12_leans_49 : decode cX12_leans 49 = .ok (.bipush 51, 2) := by decide +kernel
theorem dX12_leans_51 : decode cX12_leans 51 = .ok (.iaload, 1) := by decide +kernel
theorem dX12_leans_52 : decode cX12_leans 52 = .ok (.if_icmp .ge 68, 3) := by decide +kernel
theorem dX12_leans_55 : decode cX12_leans 55 = .ok (.aload_n 0, 1) := by decide +kernel
theorem dX12_leans_56 : decode cX12_leans 56 = .ok (.iload_n 1, 1) := by decide +kernel
theorem dX12_leans_57 : decode cX12_leans 57 = .ok (.iload 6, 2) := by decide +kernel
theorem dX12_leans_59 : decode cX12_leans 59 = .ok (.invokevirtual 232, 3) := by decide +kernel
theorem dX12_leans_62 : decode cX12_leans 62 = .ok (.istore 7, 2) := by decide +kernel
theorem dX12_leans_64 : decode cX12_leans 64 = .ok (.aload_n 0, 1) := by decide +kernel
theorem dX12_leans_65 : decode cX12_leans 65 = .ok (.iload_n 2, 1) := by decide +kernel
theorem dX12_leans_66 : decode cX12_leans 66 = .ok (.iload 6, 2) := by decide +kernel
theorem dX12_leans_68 : decode cX12_leans 68 = .ok (.invokevirtual 232, 3) := by decide +kernel
theorem dX12_leans_71 : decode cX12_leans 71 = .ok (.istore 8, 2) := by decide +kernel
theorem dX12_leans_73 : decode cX12_leans 73 = .ok (.iload 7, 2) := by decide +kernel
theorem dX12_leans_75 : decode cX12_leans 75 = .ok (.iconst (-1), 1) := by decide +kernel
theorem dX12_leans_76 : decode cX12_leans 76 = .ok (.if_icmp .eq 38, 3) := by decide +kernel
theorem dX12_leans_79 : decode cX12_leans 79 = .ok (.iload 8, 2) := by decide +kernel
theorem dX12_leans_81 : decode cX12_leans 81 = .ok (.iconst (-1), 1) := by decide +kernel
theorem dX12_leans_82 : decode cX12_leans 82 = .ok (.if_icmp .eq 32, 3) := by decide +kernel
theorem dX12_leans_85 : decode cX12_leans 85 = .ok (.iload 4, 2) := by decide +kernel
theorem dX12_leans_87 : decode cX12_leans 87 = .ok (.aload_n 0, 1) := by decide +kernel
theorem dX12_leans_88 : decode cX12_leans 88 = .ok (.getfield 9, 3) := by decide +kernel
theorem dX12_leans_91 : decode cX12_leans 91 = .ok (.bipush 112, 2) := by decide +kernel
theorem dX12_leans_93 : decode cX12_leans 93 = .ok (.iload 7, 2) := by decide +kernel
theorem dX12_leans_95 : decode cX12_leans 95 = .ok (.iadd, 1) := by decide +kernel
theorem dX12_leans_96 : decode cX12_leans 96 = .ok (.iaload, 1) := by decide +kernel
theorem dX12_leans_97 : decode cX12_leans 97 = .ok (.aload_n 0, 1) := by decide +kernel
theorem dX12_leans_98 : decode cX12_leans 98 = .ok (.getfield 9, 3) := by decide +kernel
theorem dX12_leans_101 : decode cX12_leans 101 = .ok (.bipush 112, 2) := by decide +kernel
theorem dX12_leans_103 : decode cX12_leans 103 = .ok (.iload 8, 2) := by decide +kernel
theorem dX12_leans_105 : decode cX12_leans 105 = .ok (.iadd, 1) := by decide +kernel
theorem dX12_leans_106 : decode cX12_leans 106 = .ok (.iaload, 1) := by decide +kernel
theorem dX12_leans_107 : decode cX12_leans 107 = .ok (.isub, 1) := by decide +kernel
theorem dX12_leans_108 : decode cX12_leans 108 = .ok (.iadd, 1) := by decide +kernel
theorem dX12_leans_109 : decode cX12_leans 109 = .ok (.istore 4, 2) := by decide +kernel
theorem dX12_leans_111 : decode cX12_leans 111 = .ok (.iinc 5 1, 3) := by decide +kernel
theorem dX12_leans_114 : decode cX12_leans 114 = .ok (.iinc 6 1, 3) := by decide +kernel
theorem dX12_leans_117 : decode cX12_leans 117 = .ok (.goto (-74), 3) := by decide +kernel
theorem dX12_leans_120 : decode cX12_leans 120 = .ok (.iload 5, 2) := by decide +kernel
theorem dX12_leans_122 : decode cX12_leans 122 = .ok (.ifCond .ne 9, 3) := by decide +kernel
theorem dX12_leans_125 : decode cX12_leans 125 = .ok (.ldc2_w 222, 3) := by decide +kernel
theorem dX12_leans_128 : decode cX12_leans 128 = .ok (.goto 13, 3) := by decide +kernel
theorem dX12_leans_131 : decode cX12_leans 131 = .ok (.iload 4, 2) := by decide +kernel
theorem dX12_leans_133 : decode cX12_leans 133 = .ok (.i2l, 1) := by decide +kernel
theorem dX12_leans_134 : decode cX12_leans 134 = .ok (.iload 5, 2) := by decide +kernel
theorem dX12_leans_136 : decode cX12_leans 136 = .ok (.i2l, 1) := by decide +kernel
theorem dX12_leans_137 : decode cX12_leans 137 = .ok (.iload_n 3, 1) := by decide +kernel
theorem dX12_leans_138 : decode cX12_leans 138 = .ok (.invokestatic 228, 3) := by decide +kernel
theorem dX12_leans_141 : decode cX12_leans 141 = .ok (.lreturn, 1) := by decide +kernel
set_option maxRecDepth 20000 in
theorem ggX12_looked_X12_movedOf : GoodIn wsX12_looked wsX12_movedOf := goodIn_r _ [6, 1, 7, 8, 9, 10, 5, 11, 12, 13, 14, 15, 16, 17, 18, 19, 20, 21, 22, 23, 24, 25, 26, 27, 28, 29, 30, 31, 32, 33, 34, 35, 36, 37, 38, 39, 40, 41, 42, 43, 44, 45, 46, 47, 48, 49, 50, 51, 52, 53, 54, 55, 56, 57, 58, 59, 60, 61, 62, 63, 64, 65, 66, 67, 68, 69, 70, 71, 72, 73, 74, 75, 76, 77, 78, 79, 80, 81, 82, 83, 84, 85, 86, 87, 88, 89, 90, 91] (by decide +kernel) (by decide +kernel)
set_option maxRecDepth 20000 in
theorem gX12_looked_X12_movedOf : GoodIn wsX12_looked (wsV RX12 200 RX12 yX12_movedOf wsX12_movedOf) := goodIn_app (goodIn_of _ (by decide +kernel)) ggX12_looked_X12_movedOf
theorem dX12_looked_0 : decode cX12_looked 0 = .ok (.iconst 0, 1) := by decide +kernel
theorem dX12_looked_1 : decode cX12_looked 1 = .ok (.istore_n 1, 1) := by decide +kernel
theorem dX12_looked_2 : decode cX12_looked 2 = .ok (.iload_n 1, 1) := by decide +kernel
theorem dX12_looked_3 : decode cX12_looked 3 = .ok (.aload_n 0, 1) := by decide +kernel
theorem dX12_looked_4 : decode cX12_looked 4 = .ok (.getfield 9, 3) := by decide +kernel
theorem dX12_looked_7 : decode cX12_looked 7 = .ok (.bipush 54, 2) := by decide +kernel
theorem dX12_looked_9 : decode cX12_looked 9 = .ok (.iaload, 1) := by decide +kernel
theorem dX12_looked_10 : decode cX12_looked 10 = .ok (.if_icmp .ge 45, 3) := by decide +kernel
theorem dX12_looked_13 : decode cX12_looked 13 = .ok (.aload_n 0, 1) := by decide +kernel
theorem dX12_looked_14 : decode cX12_looked 14 = .ok (.aload_n 0, 1) := by decide +kernel
theorem dX12_looked_15 : decode cX12_looked 15 = .ok (.getfield 9, 3) := by decide +kernel
theorem dX12_looked_18 : decode cX12_looked 18 = .ok (.bipush 72, 2) := by decide +kernel
theorem dX12_looked_20 : decode cX12_looked 20 = .ok (.iload_n 1, 1) := by decide +kernel
theorem dX12_looked_21 : decode cX12_looked 21 = .ok (.iadd, 1) := by decide +kernel
theorem dX12_looked_22 : decode cX12_looked 22 = .ok (.iaload, 1) := by decide +kernel
theorem dX12_looked_23 : decode cX12_looked 23 = .ok (.aload_n 0, 1) := by decide +kernel
theorem dX12_looked_24 : decode cX12_looked 24 = .ok (.getfield 9, 3) := by decide +kernel
theorem dX12_looked_27 : decode cX12_looked 27 = .ok (.bipush 92, 2) := by decide +kernel
theorem dX12_looked_29 : decode cX12_looked 29 = .ok (.iload_n 1, 1) := by decide +kernel
theorem dX12_looked_30 : decode cX12_looked 30 = .ok (.iadd, 1) := by decide +kernel
theorem dX12_looked_31 : decode cX12_looked 31 = .ok (.iaload, 1) := by decide +kernel
theorem dX12_looked_32 : decode cX12_looked 32 = .ok (.invokevirtual 200, 3) := by decide +kernel
theorem dX12_looked_35 : decode cX12_looked 35 = .ok (.aload_n 0, 1) := by decide +kernel
theorem dX12_looked_36 : decode cX12_looked 36 = .ok (.getfield 9, 3) := by decide +kernel
theorem dX12_looked_39 : decode cX12_looked 39 = .ok (.bipush 112, 2) := by decide +kernel
theorem dX12_looked_41 : decode cX12_looked 41 = .ok (.iload_n 1, 1) := by decide +kernel
theorem dX12_looked_42 : decode cX12_looked 42 = .ok (.iadd, 1) := by decide +kernel
theorem dX12_looked_43 : decode cX12_looked 43 = .ok (.iaload, 1) := by decide +kernel
theorem dX12_looked_44 : decode cX12_looked 44 = .ok (.if_icmp .eq 5, 3) := by decide +kernel
theorem dX12_looked_47 : decode cX12_looked 47 = .ok (.iload_n 1, 1) := by decide +kernel
theorem dX12_looked_48 : decode cX12_looked 48 = .ok (.ireturn, 1) := by decide +kernel
theorem dX12_looked_49 : decode cX12_looked 49 = .ok (.iinc 1 1, 3) := by decide +kernel
theorem dX12_looked_52 : decode cX12_looked 52 = .ok (.goto (-50), 3) := by decide +kernel
theorem dX12_looked_55 : decode cX12_looked 55 = .ok (.bipush (-5), 2) := by decide +kernel
theorem dX12_looked_57 : decode cX12_looked 57 = .ok (.ireturn, 1) := by decide +kernel
theorem dX12_ranBody_0 : decode cX12_ranBody 0 = .ok (.aload_n 0, 1) := by decide +kernel
theorem dX12_ranBody_1 : decode cX12_ranBody 1 = .ok (.getfield 242, 3) := by decide +kernel
theorem dX12_ranBody_4 : decode cX12_ranBody 4 = .ok (.bipush 20, 2) := by decide +kernel
theorem dX12_ranBody_6 : decode cX12_ranBody 6 = .ok (.if_icmp .ge 13, 3) := by decide +kernel
theorem dX12_ranBody_9 : decode cX12_ranBody 9 = .ok (.aload_n 0, 1) := by decide +kernel
theorem dX12_ranBody_10 : decode cX12_ranBody 10 = .ok (.getfield 43, 3) := by decide +kernel
theorem dX12_ranBody_13 : decode cX12_ranBody 13 = .ok (.aload_n 0, 1) := by decide +kernel
theorem dX12_ranBody_14 : decode cX12_ranBody 14 = .ok (.getfield 242, 3) := by decide +kernel
theorem dX12_ranBody_17 : decode cX12_ranBody 17 = .ok (.iload_n 1, 1) := by decide +kernel
theorem dX12_ranBody_18 : decode cX12_ranBody 18 = .ok (.iastore, 1) := by decide +kernel
theorem dX12_ranBody_19 : decode cX12_ranBody 19 = .ok (.aload_n 0, 1) := by decide +kernel
theorem dX12_ranBody_20 : decode cX12_ranBody 20 = .ok (.dup, 1) := by decide +kernel
theorem dX12_ranBody_21 : decode cX12_ranBody 21 = .ok (.getfield 242, 3) := by decide +kernel
theorem dX12_ranBody_24 : decode cX12_ranBody 24 = .ok (.iconst 1, 1) := by decide +kernel
theorem dX12_ranBody_25 : decode cX12_ranBody 25 = .ok (.iadd, 1) := by decide +kernel
theorem dX12_ranBody_26 : decode cX12_ranBody 26 = .ok (.putfield 242, 3) := by decide +kernel
theorem dX12_ranBody_29 : decode cX12_ranBody 29 = .ok (.return_, 1) := by decide +kernel
theorem dX12_isUnder_0 : decode cX12_isUnder 0 = .ok (.iload_n 1, 1) := by decide +kernel
theorem dX12_isUnder_1 : decode cX12_isUnder 1 = .ok (.ifCond .eq 24, 3) := by decide +kernel
theorem dX12_isUnder_4 : decode cX12_isUnder 4 = .ok (.iload_n 1, 1) := by decide +kernel
theorem dX12_isUnder_5 : decode cX12_isUnder 5 = .ok (.iload_n 0, 1) := by decide +kernel
theorem dX12_isUnder_6 : decode cX12_isUnder 6 = .ok (.if_icmp .eq 19, 3) := by decide +kernel
theorem dX12_isUnder_9 : decode cX12_isUnder 9 = .ok (.iload_n 1, 1) := by decide +kernel
theorem dX12_isUnder_10 : decode cX12_isUnder 10 = .ok (.ifCond .le 19, 3) := by decide +kernel
theorem dX12_isUnder_13 : decode cX12_isUnder 13 = .ok (.iload_n 1, 1) := by decide +kernel
theorem dX12_isUnder_14 : decode cX12_isUnder 14 = .ok (.iconst 4, 1) := by decide +kernel
theorem dX12_isUnder_15 : decode cX12_isUnder 15 = .ok (.if_icmp .ge 14, 3) := by decide +kernel
theorem dX12_isUnder_18 : decode cX12_isUnder 18 = .ok (.iload_n 0, 1) := by decide +kernel
theorem dX12_isUnder_19 : decode cX12_isUnder 19 = .ok (.iload_n 1, 1) := by decide +kernel
theorem dX12_isUnder_20 : decode cX12_isUnder 20 = .ok (.iconst 3, 1) := by decide +kernel
theorem dX12_isUnder_21 : decode cX12_isUnder 21 = .ok (.iadd, 1) := by decide +kernel
theorem dX12_isUnder_22 : decode cX12_isUnder 22 = .ok (.if_icmp .ne 7, 3) := by decide +kernel
theorem dX12_isUnder_25 : decode cX12_isUnder 25 = .ok (.iconst 1, 1) := by decide +kernel
theorem dX12_isUnder_26 : decode cX12_isUnder 26 = .ok (.goto 4, 3) := by decide +kernel
theorem dX12_isUnder_29 : decode cX12_isUnder 29 = .ok (.iconst 0, 1) := by decide +kernel
theorem dX12_isUnder_30 : decode cX12_isUnder 30 = .ok (.ireturn, 1) := by decide +kernel
set_option maxRecDepth 20000 in
theorem ggX12_plainWorks_X12_ranBody : GoodIn wsX12_plainWorks wsX12_ranBody := goodIn_r _ [6, 7, 8, 9, 10, 11, 12, 13, 14, 15, 16, 17, 18, 19, 20, 21, 22, 23, 24, 25, 26, 27, 28, 29, 30] (by decide +kernel) (by decide +kernel)
set_option maxRecDepth 20000 in
theorem gX12_plainWorks_X12_ranBody : GoodIn wsX12_plainWorks (wsV RX12 245 RX12 yX12_ranBody wsX12_ranBody) := goodIn_app (goodIn_of _ (by decide +kernel)) ggX12_plainWorks_X12_ranBody
theorem dX12_plainWorks_0 : decode cX12_plainWorks 0 = .ok (.aload_n 0, 1) := by decide +kernel
theorem dX12_plainWorks_1 : decode cX12_plainWorks 1 = .ok (.iconst 1, 1) := by decide +kernel
theorem dX12_plainWorks_2 : decode cX12_plainWorks 2 = .ok (.invokevirtual 245, 3) := by decide +kernel
theorem dX12_plainWorks_5 : decode cX12_plainWorks 5 = .ok (.iload_n 1, 1) := by decide +kernel
theorem dX12_plainWorks_6 : decode cX12_plainWorks 6 = .ok (.aload_n 0, 1) := by decide +kernel
theorem dX12_plainWorks_7 : decode cX12_plainWorks 7 = .ok (.getfield 248, 3) := by decide +kernel
theorem dX12_plainWorks_10 : decode cX12_plainWorks 10 = .ok (.iadd, 1) := by decide +kernel
theorem dX12_plainWorks_11 : decode cX12_plainWorks 11 = .ok (.ireturn, 1) := by decide +kernel
set_option maxRecDepth 20000 in
theorem ggX12_worksActs_X12_isUnder : GoodIn wsX12_worksActs wsX12_isUnder := goodIn_r _ [6] (by decide +kernel) (by decide +kernel)
set_option maxRecDepth 20000 in
theorem gX12_worksActs_X12_isUnder : GoodIn wsX12_worksActs (va_wsS RX12 254 yX12_isUnder wsX12_isUnder) := goodIn_app (goodIn_of _ (by decide +kernel)) ggX12_worksActs_X12_isUnder
set_option maxRecDepth 20000 in
theorem ggX12_worksActs_X12_ranBody : GoodIn wsX12_worksActs wsX12_ranBody := goodIn_r _ [10, 11, 12, 17, 18, 19, 20, 21, 22, 23, 24, 25, 26, 27, 28, 29, 30, 31, 32, 33, 34, 35, 36, 37, 38] (by decide +kernel) (by decide +kernel)
set_option maxRecDepth 20000 in
theorem gX12_worksActs_X12_ranBody : GoodIn wsX12_worksActs (wsV RX12 245 RX12 yX12_ranBody wsX12_ranBody) := goodIn_app (goodIn_of _ (by decide +kernel)) ggX12_worksActs_X12_ranBody
set_option maxRecDepth 20000 in
theorem ggX12_worksActs_X12_plainWorks : GoodIn wsX12_worksActs wsX12_plainWorks := goodIn_r _ [16, 2, 7, 8, 9, 5, 10, 11, 12, 17, 18, 19, 20, 21, 22, 23, 24, 25, 26, 27, 28, 29, 30, 31, 32, 33, 34, 35, 36, 37, 38] (by decide +kernel) (by decide +kernel)
set_option maxRecDepth 20000 in
theorem gX12_worksActs_X12_plainWorks : GoodIn wsX12_worksActs (wsV RX12 257 RX12 yX12_plainWorks wsX12_plainWorks) := goodIn_app (goodIn_of _ (by decide +kernel)) ggX12_worksActs_X12_plainWorks
theorem dX12_worksActs_0 : decode cX12_worksActs 0 = .ok (.aload_n 0, 1) := by decide +kernel
theorem dX12_worksActs_1 : decode cX12_worksActs 1 = .ok (.getfield 251, 3) := by decide +kernel
theorem dX12_worksActs_4 : decode cX12_worksActs 4 = .ok (.iconst 1, 1) := by decide +kernel
theorem dX12_worksActs_5 : decode cX12_worksActs 5 = .ok (.invokestatic 254, 3) := by decide +kernel
theorem dX12_worksActs_8 : decode cX12_worksActs 8 = .ok (.ifCond .eq 17, 3) := by decide +kernel
theorem dX12_worksActs_11 : decode cX12_worksActs 11 = .ok (.aload_n 0, 1) := by decide +kernel
theorem dX12_worksActs_12 : decode cX12_worksActs 12 = .ok (.bipush 11, 2) := by decide +kernel
theorem dX12_worksActs_14 : decode cX12_worksActs 14 = .ok (.invokevirtual 245, 3) := by decide +kernel
theorem dX12_worksActs_17 : decode cX12_worksActs 17 = .ok (.aload_n 0, 1) := by decide +kernel
theorem dX12_worksActs_18 : decode cX12_worksActs 18 = .ok (.iload_n 1, 1) := by decide +kernel
theorem dX12_worksActs_19 : decode cX12_worksActs 19 = .ok (.iconst 3, 1) := by decide +kernel
theorem dX12_worksActs_20 : decode cX12_worksActs 20 = .ok (.imul, 1) := by decide +kernel
theorem dX12_worksActs_21 : decode cX12_worksActs 21 = .ok (.invokevirtual 257, 3) := by decide +kernel
theorem dX12_worksActs_24 : decode cX12_worksActs 24 = .ok (.ireturn, 1) := by decide +kernel
theorem dX12_worksActs_25 : decode cX12_worksActs 25 = .ok (.aload_n 0, 1) := by decide +kernel
theorem dX12_worksActs_26 : decode cX12_worksActs 26 = .ok (.getfield 251, 3) := by decide +kernel
theorem dX12_worksActs_29 : decode cX12_worksActs 29 = .ok (.iconst 5, 1) := by decide +kernel
theorem dX12_worksActs_30 : decode cX12_worksActs 30 = .ok (.if_icmp .ne 20, 3) := by decide +kernel
theorem dX12_worksActs_33 : decode cX12_worksActs 33 = .ok (.aload_n 0, 1) := by decide +kernel
theorem dX12_worksActs_34 : decode cX12_worksActs 34 = .ok (.bipush 51, 2) := by decide +kernel
theorem dX12_worksActs_36 : decode cX12_worksActs 36 = .ok (.invokevirtual 245, 3) := by decide +kernel
theorem dX12_worksActs_39 : decode cX12_worksActs 39 = .ok (.aload_n 0, 1) := by decide +kernel
theorem dX12_worksActs_40 : decode cX12_worksActs 40 = .ok (.iload_n 1, 1) := by decide +kernel
theorem dX12_worksActs_41 : decode cX12_worksActs 41 = .ok (.invokevirtual 257, 3) := by decide +kernel
theorem dX12_worksActs_44 : decode cX12_worksActs 44 = .ok (.aload_n 0, 1) := by decide +kernel
theorem dX12_worksActs_45 : decode cX12_worksActs 45 = .ok (.getfield 248, 3) := by decide +kernel
theorem dX12_worksActs_48 : decode cX12_worksActs 48 = .ok (.ixor, 1) := by decide +kernel
theorem dX12_worksActs_49 : decode cX12_worksActs 49 = .ok (.ireturn, 1) := by decide +kernel
theorem dX12_worksActs_50 : decode cX12_worksActs 50 = .ok (.aload_n 0, 1) := by decide +kernel
theorem dX12_worksActs_51 : decode cX12_worksActs 51 = .ok (.iload_n 1, 1) := by decide +kernel
theorem dX12_worksActs_52 : decode cX12_worksActs 52 = .ok (.invokevirtual 257, 3) := by decide +kernel
theorem dX12_worksActs_55 : decode cX12_worksActs 55 = .ok (.ireturn, 1) := by decide +kernel
set_option maxRecDepth 20000 in
theorem ggX12_plainGrades_X12_ranBody : GoodIn wsX12_plainGrades wsX12_ranBody := goodIn_r _ [6, 7, 8, 22, 23, 24, 25, 26, 27, 28, 29, 30, 31, 32, 33, 34, 35, 36, 37, 38, 39, 40, 41, 42, 43] (by decide +kernel) (by decide +kernel)
set_option maxRecDepth 20000 in
theorem gX12_plainGrades_X12_ranBody : GoodIn wsX12_plainGrades (wsV RX12 245 RX12 yX12_ranBody wsX12_ranBody) := goodIn_app (goodIn_of _ (by decide +kernel)) ggX12_plainGrades_X12_ranBody
set_option maxRecDepth 20000 in
theorem ggX12_plainGrades_X12_worksActs : GoodIn wsX12_plainGrades wsX12_worksActs := goodIn_r _ [12, 13, 14, 15, 16, 5, 17, 2, 3, 4, 6, 7, 8, 18, 19, 20, 21, 22, 23, 24, 25, 26, 27, 28, 29, 30, 31, 32, 33, 34, 35, 36, 37, 38, 39, 40, 41, 42, 43] (by decide +kernel) (by decide +kernel)
set_option maxRecDepth 20000 in
theorem gX12_plainGrades_X12_worksActs : GoodIn wsX12_plainGrades (wsV RX12 260 RX12 yX12_worksActs wsX12_worksActs) := goodIn_app (goodIn_of _ (by decide +kernel)) ggX12_plainGrades_X12_worksActs
theorem dX12_plainGrades_0 : decode cX12_plainGrades 0 = .ok (.aload_n 0, 1) := by decide +kernel
theorem dX12_plainGrades_1 : decode cX12_plainGrades 1 = .ok (.iconst 2, 1) := by decide +kernel
theorem dX12_plainGrades_2 : decode cX12_plainGrades 2 = .ok (.invokevirtual 245, 3) := by decide +kernel
theorem dX12_plainGrades_5 : decode cX12_plainGrades 5 = .ok (.aload_n 0, 1) := by decide +kernel
theorem dX12_plainGrades_6 : decode cX12_plainGrades 6 = .ok (.iload_n 1, 1) := by decide +kernel
theorem dX12_plainGrades_7 : decode cX12_plainGrades 7 = .ok (.invokevirtual 260, 3) := by decide +kernel
theorem dX12_plainGrades_10 : decode cX12_plainGrades 10 = .ok (.aload_n 0, 1) := by decide +kernel
theorem dX12_plainGrades_11 : decode cX12_plainGrades 11 = .ok (.getfield 263, 3) := by decide +kernel
theorem dX12_plainGrades_14 : decode cX12_plainGrades 14 = .ok (.isub, 1) := by decide +kernel
theorem dX12_plainGrades_15 : decode cX12_plainGrades 15 = .ok (.ireturn, 1) := by decide +kernel
set_option maxRecDepth 20000 in
theorem ggX12_gradesActs_X12_isUnder : GoodIn wsX12_gradesActs wsX12_isUnder := goodIn_r _ [6] (by decide +kernel) (by decide +kernel)
set_option maxRecDepth 20000 in
theorem gX12_gradesActs_X12_isUnder : GoodIn wsX12_gradesActs (va_wsS RX12 254 yX12_isUnder wsX12_isUnder) := goodIn_app (goodIn_of _ (by decide +kernel)) ggX12_gradesActs_X12_isUnder
set_option maxRecDepth 20000 in
theorem ggX12_gradesActs_X12_ranBody : GoodIn wsX12_gradesActs wsX12_ranBody := goodIn_r _ [10, 11, 12, 26, 27, 28, 29, 30, 31, 32, 33, 34, 35, 36, 37, 38, 39, 40, 41, 42, 43, 44, 45, 46, 47] (by decide +kernel) (by decide +kernel)
set_option maxRecDepth 20000 in
theorem gX12_gradesActs_X12_ranBody : GoodIn wsX12_gradesActs (wsV RX12 245 RX12 yX12_ranBody wsX12_ranBody) := goodIn_app (goodIn_of _ (by decide +kernel)) ggX12_gradesActs_X12_ranBody
set_option maxRecDepth 20000 in
theorem ggX12_gradesActs_X12_plainGrades : GoodIn wsX12_gradesActs wsX12_plainGrades := goodIn_r _ [16, 2, 7, 8, 9, 5, 10, 11, 12, 17, 18, 19, 20, 1, 21, 3, 4, 6, 22, 23, 24, 25, 26, 27, 28, 29, 30, 31, 32, 33, 34, 35, 36, 37, 38, 39, 40, 41, 42, 43, 44, 45, 46, 47] (by decide +kernel) (by decide +kernel)
set_option maxRecDepth 20000 in
theorem gX12_gradesActs_X12_plainGrades : GoodIn wsX12_gradesActs (wsV RX12 266 RX12 yX12_plainGrades wsX12_plainGrades) := goodIn_app (goodIn_of _ (by decide +kernel)) ggX12_gradesActs_X12_plainGrades
theorem dX12_gradesActs_0 : decode cX12_gradesActs 0 = .ok (.aload_n 0, 1) := by decide +kernel
theorem dX12_gradesActs_1 : decode cX12_gradesActs 1 = .ok (.getfield 251, 3) := by decide +kernel
theorem dX12_gradesActs_4 : decode cX12_gradesActs 4 = .ok (.iconst 2, 1) := by decide +kernel
theorem dX12_gradesActs_5 : decode cX12_gradesActs 5 = .ok (.invokestatic 254, 3) := by decide +kernel
theorem dX12_gradesActs_8 : decode cX12_gradesActs 8 = .ok (.ifCond .eq 16, 3) := by decide +kernel
theorem dX12_gradesActs_11 : decode cX12_gradesActs 11 = .ok (.aload_n 0, 1) := by decide +kernel
theorem dX12_gradesActs_12 : decode cX12_gradesActs 12 = .ok (.bipush 21, 2) := by decide +kernel
theorem dX12_gradesActs_14 : decode cX12_gradesActs 14 = .ok (.invokevirtual 245, 3) := by decide +kernel
theorem dX12_gradesActs_17 : decode cX12_gradesActs 17 = .ok (.aload_n 0, 1) := by decide +kernel
theorem dX12_gradesActs_18 : decode cX12_gradesActs 18 = .ok (.iload_n 1, 1) := by decide +kernel
theorem dX12_gradesActs_19 : decode cX12_gradesActs 19 = .ok (.invokevirtual 266, 3) := by decide +kernel
theorem dX12_gradesActs_22 : decode cX12_gradesActs 22 = .ok (.ineg, 1) := by decide +kernel
theorem dX12_gradesActs_23 : decode cX12_gradesActs 23 = .ok (.ireturn, 1) := by decide +kernel
theorem dX12_gradesActs_24 : decode cX12_gradesActs 24 = .ok (.aload_n 0, 1) := by decide +kernel
theorem dX12_gradesActs_25 : decode cX12_gradesActs 25 = .ok (.getfield 251, 3) := by decide +kernel
theorem dX12_gradesActs_28 : decode cX12_gradesActs 28 = .ok (.bipush 6, 2) := by decide +kernel
theorem dX12_gradesActs_30 : decode cX12_gradesActs 30 = .ok (.if_icmp .ne 20, 3) := by decide +kernel
theorem dX12_gradesActs_33 : decode cX12_gradesActs 33 = .ok (.aload_n 0, 1) := by decide +kernel
theorem dX12_gradesActs_34 : decode cX12_gradesActs 34 = .ok (.bipush 61, 2) := by decide +kernel
theorem dX12_gradesActs_36 : decode cX12_gradesActs 36 = .ok (.invokevirtual 245, 3) := by decide +kernel
theorem dX12_gradesActs_39 : decode cX12_gradesActs 39 = .ok (.aload_n 0, 1) := by decide +kernel
theorem dX12_gradesActs_40 : decode cX12_gradesActs 40 = .ok (.iload_n 1, 1) := by decide +kernel
theorem dX12_gradesActs_41 : decode cX12_gradesActs 41 = .ok (.invokevirtual 266, 3) := by decide +kernel
theorem dX12_gradesActs_44 : decode cX12_gradesActs 44 = .ok (.aload_n 0, 1) := by decide +kernel
theorem dX12_gradesActs_45 : decode cX12_gradesActs 45 = .ok (.getfield 263, 3) := by decide +kernel
theorem dX12_gradesActs_48 : decode cX12_gradesActs 48 = .ok (.iadd, 1) := by decide +kernel
theorem dX12_gradesActs_49 : decode cX12_gradesActs 49 = .ok (.ireturn, 1) := by decide +kernel
theorem dX12_gradesActs_50 : decode cX12_gradesActs 50 = .ok (.aload_n 0, 1) := by decide +kernel
theorem dX12_gradesActs_51 : decode cX12_gradesActs 51 = .ok (.iload_n 1, 1) := by decide +kernel
theorem dX12_gradesActs_52 : decode cX12_gradesActs 52 = .ok (.invokevirtual 266, 3) := by decide +kernel
theorem dX12_gradesActs_55 : decode cX12_gradesActs 55 = .ok (.ireturn, 1) := by decide +kernel
set_option maxRecDepth 20000 in
theorem ggX12_plainLevels_X12_ranBody : GoodIn wsX12_plainLevels wsX12_ranBody := goodIn_r _ [5, 6, 7, 30, 31, 32, 33, 34, 35, 36, 37, 38, 39, 40, 41, 42, 43, 44, 45, 46, 47, 48, 49, 50, 51] (by decide +kernel) (by decide +kernel)
set_option maxRecDepth 20000 in
theorem gX12_plainLevels_X12_ranBody : GoodIn wsX12_plainLevels (wsV RX12 245 RX12 yX12_ranBody wsX12_ranBody) := goodIn_app (goodIn_of _ (by decide +kernel)) ggX12_plainLevels_X12_ranBody
set_option maxRecDepth 20000 in
theorem ggX12_plainLevels_X12_gradesActs : GoodIn wsX12_plainLevels wsX12_gradesActs := goodIn_r _ [11, 12, 13, 14, 15, 4, 16, 1, 2, 3, 5, 6, 7, 17, 18, 19, 20, 21, 22, 23, 24, 25, 26, 27, 28, 29, 30, 31, 32, 33, 34, 35, 36, 37, 38, 39, 40, 41, 42, 43, 44, 45, 46, 47, 48, 49, 50, 51] (by decide +kernel) (by decide +kernel)
set_option maxRecDepth 20000 in
theorem gX12_plainLevels_X12_gradesActs : GoodIn wsX12_plainLevels (wsV RX12 269 RX12 yX12_gradesActs wsX12_gradesActs) := goodIn_app (goodIn_of _ (by decide +kernel)) ggX12_plainLevels_X12_gradesActs
theorem dX12_plainLevels_0 : decode cX12_plainLevels 0 = .ok (.aload_n 0, 1) := by decide +kernel
theorem dX12_plainLevels_1 : decode cX12_plainLevels 1 = .ok (.iconst 3, 1) := by decide +kernel
theorem dX12_plainLevels_2 : decode cX12_plainLevels 2 = .ok (.invokevirtual 245, 3) := by decide +kernel
theorem dX12_plainLevels_5 : decode cX12_plainLevels 5 = .ok (.aload_n 0, 1) := by decide +kernel
theorem dX12_plainLevels_6 : decode cX12_plainLevels 6 = .ok (.iload_n 1, 1) := by decide +kernel
theorem dX12_plainLevels_7 : decode cX12_plainLevels 7 = .ok (.invokevirtual 269, 3) := by decide +kernel
theorem dX12_plainLevels_10 : decode cX12_plainLevels 10 = .ok (.iconst 2, 1) := by decide +kernel
theorem dX12_plainLevels_11 : decode cX12_plainLevels 11 = .ok (.imul, 1) := by decide +kernel
theorem dX12_plainLevels_12 : decode cX12_plainLevels 12 = .ok (.ireturn, 1) := by decide +kernel
set_option maxRecDepth 20000 in
theorem ggX12_levelsActs_X12_isUnder : GoodIn wsX12_levelsActs wsX12_isUnder := goodIn_r _ [5] (by decide +kernel) (by decide +kernel)
set_option maxRecDepth 20000 in
theorem gX12_levelsActs_X12_isUnder : GoodIn wsX12_levelsActs (va_wsS RX12 254 yX12_isUnder wsX12_isUnder) := goodIn_app (goodIn_of _ (by decide +kernel)) ggX12_levelsActs_X12_isUnder
set_option maxRecDepth 20000 in
theorem ggX12_levelsActs_X12_ranBody : GoodIn wsX12_levelsActs wsX12_ranBody := goodIn_r _ [9, 10, 11, 34, 35, 36, 37, 38, 39, 40, 41, 42, 43, 44, 45, 46, 47, 48, 49, 50, 51, 52, 53, 54, 55] (by decide +kernel) (by decide +kernel)
set_option maxRecDepth 20000 in
theorem gX12_levelsActs_X12_ranBody : GoodIn wsX12_levelsActs (wsV RX12 245 RX12 yX12_ranBody wsX12_ranBody) := goodIn_app (goodIn_of _ (by decide +kernel)) ggX12_levelsActs_X12_ranBody
set_option maxRecDepth 20000 in
theorem ggX12_levelsActs_X12_plainLevels : GoodIn wsX12_levelsActs wsX12_plainLevels := goodIn_r _ [15, 6, 7, 8, 4, 9, 10, 11, 16, 17, 18, 19, 1, 20, 2, 3, 5, 21, 22, 23, 24, 25, 26, 27, 28, 29, 30, 31, 32, 33, 34, 35, 36, 37, 38, 39, 40, 41, 42, 43, 44, 45, 46, 47, 48, 49, 50, 51, 52, 53, 54, 55] (by decide +kernel) (by decide +kernel)
set_option maxRecDepth 20000 in
theorem gX12_levelsActs_X12_plainLevels : GoodIn wsX12_levelsActs (wsV RX12 272 RX12 yX12_plainLevels wsX12_plainLevels) := goodIn_app (goodIn_of _ (by decide +kernel)) ggX12_levelsActs_X12_plainLevels
set_option maxRecDepth 20000 in
theorem ggX12_levelsActs_X12_worksActs : GoodIn wsX12_levelsActs wsX12_worksActs := goodIn_r _ [28, 1, 29, 2, 3, 4, 5, 6, 7, 8, 9, 10, 11, 30, 31, 32, 33, 34, 35, 36, 37, 38, 39, 40, 41, 42, 43, 44, 45, 46, 47, 48, 49, 50, 51, 52, 53, 54, 55] (by decide +kernel) (by decide +kernel)
set_option maxRecDepth 20000 in
theorem gX12_levelsActs_X12_worksActs : GoodIn wsX12_levelsActs (wsV RX12 260 RX12 yX12_worksActs wsX12_worksActs) := goodIn_app (goodIn_of _ (by decide +kernel)) ggX12_levelsActs_X12_worksActs
theorem dX12_levelsActs_0 : decode cX12_levelsActs 0 = .ok (.aload_n 0, 1) := by decide +kernel
theorem dX12_levelsActs_1 : decode cX12_levelsActs 1 = .ok (.getfield 251, 3) := by decide +kernel
theorem dX12_levelsActs_4 : decode cX12_levelsActs 4 = .ok (.iconst 3, 1) := by decide +kernel
theorem dX12_levelsActs_5 : decode cX12_levelsActs 5 = .ok (.invokestatic 254, 3) := by decide +kernel
theorem dX12_levelsActs_8 : decode cX12_levelsActs 8 = .ok (.ifCond .eq 18, 3) := by decide +kernel
theorem dX12_levelsActs_11 : decode cX12_levelsActs 11 = .ok (.aload_n 0, 1) := by decide +kernel
theorem dX12_levelsActs_12 : decode cX12_levelsActs 12 = .ok (.bipush 31, 2) := by decide +kernel
theorem dX12_levelsActs_14 : decode cX12_levelsActs 14 = .ok (.invokevirtual 245, 3) := by decide +kernel
theorem dX12_levelsActs_17 : decode cX12_levelsActs 17 = .ok (.aload_n 0, 1) := by decide +kernel
theorem dX12_levelsActs_18 : decode cX12_levelsActs 18 = .ok (.iload_n 1, 1) := by decide +kernel
theorem dX12_levelsActs_19 : decode cX12_levelsActs 19 = .ok (.invokevirtual 272, 3) := by decide +kernel
theorem dX12_levelsActs_22 : decode cX12_levelsActs 22 = .ok (.bipush 7, 2) := by decide +kernel
theorem dX12_levelsActs_24 : decode cX12_levelsActs 24 = .ok (.ixor, 1) := by decide +kernel
theorem dX12_levelsActs_25 : decode cX12_levelsActs 25 = .ok (.ireturn, 1) := by decide +kernel
theorem dX12_levelsActs_26 : decode cX12_levelsActs 26 = .ok (.aload_n 0, 1) := by decide +kernel
theorem dX12_levelsActs_27 : decode cX12_levelsActs 27 = .ok (.getfield 251, 3) := by decide +kernel
theorem dX12_levelsActs_30 : decode cX12_levelsActs 30 = .ok (.iconst 4, 1) := by decide +kernel
theorem dX12_levelsActs_31 : decode cX12_levelsActs 31 = .ok (.if_icmp .ne 25, 3) := by decide +kernel
theorem dX12_levelsActs_34 : decode cX12_levelsActs 34 = .ok (.aload_n 0, 1) := by decide +kernel
theorem dX12_levelsActs_35 : decode cX12_levelsActs 35 = .ok (.bipush 41, 2) := by decide +kernel
theorem dX12_levelsActs_37 : decode cX12_levelsActs 37 = .ok (.invokevirtual 245, 3) := by decide +kernel
theorem dX12_levelsActs_40 : decode cX12_levelsActs 40 = .ok (.aload_n 0, 1) := by decide +kernel
theorem dX12_levelsActs_41 : decode cX12_levelsActs 41 = .ok (.iload_n 1, 1) := by decide +kernel
theorem dX12_levelsActs_42 : decode cX12_levelsActs 42 = .ok (.iconst 1, 1) := by decide +kernel
theorem dX12_levelsActs_43 : decode cX12_levelsActs 43 = .ok (.isub, 1) := by decide +kernel
theorem dX12_levelsActs_44 : decode cX12_levelsActs 44 = .ok (.invokevirtual 272, 3) := by decide +kernel
theorem dX12_levelsActs_47 : decode cX12_levelsActs 47 = .ok (.istore_n 2, 1) := by decide +kernel
theorem dX12_levelsActs_48 : decode cX12_levelsActs 48 = .ok (.iload_n 2, 1) := by decide +kernel
theorem dX12_levelsActs_49 : decode cX12_levelsActs 49 = .ok (.aload_n 0, 1) := by decide +kernel
theorem dX12_levelsActs_50 : decode cX12_levelsActs 50 = .ok (.iconst 2, 1) := by decide +kernel
theorem dX12_levelsActs_51 : decode cX12_levelsActs 51 = .ok (.invokevirtual 260, 3) := by decide +kernel
theorem dX12_levelsActs_54 : decode cX12_levelsActs 54 = .ok (.iadd, 1) := by decide +kernel
theorem dX12_levelsActs_55 : decode cX12_levelsActs 55 = .ok (.ireturn, 1) := by decide +kernel
theorem dX12_levelsActs_56 : decode cX12_levelsActs 56 = .ok (.aload_n 0, 1) := by decide +kernel
theorem dX12_levelsActs_57 : decode cX12_levelsActs 57 = .ok (.iload_n 1, 1) := by decide +kernel
theorem dX12_levelsActs_58 : decode cX12_levelsActs 58 = .ok (.invokevirtual 272, 3) := by decide +kernel
theorem dX12_levelsActs_61 : decode cX12_levelsActs 61 = .ok (.ireturn, 1) := by decide +kernel
set_option maxRecDepth 20000 in
theorem ggX12_act_X12_isChief : GoodIn wsX12_act wsX12_isChief := goodIn_r _ [10, 2, 11, 12, 9, 13, 46, 47, 48, 49, 50, 51, 52, 53, 54, 55, 56, 57, 58, 59, 60, 61, 62, 63, 64, 65, 66, 67] (by decide +kernel) (by decide +kernel)
set_option maxRecDepth 20000 in
theorem gX12_act_X12_isChief : GoodIn wsX12_act (wsV RX12 138 RX12 yX12_isChief wsX12_isChief) := goodIn_app (goodIn_of _ (by decide +kernel)) ggX12_act_X12_isChief
set_option maxRecDepth 20000 in
theorem ggX12_act_X12_in : GoodIn wsX12_act wsX12_in := goodIn_r _ [13] (by decide +kernel) (by decide +kernel)
set_option maxRecDepth 20000 in
theorem gX12_act_X12_in : GoodIn wsX12_act (va_wsS RX12 50 yX12_in wsX12_in) := goodIn_app (goodIn_of _ (by decide +kernel)) ggX12_act_X12_in
set_option maxRecDepth 20000 in
theorem ggX12_act_X12_worksActs : GoodIn wsX12_act wsX12_worksActs := goodIn_r _ [17, 3, 4, 18, 19, 9, 20, 21, 22, 23, 24, 1, 25, 26, 27, 28, 29, 46, 47, 48, 49, 50, 51, 52, 53, 54, 55, 56, 57, 58, 59, 60, 61, 62, 63, 64, 65, 66, 67] (by decide +kernel) (by decide +kernel)
set_option maxRecDepth 20000 in
theorem gX12_act_X12_worksActs : GoodIn wsX12_act (wsV RX12 260 RX12 yX12_worksActs wsX12_worksActs) := goodIn_app (goodIn_of _ (by decide +kernel)) ggX12_act_X12_worksActs
set_option maxRecDepth 20000 in
theorem ggX12_act_X12_gradesActs : GoodIn wsX12_act wsX12_gradesActs := goodIn_r _ [33, 3, 5, 18, 19, 9, 20, 21, 22, 23, 24, 1, 25, 34, 35, 36, 37, 14, 15, 16, 17, 4, 26, 27, 28, 29, 46, 47, 48, 49, 50, 51, 52, 53, 54, 55, 56, 57, 58, 59, 60, 61, 62, 63, 64, 65, 66, 67] (by decide +kernel) (by decide +kernel)
set_option maxRecDepth 20000 in
theorem gX12_act_X12_gradesActs : GoodIn wsX12_act (wsV RX12 269 RX12 yX12_gradesActs wsX12_gradesActs) := goodIn_app (goodIn_of _ (by decide +kernel)) ggX12_act_X12_gradesActs
set_option maxRecDepth 20000 in
theorem ggX12_act_X12_levelsActs : GoodIn wsX12_act wsX12_levelsActs := goodIn_r _ [41, 3, 18, 19, 9, 20, 21, 22, 23, 24, 1, 25, 42, 43, 44, 45, 30, 31, 32, 33, 5, 34, 35, 36, 37, 14, 15, 16, 17, 4, 26, 27, 28, 29, 46, 47, 48, 49, 50, 51, 52, 53, 54, 55, 56, 57, 58, 59, 60, 61, 62, 63, 64, 65, 66, 67] (by decide +kernel) (by decide +kernel)
set_option maxRecDepth 20000 in
theorem gX12_act_X12_levelsActs : GoodIn wsX12_act (wsV RX12 275 RX12 yX12_levelsActs wsX12_levelsActs) := goodIn_app (goodIn_of _ (by decide +kernel)) ggX12_act_X12_levelsActs
theorem dX12_act_0 : decode cX12_act 0 = .ok (.aload_n 0, 1) := by decide +kernel
theorem dX12_act_1 : decode cX12_act 1 = .ok (.iconst 0, 1) := by decide +kernel
theorem dX12_act_2 : decode cX12_act 2 = .ok (.putfield 242, 3) := by decide +kernel
theorem dX12_act_5 : decode cX12_act 5 = .ok (.aload_n 0, 1) := by decide +kernel
theorem dX12_act_6 : decode cX12_act 6 = .ok (.iload_n 1, 1) := by decide +kernel
theorem dX12_act_7 : decode cX12_act 7 = .ok (.invokevirtual 138, 3) := by decide +kernel
theorem dX12_act_10 : decode cX12_act 10 = .ok (.ifCond .eq 12, 3) := by decide +kernel
theorem dX12_act_13 : decode cX12_act 13 = .ok (.iload_n 2, 1) := by decide +kernel
theorem dX12_act_14 : decode cX12_act 14 = .ok (.iconst 0, 1) := by decide +kernel
theorem dX12_act_15 : decode cX12_act 15 = .ok (.iconst 2, 1) := by decide +kernel
theorem dX12_act_16 : decode cX12_act 16 = .ok (.invokestatic 50, 3) := by decide +kernel
theorem dX12_act_19 : decode cX12_act 19 = .ok (.ifCond .ne 5, 3) := by decide +kernel
theorem dX12_act_22 : decode cX12_act 22 = .ok (.iconst 0, 1) := by decide +kernel
theorem dX12_act_23 : decode cX12_act 23 = .ok (.ireturn, 1) := by decide +kernel
theorem dX12_act_24 : decode cX12_act 24 = .ok (.aload_n 0, 1) := by decide +kernel
theorem dX12_act_25 : decode cX12_act 25 = .ok (.aload_n 0, 1) := by decide +kernel
theorem dX12_act_26 : decode cX12_act 26 = .ok (.getfield 9, 3) := by decide +kernel
theorem dX12_act_29 : decode cX12_act 29 = .ok (.bipush 60, 2) := by decide +kernel
theorem dX12_act_31 : decode cX12_act 31 = .ok (.iload_n 1, 1) := by decide +kernel
theorem dX12_act_32 : decode cX12_act 32 = .ok (.iadd, 1) := by decide +kernel
theorem dX12_act_33 : decode cX12_act 33 = .ok (.iaload, 1) := by decide +kernel
theorem dX12_act_34 : decode cX12_act 34 = .ok (.putfield 251, 3) := by decide +kernel
theorem dX12_act_37 : decode cX12_act 37 = .ok (.aload_n 0, 1) := by decide +kernel
theorem dX12_act_38 : decode cX12_act 38 = .ok (.iload_n 1, 1) := by decide +kernel
theorem dX12_act_39 : decode cX12_act 39 = .ok (.putfield 248, 3) := by decide +kernel
theorem dX12_act_42 : decode cX12_act 42 = .ok (.aload_n 0, 1) := by decide +kernel
theorem dX12_act_43 : decode cX12_act 43 = .ok (.aload_n 0, 1) := by decide +kernel
theorem dX12_act_44 : decode cX12_act 44 = .ok (.getfield 9, 3) := by decide +kernel
theorem dX12_act_47 : decode cX12_act 47 = .ok (.bipush 64, 2) := by decide +kernel
theorem dX12_act_49 : decode cX12_act 49 = .ok (.iload_n 1, 1) := by decide +kernel
theorem dX12_act_50 : decode cX12_act 50 = .ok (.iadd, 1) := by decide +kernel
theorem dX12_act_51 : decode cX12_act 51 = .ok (.iaload, 1) := by decide +kernel
theorem dX12_act_52 : decode cX12_act 52 = .ok (.putfield 263, 3) := by decide +kernel
theorem dX12_act_55 : decode cX12_act 55 = .ok (.iload_n 2, 1) := by decide +kernel
theorem dX12_act_56 : decode cX12_act 56 = .ok (.ifCond .ne 11, 3) := by decide +kernel
theorem dX12_act_59 : decode cX12_act 59 = .ok (.aload_n 0, 1) := by decide +kernel
theorem dX12_act_60 : decode cX12_act 60 = .ok (.iload_n 3, 1) := by decide +kernel
theorem dX12_act_61 : decode cX12_act 61 = .ok (.invokevirtual 260, 3) := by decide +kernel
theorem dX12_act_64 : decode cX12_act 64 = .ok (.goto 21, 3) := by decide +kernel
theorem dX12_act_67 : decode cX12_act 67 = .ok (.iload_n 2, 1) := by decide +kernel
theorem dX12_act_68 : decode cX12_act 68 = .ok (.iconst 1, 1) := by decide +kernel
theorem dX12_act_69 : decode cX12_act 69 = .ok (.if_icmp .ne 11, 3) := by decide +kernel
theorem dX12_act_72 : decode cX12_act 72 = .ok (.aload_n 0, 1) := by decide +kernel
theorem dX12_act_73 : decode cX12_act 73 = .ok (.iload_n 3, 1) := by decide +kernel
theorem dX12_act_74 : decode cX12_act 74 = .ok (.invokevirtual 269, 3) := by decide +kernel
theorem dX12_act_77 : decode cX12_act 77 = .ok (.goto 8, 3) := by decide +kernel
theorem dX12_act_80 : decode cX12_act 80 = .ok (.aload_n 0, 1) := by decide +kernel
theorem dX12_act_81 : decode cX12_act 81 = .ok (.iload_n 3, 1) := by decide +kernel
theorem dX12_act_82 : decode cX12_act 82 = .ok (.invokevirtual 275, 3) := by decide +kernel
theorem dX12_act_85 : decode cX12_act 85 = .ok (.ireturn, 1) := by decide +kernel
set_option maxRecDepth 20000 in
theorem ggX12_trace_X12_in : GoodIn wsX12_trace wsX12_in := goodIn_r _ [6] (by decide +kernel) (by decide +kernel)
set_option maxRecDepth 20000 in
theorem gX12_trace_X12_in : GoodIn wsX12_trace (va_wsS RX12 50 yX12_in wsX12_in) := goodIn_app (goodIn_of _ (by decide +kernel)) ggX12_trace_X12_in
theorem dX12_trace_0 : decode cX12_trace 0 = .ok (.iload_n 1, 1) := by decide +kernel
theorem dX12_trace_1 : decode cX12_trace 1 = .ok (.iconst 0, 1) := by decide +kernel
theorem dX12_trace_2 : decode cX12_trace 2 = .ok (.aload_n 0, 1) := by decide +kernel
theorem dX12_trace_3 : decode cX12_trace 3 = .ok (.getfield 242, 3) := by decide +kernel
theorem dX12_trace_6 : decode cX12_trace 6 = .ok (.bipush 20, 2) := by decide +kernel
theorem dX12_trace_8 : decode cX12_trace 8 = .ok (.if_icmp .ge 10, 3) := by decide +kernel
theorem dX12_trace_11 : decode cX12_trace 11 = .ok (.aload_n 0, 1) := by decide +kernel
theorem dX12_trace_12 : decode cX12_trace 12 = .ok (.getfield 242, 3) := by decide +kernel
theorem dX12_trace_15 : decode cX12_trace 15 = .ok (.goto 5, 3) := by decide +kernel
theorem dX12_trace_18 : decode cX12_trace 18 = .ok (.bipush 20, 2) := by decide +kernel
theorem dX12_trace_20 : decode cX12_trace 20 = .ok (.iconst 1, 1) := by decide +kernel
theorem dX12_trace_21 : decode cX12_trace 21 = .ok (.isub, 1) := by decide +kernel
theorem dX12_trace_22 : decode cX12_trace 22 = .ok (.invokestatic 50, 3) := by decide +kernel
theorem dX12_trace_25 : decode cX12_trace 25 = .ok (.ifCond .eq 12, 3) := by decide +kernel
theorem dX12_trace_28 : decode cX12_trace 28 = .ok (.aload_n 0, 1) := by decide +kernel
theorem dX12_trace_29 : decode cX12_trace 29 = .ok (.getfield 43, 3) := by decide +kernel
theorem dX12_trace_32 : decode cX12_trace 32 = .ok (.iload_n 1, 1) := by decide +kernel
theorem dX12_trace_33 : decode cX12_trace 33 = .ok (.iaload, 1) := by decide +kernel
theorem dX12_trace_34 : decode cX12_trace 34 = .ok (.goto 4, 3) := by decide +kernel
theorem dX12_trace_37 : decode cX12_trace 37 = .ok (.iconst (-1), 1) := by decide +kernel
theorem dX12_trace_38 : decode cX12_trace 38 = .ok (.ireturn, 1) := by decide +kernel
set_option maxRecDepth 20000 in
theorem ggX12_as_X12_isChief : GoodIn wsX12_as wsX12_isChief := goodIn_r _ [6, 1, 7, 8, 5, 9, 13, 14, 15, 16, 17, 18, 19, 20, 21, 22, 23, 24, 25, 26, 27, 28, 29, 30, 31, 32, 33, 34] (by decide +kernel) (by decide +kernel)
set_option maxRecDepth 20000 in
theorem gX12_as_X12_isChief : GoodIn wsX12_as (wsV RX12 138 RX12 yX12_isChief wsX12_isChief) := goodIn_app (goodIn_of _ (by decide +kernel)) ggX12_as_X12_isChief
set_option maxRecDepth 20000 in
theorem ggX12_as_X12_in : GoodIn wsX12_as wsX12_in := goodIn_r _ [9] (by decide +kernel) (by decide +kernel)
set_option maxRecDepth 20000 in
theorem gX12_as_X12_in : GoodIn wsX12_as (va_wsS RX12 50 yX12_in wsX12_in) := goodIn_app (goodIn_of _ (by decide +kernel)) ggX12_as_X12_in
set_option maxRecDepth 20000 in
theorem ggX12_as_X12_isUnder : GoodIn wsX12_as wsX12_isUnder := goodIn_r _ [12] (by decide +kernel) (by decide +kernel)
set_option maxRecDepth 20000 in
theorem gX12_as_X12_isUnder : GoodIn wsX12_as (va_wsS RX12 254 yX12_isUnder wsX12_isUnder) := goodIn_app (goodIn_of _ (by decide +kernel)) ggX12_as_X12_isUnder
theorem dX12_as_0 : decode cX12_as 0 = .ok (.aload_n 0, 1) := by decide +kernel
theorem dX12_as_1 : decode cX12_as 1 = .ok (.iload_n 1, 1) := by decide +kernel
theorem dX12_as_2 : decode cX12_as 2 = .ok (.invokevirtual 138, 3) := by decide +kernel
theorem dX12_as_5 : decode cX12_as 5 = .ok (.ifCond .eq 13, 3) := by decide +kernel
theorem dX12_as_8 : decode cX12_as 8 = .ok (.iload_n 2, 1) := by decide +kernel
theorem dX12_as_9 : decode cX12_as 9 = .ok (.iconst 0, 1) := by decide +kernel
theorem dX12_as_10 : decode cX12_as 10 = .ok (.bipush 6, 2) := by decide +kernel
theorem dX12_as_12 : decode cX12_as 12 = .ok (.invokestatic 50, 3) := by decide +kernel
theorem dX12_as_15 : decode cX12_as 15 = .ok (.ifCond .ne 5, 3) := by decide +kernel
theorem dX12_as_18 : decode cX12_as 18 = .ok (.iconst (-1), 1) := by decide +kernel
theorem dX12_as_19 : decode cX12_as 19 = .ok (.ireturn, 1) := by decide +kernel
theorem dX12_as_20 : decode cX12_as 20 = .ok (.aload_n 0, 1) := by decide +kernel
theorem dX12_as_21 : decode cX12_as 21 = .ok (.getfield 9, 3) := by decide +kernel
theorem dX12_as_24 : decode cX12_as 24 = .ok (.bipush 60, 2) := by decide +kernel
theorem dX12_as_26 : decode cX12_as 26 = .ok (.iload_n 1, 1) := by decide +kernel
theorem dX12_as_27 : decode cX12_as 27 = .ok (.iadd, 1) := by decide +kernel
theorem dX12_as_28 : decode cX12_as 28 = .ok (.iaload, 1) := by decide +kernel
theorem dX12_as_29 : decode cX12_as 29 = .ok (.iload_n 2, 1) := by decide +kernel
theorem dX12_as_30 : decode cX12_as 30 = .ok (.invokestatic 254, 3) := by decide +kernel
theorem dX12_as_33 : decode cX12_as 33 = .ok (.ifCond .eq 15, 3) := by decide +kernel
theorem dX12_as_36 : decode cX12_as 36 = .ok (.aload_n 0, 1) := by decide +kernel
theorem dX12_as_37 : decode cX12_as 37 = .ok (.getfield 9, 3) := by decide +kernel
theorem dX12_as_40 : decode cX12_as 40 = .ok (.bipush 64, 2) := by decide +kernel
theorem dX12_as_42 : decode cX12_as 42 = .ok (.iload_n 1, 1) := by decide +kernel
theorem dX12_as_43 : decode cX12_as 43 = .ok (.iadd, 1) := by decide +kernel
theorem dX12_as_44 : decode cX12_as 44 = .ok (.iaload, 1) := by decide +kernel
theorem dX12_as_45 : decode cX12_as 45 = .ok (.goto 5, 3) := by decide +kernel
theorem dX12_as_48 : decode cX12_as 48 = .ok (.bipush (-6), 2) := by decide +kernel
theorem dX12_as_50 : decode cX12_as 50 = .ok (.ireturn, 1) := by decide +kernel
theorem dX12_image_0 : decode cX12_image 0 = .ok (.iconst 0, 1) := by decide +kernel
theorem dX12_image_1 : decode cX12_image 1 = .ok (.istore_n 1, 1) := by decide +kernel
theorem dX12_image_2 : decode cX12_image 2 = .ok (.iload_n 1, 1) := by decide +kernel
theorem dX12_image_3 : decode cX12_image 3 = .ok (.sipush 952, 3) := by decide +kernel
theorem dX12_image_6 : decode cX12_image 6 = .ok (.if_icmp .ge 21, 3) := by decide +kernel
theorem dX12_image_9 : decode cX12_image 9 = .ok (.aload_n 0, 1) := by decide +kernel
theorem dX12_image_10 : decode cX12_image 10 = .ok (.getfield 15, 3) := by decide +kernel
theorem dX12_image_13 : decode cX12_image 13 = .ok (.iload_n 1, 1) := by decide +kernel
theorem dX12_image_14 : decode cX12_image 14 = .ok (.aload_n 0, 1) := by decide +kernel
theorem dX12_image_15 : decode cX12_image 15 = .ok (.getfield 9, 3) := by decide +kernel
theorem dX12_image_18 : decode cX12_image 18 = .ok (.iload_n 1, 1) := by decide +kernel
theorem dX12_image_19 : decode cX12_image 19 = .ok (.iaload, 1) := by decide +kernel
theorem dX12_image_20 : decode cX12_image 20 = .ok (.iastore, 1) := by decide +kernel
theorem dX12_image_21 : decode cX12_image 21 = .ok (.iinc 1 1, 3) := by decide +kernel
theorem dX12_image_24 : decode cX12_image 24 = .ok (.goto (-22), 3) := by decide +kernel
theorem dX12_image_27 : decode cX12_image 27 = .ok (.aload_n 0, 1) := by decide +kernel
theorem dX12_image_28 : decode cX12_image 28 = .ok (.iconst 1, 1) := by decide +kernel
theorem dX12_image_29 : decode cX12_image 29 = .ok (.putfield 278, 3) := by decide +kernel
theorem dX12_image_32 : decode cX12_image 32 = .ok (.aload_n 0, 1) := by decide +kernel
theorem dX12_image_33 : decode cX12_image 33 = .ok (.getfield 9, 3) := by decide +kernel
theorem dX12_image_36 : decode cX12_image 36 = .ok (.bipush 51, 2) := by decide +kernel
theorem dX12_image_38 : decode cX12_image 38 = .ok (.iaload, 1) := by decide +kernel
theorem dX12_image_39 : decode cX12_image 39 = .ok (.ireturn, 1) := by decide +kernel
theorem dX12_undo_0 : decode cX12_undo 0 = .ok (.aload_n 0, 1) := by decide +kernel
theorem dX12_undo_1 : decode cX12_undo 1 = .ok (.getfield 278, 3) := by decide +kernel
theorem dX12_undo_4 : decode cX12_undo 4 = .ok (.ifCond .ne 6, 3) := by decide +kernel
theorem dX12_undo_7 : decode cX12_undo 7 = .ok (.bipush (-3), 2) := by decide +kernel
theorem dX12_undo_9 : decode cX12_undo 9 = .ok (.ireturn, 1) := by decide +kernel
theorem dX12_undo_10 : decode cX12_undo 10 = .ok (.iconst 0, 1) := by decide +kernel
theorem dX12_undo_11 : decode cX12_undo 11 = .ok (.istore_n 1, 1) := by decide +kernel
theorem dX12_undo_12 : decode cX12_undo 12 = .ok (.iload_n 1, 1) := by decide +kernel
theorem dX12_undo_13 : decode cX12_undo 13 = .ok (.sipush 952, 3) := by decide +kernel
theorem dX12_undo_16 : decode cX12_undo 16 = .ok (.if_icmp .ge 21, 3) := by decide +kernel
theorem dX12_undo_19 : decode cX12_undo 19 = .ok (.aload_n 0, 1) := by decide +kernel
theorem dX12_undo_20 : decode cX12_undo 20 = .ok (.getfield 9, 3) := by decide +kernel
theorem dX12_undo_23 : decode cX12_undo 23 = .ok (.iload_n 1, 1) := by decide +kernel
theorem dX12_undo_24 : decode cX12_undo 24 = .ok (.aload_n 0, 1) := by decide +kernel
theorem dX12_undo_25 : decode cX12_undo 25 = .ok (.getfield 15, 3) := by decide +kernel
theorem dX12_undo_28 : decode cX12_undo 28 = .ok (.iload_n 1, 1) := by decide +kernel
theorem dX12_undo_29 : decode cX12_undo 29 = .ok (.iaload, 1) := by decide +kernel
theorem dX12_undo_30 : decode cX12_undo 30 = .ok (.iastore, 1) := by decide +kernel
theorem dX12_undo_31 : decode cX12_undo 31 = .ok (.iinc 1 1, 3) := by decide +kernel
theorem dX12_undo_34 : decode cX12_undo 34 = .ok (.goto (-22), 3) := by decide +kernel
theorem dX12_undo_37 : decode cX12_undo 37 = .ok (.aload_n 0, 1) := by decide +kernel
theorem dX12_undo_38 : decode cX12_undo 38 = .ok (.getfield 9, 3) := by decide +kernel
theorem dX12_undo_41 : decode cX12_undo 41 = .ok (.bipush 51, 2) := by decide +kernel
theorem dX12_undo_43 : decode cX12_undo 43 = .ok (.iaload, 1) := by decide +kernel
theorem dX12_undo_44 : decode cX12_undo 44 = .ok (.ireturn, 1) := by decide +kernel
theorem dX12_count_0 : decode cX12_count 0 = .ok (.iload_n 1, 1) := by decide +kernel
theorem dX12_count_1 : decode cX12_count 1 = .ok (.tableswitch 84 0 5 #[39, 47, 55, 63, 71, 79], 39) := by decide +kernel
theorem dX12_count_40 : decode cX12_count 40 = .ok (.aload_n 0, 1) := by decide +kernel
theorem dX12_count_41 : decode cX12_count 41 = .ok (.getfield 9, 3) := by decide +kernel
theorem dX12_count_44 : decode cX12_count 44 = .ok (.bipush 51, 2) := by decide +kernel
theorem dX12_count_46 : decode cX12_count 46 = .ok (.iaload, 1) := by decide +kernel
theorem dX12_count_47 : decode cX12_count 47 = .ok (.ireturn, 1) := by decide +kernel
theorem dX12_count_48 : decode cX12_count 48 = .ok (.aload_n 0, 1) := by decide +kernel
theorem dX12_count_49 : decode cX12_count 49 = .ok (.getfield 9, 3) := by decide +kernel
theorem dX12_count_52 : decode cX12_count 52 = .ok (.bipush 52, 2) := by decide +kernel
theorem dX12_count_54 : decode cX12_count 54 = .ok (.iaload, 1) := by decide +kernel
theorem dX12_count_55 : decode cX12_count 55 = .ok (.ireturn, 1) := by decide +kernel
theorem dX12_count_56 : decode cX12_count 56 = .ok (.aload_n 0, 1) := by decide +kernel
theorem dX12_count_57 : decode cX12_count 57 = .ok (.getfield 9, 3) := by decide +kernel
theorem dX12_count_60 : decode cX12_count 60 = .ok (.bipush 53, 2) := by decide +kernel
theorem dX12_count_62 : decode cX12_count 62 = .ok (.iaload, 1) := by decide +kernel
theorem dX12_count_63 : decode cX12_count 63 = .ok (.ireturn, 1) := by decide +kernel
theorem dX12_count_64 : decode cX12_count 64 = .ok (.aload_n 0, 1) := by decide +kernel
theorem dX12_count_65 : decode cX12_count 65 = .ok (.getfield 9, 3) := by decide +kernel
theorem dX12_count_68 : decode cX12_count 68 = .ok (.bipush 54, 2) := by decide +kernel
theorem dX12_count_70 : decode cX12_count 70 = .ok (.iaload, 1) := by decide +kernel
theorem dX12_count_71 : decode cX12_count 71 = .ok (.ireturn, 1) := by decide +kernel
theorem dX12_count_72 : decode cX12_count 72 = .ok (.aload_n 0, 1) := by decide +kernel
theorem dX12_count_73 : decode cX12_count 73 = .ok (.getfield 9, 3) := by decide +kernel
theorem dX12_count_76 : decode cX12_count 76 = .ok (.bipush 55, 2) := by decide +kernel
theorem dX12_count_78 : decode cX12_count 78 = .ok (.iaload, 1) := by decide +kernel
theorem dX12_count_79 : decode cX12_count 79 = .ok (.ireturn, 1) := by decide +kernel
theorem dX12_count_80 : decode cX12_count 80 = .ok (.aload_n 0, 1) := by decide +kernel
theorem dX12_count_81 : decode cX12_count 81 = .ok (.getfield 242, 3) := by decide +kernel
theorem dX12_count_84 : decode cX12_count 84 = .ok (.ireturn, 1) := by decide +kernel
theorem dX12_count_85 : decode cX12_count 85 = .ok (.iconst (-1), 1) := by decide +kernel
theorem dX12_count_86 : decode cX12_count 86 = .ok (.ireturn, 1) := by decide +kernel
theorem dJ11_isValidCodePoint_9a6ad_0 : decode cJ11_isValidCodePoint_9a6ad 0 = .ok (.iload_n 0, 1) := by decide +kernel
theorem dJ11_isValidCodePoint_9a6ad_1 : decode cJ11_isValidCodePoint_9a6ad 1 = .ok (.bipush 16, 2) := by decide +kernel
theorem dJ11_isValidCodePoint_9a6ad_3 : decode cJ11_isValidCodePoint_9a6ad 3 = .ok (.iushr, 1) := by decide +kernel
theorem dJ11_isValidCodePoint_9a6ad_4 : decode cJ11_isValidCodePoint_9a6ad 4 = .ok (.istore_n 1, 1) := by decide +kernel
theorem dJ11_isValidCodePoint_9a6ad_5 : decode cJ11_isValidCodePoint_9a6ad 5 = .ok (.iload_n 1, 1) := by decide +kernel
theorem dJ11_isValidCodePoint_9a6ad_6 : decode cJ11_isValidCodePoint_9a6ad 6 = .ok (.bipush 17, 2) := by decide +kernel
theorem dJ11_isValidCodePoint_9a6ad_8 : decode cJ11_isValidCodePoint_9a6ad 8 = .ok (.if_icmp .ge 7, 3) := by decide +kernel
theorem dJ11_isValidCodePoint_9a6ad_11 : decode cJ11_isValidCodePoint_9a6ad 11 = .ok (.iconst 1, 1) := by decide +kernel
theorem dJ11_isValidCodePoint_9a6ad_12 : decode cJ11_isValidCodePoint_9a6ad 12 = .ok (.goto 4, 3) := by decide +kernel
theorem dJ11_isValidCodePoint_9a6ad_15 : decode cJ11_isValidCodePoint_9a6ad 15 = .ok (.iconst 0, 1) := by decide +kernel
theorem dJ11_isValidCodePoint_9a6ad_16 : decode cJ11_isValidCodePoint_9a6ad 16 = .ok (.ireturn, 1) := by decide +kernel
theorem dJ11_highSurrogate_5068e_0 : decode cJ11_highSurrogate_5068e 0 = .ok (.iload_n 0, 1) := by decide +kernel
theorem dJ11_highSurrogate_5068e_1 : decode cJ11_highSurrogate_5068e 1 = .ok (.bipush 10, 2) := by decide +kernel
theorem dJ11_highSurrogate_5068e_3 : decode cJ11_highSurrogate_5068e 3 = .ok (.iushr, 1) := by decide +kernel
theorem dJ11_highSurrogate_5068e_4 : decode cJ11_highSurrogate_5068e 4 = .ok (.ldc 110, 2) := by decide +kernel
theorem dJ11_highSurrogate_5068e_6 : decode cJ11_highSurrogate_5068e 6 = .ok (.iadd, 1) := by decide +kernel
theorem dJ11_highSurrogate_5068e_7 : decode cJ11_highSurrogate_5068e 7 = .ok (.i2c, 1) := by decide +kernel
theorem dJ11_highSurrogate_5068e_8 : decode cJ11_highSurrogate_5068e 8 = .ok (.ireturn, 1) := by decide +kernel
theorem dJ11_lowSurrogate_5068e_0 : decode cJ11_lowSurrogate_5068e 0 = .ok (.iload_n 0, 1) := by decide +kernel
theorem dJ11_lowSurrogate_5068e_1 : decode cJ11_lowSurrogate_5068e 1 = .ok (.sipush 1023, 3) := by decide +kernel
theorem dJ11_lowSurrogate_5068e_4 : decode cJ11_lowSurrogate_5068e 4 = .ok (.iand, 1) := by decide +kernel
theorem dJ11_lowSurrogate_5068e_5 : decode cJ11_lowSurrogate_5068e 5 = .ok (.ldc 76, 2) := by decide +kernel
theorem dJ11_lowSurrogate_5068e_7 : decode cJ11_lowSurrogate_5068e 7 = .ok (.iadd, 1) := by decide +kernel
theorem dJ11_lowSurrogate_5068e_8 : decode cJ11_lowSurrogate_5068e 8 = .ok (.i2c, 1) := by decide +kernel
theorem dJ11_lowSurrogate_5068e_9 : decode cJ11_lowSurrogate_5068e 9 = .ok (.ireturn, 1) := by decide +kernel
theorem dJ6_bitCount_0f7a4_0 : decode cJ6_bitCount_0f7a4 0 = .ok (.iload_n 0, 1) := by decide +kernel
theorem dJ6_bitCount_0f7a4_1 : decode cJ6_bitCount_0f7a4 1 = .ok (.iload_n 0, 1) := by decide +kernel
theorem dJ6_bitCount_0f7a4_2 : decode cJ6_bitCount_0f7a4 2 = .ok (.iconst 1, 1) := by decide +kernel
theorem dJ6_bitCount_0f7a4_3 : decode cJ6_bitCount_0f7a4 3 = .ok (.iushr, 1) := by decide +kernel
theorem dJ6_bitCount_0f7a4_4 : decode cJ6_bitCount_0f7a4 4 = .ok (.ldc_w 265, 3) := by decide +kernel
theorem dJ6_bitCount_0f7a4_7 : decode cJ6_bitCount_0f7a4 7 = .ok (.iand, 1) := by decide +kernel
theorem dJ6_bitCount_0f7a4_8 : decode cJ6_bitCount_0f7a4 8 = .ok (.isub, 1) := by decide +kernel
theorem dJ6_bitCount_0f7a4_9 : decode cJ6_bitCount_0f7a4 9 = .ok (.istore_n 0, 1) := by decide +kernel
theorem dJ6_bitCount_0f7a4_10 : decode cJ6_bitCount_0f7a4 10 = .ok (.iload_n 0, 1) := by decide +kernel
theorem dJ6_bitCount_0f7a4_11 : decode cJ6_bitCount_0f7a4 11 = .ok (.ldc_w 266, 3) := by decide +kernel
theorem dJ6_bitCount_0f7a4_14 : decode cJ6_bitCount_0f7a4 14 = .ok (.iand, 1) := by decide +kernel
theorem dJ6_bitCount_0f7a4_15 : decode cJ6_bitCount_0f7a4 15 = .ok (.iload_n 0, 1) := by decide +kernel
theorem dJ6_bitCount_0f7a4_16 : decode cJ6_bitCount_0f7a4 16 = .ok (.iconst 2, 1) := by decide +kernel
theorem dJ6_bitCount_0f7a4_17 : decode cJ6_bitCount_0f7a4 17 = .ok (.iushr, 1) := by decide +kernel
theorem dJ6_bitCount_0f7a4_18 : decode cJ6_bitCount_0f7a4 18 = .ok (.ldc_w 266, 3) := by decide +kernel
theorem dJ6_bitCount_0f7a4_21 : decode cJ6_bitCount_0f7a4 21 = .ok (.iand, 1) := by decide +kernel
theorem dJ6_bitCount_0f7a4_22 : decode cJ6_bitCount_0f7a4 22 = .ok (.iadd, 1) := by decide +kernel
theorem dJ6_bitCount_0f7a4_23 : decode cJ6_bitCount_0f7a4 23 = .ok (.istore_n 0, 1) := by decide +kernel
theorem dJ6_bitCount_0f7a4_24 : decode cJ6_bitCount_0f7a4 24 = .ok (.iload_n 0, 1) := by decide +kernel
theorem dJ6_bitCount_0f7a4_25 : decode cJ6_bitCount_0f7a4 25 = .ok (.iload_n 0, 1) := by decide +kernel
theorem dJ6_bitCount_0f7a4_26 : decode cJ6_bitCount_0f7a4 26 = .ok (.iconst 4, 1) := by decide +kernel
theorem dJ6_bitCount_0f7a4_27 : decode cJ6_bitCount_0f7a4 27 = .ok (.iushr, 1) := by decide +kernel
theorem dJ6_bitCount_0f7a4_28 : decode cJ6_bitCount_0f7a4 28 = .ok (.iadd, 1) := by decide +kernel
theorem dJ6_bitCount_0f7a4_29 : decode cJ6_bitCount_0f7a4 29 = .ok (.ldc_w 267, 3) := by decide +kernel
theorem dJ6_bitCount_0f7a4_32 : decode cJ6_bitCount_0f7a4 32 = .ok (.iand, 1) := by decide +kernel
theorem dJ6_bitCount_0f7a4_33 : decode cJ6_bitCount_0f7a4 33 = .ok (.istore_n 0, 1) := by decide +kernel
theorem dJ6_bitCount_0f7a4_34 : decode cJ6_bitCount_0f7a4 34 = .ok (.iload_n 0, 1) := by decide +kernel
theorem dJ6_bitCount_0f7a4_35 : decode cJ6_bitCount_0f7a4 35 = .ok (.iload_n 0, 1) := by decide +kernel
theorem dJ6_bitCount_0f7a4_36 : decode cJ6_bitCount_0f7a4 36 = .ok (.bipush 8, 2) := by decide +kernel
theorem dJ6_bitCount_0f7a4_38 : decode cJ6_bitCount_0f7a4 38 = .ok (.iushr, 1) := by decide +kernel
theorem dJ6_bitCount_0f7a4_39 : decode cJ6_bitCount_0f7a4 39 = .ok (.iadd, 1) := by decide +kernel
theorem dJ6_bitCount_0f7a4_40 : decode cJ6_bitCount_0f7a4 40 = .ok (.istore_n 0, 1) := by decide +kernel
theorem dJ6_bitCount_0f7a4_41 : decode cJ6_bitCount_0f7a4 41 = .ok (.iload_n 0, 1) := by decide +kernel
theorem dJ6_bitCount_0f7a4_42 : decode cJ6_bitCount_0f7a4 42 = .ok (.iload_n 0, 1) := by decide +kernel
theorem dJ6_bitCount_0f7a4_43 : decode cJ6_bitCount_0f7a4 43 = .ok (.bipush 16, 2) := by decide +kernel
theorem dJ6_bitCount_0f7a4_45 : decode cJ6_bitCount_0f7a4 45 = .ok (.iushr, 1) := by decide +kernel
theorem dJ6_bitCount_0f7a4_46 : decode cJ6_bitCount_0f7a4 46 = .ok (.iadd, 1) := by decide +kernel
theorem dJ6_bitCount_0f7a4_47 : decode cJ6_bitCount_0f7a4 47 = .ok (.istore_n 0, 1) := by decide +kernel
theorem dJ6_bitCount_0f7a4_48 : decode cJ6_bitCount_0f7a4 48 = .ok (.iload_n 0, 1) := by decide +kernel
theorem dJ6_bitCount_0f7a4_49 : decode cJ6_bitCount_0f7a4 49 = .ok (.bipush 63, 2) := by decide +kernel
theorem dJ6_bitCount_0f7a4_51 : decode cJ6_bitCount_0f7a4 51 = .ok (.iand, 1) := by decide +kernel
theorem dJ6_bitCount_0f7a4_52 : decode cJ6_bitCount_0f7a4 52 = .ok (.ireturn, 1) := by decide +kernel
theorem dJ9_abs_0f7a4_0 : decode cJ9_abs_0f7a4 0 = .ok (.iload_n 0, 1) := by decide +kernel
theorem dJ9_abs_0f7a4_1 : decode cJ9_abs_0f7a4 1 = .ok (.ifCond .ge 8, 3) := by decide +kernel
theorem dJ9_abs_0f7a4_4 : decode cJ9_abs_0f7a4 4 = .ok (.iload_n 0, 1) := by decide +kernel
theorem dJ9_abs_0f7a4_5 : decode cJ9_abs_0f7a4 5 = .ok (.ineg, 1) := by decide +kernel
theorem dJ9_abs_0f7a4_6 : decode cJ9_abs_0f7a4 6 = .ok (.goto 4, 3) := by decide +kernel
theorem dJ9_abs_0f7a4_9 : decode cJ9_abs_0f7a4 9 = .ok (.iload_n 0, 1) := by decide +kernel
theorem dJ9_abs_0f7a4_10 : decode cJ9_abs_0f7a4 10 = .ok (.ireturn, 1) := by decide +kernel
theorem dJ9_abs_067f4_0 : decode cJ9_abs_067f4 0 = .ok (.lload_n 0, 1) := by decide +kernel
theorem dJ9_abs_067f4_1 : decode cJ9_abs_067f4 1 = .ok (.lconst 0, 1) := by decide +kernel
theorem dJ9_abs_067f4_2 : decode cJ9_abs_067f4 2 = .ok (.lcmp, 1) := by decide +kernel
theorem dJ9_abs_067f4_3 : decode cJ9_abs_067f4 3 = .ok (.ifCond .ge 8, 3) := by decide +kernel
theorem dJ9_abs_067f4_6 : decode cJ9_abs_067f4 6 = .ok (.lload_n 0, 1) := by decide +kernel
theorem dJ9_abs_067f4_7 : decode cJ9_abs_067f4 7 = .ok (.lneg, 1) := by decide +kernel
theorem dJ9_abs_067f4_8 : decode cJ9_abs_067f4 8 = .ok (.goto 4, 3) := by decide +kernel
theorem dJ9_abs_067f4_11 : decode cJ9_abs_067f4 11 = .ok (.lload_n 0, 1) := by decide +kernel
theorem dJ9_abs_067f4_12 : decode cJ9_abs_067f4 12 = .ok (.lreturn, 1) := by decide +kernel
theorem dJ9_max_7cf53_0 : decode cJ9_max_7cf53 0 = .ok (.iload_n 0, 1) := by decide +kernel
theorem dJ9_max_7cf53_1 : decode cJ9_max_7cf53 1 = .ok (.iload_n 1, 1) := by decide +kernel
theorem dJ9_max_7cf53_2 : decode cJ9_max_7cf53 2 = .ok (.if_icmp .lt 7, 3) := by decide +kernel
theorem dJ9_max_7cf53_5 : decode cJ9_max_7cf53 5 = .ok (.iload_n 0, 1) := by decide +kernel
theorem dJ9_max_7cf53_6 : decode cJ9_max_7cf53 6 = .ok (.goto 4, 3) := by decide +kernel
theorem dJ9_max_7cf53_9 : decode cJ9_max_7cf53 9 = .ok (.iload_n 1, 1) := by decide +kernel
theorem dJ9_max_7cf53_10 : decode cJ9_max_7cf53 10 = .ok (.ireturn, 1) := by decide +kernel
theorem dJ9_min_7cf53_0 : decode cJ9_min_7cf53 0 = .ok (.iload_n 0, 1) := by decide +kernel
theorem dJ9_min_7cf53_1 : decode cJ9_min_7cf53 1 = .ok (.iload_n 1, 1) := by decide +kernel
theorem dJ9_min_7cf53_2 : decode cJ9_min_7cf53 2 = .ok (.if_icmp .gt 7, 3) := by decide +kernel
theorem dJ9_min_7cf53_5 : decode cJ9_min_7cf53 5 = .ok (.iload_n 0, 1) := by decide +kernel
theorem dJ9_min_7cf53_6 : decode cJ9_min_7cf53 6 = .ok (.goto 4, 3) := by decide +kernel
theorem dJ9_min_7cf53_9 : decode cJ9_min_7cf53 9 = .ok (.iload_n 1, 1) := by decide +kernel
theorem dJ9_min_7cf53_10 : decode cJ9_min_7cf53 10 = .ok (.ireturn, 1) := by decide +kernel
set_option maxRecDepth 20000 in
theorem ggJ0_length_8abf5_J0_coder_7d493 : GoodIn wsJ0_length_8abf5 wsJ0_coder_7d493 := goodIn_r _ [6, 7, 8] (by decide +kernel) (by decide +kernel)
set_option maxRecDepth 20000 in
theorem gJ0_length_8abf5_J0_coder_7d493 : GoodIn wsJ0_length_8abf5 (wsV RJ0 335 RJ0 yJ0_coder_7d493 wsJ0_coder_7d493) := goodIn_app (goodIn_of _ (by decide +kernel)) ggJ0_length_8abf5_J0_coder_7d493
theorem dJ0_length_8abf5_0 : decode cJ0_length_8abf5 0 = .ok (.aload_n 0, 1) := by decide +kernel
theorem dJ0_length_8abf5_1 : decode cJ0_length_8abf5 1 = .ok (.getfield 9, 3) := by decide +kernel
theorem dJ0_length_8abf5_4 : decode cJ0_length_8abf5 4 = .ok (.arraylength, 1) := by decide +kernel
theorem dJ0_length_8abf5_5 : decode cJ0_length_8abf5 5 = .ok (.aload_n 0, 1) := by decide +kernel
theorem dJ0_length_8abf5_6 : decode cJ0_length_8abf5 6 = .ok (.invokevirtual 335, 3) := by decide +kernel
theorem dJ0_length_8abf5_9 : decode cJ0_length_8abf5 9 = .ok (.ishr, 1) := by decide +kernel
theorem dJ0_length_8abf5_10 : decode cJ0_length_8abf5 10 = .ok (.ireturn, 1) := by decide +kernel
set_option maxRecDepth 20000 in
theorem ggJ0_charAt_5068e_J0_isLatin1_aae02 : GoodIn wsJ0_charAt_5068e wsJ0_isLatin1_aae02 := goodIn_r _ [6, 7, 8] (by decide +kernel) (by decide +kernel)
set_option maxRecDepth 20000 in
theorem gJ0_charAt_5068e_J0_isLatin1_aae02 : GoodIn wsJ0_charAt_5068e (wsV RJ0 492 RJ0 yJ0_isLatin1_aae02 wsJ0_isLatin1_aae02) := goodIn_app (goodIn_of _ (by decide +kernel)) ggJ0_charAt_5068e_J0_isLatin1_aae02
set_option maxRecDepth 20000 in
theorem ggJ0_charAt_5068e_J1_charAt_3b067 : GoodIn wsJ0_charAt_5068e wsJ1_charAt_3b067 := goodIn_r _ [12, 13, 14, 5, 15, 16, 17, 18, 19, 20] (by decide +kernel) (by decide +kernel)
set_option maxRecDepth 20000 in
theorem gJ0_charAt_5068e_J1_charAt_3b067 : GoodIn wsJ0_charAt_5068e (va_wsS RJ0 495 yJ1_charAt_3b067 wsJ1_charAt_3b067) := goodIn_app (goodIn_of _ (by decide +kernel)) ggJ0_charAt_5068e_J1_charAt_3b067
set_option maxRecDepth 20000 in
theorem ggJ0_charAt_5068e_J2_charAt_3b067 : GoodIn wsJ0_charAt_5068e wsJ2_charAt_3b067 := goodIn_r _ [24, 25, 26, 23, 27, 28, 29, 30, 31, 14, 5, 15, 16, 17, 18, 19, 20, 32, 33, 34, 35, 36, 37] (by decide +kernel) (by decide +kernel)
set_option maxRecDepth 20000 in
theorem gJ0_charAt_5068e_J2_charAt_3b067 : GoodIn wsJ0_charAt_5068e (va_wsS RJ0 498 yJ2_charAt_3b067 wsJ2_charAt_3b067) := goodIn_app (goodIn_of _ (by decide +kernel)) ggJ0_charAt_5068e_J2_charAt_3b067
theorem dJ0_charAt_5068e_0 : decode cJ0_charAt_5068e 0 = .ok (.aload_n 0, 1) := by decide +kernel
theorem dJ0_charAt_5068e_1 : decode cJ0_charAt_5068e 1 = .ok (.invokevirtual 492, 3) := by decide +kernel
theorem dJ0_charAt_5068e_4 : decode cJ0_charAt_5068e 4 = .ok (.ifCond .eq 12, 3) := by decide +kernel
theorem dJ0_charAt_5068e_7 : decode cJ0_charAt_5068e 7 = .ok (.aload_n 0, 1) := by decide +kernel
theorem dJ0_charAt_5068e_8 : decode cJ0_charAt_5068e 8 = .ok (.getfield 9, 3) := by decide +kernel
theorem dJ0_charAt_5068e_11 : decode cJ0_charAt_5068e 11 = .ok (.iload_n 1, 1) := by decide +kernel
theorem dJ0_charAt_5068e_12 : decode cJ0_charAt_5068e 12 = .ok (.invokestatic 495, 3) := by decide +kernel
theorem dJ0_charAt_5068e_15 : decode cJ0_charAt_5068e 15 = .ok (.ireturn, 1) := by decide +kernel
theorem dJ0_charAt_5068e_16 : decode cJ0_charAt_5068e 16 = .ok (.aload_n 0, 1) := by decide +kernel
theorem dJ0_charAt_5068e_17 : decode cJ0_charAt_5068e 17 = .ok (.getfield 9, 3) := by decide +kernel
theorem dJ0_charAt_5068e_20 : decode cJ0_charAt_5068e 20 = .ok (.iload_n 1, 1) := by decide +kernel
theorem dJ0_charAt_5068e_21 : decode cJ0_charAt_5068e 21 = .ok (.invokestatic 498, 3) := by decide +kernel
theorem dJ0_charAt_5068e_24 : decode cJ0_charAt_5068e 24 = .ok (.ireturn, 1) := by decide +kernel
set_option maxRecDepth 20000 in
theorem ggJ0_indexOf_0f7a4_J0_indexOf_7cf53 : GoodIn wsJ0_indexOf_0f7a4 wsJ0_indexOf_7cf53 := goodIn_r _ [5, 6, 7, 8, 9, 4, 10, 11, 12, 13, 14, 15, 16, 17, 18, 19, 20, 21, 22, 23, 24, 25, 26, 27, 28, 29, 30, 31, 32, 33, 34, 35, 36, 37, 38, 39, 40, 41, 42, 43, 44, 45, 46, 47, 48, 49, 50, 51, 52, 53, 54, 55, 56, 57, 58, 59, 60, 61, 62, 63, 64, 65, 66, 67, 68, 69, 70, 71, 72, 73, 74, 75, 76, 77, 78, 79, 80, 81, 82, 83, 84, 85] (by decide +kernel) (by decide +kernel)
set_option maxRecDepth 20000 in
theorem gJ0_indexOf_0f7a4_J0_indexOf_7cf53 : GoodIn wsJ0_indexOf_0f7a4 (wsV RJ0 633 RJ0 yJ0_indexOf_7cf53 wsJ0_indexOf_7cf53) := goodIn_app (goodIn_of _ (by decide +kernel)) ggJ0_indexOf_0f7a4_J0_indexOf_7cf53
theorem dJ0_indexOf_0f7a4_0 : decode cJ0_indexOf_0f7a4 0 = .ok (.aload_n 0, 1) := by decide +kernel
theorem dJ0_indexOf_0f7a4_1 : decode cJ0_indexOf_0f7a4 1 = .ok (.iload_n 1, 1) := by decide +kernel
theorem dJ0_indexOf_0f7a4_2 : decode cJ0_indexOf_0f7a4 2 = .ok (.iconst 0, 1) := by decide +kernel
theorem dJ0_indexOf_0f7a4_3 : decode cJ0_indexOf_0f7a4 3 = .ok (.invokevirtual 633, 3) := by decide +kernel
theorem dJ0_indexOf_0f7a4_6 : decode cJ0_indexOf_0f7a4 6 = .ok (.ireturn, 1) := by decide +kernel
set_option maxRecDepth 20000 in
theorem ggJ0_indexOf_7cf53_J0_isLatin1_aae02 : GoodIn wsJ0_indexOf_7cf53 wsJ0_isLatin1_aae02 := goodIn_r _ [6, 7, 8] (by decide +kernel) (by decide +kernel)
set_option maxRecDepth 20000 in
theorem gJ0_indexOf_7cf53_J0_isLatin1_aae02 : GoodIn wsJ0_indexOf_7cf53 (wsV RJ0 492 RJ0 yJ0_isLatin1_aae02 wsJ0_isLatin1_aae02) := goodIn_app (goodIn_of _ (by decide +kernel)) ggJ0_indexOf_7cf53_J0_isLatin1_aae02
set_option maxRecDepth 20000 in
theorem ggJ0_indexOf_7cf53_J0_length_8abf5 : GoodIn wsJ0_indexOf_7cf53 wsJ0_length_8abf5 := goodIn_r _ [12, 1, 13, 14, 15, 5, 16, 7, 8] (by decide +kernel) (by decide +kernel)
set_option maxRecDepth 20000 in
theorem gJ0_indexOf_7cf53_J0_length_8abf5 : GoodIn wsJ0_indexOf_7cf53 (wsV RJ0 505 RJ0 yJ0_length_8abf5 wsJ0_length_8abf5) := goodIn_app (goodIn_of _ (by decide +kernel)) ggJ0_indexOf_7cf53_J0_length_8abf5
set_option maxRecDepth 20000 in
theorem ggJ0_indexOf_7cf53_J1_indexOf_4cfef : GoodIn wsJ0_indexOf_7cf53 wsJ1_indexOf_4cfef := goodIn_r _ [20, 21, 22, 23, 24, 25, 26, 27, 28, 29, 19, 30, 31, 32, 33] (by decide +kernel) (by decide +kernel)
set_option maxRecDepth 20000 in
theorem gJ0_indexOf_7cf53_J1_indexOf_4cfef : GoodIn wsJ0_indexOf_7cf53 (va_wsS RJ0 637 yJ1_indexOf_4cfef wsJ1_indexOf_4cfef) := goodIn_app (goodIn_of _ (by decide +kernel)) ggJ0_indexOf_7cf53_J1_indexOf_4cfef
set_option maxRecDepth 20000 in
theorem ggJ0_indexOf_7cf53_J2_indexOf_4cfef : GoodIn wsJ0_indexOf_7cf53 wsJ2_indexOf_4cfef := goodIn_r _ [37, 38, 22, 23, 24, 39, 26, 27, 40, 41, 42, 36, 43, 44, 45, 46, 47, 48, 49, 50, 51, 5, 52, 53, 54, 55, 56, 57, 58, 59, 60, 61, 62, 63, 64, 65, 66, 67, 68, 69, 70, 71, 72, 73, 74, 75, 76, 77, 78, 79, 80, 81] (by decide +kernel) (by decide +kernel)
set_option maxRecDepth 20000 in
theorem gJ0_indexOf_7cf53_J2_indexOf_4cfef : GoodIn wsJ0_indexOf_7cf53 (va_wsS RJ0 640 yJ2_indexOf_4cfef wsJ2_indexOf_4cfef) := goodIn_app (goodIn_of _ (by decide +kernel)) ggJ0_indexOf_7cf53_J2_indexOf_4cfef
theorem dJ0_indexOf_7cf53_0 : decode cJ0_indexOf_7cf53 0 = .ok (.aload_n 0, 1) := by decide +kernel
theorem dJ0_indexOf_7cf53_1 : decode cJ0_indexOf_7cf53 1 = .ok (.invokevirtual 492, 3) := by decide +kernel
theorem dJ0_indexOf_7cf53_4 : decode cJ0_indexOf_7cf53 4 = .ok (.ifCond .eq 19, 3) := by decide +kernel
theorem dJ0_indexOf_7cf53_7 : decode cJ0_indexOf_7cf53 7 = .ok (.aload_n 0, 1) := by decide +kernel
theorem dJ0_indexOf_7cf53_8 : decode cJ0_indexOf_7cf53 8 = .ok (.getfield 9, 3) := by decide +kernel
theorem dJ0_indexOf_7cf53_11 : decode cJ0_indexOf_7cf53 11 = .ok (.iload_n 1, 1) := by decide +kernel
theorem dJ0_indexOf_7cf53_12 : decode cJ0_indexOf_7cf53 12 = .ok (.iload_n 2, 1) := by decide +kernel
theorem dJ0_indexOf_7cf53_13 : decode cJ0_indexOf_7cf53 13 = .ok (.aload_n 0, 1) := by decide +kernel
theorem dJ0_indexOf_7cf53_14 : decode cJ0_indexOf_7cf53 14 = .ok (.invokevirtual 505, 3) := by decide +kernel
theorem dJ0_indexOf_7cf53_17 : decode cJ0_indexOf_7cf53 17 = .ok (.invokestatic 637, 3) := by decide +kernel
theorem dJ0_indexOf_7cf53_20 : decode cJ0_indexOf_7cf53 20 = .ok (.goto 16, 3) := by decide +kernel
theorem dJ0_indexOf_7cf53_23 : decode cJ0_indexOf_7cf53 23 = .ok (.aload_n 0, 1) := by decide +kernel
theorem dJ0_indexOf_7cf53_24 : decode cJ0_indexOf_7cf53 24 = .ok (.getfield 9, 3) := by decide +kernel
theorem dJ0_indexOf_7cf53_27 : decode cJ0_indexOf_7cf53 27 = .ok (.iload_n 1, 1) := by decide +kernel
theorem dJ0_indexOf_7cf53_28 : decode cJ0_indexOf_7cf53 28 = .ok (.iload_n 2, 1) := by decide +kernel
theorem dJ0_indexOf_7cf53_29 : decode cJ0_indexOf_7cf53 29 = .ok (.aload_n 0, 1) := by decide +kernel
theorem dJ0_indexOf_7cf53_30 : decode cJ0_indexOf_7cf53 30 = .ok (.invokevirtual 505, 3) := by decide +kernel
theorem dJ0_indexOf_7cf53_33 : decode cJ0_indexOf_7cf53 33 = .ok (.invokestatic 640, 3) := by decide +kernel
theorem dJ0_indexOf_7cf53_36 : decode cJ0_indexOf_7cf53 36 = .ok (.ireturn, 1) := by decide +kernel
theorem dJ0_coder_7d493_0 : decode cJ0_coder_7d493 0 = .ok (.getstatic 38, 3) := by decide +kernel
theorem dJ0_coder_7d493_3 : decode cJ0_coder_7d493 3 = .ok (.ifCond .eq 10, 3) := by decide +kernel
theorem dJ0_coder_7d493_6 : decode cJ0_coder_7d493 6 = .ok (.aload_n 0, 1) := by decide +kernel
theorem dJ0_coder_7d493_7 : decode cJ0_coder_7d493 7 = .ok (.getfield 15, 3) := by decide +kernel
theorem dJ0_coder_7d493_10 : decode cJ0_coder_7d493 10 = .ok (.goto 4, 3) := by decide +kernel
theorem dJ0_coder_7d493_13 : decode cJ0_coder_7d493 13 = .ok (.iconst 1, 1) := by decide +kernel
theorem dJ0_coder_7d493_14 : decode cJ0_coder_7d493 14 = .ok (.ireturn, 1) := by decide +kernel
theorem dJ0_isLatin1_aae02_0 : decode cJ0_isLatin1_aae02 0 = .ok (.getstatic 38, 3) := by decide +kernel
theorem dJ0_isLatin1_aae02_3 : decode cJ0_isLatin1_aae02 3 = .ok (.ifCond .eq 14, 3) := by decide +kernel
theorem dJ0_isLatin1_aae02_6 : decode cJ0_isLatin1_aae02 6 = .ok (.aload_n 0, 1) := by decide +kernel
theorem dJ0_isLatin1_aae02_7 : decode cJ0_isLatin1_aae02 7 = .ok (.getfield 15, 3) := by decide +kernel
theorem dJ0_isLatin1_aae02_10 : decode cJ0_isLatin1_aae02 10 = .ok (.ifCond .ne 7, 3) := by decide +kernel
theorem dJ0_isLatin1_aae02_13 : decode cJ0_isLatin1_aae02 13 = .ok (.iconst 1, 1) := by decide +kernel
theorem dJ0_isLatin1_aae02_14 : decode cJ0_isLatin1_aae02 14 = .ok (.goto 4, 3) := by decide +kernel
theorem dJ0_isLatin1_aae02_17 : decode cJ0_isLatin1_aae02 17 = .ok (.iconst 0, 1) := by decide +kernel
theorem dJ0_isLatin1_aae02_18 : decode cJ0_isLatin1_aae02 18 = .ok (.ireturn, 1) := by decide +kernel
set_option maxRecDepth 20000 in
theorem ggJ0_checkIndex_df160_J3_checkIndex_8e157 : GoodIn wsJ0_checkIndex_df160 wsJ3_checkIndex_8e157 := goodIn_r _ [5] (by decide +kernel) (by decide +kernel)
set_option maxRecDepth 20000 in
theorem gJ0_checkIndex_df160_J3_checkIndex_8e157 : GoodIn wsJ0_checkIndex_df160 (va_wsS RJ0 1059 yJ3_checkIndex_8e157 wsJ3_checkIndex_8e157) := goodIn_app (goodIn_of _ (by decide +kernel)) ggJ0_checkIndex_df160_J3_checkIndex_8e157
theorem dJ0_checkIndex_df160_0 : decode cJ0_checkIndex_df160 0 = .ok (.iload_n 0, 1) := by decide +kernel
theorem dJ0_checkIndex_df160_1 : decode cJ0_checkIndex_df160 1 = .ok (.iload_n 1, 1) := by decide +kernel
theorem dJ0_checkIndex_df160_2 : decode cJ0_checkIndex_df160 2 = .ok (.getstatic 1053, 3) := by decide +kernel
theorem dJ0_checkIndex_df160_5 : decode cJ0_checkIndex_df160 5 = .ok (.invokestatic 1059, 3) := by decide +kernel
theorem dJ0_checkIndex_df160_8 : decode cJ0_checkIndex_df160 8 = .ok (.pop, 1) := by decide +kernel
theorem dJ0_checkIndex_df160_9 : decode cJ0_checkIndex_df160 9 = .ok (.return_, 1) := by decide +kernel
set_option maxRecDepth 20000 in
theorem ggJ0_checkBoundsBeginEnd_23922_J3_checkFromToIndex_8c36e : GoodIn wsJ0_checkBoundsBeginEnd_23922 wsJ3_checkFromToIndex_8c36e := goodIn_r _ [5] (by decide +kernel) (by decide +kernel)
set_option maxRecDepth 20000 in
theorem gJ0_checkBoundsBeginEnd_23922_J3_checkFromToIndex_8c36e : GoodIn wsJ0_checkBoundsBeginEnd_23922 (va_wsS RJ0 1062 yJ3_checkFromToIndex_8c36e wsJ3_checkFromToIndex_8c36e) := goodIn_app (goodIn_of _ (by decide +kernel)) ggJ0_checkBoundsBeginEnd_23922_J3_checkFromToIndex_8c36e
theorem dJ0_checkBoundsBeginEnd_23922_0 : decode cJ0_checkBoundsBeginEnd_23922 0 = .ok (.iload_n 0, 1) := by decide +kernel
theorem dJ0_checkBoundsBeginEnd_23922_1 : decode cJ0_checkBoundsBeginEnd_23922 1 = .ok (.iload_n 1, 1) := by decide +kernel
theorem dJ0_checkBoundsBeginEnd_23922_2 : decode cJ0_checkBoundsBeginEnd_23922 2 = .ok (.iload_n 2, 1) := by decide +kernel
theorem dJ0_checkBoundsBeginEnd_23922_3 : decode cJ0_checkBoundsBeginEnd_23922 3 = .ok (.getstatic 1053, 3) := by decide +kernel
theorem dJ0_checkBoundsBeginEnd_23922_6 : decode cJ0_checkBoundsBeginEnd_23922 6 = .ok (.invokestatic 1062, 3) := by decide +kernel
theorem dJ0_checkBoundsBeginEnd_23922_9 : decode cJ0_checkBoundsBeginEnd_23922 9 = .ok (.pop, 1) := by decide +kernel
theorem dJ0_checkBoundsBeginEnd_23922_10 : decode cJ0_checkBoundsBeginEnd_23922 10 = .ok (.return_, 1) := by decide +kernel
set_option maxRecDepth 20000 in
theorem ggJ1_charAt_3b067_J0_checkIndex_df160 : GoodIn wsJ1_charAt_3b067 wsJ0_checkIndex_df160 := goodIn_r _ [4, 5, 6, 7, 8, 9] (by decide +kernel) (by decide +kernel)
set_option maxRecDepth 20000 in
theorem gJ1_charAt_3b067_J0_checkIndex_df160 : GoodIn wsJ1_charAt_3b067 (va_wsS RJ1 9 yJ0_checkIndex_df160 wsJ0_checkIndex_df160) := goodIn_app (goodIn_of _ (by decide +kernel)) ggJ1_charAt_3b067_J0_checkIndex_df160
theorem dJ1_charAt_3b067_0 : decode cJ1_charAt_3b067 0 = .ok (.iload_n 1, 1) := by decide +kernel
theorem dJ1_charAt_3b067_1 : decode cJ1_charAt_3b067 1 = .ok (.aload_n 0, 1) := by decide +kernel
theorem dJ1_charAt_3b067_2 : decode cJ1_charAt_3b067 2 = .ok (.arraylength, 1) := by decide +kernel
theorem dJ1_charAt_3b067_3 : decode cJ1_charAt_3b067 3 = .ok (.invokestatic 9, 3) := by decide +kernel
theorem dJ1_charAt_3b067_6 : decode cJ1_charAt_3b067 6 = .ok (.aload_n 0, 1) := by decide +kernel
theorem dJ1_charAt_3b067_7 : decode cJ1_charAt_3b067 7 = .ok (.iload_n 1, 1) := by decide +kernel
theorem dJ1_charAt_3b067_8 : decode cJ1_charAt_3b067 8 = .ok (.baload, 1) := by decide +kernel
theorem dJ1_charAt_3b067_9 : decode cJ1_charAt_3b067 9 = .ok (.sipush 255, 3) := by decide +kernel
theorem dJ1_charAt_3b067_12 : decode cJ1_charAt_3b067 12 = .ok (.iand, 1) := by decide +kernel
theorem dJ1_charAt_3b067_13 : decode cJ1_charAt_3b067 13 = .ok (.i2c, 1) := by decide +kernel
theorem dJ1_charAt_3b067_14 : decode cJ1_charAt_3b067 14 = .ok (.ireturn, 1) := by decide +kernel
theorem dJ1_canEncode_9a6ad_0 : decode cJ1_canEncode_9a6ad 0 = .ok (.iload_n 0, 1) := by decide +kernel
theorem dJ1_canEncode_9a6ad_1 : decode cJ1_canEncode_9a6ad 1 = .ok (.ifCond .lt 14, 3) := by decide +kernel
theorem dJ1_canEncode_9a6ad_4 : decode cJ1_canEncode_9a6ad 4 = .ok (.iload_n 0, 1) := by decide +kernel
theorem dJ1_canEncode_9a6ad_5 : decode cJ1_canEncode_9a6ad 5 = .ok (.sipush 255, 3) := by decide +kernel
theorem dJ1_canEncode_9a6ad_8 : decode cJ1_canEncode_9a6ad 8 = .ok (.if_icmp .gt 7, 3) := by decide +kernel
theorem dJ1_canEncode_9a6ad_11 : decode cJ1_canEncode_9a6ad 11 = .ok (.iconst 1, 1) := by decide +kernel
theorem dJ1_canEncode_9a6ad_12 : decode cJ1_canEncode_9a6ad 12 = .ok (.goto 4, 3) := by decide +kernel
theorem dJ1_canEncode_9a6ad_15 : decode cJ1_canEncode_9a6ad 15 = .ok (.iconst 0, 1) := by decide +kernel
theorem dJ1_canEncode_9a6ad_16 : decode cJ1_canEncode_9a6ad 16 = .ok (.ireturn, 1) := by decide +kernel
set_option maxRecDepth 20000 in
theorem ggJ1_indexOf_4cfef_J1_canEncode_9a6ad : GoodIn wsJ1_indexOf_4cfef wsJ1_canEncode_9a6ad := goodIn_r _ [11] (by decide +kernel) (by decide +kernel)
set_option maxRecDepth 20000 in
theorem gJ1_indexOf_4cfef_J1_canEncode_9a6ad : GoodIn wsJ1_indexOf_4cfef (va_wsS RJ1 88 yJ1_canEncode_9a6ad wsJ1_canEncode_9a6ad) := goodIn_app (goodIn_of _ (by decide +kernel)) ggJ1_indexOf_4cfef_J1_canEncode_9a6ad
set_option maxRecDepth 20000 in
theorem ggJ1_indexOf_4cfef_J1_indexOfChar_4cfef : GoodIn wsJ1_indexOf_4cfef wsJ1_indexOfChar_4cfef := goodIn_r _ [14] (by decide +kernel) (by decide +kernel)
set_option maxRecDepth 20000 in
theorem gJ1_indexOf_4cfef_J1_indexOfChar_4cfef : GoodIn wsJ1_indexOf_4cfef (va_wsS RJ1 95 yJ1_indexOfChar_4cfef wsJ1_indexOfChar_4cfef) := goodIn_app (goodIn_of _ (by decide +kernel)) ggJ1_indexOf_4cfef_J1_indexOfChar_4cfef
theorem dJ1_indexOf_4cfef_0 : decode cJ1_indexOf_4cfef 0 = .ok (.iload_n 1, 1) := by decide +kernel
theorem dJ1_indexOf_4cfef_1 : decode cJ1_indexOf_4cfef 1 = .ok (.invokestatic 88, 3) := by decide +kernel
theorem dJ1_indexOf_4cfef_4 : decode cJ1_indexOf_4cfef 4 = .ok (.ifCond .ne 5, 3) := by decide +kernel
theorem dJ1_indexOf_4cfef_7 : decode cJ1_indexOf_4cfef 7 = .ok (.iconst (-1), 1) := by decide +kernel
theorem dJ1_indexOf_4cfef_8 : decode cJ1_indexOf_4cfef 8 = .ok (.ireturn, 1) := by decide +kernel
theorem dJ1_indexOf_4cfef_9 : decode cJ1_indexOf_4cfef 9 = .ok (.iload_n 2, 1) := by decide +kernel
theorem dJ1_indexOf_4cfef_10 : decode cJ1_indexOf_4cfef 10 = .ok (.iconst 0, 1) := by decide +kernel
theorem dJ1_indexOf_4cfef_11 : decode cJ1_indexOf_4cfef 11 = .ok (.invokestatic 92, 3) := by decide +kernel
theorem dJ1_indexOf_4cfef_14 : decode cJ1_indexOf_4cfef 14 = .ok (.istore_n 2, 1) := by decide +kernel
theorem dJ1_indexOf_4cfef_15 : decode cJ1_indexOf_4cfef 15 = .ok (.iload_n 3, 1) := by decide +kernel
theorem dJ1_indexOf_4cfef_16 : decode cJ1_indexOf_4cfef 16 = .ok (.aload_n 0, 1) := by decide +kernel
theorem dJ1_indexOf_4cfef_17 : decode cJ1_indexOf_4cfef 17 = .ok (.arraylength, 1) := by decide +kernel
theorem dJ1_indexOf_4cfef_18 : decode cJ1_indexOf_4cfef 18 = .ok (.invokestatic 38, 3) := by decide +kernel
theorem dJ1_indexOf_4cfef_21 : decode cJ1_indexOf_4cfef 21 = .ok (.istore_n 3, 1) := by decide +kernel
theorem dJ1_indexOf_4cfef_22 : decode cJ1_indexOf_4cfef 22 = .ok (.iload_n 2, 1) := by decide +kernel
theorem dJ1_indexOf_4cfef_23 : decode cJ1_indexOf_4cfef 23 = .ok (.iload_n 3, 1) := by decide +kernel
theorem dJ1_indexOf_4cfef_24 : decode cJ1_indexOf_4cfef 24 = .ok (.if_icmp .lt 5, 3) := by decide +kernel
theorem dJ1_indexOf_4cfef_27 : decode cJ1_indexOf_4cfef 27 = .ok (.iconst (-1), 1) := by decide +kernel
theorem dJ1_indexOf_4cfef_28 : decode cJ1_indexOf_4cfef 28 = .ok (.ireturn, 1) := by decide +kernel
theorem dJ1_indexOf_4cfef_29 : decode cJ1_indexOf_4cfef 29 = .ok (.aload_n 0, 1) := by decide +kernel
theorem dJ1_indexOf_4cfef_30 : decode cJ1_indexOf_4cfef 30 = .ok (.iload_n 1, 1) := by decide +kernel
theorem dJ1_indexOf_4cfef_31 : decode cJ1_indexOf_4cfef 31 = .ok (.iload_n 2, 1) := by decide +kernel
theorem dJ1_indexOf_4cfef_32 : decode cJ1_indexOf_4cfef 32 = .ok (.iload_n 3, 1) := by decide +kernel
theorem dJ1_indexOf_4cfef_33 : decode cJ1_indexOf_4cfef 33 = .ok (.invokestatic 95, 3) := by decide +kernel
theorem dJ1_indexOf_4cfef_36 : decode cJ1_indexOf_4cfef 36 = .ok (.ireturn, 1) := by decide +kernel
theorem dJ1_indexOfChar_4cfef_0 : decode cJ1_indexOfChar_4cfef 0 = .ok (.iload_n 1, 1) := by decide +kernel
theorem dJ1_indexOfChar_4cfef_1 : decode cJ1_indexOfChar_4cfef 1 = .ok (.i2b, 1) := by decide +kernel
theorem dJ1_indexOfChar_4cfef_2 : decode cJ1_indexOfChar_4cfef 2 = .ok (.istore 4, 2) := by decide +kernel
theorem dJ1_indexOfChar_4cfef_4 : decode cJ1_indexOfChar_4cfef 4 = .ok (.iload_n 2, 1) := by decide +kernel
theorem dJ1_indexOfChar_4cfef_5 : decode cJ1_indexOfChar_4cfef 5 = .ok (.istore 5, 2) := by decide +kernel
theorem dJ1_indexOfChar_4cfef_7 : decode cJ1_indexOfChar_4cfef 7 = .ok (.iload 5, 2) := by decide +kernel
theorem dJ1_indexOfChar_4cfef_9 : decode cJ1_indexOfChar_4cfef 9 = .ok (.iload_n 3, 1) := by decide +kernel
theorem dJ1_indexOfChar_4cfef_10 : decode cJ1_indexOfChar_4cfef 10 = .ok (.if_icmp .ge 21, 3) := by decide +kernel
theorem dJ1_indexOfChar_4cfef_13 : decode cJ1_indexOfChar_4cfef 13 = .ok (.aload_n 0, 1) := by decide +kernel
theorem dJ1_indexOfChar_4cfef_14 : decode cJ1_indexOfChar_4cfef 14 = .ok (.iload 5, 2) := by decide +kernel
theorem dJ1_indexOfChar_4cfef_16 : decode cJ1_indexOfChar_4cfef 16 = .ok (.baload, 1) := by decide +kernel
theorem dJ1_indexOfChar_4cfef_17 : decode cJ1_indexOfChar_4cfef 17 = .ok (.iload 4, 2) := by decide +kernel
theorem dJ1_indexOfChar_4cfef_19 : decode cJ1_indexOfChar_4cfef 19 = .ok (.if_icmp .ne 6, 3) := by decide +kernel
theorem dJ1_indexOfChar_4cfef_22 : decode cJ1_indexOfChar_4cfef 22 = .ok (.iload 5, 2) := by decide +kernel
theorem dJ1_indexOfChar_4cfef_24 : decode cJ1_indexOfChar_4cfef 24 = .ok (.ireturn, 1) := by decide +kernel
theorem dJ1_indexOfChar_4cfef_25 : decode cJ1_indexOfChar_4cfef 25 = .ok (.iinc 5 1, 3) := by decide +kernel
theorem dJ1_indexOfChar_4cfef_28 : decode cJ1_indexOfChar_4cfef 28 = .ok (.goto (-21), 3) := by decide +kernel
theorem dJ1_indexOfChar_4cfef_31 : decode cJ1_indexOfChar_4cfef 31 = .ok (.iconst (-1), 1) := by decide +kernel
theorem dJ1_indexOfChar_4cfef_32 : decode cJ1_indexOfChar_4cfef 32 = .ok (.ireturn, 1) := by decide +kernel
set_option maxRecDepth 20000 in
theorem ggJ2_getChar_3b067_J2_length_9d52b : GoodIn wsJ2_getChar_3b067 wsJ2_length_9d52b := goodIn_r _ [7] (by decide +kernel) (by decide +kernel)
set_option maxRecDepth 20000 in
theorem gJ2_getChar_3b067_J2_length_9d52b : GoodIn wsJ2_getChar_3b067 (va_wsS RJ2 48 yJ2_length_9d52b wsJ2_length_9d52b) := goodIn_app (goodIn_of _ (by decide +kernel)) ggJ2_getChar_3b067_J2_length_9d52b
theorem dJ2_getChar_3b067_0 : decode cJ2_getChar_3b067 0 = .ok (.getstatic 44, 3) := by decide +kernel
theorem dJ2_getChar_3b067_3 : decode cJ2_getChar_3b067 3 = .ok (.ifCond .ne 25, 3) := by decide +kernel
theorem dJ2_getChar_3b067_6 : decode cJ2_getChar_3b067 6 = .ok (.iload_n 1, 1) := by decide +kernel
theorem dJ2_getChar_3b067_7 : decode cJ2_getChar_3b067 7 = .ok (.ifCond .lt 11, 3) := by decide +kernel
theorem dJ2_getChar_3b067_10 : decode cJ2_getChar_3b067 10 = .ok (.iload_n 1, 1) := by decide +kernel
theorem dJ2_getChar_3b067_11 : decode cJ2_getChar_3b067 11 = .ok (.aload_n 0, 1) := by decide +kernel
theorem dJ2_getChar_3b067_12 : decode cJ2_getChar_3b067 12 = .ok (.invokestatic 48, 3) := by decide +kernel
theorem dJ2_getChar_3b067_15 : decode cJ2_getChar_3b067 15 = .ok (.if_icmp .lt 13, 3) := by decide +kernel
theorem dJ2_getChar_3b067_18 : decode cJ2_getChar_3b067 18 = .ok (.new 52, 3) := by decide +kernel
theorem dJ2_getChar_3b067_21 : decode cJ2_getChar_3b067 21 = .ok (.dup, 1) := by decide +kernel
theorem dJ2_getChar_3b067_22 : decode cJ2_getChar_3b067 22 = .ok (.ldc 54, 2) := by decide +kernel
theorem dJ2_getChar_3b067_24 : decode cJ2_getChar_3b067 24 = .ok (.invokespecial 56, 3) := by decide +kernel
theorem dJ2_getChar_3b067_27 : decode cJ2_getChar_3b067 27 = .ok (.athrow, 1) := by decide +kernel
theorem dJ2_getChar_3b067_28 : decode cJ2_getChar_3b067 28 = .ok (.iload_n 1, 1) := by decide +kernel
theorem dJ2_getChar_3b067_29 : decode cJ2_getChar_3b067 29 = .ok (.iconst 1, 1) := by decide +kernel
theorem dJ2_getChar_3b067_30 : decode cJ2_getChar_3b067 30 = .ok (.ishl, 1) := by decide +kernel
theorem dJ2_getChar_3b067_31 : decode cJ2_getChar_3b067 31 = .ok (.istore_n 1, 1) := by decide +kernel
theorem dJ2_getChar_3b067_32 : decode cJ2_getChar_3b067 32 = .ok (.aload_n 0, 1) := by decide +kernel
theorem dJ2_getChar_3b067_33 : decode cJ2_getChar_3b067 33 = .ok (.iload_n 1, 1) := by decide +kernel
theorem dJ2_getChar_3b067_34 : decode cJ2_getChar_3b067 34 = .ok (.iinc 1 1, 3) := by decide +kernel
theorem dJ2_getChar_3b067_37 : decode cJ2_getChar_3b067 37 = .ok (.baload, 1) := by decide +kernel
theorem dJ2_getChar_3b067_38 : decode cJ2_getChar_3b067 38 = .ok (.sipush 255, 3) := by decide +kernel
theorem dJ2_getChar_3b067_41 : decode cJ2_getChar_3b067 41 = .ok (.iand, 1) := by decide +kernel
theorem dJ2_getChar_3b067_42 : decode cJ2_getChar_3b067 42 = .ok (.getstatic 59, 3) := by decide +kernel
theorem dJ2_getChar_3b067_45 : decode cJ2_getChar_3b067 45 = .ok (.ishl, 1) := by decide +kernel
theorem dJ2_getChar_3b067_46 : decode cJ2_getChar_3b067 46 = .ok (.aload_n 0, 1) := by decide +kernel
theorem dJ2_getChar_3b067_47 : decode cJ2_getChar_3b067 47 = .ok (.iload_n 1, 1) := by decide +kernel
theorem dJ2_getChar_3b067_48 : decode cJ2_getChar_3b067 48 = .ok (.baload, 1) := by decide +kernel
theorem dJ2_getChar_3b067_49 : decode cJ2_getChar_3b067 49 = .ok (.sipush 255, 3) := by decide +kernel
theorem dJ2_getChar_3b067_52 : decode cJ2_getChar_3b067 52 = .ok (.iand, 1) := by decide +kernel
theorem dJ2_getChar_3b067_53 : decode cJ2_getChar_3b067 53 = .ok (.getstatic 63, 3) := by decide +kernel
theorem dJ2_getChar_3b067_56 : decode cJ2_getChar_3b067 56 = .ok (.ishl, 1) := by decide +kernel
theorem dJ2_getChar_3b067_57 : decode cJ2_getChar_3b067 57 = .ok (.ior, 1) := by decide +kernel
theorem dJ2_getChar_3b067_58 : decode cJ2_getChar_3b067 58 = .ok (.i2c, 1) := by decide +kernel
theorem dJ2_getChar_3b067_59 : decode cJ2_getChar_3b067 59 = .ok (.ireturn, 1) := by decide +kernel
theorem dJ2_length_9d52b_0 : decode cJ2_length_9d52b 0 = .ok (.aload_n 0, 1) := by decide +kernel
theorem dJ2_length_9d52b_1 : decode cJ2_length_9d52b 1 = .ok (.arraylength, 1) := by decide +kernel
theorem dJ2_length_9d52b_2 : decode cJ2_length_9d52b 2 = .ok (.iconst 1, 1) := by decide +kernel
theorem dJ2_length_9d52b_3 : decode cJ2_length_9d52b 3 = .ok (.ishr, 1) := by decide +kernel
theorem dJ2_length_9d52b_4 : decode cJ2_length_9d52b 4 = .ok (.ireturn, 1) := by decide +kernel
set_option maxRecDepth 20000 in
theorem ggJ2_indexOf_4cfef_J2_indexOfChar_4cfef : GoodIn wsJ2_indexOf_4cfef wsJ2_indexOfChar_4cfef := goodIn_r _ [12, 13, 14, 11, 15, 16, 17, 18, 19, 20, 21, 22, 23, 24, 25, 26, 27, 28, 29, 30, 31, 32, 33, 34, 35, 36] (by decide +kernel) (by decide +kernel)
set_option maxRecDepth 20000 in
theorem gJ2_indexOf_4cfef_J2_indexOfChar_4cfef : GoodIn wsJ2_indexOf_4cfef (va_wsS RJ2 228 yJ2_indexOfChar_4cfef wsJ2_indexOfChar_4cfef) := goodIn_app (goodIn_of _ (by decide +kernel)) ggJ2_indexOf_4cfef_J2_indexOfChar_4cfef
set_option maxRecDepth 20000 in
theorem ggJ2_indexOf_4cfef_J2_indexOfSupplementary_4cfef : GoodIn wsJ2_indexOf_4cfef wsJ2_indexOfSupplementary_4cfef := goodIn_r _ [39, 40, 41, 42, 43, 44, 45, 46, 47, 48, 49, 50, 51, 13, 14, 11, 15, 16, 17, 18, 19, 20, 21, 22, 23, 24, 25, 26, 27, 31, 32, 33, 34, 35, 36] (by decide +kernel) (by decide +kernel)
set_option maxRecDepth 20000 in
theorem gJ2_indexOf_4cfef_J2_indexOfSupplementary_4cfef : GoodIn wsJ2_indexOf_4cfef (va_wsS RJ2 232 yJ2_indexOfSupplementary_4cfef wsJ2_indexOfSupplementary_4cfef) := goodIn_app (goodIn_of _ (by decide +kernel)) ggJ2_indexOf_4cfef_J2_indexOfSupplementary_4cfef
theorem dJ2_indexOf_4cfef_0 : decode cJ2_indexOf_4cfef 0 = .ok (.iload_n 2, 1) := by decide +kernel
theorem dJ2_indexOf_4cfef_1 : decode cJ2_indexOf_4cfef 1 = .ok (.iconst 0, 1) := by decide +kernel
theorem dJ2_indexOf_4cfef_2 : decode cJ2_indexOf_4cfef 2 = .ok (.invokestatic 224, 3) := by decide +kernel
theorem dJ2_indexOf_4cfef_5 : decode cJ2_indexOf_4cfef 5 = .ok (.istore_n 2, 1) := by decide +kernel
theorem dJ2_indexOf_4cfef_6 : decode cJ2_indexOf_4cfef 6 = .ok (.iload_n 3, 1) := by decide +kernel
theorem dJ2_indexOf_4cfef_7 : decode cJ2_indexOf_4cfef 7 = .ok (.aload_n 0, 1) := by decide +kernel
theorem dJ2_indexOf_4cfef_8 : decode cJ2_indexOf_4cfef 8 = .ok (.arraylength, 1) := by decide +kernel
theorem dJ2_indexOf_4cfef_9 : decode cJ2_indexOf_4cfef 9 = .ok (.iconst 1, 1) := by decide +kernel
theorem dJ2_indexOf_4cfef_10 : decode cJ2_indexOf_4cfef 10 = .ok (.ishr, 1) := by decide +kernel
theorem dJ2_indexOf_4cfef_11 : decode cJ2_indexOf_4cfef 11 = .ok (.invokestatic 183, 3) := by decide +kernel
theorem dJ2_indexOf_4cfef_14 : decode cJ2_indexOf_4cfef 14 = .ok (.istore_n 3, 1) := by decide +kernel
theorem dJ2_indexOf_4cfef_15 : decode cJ2_indexOf_4cfef 15 = .ok (.iload_n 2, 1) := by decide +kernel
theorem dJ2_indexOf_4cfef_16 : decode cJ2_indexOf_4cfef 16 = .ok (.iload_n 3, 1) := by decide +kernel
theorem dJ2_indexOf_4cfef_17 : decode cJ2_indexOf_4cfef 17 = .ok (.if_icmp .lt 5, 3) := by decide +kernel
theorem dJ2_indexOf_4cfef_20 : decode cJ2_indexOf_4cfef 20 = .ok (.iconst (-1), 1) := by decide +kernel
theorem dJ2_indexOf_4cfef_21 : decode cJ2_indexOf_4cfef 21 = .ok (.ireturn, 1) := by decide +kernel
theorem dJ2_indexOf_4cfef_22 : decode cJ2_indexOf_4cfef 22 = .ok (.iload_n 1, 1) := by decide +kernel
theorem dJ2_indexOf_4cfef_23 : decode cJ2_indexOf_4cfef 23 = .ok (.ldc 227, 2) := by decide +kernel
theorem dJ2_indexOf_4cfef_25 : decode cJ2_indexOf_4cfef 25 = .ok (.if_icmp .ge 11, 3) := by decide +kernel
theorem dJ2_indexOf_4cfef_28 : decode cJ2_indexOf_4cfef 28 = .ok (.aload_n 0, 1) := by decide +kernel
theorem dJ2_indexOf_4cfef_29 : decode cJ2_indexOf_4cfef 29 = .ok (.iload_n 1, 1) := by decide +kernel
theorem dJ2_indexOf_4cfef_30 : decode cJ2_indexOf_4cfef 30 = .ok (.iload_n 2, 1) := by decide +kernel
theorem dJ2_indexOf_4cfef_31 : decode cJ2_indexOf_4cfef 31 = .ok (.iload_n 3, 1) := by decide +kernel
theorem dJ2_indexOf_4cfef_32 : decode cJ2_indexOf_4cfef 32 = .ok (.invokestatic 228, 3) := by decide +kernel
theorem dJ2_indexOf_4cfef_35 : decode cJ2_indexOf_4cfef 35 = .ok (.ireturn, 1) := by decide +kernel
theorem dJ2_indexOf_4cfef_36 : decode cJ2_indexOf_4cfef 36 = .ok (.aload_n 0, 1) := by decide +kernel
theorem dJ2_indexOf_4cfef_37 : decode cJ2_indexOf_4cfef 37 = .ok (.iload_n 1, 1) := by decide +kernel
theorem dJ2_indexOf_4cfef_38 : decode cJ2_indexOf_4cfef 38 = .ok (.iload_n 2, 1) := by decide +kernel
theorem dJ2_indexOf_4cfef_39 : decode cJ2_indexOf_4cfef 39 = .ok (.iload_n 3, 1) := by decide +kernel
theorem dJ2_indexOf_4cfef_40 : decode cJ2_indexOf_4cfef 40 = .ok (.invokestatic 232, 3) := by decide +kernel
theorem dJ2_indexOf_4cfef_43 : decode cJ2_indexOf_4cfef 43 = .ok (.ireturn, 1) := by decide +kernel
set_option maxRecDepth 20000 in
theorem ggJ2_indexOfChar_4cfef_J2_checkBoundsBeginEnd_d044e : GoodIn wsJ2_indexOfChar_4cfef wsJ2_checkBoundsBeginEnd_d044e := goodIn_r _ [4, 5, 6, 3, 7, 8, 9, 10, 11, 12, 13, 14, 15, 16] (by decide +kernel) (by decide +kernel)
set_option maxRecDepth 20000 in
theorem gJ2_indexOfChar_4cfef_J2_checkBoundsBeginEnd_d044e : GoodIn wsJ2_indexOfChar_4cfef (va_wsS RJ2 96 yJ2_checkBoundsBeginEnd_d044e wsJ2_checkBoundsBeginEnd_d044e) := goodIn_app (goodIn_of _ (by decide +kernel)) ggJ2_indexOfChar_4cfef_J2_checkBoundsBeginEnd_d044e
set_option maxRecDepth 20000 in
theorem ggJ2_indexOfChar_4cfef_J2_indexOfCharUnsafe_4cfef : GoodIn wsJ2_indexOfChar_4cfef wsJ2_indexOfCharUnsafe_4cfef := goodIn_r _ [19, 20, 21, 3, 22, 23, 24, 25, 5, 6, 7] (by decide +kernel) (by decide +kernel)
set_option maxRecDepth 20000 in
theorem gJ2_indexOfChar_4cfef_J2_indexOfCharUnsafe_4cfef : GoodIn wsJ2_indexOfChar_4cfef (va_wsS RJ2 244 yJ2_indexOfCharUnsafe_4cfef wsJ2_indexOfCharUnsafe_4cfef) := goodIn_app (goodIn_of _ (by decide +kernel)) ggJ2_indexOfChar_4cfef_J2_indexOfCharUnsafe_4cfef
theorem dJ2_indexOfChar_4cfef_0 : decode cJ2_indexOfChar_4cfef 0 = .ok (.iload_n 2, 1) := by decide +kernel
theorem dJ2_indexOfChar_4cfef_1 : decode cJ2_indexOfChar_4cfef 1 = .ok (.iload_n 3, 1) := by decide +kernel
theorem dJ2_indexOfChar_4cfef_2 : decode cJ2_indexOfChar_4cfef 2 = .ok (.aload_n 0, 1) := by decide +kernel
theorem dJ2_indexOfChar_4cfef_3 : decode cJ2_indexOfChar_4cfef 3 = .ok (.invokestatic 96, 3) := by decide +kernel
theorem dJ2_indexOfChar_4cfef_6 : decode cJ2_indexOfChar_4cfef 6 = .ok (.aload_n 0, 1) := by decide +kernel
theorem dJ2_indexOfChar_4cfef_7 : decode cJ2_indexOfChar_4cfef 7 = .ok (.iload_n 1, 1) := by decide +kernel
theorem dJ2_indexOfChar_4cfef_8 : decode cJ2_indexOfChar_4cfef 8 = .ok (.iload_n 2, 1) := by decide +kernel
theorem dJ2_indexOfChar_4cfef_9 : decode cJ2_indexOfChar_4cfef 9 = .ok (.iload_n 3, 1) := by decide +kernel
theorem dJ2_indexOfChar_4cfef_10 : decode cJ2_indexOfChar_4cfef 10 = .ok (.invokestatic 244, 3) := by decide +kernel
theorem dJ2_indexOfChar_4cfef_13 : decode cJ2_indexOfChar_4cfef 13 = .ok (.ireturn, 1) := by decide +kernel
set_option maxRecDepth 20000 in
theorem ggJ2_indexOfCharUnsafe_4cfef_J2_getChar_3b067 : GoodIn wsJ2_indexOfCharUnsafe_4cfef wsJ2_getChar_3b067 := goodIn_r _ [4, 5, 6, 7, 8, 9, 3, 10] (by decide +kernel) (by decide +kernel)
set_option maxRecDepth 20000 in
theorem gJ2_indexOfCharUnsafe_4cfef_J2_getChar_3b067 : GoodIn wsJ2_indexOfCharUnsafe_4cfef (va_wsS RJ2 71 yJ2_getChar_3b067 wsJ2_getChar_3b067) := goodIn_app (goodIn_of _ (by decide +kernel)) ggJ2_indexOfCharUnsafe_4cfef_J2_getChar_3b067
theorem dJ2_indexOfCharUnsafe_4cfef_0 : decode cJ2_indexOfCharUnsafe_4cfef 0 = .ok (.iload_n 2, 1) := by decide +kernel
theorem dJ2_indexOfCharUnsafe_4cfef_1 : decode cJ2_indexOfCharUnsafe_4cfef 1 = .ok (.istore 4, 2) := by decide +kernel
theorem dJ2_indexOfCharUnsafe_4cfef_3 : decode cJ2_indexOfCharUnsafe_4cfef 3 = .ok (.iload 4, 2) := by decide +kernel
theorem dJ2_indexOfCharUnsafe_4cfef_5 : decode cJ2_indexOfCharUnsafe_4cfef 5 = .ok (.iload_n 3, 1) := by decide +kernel
theorem dJ2_indexOfCharUnsafe_4cfef_6 : decode cJ2_indexOfCharUnsafe_4cfef 6 = .ok (.if_icmp .ge 22, 3) := by decide +kernel
theorem dJ2_indexOfCharUnsafe_4cfef_9 : decode cJ2_indexOfCharUnsafe_4cfef 9 = .ok (.aload_n 0, 1) := by decide +kernel
theorem dJ2_indexOfCharUnsafe_4cfef_10 : decode cJ2_indexOfCharUnsafe_4cfef 10 = .ok (.iload 4, 2) := by decide +kernel
theorem dJ2_indexOfCharUnsafe_4cfef_12 : decode cJ2_indexOfCharUnsafe_4cfef 12 = .ok (.invokestatic 71, 3) := by decide +kernel
theorem dJ2_indexOfCharUnsafe_4cfef_15 : decode cJ2_indexOfCharUnsafe_4cfef 15 = .ok (.iload_n 1, 1) := by decide +kernel
theorem dJ2_indexOfCharUnsafe_4cfef_16 : decode cJ2_indexOfCharUnsafe_4cfef 16 = .ok (.if_icmp .ne 6, 3) := by decide +kernel
theorem dJ2_indexOfCharUnsafe_4cfef_19 : decode cJ2_indexOfCharUnsafe_4cfef 19 = .ok (.iload 4, 2) := by decide +kernel
theorem dJ2_indexOfCharUnsafe_4cfef_21 : decode cJ2_indexOfCharUnsafe_4cfef 21 = .ok (.ireturn, 1) := by decide +kernel
theorem dJ2_indexOfCharUnsafe_4cfef_22 : decode cJ2_indexOfCharUnsafe_4cfef 22 = .ok (.iinc 4 1, 3) := by decide +kernel
theorem dJ2_indexOfCharUnsafe_4cfef_25 : decode cJ2_indexOfCharUnsafe_4cfef 25 = .ok (.goto (-22), 3) := by decide +kernel
theorem dJ2_indexOfCharUnsafe_4cfef_28 : decode cJ2_indexOfCharUnsafe_4cfef 28 = .ok (.iconst (-1), 1) := by decide +kernel
theorem dJ2_indexOfCharUnsafe_4cfef_29 : decode cJ2_indexOfCharUnsafe_4cfef 29 = .ok (.ireturn, 1) := by decide +kernel
set_option maxRecDepth 20000 in
theorem ggJ2_indexOfSupplementary_4cfef_J11_isValidCodePoint_9a6ad : GoodIn wsJ2_indexOfSupplementary_4cfef wsJ11_isValidCodePoint_9a6ad := goodIn_r _ [4] (by decide +kernel) (by decide +kernel)
set_option maxRecDepth 20000 in
theorem gJ2_indexOfSupplementary_4cfef_J11_isValidCodePoint_9a6ad : GoodIn wsJ2_indexOfSupplementary_4cfef (va_wsS RJ2 164 yJ11_isValidCodePoint_9a6ad wsJ11_isValidCodePoint_9a6ad) := goodIn_app (goodIn_of _ (by decide +kernel)) ggJ2_indexOfSupplementary_4cfef_J11_isValidCodePoint_9a6ad
set_option maxRecDepth 20000 in
theorem ggJ2_indexOfSupplementary_4cfef_J11_highSurrogate_5068e : GoodIn wsJ2_indexOfSupplementary_4cfef wsJ11_highSurrogate_5068e := goodIn_r _ [7, 8] (by decide +kernel) (by decide +kernel)
set_option maxRecDepth 20000 in
theorem gJ2_indexOfSupplementary_4cfef_J11_highSurrogate_5068e : GoodIn wsJ2_indexOfSupplementary_4cfef (va_wsS RJ2 157 yJ11_highSurrogate_5068e wsJ11_highSurrogate_5068e) := goodIn_app (goodIn_of _ (by decide +kernel)) ggJ2_indexOfSupplementary_4cfef_J11_highSurrogate_5068e
set_option maxRecDepth 20000 in
theorem ggJ2_indexOfSupplementary_4cfef_J11_lowSurrogate_5068e : GoodIn wsJ2_indexOfSupplementary_4cfef wsJ11_lowSurrogate_5068e := goodIn_r _ [11, 12] (by decide +kernel) (by decide +kernel)
set_option maxRecDepth 20000 in
theorem gJ2_indexOfSupplementary_4cfef_J11_lowSurrogate_5068e : GoodIn wsJ2_indexOfSupplementary_4cfef (va_wsS RJ2 161 yJ11_lowSurrogate_5068e wsJ11_lowSurrogate_5068e) := goodIn_app (goodIn_of _ (by decide +kernel)) ggJ2_indexOfSupplementary_4cfef_J11_lowSurrogate_5068e
set_option maxRecDepth 20000 in
theorem ggJ2_indexOfSupplementary_4cfef_J2_checkBoundsBeginEnd_d044e : GoodIn wsJ2_indexOfSupplementary_4cfef wsJ2_checkBoundsBeginEnd_d044e := goodIn_r _ [16, 17, 18, 15, 19, 20, 21, 22, 23, 24, 25, 26, 27, 28] (by decide +kernel) (by decide +kernel)
set_option maxRecDepth 20000 in
theorem gJ2_indexOfSupplementary_4cfef_J2_checkBoundsBeginEnd_d044e : GoodIn wsJ2_indexOfSupplementary_4cfef (va_wsS RJ2 96 yJ2_checkBoundsBeginEnd_d044e wsJ2_checkBoundsBeginEnd_d044e) := goodIn_app (goodIn_of _ (by decide +kernel)) ggJ2_indexOfSupplementary_4cfef_J2_checkBoundsBeginEnd_d044e
set_option maxRecDepth 20000 in
theorem ggJ2_indexOfSupplementary_4cfef_J2_getChar_3b067 : GoodIn wsJ2_indexOfSupplementary_4cfef wsJ2_getChar_3b067 := goodIn_r _ [31, 32, 33, 34, 17, 18, 15, 19] (by decide +kernel) (by decide +kernel)
set_option maxRecDepth 20000 in
theorem gJ2_indexOfSupplementary_4cfef_J2_getChar_3b067 : GoodIn wsJ2_indexOfSupplementary_4cfef (va_wsS RJ2 71 yJ2_getChar_3b067 wsJ2_getChar_3b067) := goodIn_app (goodIn_of _ (by decide +kernel)) ggJ2_indexOfSupplementary_4cfef_J2_getChar_3b067
theorem dJ2_indexOfSupplementary_4cfef_0 : decode cJ2_indexOfSupplementary_4cfef 0 = .ok (.iload_n 1, 1) := by decide +kernel
theorem dJ2_indexOfSupplementary_4cfef_1 : decode cJ2_indexOfSupplementary_4cfef 1 = .ok (.invokestatic 164, 3) := by decide +kernel
theorem dJ2_indexOfSupplementary_4cfef_4 : decode cJ2_indexOfSupplementary_4cfef 4 = .ok (.ifCond .eq 65, 3) := by decide +kernel
theorem dJ2_indexOfSupplementary_4cfef_7 : decode cJ2_indexOfSupplementary_4cfef 7 = .ok (.iload_n 1, 1) := by decide +kernel
theorem dJ2_indexOfSupplementary_4cfef_8 : decode cJ2_indexOfSupplementary_4cfef 8 = .ok (.invokestatic 157, 3) := by decide +kernel
theorem dJ2_indexOfSupplementary_4cfef_11 : decode cJ2_indexOfSupplementary_4cfef 11 = .ok (.istore 4, 2) := by decide +kernel
theorem dJ2_indexOfSupplementary_4cfef_13 : decode cJ2_indexOfSupplementary_4cfef 13 = .ok (.iload_n 1, 1) := by decide +kernel
theorem dJ2_indexOfSupplementary_4cfef_14 : decode cJ2_indexOfSupplementary_4cfef 14 = .ok (.invokestatic 161, 3) := by decide +kernel
theorem dJ2_indexOfSupplementary_4cfef_17 : decode cJ2_indexOfSupplementary_4cfef 17 = .ok (.istore 5, 2) := by decide +kernel
theorem dJ2_indexOfSupplementary_4cfef_19 : decode cJ2_indexOfSupplementary_4cfef 19 = .ok (.iload_n 2, 1) := by decide +kernel
theorem dJ2_indexOfSupplementary_4cfef_20 : decode cJ2_indexOfSupplementary_4cfef 20 = .ok (.iload_n 3, 1) := by decide +kernel
theorem dJ2_indexOfSupplementary_4cfef_21 : decode cJ2_indexOfSupplementary_4cfef 21 = .ok (.aload_n 0, 1) := by decide +kernel
theorem dJ2_indexOfSupplementary_4cfef_22 : decode cJ2_indexOfSupplementary_4cfef 22 = .ok (.invokestatic 96, 3) := by decide +kernel
theorem dJ2_indexOfSupplementary_4cfef_25 : decode cJ2_indexOfSupplementary_4cfef 25 = .ok (.iload_n 2, 1) := by decide +kernel
theorem dJ2_indexOfSupplementary_4cfef_26 : decode cJ2_indexOfSupplementary_4cfef 26 = .ok (.istore 6, 2) := by decide +kernel
theorem dJ2_indexOfSupplementary_4cfef_28 : decode cJ2_indexOfSupplementary_4cfef 28 = .ok (.iload 6, 2) := by decide +kernel
theorem dJ2_indexOfSupplementary_4cfef_30 : decode cJ2_indexOfSupplementary_4cfef 30 = .ok (.iload_n 3, 1) := by decide +kernel
theorem dJ2_indexOfSupplementary_4cfef_31 : decode cJ2_indexOfSupplementary_4cfef 31 = .ok (.iconst 1, 1) := by decide +kernel
theorem dJ2_indexOfSupplementary_4cfef_32 : decode cJ2_indexOfSupplementary_4cfef 32 = .ok (.isub, 1) := by decide +kernel
theorem dJ2_indexOfSupplementary_4cfef_33 : decode cJ2_indexOfSupplementary_4cfef 33 = .ok (.if_icmp .ge 36, 3) := by decide +kernel
theorem dJ2_indexOfSupplementary_4cfef_36 : decode cJ2_indexOfSupplementary_4cfef 36 = .ok (.aload_n 0, 1) := by decide +kernel
theorem dJ2_indexOfSupplementary_4cfef_37 : decode cJ2_indexOfSupplementary_4cfef 37 = .ok (.iload 6, 2) := by decide +kernel
theorem dJ2_indexOfSupplementary_4cfef_39 : decode cJ2_indexOfSupplementary_4cfef 39 = .ok (.invokestatic 71, 3) := by decide +kernel
theorem dJ2_indexOfSupplementary_4cfef_42 : decode cJ2_indexOfSupplementary_4cfef 42 = .ok (.iload 4, 2) := by decide +kernel
theorem dJ2_indexOfSupplementary_4cfef_44 : decode cJ2_indexOfSupplementary_4cfef 44 = .ok (.if_icmp .ne 19, 3) := by decide +kernel
theorem dJ2_indexOfSupplementary_4cfef_47 : decode cJ2_indexOfSupplementary_4cfef 47 = .ok (.aload_n 0, 1) := by decide +kernel
theorem dJ2_indexOfSupplementary_4cfef_48 : decode cJ2_indexOfSupplementary_4cfef 48 = .ok (.iload 6, 2) := by decide +kernel
theorem dJ2_indexOfSupplementary_4cfef_50 : decode cJ2_indexOfSupplementary_4cfef 50 = .ok (.iconst 1, 1) := by decide +kernel
theorem dJ2_indexOfSupplementary_4cfef_51 : decode cJ2_indexOfSupplementary_4cfef 51 = .ok (.iadd, 1) := by decide +kernel
theorem dJ2_indexOfSupplementary_4cfef_52 : decode cJ2_indexOfSupplementary_4cfef 52 = .ok (.invokestatic 71, 3) := by decide +kernel
theorem dJ2_indexOfSupplementary_4cfef_55 : decode cJ2_indexOfSupplementary_4cfef 55 = .ok (.iload 5, 2) := by decide +kernel
theorem dJ2_indexOfSupplementary_4cfef_57 : decode cJ2_indexOfSupplementary_4cfef 57 = .ok (.if_icmp .ne 6, 3) := by decide +kernel
theorem dJ2_indexOfSupplementary_4cfef_60 : decode cJ2_indexOfSupplementary_4cfef 60 = .ok (.iload 6, 2) := by decide +kernel
theorem dJ2_indexOfSupplementary_4cfef_62 : decode cJ2_indexOfSupplementary_4cfef 62 = .ok (.ireturn, 1) := by decide +kernel
theorem dJ2_indexOfSupplementary_4cfef_63 : decode cJ2_indexOfSupplementary_4cfef 63 = .ok (.iinc 6 1, 3) := by decide +kernel
theorem dJ2_indexOfSupplementary_4cfef_66 : decode cJ2_indexOfSupplementary_4cfef 66 = .ok (.goto (-38), 3) := by decide +kernel
theorem dJ2_indexOfSupplementary_4cfef_69 : decode cJ2_indexOfSupplementary_4cfef 69 = .ok (.iconst (-1), 1) := by decide +kernel
theorem dJ2_indexOfSupplementary_4cfef_70 : decode cJ2_indexOfSupplementary_4cfef 70 = .ok (.ireturn, 1) := by decide +kernel
set_option maxRecDepth 20000 in
theorem ggJ2_charAt_3b067_J2_checkIndex_2214a : GoodIn wsJ2_charAt_3b067 wsJ2_checkIndex_2214a := goodIn_r _ [4, 5, 6, 3, 7, 8, 9, 10, 11, 12, 13, 14, 15, 16] (by decide +kernel) (by decide +kernel)
set_option maxRecDepth 20000 in
theorem gJ2_charAt_3b067_J2_checkIndex_2214a : GoodIn wsJ2_charAt_3b067 (va_wsS RJ2 67 yJ2_checkIndex_2214a wsJ2_checkIndex_2214a) := goodIn_app (goodIn_of _ (by decide +kernel)) ggJ2_charAt_3b067_J2_checkIndex_2214a
set_option maxRecDepth 20000 in
theorem ggJ2_charAt_3b067_J2_getChar_3b067 : GoodIn wsJ2_charAt_3b067 wsJ2_getChar_3b067 := goodIn_r _ [19, 20, 21, 22, 5, 6, 3, 7] (by decide +kernel) (by decide +kernel)
set_option maxRecDepth 20000 in
theorem gJ2_charAt_3b067_J2_getChar_3b067 : GoodIn wsJ2_charAt_3b067 (va_wsS RJ2 71 yJ2_getChar_3b067 wsJ2_getChar_3b067) := goodIn_app (goodIn_of _ (by decide +kernel)) ggJ2_charAt_3b067_J2_getChar_3b067
theorem dJ2_charAt_3b067_0 : decode cJ2_charAt_3b067 0 = .ok (.iload_n 1, 1) := by decide +kernel
theorem dJ2_charAt_3b067_1 : decode cJ2_charAt_3b067 1 = .ok (.aload_n 0, 1) := by decide +kernel
theorem dJ2_charAt_3b067_2 : decode cJ2_charAt_3b067 2 = .ok (.invokestatic 67, 3) := by decide +kernel
theorem dJ2_charAt_3b067_5 : decode cJ2_charAt_3b067 5 = .ok (.aload_n 0, 1) := by decide +kernel
theorem dJ2_charAt_3b067_6 : decode cJ2_charAt_3b067 6 = .ok (.iload_n 1, 1) := by decide +kernel
theorem dJ2_charAt_3b067_7 : decode cJ2_charAt_3b067 7 = .ok (.invokestatic 71, 3) := by decide +kernel
theorem dJ2_charAt_3b067_10 : decode cJ2_charAt_3b067 10 = .ok (.ireturn, 1) := by decide +kernel
set_option maxRecDepth 20000 in
theorem ggJ2_checkIndex_2214a_J2_length_9d52b : GoodIn wsJ2_checkIndex_2214a wsJ2_length_9d52b := goodIn_r _ [4] (by decide +kernel) (by decide +kernel)
set_option maxRecDepth 20000 in
theorem gJ2_checkIndex_2214a_J2_length_9d52b : GoodIn wsJ2_checkIndex_2214a (va_wsS RJ2 48 yJ2_length_9d52b wsJ2_length_9d52b) := goodIn_app (goodIn_of _ (by decide +kernel)) ggJ2_checkIndex_2214a_J2_length_9d52b
set_option maxRecDepth 20000 in
theorem ggJ2_checkIndex_2214a_J0_checkIndex_df160 : GoodIn wsJ2_checkIndex_2214a wsJ0_checkIndex_df160 := goodIn_r _ [8, 9, 10, 11, 12, 13] (by decide +kernel) (by decide +kernel)
set_option maxRecDepth 20000 in
theorem gJ2_checkIndex_2214a_J0_checkIndex_df160 : GoodIn wsJ2_checkIndex_2214a (va_wsS RJ2 414 yJ0_checkIndex_df160 wsJ0_checkIndex_df160) := goodIn_app (goodIn_of _ (by decide +kernel)) ggJ2_checkIndex_2214a_J0_checkIndex_df160
theorem dJ2_checkIndex_2214a_0 : decode cJ2_checkIndex_2214a 0 = .ok (.iload_n 0, 1) := by decide +kernel
theorem dJ2_checkIndex_2214a_1 : decode cJ2_checkIndex_2214a 1 = .ok (.aload_n 1, 1) := by decide +kernel
theorem dJ2_checkIndex_2214a_2 : decode cJ2_checkIndex_2214a 2 = .ok (.invokestatic 48, 3) := by decide +kernel
theorem dJ2_checkIndex_2214a_5 : decode cJ2_checkIndex_2214a 5 = .ok (.invokestatic 414, 3) := by decide +kernel
theorem dJ2_checkIndex_2214a_8 : decode cJ2_checkIndex_2214a 8 = .ok (.return_, 1) := by decide +kernel
set_option maxRecDepth 20000 in
theorem ggJ2_checkBoundsBeginEnd_d044e_J2_length_9d52b : GoodIn wsJ2_checkBoundsBeginEnd_d044e wsJ2_length_9d52b := goodIn_r _ [4] (by decide +kernel) (by decide +kernel)
set_option maxRecDepth 20000 in
theorem gJ2_checkBoundsBeginEnd_d044e_J2_length_9d52b : GoodIn wsJ2_checkBoundsBeginEnd_d044e (va_wsS RJ2 48 yJ2_length_9d52b wsJ2_length_9d52b) := goodIn_app (goodIn_of _ (by decide +kernel)) ggJ2_checkBoundsBeginEnd_d044e_J2_length_9d52b
set_option maxRecDepth 20000 in
theorem ggJ2_checkBoundsBeginEnd_d044e_J0_checkBoundsBeginEnd_23922 : GoodIn wsJ2_checkBoundsBeginEnd_d044e wsJ0_checkBoundsBeginEnd_23922 := goodIn_r _ [8, 9, 10, 11, 12, 13] (by decide +kernel) (by decide +kernel)
set_option maxRecDepth 20000 in
theorem gJ2_checkBoundsBeginEnd_d044e_J0_checkBoundsBeginEnd_23922 : GoodIn wsJ2_checkBoundsBeginEnd_d044e (va_wsS RJ2 241 yJ0_checkBoundsBeginEnd_23922 wsJ0_checkBoundsBeginEnd_23922) := goodIn_app (goodIn_of _ (by decide +kernel)) ggJ2_checkBoundsBeginEnd_d044e_J0_checkBoundsBeginEnd_23922
theorem dJ2_checkBoundsBeginEnd_d044e_0 : decode cJ2_checkBoundsBeginEnd_d044e 0 = .ok (.iload_n 0, 1) := by decide +kernel
theorem dJ2_checkBoundsBeginEnd_d044e_1 : decode cJ2_checkBoundsBeginEnd_d044e 1 = .ok (.iload_n 1, 1) := by decide +kernel
theorem dJ2_checkBoundsBeginEnd_d044e_2 : decode cJ2_checkBoundsBeginEnd_d044e 2 = .ok (.aload_n 2, 1) := by decide +kernel
theorem dJ2_checkBoundsBeginEnd_d044e_3 : decode cJ2_checkBoundsBeginEnd_d044e 3 = .ok (.invokestatic 48, 3) := by decide +kernel
theorem dJ2_checkBoundsBeginEnd_d044e_6 : decode cJ2_checkBoundsBeginEnd_d044e 6 = .ok (.invokestatic 241, 3) := by decide +kernel
theorem dJ2_checkBoundsBeginEnd_d044e_9 : decode cJ2_checkBoundsBeginEnd_d044e 9 = .ok (.return_, 1) := by decide +kernel
theorem dJ3_checkIndex_8e157_0 : decode cJ3_checkIndex_8e157 0 = .ok (.iload_n 0, 1) := by decide +kernel
theorem dJ3_checkIndex_8e157_1 : decode cJ3_checkIndex_8e157 1 = .ok (.ifCond .lt 8, 3) := by decide +kernel
theorem dJ3_checkIndex_8e157_4 : decode cJ3_checkIndex_8e157 4 = .ok (.iload_n 0, 1) := by decide +kernel
theorem dJ3_checkIndex_8e157_5 : decode cJ3_checkIndex_8e157 5 = .ok (.iload_n 1, 1) := by decide +kernel
theorem dJ3_checkIndex_8e157_6 : decode cJ3_checkIndex_8e157 6 = .ok (.if_icmp .lt 10, 3) := by decide +kernel
theorem dJ3_checkIndex_8e157_9 : decode cJ3_checkIndex_8e157 9 = .ok (.aload_n 2, 1) := by decide +kernel
theorem dJ3_checkIndex_8e157_10 : decode cJ3_checkIndex_8e157 10 = .ok (.iload_n 0, 1) := by decide +kernel
theorem dJ3_checkIndex_8e157_11 : decode cJ3_checkIndex_8e157 11 = .ok (.iload_n 1, 1) := by decide +kernel
theorem dJ3_checkIndex_8e157_12 : decode cJ3_checkIndex_8e157 12 = .ok (.invokestatic 95, 3) := by decide +kernel
theorem dJ3_checkIndex_8e157_15 : decode cJ3_checkIndex_8e157 15 = .ok (.athrow, 1) := by decide +kernel
theorem dJ3_checkIndex_8e157_16 : decode cJ3_checkIndex_8e157 16 = .ok (.iload_n 0, 1) := by decide +kernel
theorem dJ3_checkIndex_8e157_17 : decode cJ3_checkIndex_8e157 17 = .ok (.ireturn, 1) := by decide +kernel
theorem dJ3_checkFromToIndex_8c36e_0 : decode cJ3_checkFromToIndex_8c36e 0 = .ok (.iload_n 0, 1) := by decide +kernel
theorem dJ3_checkFromToIndex_8c36e_1 : decode cJ3_checkFromToIndex_8c36e 1 = .ok (.ifCond .lt 13, 3) := by decide +kernel
theorem dJ3_checkFromToIndex_8c36e_4 : decode cJ3_checkFromToIndex_8c36e 4 = .ok (.iload_n 0, 1) := by decide +kernel
theorem dJ3_checkFromToIndex_8c36e_5 : decode cJ3_checkFromToIndex_8c36e 5 = .ok (.iload_n 1, 1) := by decide +kernel
theorem dJ3_checkFromToIndex_8c36e_6 : decode cJ3_checkFromToIndex_8c36e 6 = .ok (.if_icmp .gt 8, 3) := by decide +kernel
theorem dJ3_checkFromToIndex_8c36e_9 : decode cJ3_checkFromToIndex_8c36e 9 = .ok (.iload_n 1, 1) := by decide +kernel
theorem dJ3_checkFromToIndex_8c36e_10 : decode cJ3_checkFromToIndex_8c36e 10 = .ok (.iload_n 2, 1) := by decide +kernel
theorem dJ3_checkFromToIndex_8c36e_11 : decode cJ3_checkFromToIndex_8c36e 11 = .ok (.if_icmp .le 11, 3) := by decide +kernel
theorem dJ3_checkFromToIndex_8c36e_14 : decode cJ3_checkFromToIndex_8c36e 14 = .ok (.aload_n 3, 1) := by decide +kernel
theorem dJ3_checkFromToIndex_8c36e_15 : decode cJ3_checkFromToIndex_8c36e 15 = .ok (.iload_n 0, 1) := by decide +kernel
theorem dJ3_checkFromToIndex_8c36e_16 : decode cJ3_checkFromToIndex_8c36e 16 = .ok (.iload_n 1, 1) := by decide +kernel
theorem dJ3_checkFromToIndex_8c36e_17 : decode cJ3_checkFromToIndex_8c36e 17 = .ok (.iload_n 2, 1) := by decide +kernel
theorem dJ3_checkFromToIndex_8c36e_18 : decode cJ3_checkFromToIndex_8c36e 18 = .ok (.invokestatic 99, 3) := by decide +kernel
theorem dJ3_checkFromToIndex_8c36e_21 : decode cJ3_checkFromToIndex_8c36e 21 = .ok (.athrow, 1) := by decide +kernel
theorem dJ3_checkFromToIndex_8c36e_22 : decode cJ3_checkFromToIndex_8c36e 22 = .ok (.iload_n 0, 1) := by decide +kernel
theorem dJ3_checkFromToIndex_8c36e_23 : decode cJ3_checkFromToIndex_8c36e 23 = .ok (.ireturn, 1) := by decide +kernel
set_option maxRecDepth 20000 in
theorem ggL_law_X11_init : GoodIn wsL_law wsX11_init := goodIn_r _ [8, 9, 10, 11, 12, 13, 14, 15, 16, 17, 18, 19, 20, 21, 22, 23, 24, 25, 26, 27, 28, 29, 30, 31, 32, 33, 34, 35, 36, 37, 38, 39, 40, 41, 42, 43, 44, 45, 46, 47, 48, 49, 50, 51, 52, 53, 54, 55, 56, 57, 58, 59, 60, 61, 62, 63, 64, 65, 66, 67, 68, 69, 70, 71, 72, 73, 74, 75, 76, 77, 78, 79, 80, 81, 82, 83, 84, 85, 86, 87, 88, 89, 90, 91, 92, 93, 94, 1159, 1160, 1161, 1162, 1163, 1164, 1165, 1166, 1167, 1168, 1169, 1170, 1171, 1172, 1173, 1174, 1175, 1176, 1177, 1130, 1131, 1132, 1133, 1134, 1135, 1136, 1178, 1179, 1180, 1181, 1182, 1183, 1184, 1185, 1186, 1187, 1188, 1189, 1190, 1191, 1192, 1193, 1194, 1195, 1196, 1197, 1198, 1199, 1200, 1201, 1202, 1203, 1204, 1205, 1206, 1207, 1208, 1209, 1210, 1211, 1212, 1213, 1214, 1215, 1216, 1217, 1218, 1219, 1220, 1221, 1222, 1223, 1224, 1225] (by decide +kernel) (by decide +kernel)
set_option maxRecDepth 20000 in
theorem gL_law_X11_init : GoodIn wsL_law (wsX11_init) := ggL_law_X11_init
set_option maxRecDepth 20000 in
theorem ggL_law_X12_init : GoodIn wsL_law wsX12_init := goodIn_r _ [97, 98, 10, 11, 26, 99, 100, 101, 102, 103, 104, 105, 106, 107, 108, 109, 110, 1137, 1138, 1139, 1140, 1141, 1142, 1143, 1144, 1145, 1146, 1147, 1148, 1149, 1150, 1151, 1152, 1153, 1154, 1155, 1156, 1157, 1158] (by decide +kernel) (by decide +kernel)
set_option maxRecDepth 20000 in
theorem gL_law_X12_init : GoodIn wsL_law (wsX12_init) := ggL_law_X12_init
set_option maxRecDepth 20000 in
theorem ggL_law_X11_feed : GoodIn wsL_law wsX11_feed := goodIn_r _ [114, 15, 115, 116, 1130, 1131, 1132, 1133, 1134, 1135, 1136, 1159, 1160, 1161, 1162, 1163, 1164, 1165, 1166, 1167, 1168, 1169, 1170, 1171, 1172, 1173, 1174, 1175, 1176, 1177] (by decide +kernel) (by decide +kernel)
set_option maxRecDepth 20000 in
theorem gL_law_X11_feed : GoodIn wsL_law (wsV RL 13 RX11 yX11_feed wsX11_feed) := goodIn_app (goodIn_of _ (by decide +kernel)) ggL_law_X11_feed
set_option maxRecDepth 20000 in
theorem ggL_law_X12_feed : GoodIn wsL_law wsX12_feed := goodIn_r _ [120, 99, 121, 122, 5, 123, 1137, 1138, 1139, 1140, 1141, 1142, 1143, 1144, 1145, 1146, 1147, 1148, 1149, 1150, 1151, 1152, 1153, 1154, 1155, 1156, 1157, 1158] (by decide +kernel) (by decide +kernel)
set_option maxRecDepth 20000 in
theorem gL_law_X12_feed : GoodIn wsL_law (wsV RL 17 RX12 yX12_feed wsX12_feed) := goodIn_app (goodIn_of _ (by decide +kernel)) ggL_law_X12_feed
set_option maxRecDepth 20000 in
theorem ggL_law_X11_house : GoodIn wsL_law wsX11_house := goodIn_r _ [127, 15, 128, 129, 47, 48, 116, 115, 130, 131, 51, 52, 53, 10, 11, 54, 55, 56, 57, 58, 59, 60, 61, 62, 63, 64, 65, 26, 66, 67, 68, 132, 133, 134, 135, 136, 137, 138, 139, 140, 141, 142, 143, 144, 145, 146, 147, 148, 149, 150, 151, 152, 153, 154, 155, 156, 157, 158, 159, 160, 161, 162, 163, 164, 165, 166, 167, 168, 169, 170, 171, 172, 173, 174, 175, 176, 177, 178, 179, 180, 181, 182, 183, 184, 185, 186, 187, 188, 189, 190, 191, 192, 193, 194, 195, 196, 197, 198, 199, 200, 201, 202, 203, 204, 205, 206, 207, 208, 209, 210, 211, 212, 213, 214, 215, 216, 217, 218, 219, 220, 221, 222, 223, 224, 225, 226, 227, 228, 229, 230, 231, 232, 233, 234, 235, 236, 237, 238, 239, 240, 241, 242, 243, 244, 245, 246, 247, 248, 249, 250, 251, 252, 253, 254, 255, 256, 257, 258, 259, 260, 261, 262, 263, 264, 265, 266, 267, 268, 269, 270, 271, 272, 273, 274, 275, 276, 277, 278, 279, 280, 281, 282, 283, 1130, 1131, 1132, 1133, 1134, 1135, 1136, 1159, 1160, 1161, 1162, 1163, 1164, 1165, 1166, 1167, 1168, 1169, 1170, 1171, 1172, 1173, 1174, 1175, 1176, 1177, 1187, 1188, 1189, 1190, 1191, 1192, 1193, 1194, 1195, 1196, 1197] (by decide +kernel) (by decide +kernel)
set_option maxRecDepth 20000 in
theorem gL_law_X11_house : GoodIn wsL_law (wsV RL 18 RX11 yX11_house wsX11_house) := goodIn_app (goodIn_of _ (by decide +kernel)) ggL_law_X11_house
set_option maxRecDepth 20000 in
theorem ggL_law_X12_house : GoodIn wsL_law wsX12_house := goodIn_r _ [287, 99, 288, 289, 290, 291, 292, 293, 294, 295, 5, 296, 297, 298, 299, 300, 301, 302, 303, 304, 305, 306, 307, 308, 309, 151, 152, 153, 154, 155, 156, 157, 158, 159, 160, 161, 310, 163, 164, 165, 166, 167, 168, 169, 170, 171, 172, 173, 174, 175, 176, 177, 178, 179, 180, 181, 182, 183, 184, 185, 186, 187, 188, 189, 190, 191, 192, 193, 194, 195, 196, 197, 198, 311, 312, 313, 314, 315, 316, 317, 318, 121, 122, 123, 319, 320, 321, 322, 323, 324, 325, 326, 327, 328, 329, 330, 331, 332, 333, 334, 335, 336, 337, 338, 339, 340, 341, 342, 1137, 1138, 1139, 1140, 1141, 1142, 1143, 1144, 1145, 1146, 1147, 1148, 1149, 1150, 1151, 1152, 1153, 1154, 1155, 1156, 1157, 1158] (by decide +kernel) (by decide +kernel)
set_option maxRecDepth 20000 in
theorem gL_law_X12_house : GoodIn wsL_law (wsV RL 22 RX12 yX12_house wsX12_house) := goodIn_app (goodIn_of _ (by decide +kernel)) ggL_law_X12_house
set_option maxRecDepth 20000 in
theorem ggL_law_X11_told : GoodIn wsL_law wsX11_told := goodIn_r _ [346, 15, 130, 347, 348, 349, 350, 351, 352, 1130, 1131, 1132, 1133, 1134, 1135, 1136, 1159, 1160, 1161, 1162, 1163, 1164, 1165, 1166, 1167, 1168, 1169, 1170, 1171, 1172, 1173, 1174, 1175, 1176, 1177, 1187, 1188, 1189, 1190, 1191, 1192, 1193, 1194, 1195, 1196, 1197] (by decide +kernel) (by decide +kernel)
set_option maxRecDepth 20000 in
theorem gL_law_X11_told : GoodIn wsL_law (wsV RL 23 RX11 yX11_told wsX11_told) := goodIn_app (goodIn_of _ (by decide +kernel)) ggL_law_X11_told
set_option maxRecDepth 20000 in
theorem ggL_law_X12_told : GoodIn wsL_law wsX12_told := goodIn_r _ [356, 99, 357, 358, 359, 5, 360, 1137, 1138, 1139, 1140, 1141, 1142, 1143, 1144, 1145, 1146, 1147, 1148, 1149, 1150, 1151, 1152, 1153, 1154, 1155, 1156, 1157, 1158] (by decide +kernel) (by decide +kernel)
set_option maxRecDepth 20000 in
theorem gL_law_X12_told : GoodIn wsL_law (wsV RL 26 RX12 yX12_told wsX12_told) := goodIn_app (goodIn_of _ (by decide +kernel)) ggL_law_X12_told
set_option maxRecDepth 20000 in
theorem ggL_law_X11_chief : GoodIn wsL_law wsX11_chief := goodIn_r _ [364, 15, 365, 366, 367, 368, 2, 369, 370, 371, 80, 372, 373, 374, 375, 376, 377, 378, 379, 380, 381, 382, 383, 384, 385, 386, 387, 388, 389, 390, 391, 79, 392, 393, 394, 395, 83, 84, 85, 10, 11, 86, 87, 88, 89, 396, 397, 398, 399, 400, 401, 402, 403, 404, 405, 406, 407, 408, 409, 410, 411, 412, 413, 414, 415, 416, 1130, 1131, 1132, 1133, 1134, 1135, 1136, 1159, 1160, 1161, 1162, 1163, 1164, 1165, 1166, 1167, 1168, 1169, 1170, 1171, 1172, 1173, 1174, 1175, 1176, 1177, 1210, 1211, 1212, 1213, 1222, 1223, 1224, 1225, 1206, 1207, 1208, 1209, 1214, 1215, 1216, 1217, 1202, 1203, 1204, 1205, 1218, 1219, 1220, 1221, 1198, 1199, 1200, 1201] (by decide +kernel) (by decide +kernel)
set_option maxRecDepth 20000 in
theorem gL_law_X11_chief : GoodIn wsL_law (wsV RL 27 RX11 yX11_chief wsX11_chief) := goodIn_app (goodIn_of _ (by decide +kernel)) ggL_law_X11_chief
set_option maxRecDepth 20000 in
theorem ggL_law_X12_chief : GoodIn wsL_law wsX12_chief := goodIn_r _ [420, 99, 121, 122, 5, 123, 1137, 1138, 1139, 1140, 1141, 1142, 1143, 1144, 1145, 1146, 1147, 1148, 1149, 1150, 1151, 1152, 1153, 1154, 1155, 1156, 1157, 1158] (by decide +kernel) (by decide +kernel)
set_option maxRecDepth 20000 in
theorem gL_law_X12_chief : GoodIn wsL_law (wsV RL 31 RX12 yX12_chief wsX12_chief) := goodIn_app (goodIn_of _ (by decide +kernel)) ggL_law_X12_chief
set_option maxRecDepth 20000 in
theorem ggL_law_X11_worker : GoodIn wsL_law wsX11_worker := goodIn_r _ [424, 15, 425, 426, 427, 428, 429, 430, 431, 432, 433, 14, 434, 435, 40, 367, 368, 2, 369, 1130, 1131, 1132, 1133, 1134, 1135, 1136, 1159, 1160, 1161, 1162, 1163, 1164, 1165, 1166, 1167, 1168, 1169, 1170, 1171, 1172, 1173, 1174, 1175, 1176, 1177] (by decide +kernel) (by decide +kernel)
set_option maxRecDepth 20000 in
theorem gL_law_X11_worker : GoodIn wsL_law (wsV RL 32 RX11 yX11_worker wsX11_worker) := goodIn_app (goodIn_of _ (by decide +kernel)) ggL_law_X11_worker
set_option maxRecDepth 20000 in
theorem ggL_law_X12_worker : GoodIn wsL_law wsX12_worker := goodIn_r _ [439, 99, 440, 441, 442, 5, 443, 121, 122, 123, 1137, 1138, 1139, 1140, 1141, 1142, 1143, 1144, 1145, 1146, 1147, 1148, 1149, 1150, 1151, 1152, 1153, 1154, 1155, 1156, 1157, 1158] (by decide +kernel) (by decide +kernel)
set_option maxRecDepth 20000 in
theorem gL_law_X12_worker : GoodIn wsL_law (wsV RL 36 RX12 yX12_worker wsX12_worker) := goodIn_app (goodIn_of _ (by decide +kernel)) ggL_law_X12_worker
set_option maxRecDepth 20000 in
theorem ggL_law_X11_of : GoodIn wsL_law wsX11_of := goodIn_r _ [447, 15, 426, 427, 428, 429, 430, 21, 448, 449, 450, 451, 14, 452, 453, 454, 455, 456, 2, 457, 431, 432, 433, 434, 435, 40, 458, 459, 460, 20, 461, 77, 462, 463, 464, 465, 466, 467, 468, 469, 470, 471, 472, 473, 36, 474, 475, 476, 477, 478, 479, 480, 481, 482, 483, 80, 484, 485, 486, 487, 488, 489, 490, 381, 491, 492, 493, 494, 495, 496, 497, 498, 499, 500, 501, 502, 503, 504, 505, 506, 507, 508, 375, 509, 510, 511, 512, 513, 384, 514, 515, 516, 517, 518, 60, 519, 520, 521, 522, 523, 524, 390, 525, 526, 527, 528, 529, 530, 531, 48, 532, 218, 66, 67, 68, 533, 534, 535, 536, 537, 73, 538, 539, 540, 541, 542, 543, 544, 545, 546, 547, 75, 548, 549, 550, 551, 74, 552, 553, 554, 555, 556, 557, 558, 559, 59, 61, 76, 560, 561, 562, 563, 564, 565, 566, 567, 568, 569, 570, 571, 572, 573, 574, 575, 387, 576, 577, 578, 579, 580, 581, 582, 378, 583, 584, 585, 586, 587, 588, 589, 590, 591, 592, 593, 81, 594, 595, 596, 597, 598, 599, 600, 601, 602, 1130, 1131, 1132, 1133, 1134, 1135, 1136, 1159, 1160, 1161, 1162, 1163, 1164, 1165, 1166, 1167, 1168, 1169, 1170, 1171, 1172, 1173, 1174, 1175, 1176, 1177, 1178, 1179, 1180, 1181, 1182, 1183, 1184, 1198, 1199, 1200, 1201, 1202, 1203, 1204, 1205, 1206, 1207, 1208, 1209, 1210, 1211, 1212, 1213, 1214, 1215, 1216, 1217, 1218, 1219, 1220, 1221, 1222, 1223, 1224, 1225, 1187, 1188, 1189, 1190, 1191, 1192, 1193, 1194, 1195, 1196, 1197] (by decide +kernel) (by decide +kernel)
set_option maxRecDepth 20000 in
theorem gL_law_X11_of : GoodIn wsL_law (wsV RL 37 RX11 yX11_of wsX11_of) := goodIn_app (goodIn_of _ (by decide +kernel)) ggL_law_X11_of
set_option maxRecDepth 20000 in
theorem ggL_law_X12_of : GoodIn wsL_law wsX12_of := goodIn_r _ [606, 99, 106, 107, 607, 608, 609, 5, 610, 121, 122, 123, 611, 612, 613, 614, 615, 616, 617, 618, 102, 104, 619, 620, 621, 622, 357, 358, 359, 360, 623, 624, 625, 626, 627, 628, 629, 105, 630, 631, 632, 633, 108, 634, 635, 636, 637, 354, 355, 356, 638, 639, 640, 641, 642, 643, 644, 645, 646, 647, 648, 649, 650, 651, 652, 653, 654, 655, 656, 657, 658, 659, 660, 661, 662, 663, 664, 665, 666, 667, 668, 669, 109, 670, 671, 672, 673, 1137, 1138, 1139, 1140, 1141, 1142, 1143, 1144, 1145, 1146, 1147, 1148, 1149, 1150, 1151, 1152, 1153, 1154, 1155, 1156, 1157, 1158] (by decide +kernel) (by decide +kernel)
set_option maxRecDepth 20000 in
theorem gL_law_X12_of : GoodIn wsL_law (wsV RL 41 RX12 yX12_of wsX12_of) := goodIn_app (goodIn_of _ (by decide +kernel)) ggL_law_X12_of
set_option maxRecDepth 20000 in
theorem ggL_law_X11_by : GoodIn wsL_law wsX11_by := goodIn_r _ [677, 15, 678, 679, 680, 431, 432, 433, 14, 434, 435, 40, 681, 471, 472, 473, 453, 36, 682, 475, 476, 477, 478, 479, 480, 1130, 1131, 1132, 1133, 1134, 1135, 1136, 1198, 1199, 1200, 1201, 1202, 1203, 1204, 1205, 1206, 1207, 1208, 1209, 1210, 1211, 1212, 1213, 1214, 1215, 1216, 1217, 1218, 1219, 1220, 1221, 1222, 1223, 1224, 1225, 1159, 1160, 1161, 1162, 1163, 1164, 1165, 1166, 1167, 1168, 1169, 1170, 1171, 1172, 1173, 1174, 1175, 1176, 1177] (by decide +kernel) (by decide +kernel)
set_option maxRecDepth 20000 in
theorem gL_law_X11_by : GoodIn wsL_law (wsV RL 42 RX11 yX11_by wsX11_by) := goodIn_app (goodIn_of _ (by decide +kernel)) ggL_law_X11_by
set_option maxRecDepth 20000 in
theorem ggL_law_X12_by : GoodIn wsL_law wsX12_by := goodIn_r _ [686, 99, 440, 441, 442, 5, 443, 121, 122, 123, 619, 620, 621, 622, 1137, 1138, 1139, 1140, 1141, 1142, 1143, 1144, 1145, 1146, 1147, 1148, 1149, 1150, 1151, 1152, 1153, 1154, 1155, 1156, 1157, 1158] (by decide +kernel) (by decide +kernel)
set_option maxRecDepth 20000 in
theorem gL_law_X12_by : GoodIn wsL_law (wsV RL 45 RX12 yX12_by wsX12_by) := goodIn_app (goodIn_of _ (by decide +kernel)) ggL_law_X12_by
set_option maxRecDepth 20000 in
theorem ggL_law_X11_move : GoodIn wsL_law wsX11_move := goodIn_r _ [690, 15, 428, 449, 450, 451, 14, 452, 453, 431, 432, 433, 434, 435, 40, 1130, 1131, 1132, 1133, 1134, 1135, 1136, 1159, 1160, 1161, 1162, 1163, 1164, 1165, 1166, 1167, 1168, 1169, 1170, 1171, 1172, 1173, 1174, 1175, 1176, 1177] (by decide +kernel) (by decide +kernel)
set_option maxRecDepth 20000 in
theorem gL_law_X11_move : GoodIn wsL_law (wsV RL 46 RX11 yX11_move wsX11_move) := goodIn_app (goodIn_of _ (by decide +kernel)) ggL_law_X11_move
set_option maxRecDepth 20000 in
theorem ggL_law_X12_move : GoodIn wsL_law wsX12_move := goodIn_r _ [694, 99, 607, 608, 609, 5, 610, 121, 122, 123, 440, 441, 442, 443, 1137, 1138, 1139, 1140, 1141, 1142, 1143, 1144, 1145, 1146, 1147, 1148, 1149, 1150, 1151, 1152, 1153, 1154, 1155, 1156, 1157, 1158] (by decide +kernel) (by decide +kernel)
set_option maxRecDepth 20000 in
theorem gL_law_X12_move : GoodIn wsL_law (wsV RL 49 RX12 yX12_move wsX12_move) := goodIn_app (goodIn_of _ (by decide +kernel)) ggL_law_X12_move
set_option maxRecDepth 20000 in
theorem ggL_law_X11_set : GoodIn wsL_law wsX11_set := goodIn_r _ [698, 15, 426, 427, 429, 449, 450, 451, 14, 452, 453, 367, 368, 2, 369, 1130, 1131, 1132, 1133, 1134, 1135, 1136, 1159, 1160, 1161, 1162, 1163, 1164, 1165, 1166, 1167, 1168, 1169, 1170, 1171, 1172, 1173, 1174, 1175, 1176, 1177] (by decide +kernel) (by decide +kernel)
set_option maxRecDepth 20000 in
theorem gL_law_X11_set : GoodIn wsL_law (wsV RL 50 RX11 yX11_set wsX11_set) := goodIn_app (goodIn_of _ (by decide +kernel)) ggL_law_X11_set
set_option maxRecDepth 20000 in
theorem ggL_law_X12_set : GoodIn wsL_law wsX12_set := goodIn_r _ [702, 99, 607, 608, 609, 5, 610, 121, 122, 123, 1137, 1138, 1139, 1140, 1141, 1142, 1143, 1144, 1145, 1146, 1147, 1148, 1149, 1150, 1151, 1152, 1153, 1154, 1155, 1156, 1157, 1158] (by decide +kernel) (by decide +kernel)
set_option maxRecDepth 20000 in
theorem gL_law_X12_set : GoodIn wsL_law (wsV RL 53 RX12 yX12_set wsX12_set) := goodIn_app (goodIn_of _ (by decide +kernel)) ggL_law_X12_set
set_option maxRecDepth 20000 in
theorem ggL_law_X11_fresh : GoodIn wsL_law wsX11_fresh := goodIn_r _ [706, 15, 351, 352, 367, 368, 2, 369, 1130, 1131, 1132, 1133, 1134, 1135, 1136, 1159, 1160, 1161, 1162, 1163, 1164, 1165, 1166, 1167, 1168, 1169, 1170, 1171, 1172, 1173, 1174, 1175, 1176, 1177] (by decide +kernel) (by decide +kernel)
set_option maxRecDepth 20000 in
theorem gL_law_X11_fresh : GoodIn wsL_law (wsV RL 54 RX11 yX11_fresh wsX11_fresh) := goodIn_app (goodIn_of _ (by decide +kernel)) ggL_law_X11_fresh
set_option maxRecDepth 20000 in
theorem ggL_law_X12_fresh : GoodIn wsL_law wsX12_fresh := goodIn_r _ [710, 99, 121, 122, 5, 123, 1137, 1138, 1139, 1140, 1141, 1142, 1143, 1144, 1145, 1146, 1147, 1148, 1149, 1150, 1151, 1152, 1153, 1154, 1155, 1156, 1157, 1158] (by decide +kernel) (by decide +kernel)
set_option maxRecDepth 20000 in
theorem gL_law_X12_fresh : GoodIn wsL_law (wsV RL 57 RX12 yX12_fresh wsX12_fresh) := goodIn_app (goodIn_of _ (by decide +kernel)) ggL_law_X12_fresh
