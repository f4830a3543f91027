theorem dX11_worker_54 : decode cX11_worker 54 = .ok (.bipush 10, 2) := by decide +kernel
theorem dX11_worker_56 : decode cX11_worker 56 = .ok (.if_icmp .lt 6, 3) := by decide +kernel
theorem dX11_worker_59 : decode cX11_worker 59 = .ok (.bipush (-4), 2) := by decide +kernel
theorem dX11_worker_61 : decode cX11_worker 61 = .ok (.ireturn, 1) := by decide +kernel
theorem dX11_worker_62 : decode cX11_worker 62 = .ok (.aload_n 0, 1) := by decide +kernel
theorem dX11_worker_63 : decode cX11_worker 63 = .ok (.getfield 12, 3) := by decide +kernel
theorem dX11_worker_66 : decode cX11_worker 66 = .ok (.getfield 105, 3) := by decide +kernel
theorem dX11_worker_69 : decode cX11_worker 69 = .ok (.istore 5, 2) := by decide +kernel
theorem dX11_worker_71 : decode cX11_worker 71 = .ok (.aload_n 0, 1) := by decide +kernel
theorem dX11_worker_72 : decode cX11_worker 72 = .ok (.getfield 12, 3) := by decide +kernel
theorem dX11_worker_75 : decode cX11_worker 75 = .ok (.getfield 108, 3) := by decide +kernel
theorem dX11_worker_78 : decode cX11_worker 78 = .ok (.iload 5, 2) := by decide +kernel
theorem dX11_worker_80 : decode cX11_worker 80 = .ok (.iload_n 2, 1) := by decide +kernel
theorem dX11_worker_81 : decode cX11_worker 81 = .ok (.iastore, 1) := by decide +kernel
theorem dX11_worker_82 : decode cX11_worker 82 = .ok (.aload_n 0, 1) := by decide +kernel
theorem dX11_worker_83 : decode cX11_worker 83 = .ok (.getfield 12, 3) := by decide +kernel
theorem dX11_worker_86 : decode cX11_worker 86 = .ok (.getfield 111, 3) := by decide +kernel
theorem dX11_worker_89 : decode cX11_worker 89 = .ok (.iload 5, 2) := by decide +kernel
theorem dX11_worker_91 : decode cX11_worker 91 = .ok (.iload_n 3, 1) := by decide +kernel
theorem dX11_worker_92 : decode cX11_worker 92 = .ok (.iastore, 1) := by decide +kernel
theorem dX11_worker_93 : decode cX11_worker 93 = .ok (.aload_n 0, 1) := by decide +kernel
theorem dX11_worker_94 : decode cX11_worker 94 = .ok (.getfield 12, 3) := by decide +kernel
theorem dX11_worker_97 : decode cX11_worker 97 = .ok (.getfield 114, 3) := by decide +kernel
theorem dX11_worker_100 : decode cX11_worker 100 = .ok (.iload 5, 2) := by decide +kernel
theorem dX11_worker_102 : decode cX11_worker 102 = .ok (.iload_n 1, 1) := by decide +kernel
theorem dX11_worker_103 : decode cX11_worker 103 = .ok (.iastore, 1) := by decide +kernel
theorem dX11_worker_104 : decode cX11_worker 104 = .ok (.aload_n 0, 1) := by decide +kernel
theorem dX11_worker_105 : decode cX11_worker 105 = .ok (.getfield 12, 3) := by decide +kernel
theorem dX11_worker_108 : decode cX11_worker 108 = .ok (.getfield 117, 3) := by decide +kernel
theorem dX11_worker_111 : decode cX11_worker 111 = .ok (.iload 5, 2) := by decide +kernel
theorem dX11_worker_113 : decode cX11_worker 113 = .ok (.iload 4, 2) := by decide +kernel
theorem dX11_worker_115 : decode cX11_worker 115 = .ok (.iastore, 1) := by decide +kernel
theorem dX11_worker_116 : decode cX11_worker 116 = .ok (.aload_n 0, 1) := by decide +kernel
theorem dX11_worker_117 : decode cX11_worker 117 = .ok (.getfield 12, 3) := by decide +kernel
theorem dX11_worker_120 : decode cX11_worker 120 = .ok (.getfield 120, 3) := by decide +kernel
theorem dX11_worker_123 : decode cX11_worker 123 = .ok (.iload 5, 2) := by decide +kernel
theorem dX11_worker_125 : decode cX11_worker 125 = .ok (.iconst 0, 1) := by decide +kernel
theorem dX11_worker_126 : decode cX11_worker 126 = .ok (.iastore, 1) := by decide +kernel
theorem dX11_worker_127 : decode cX11_worker 127 = .ok (.aload_n 0, 1) := by decide +kernel
theorem dX11_worker_128 : decode cX11_worker 128 = .ok (.getfield 12, 3) := by decide +kernel
theorem dX11_worker_131 : decode cX11_worker 131 = .ok (.dup, 1) := by decide +kernel
theorem dX11_worker_132 : decode cX11_worker 132 = .ok (.getfield 105, 3) := by decide +kernel
theorem dX11_worker_135 : decode cX11_worker 135 = .ok (.iconst 1, 1) := by decide +kernel
theorem dX11_worker_136 : decode cX11_worker 136 = .ok (.iadd, 1) := by decide +kernel
theorem dX11_worker_137 : decode cX11_worker 137 = .ok (.putfield 105, 3) := by decide +kernel
theorem dX11_worker_140 : decode cX11_worker 140 = .ok (.iload 5, 2) := by decide +kernel
theorem dX11_worker_142 : decode cX11_worker 142 = .ok (.ireturn, 1) := by decide +kernel
theorem dX11_of_0 : decode cX11_of 0 = .ok (.aload_n 0, 1) := by decide +kernel
theorem dX11_of_1 : decode cX11_of 1 = .ok (.getfield 12, 3) := by decide +kernel
theorem dX11_of_4 : decode cX11_of 4 = .ok (.iload_n 1, 1) := by decide +kernel
theorem dX11_of_5 : decode cX11_of 5 = .ok (.invokevirtual 122, 3) := by decide +kernel
theorem dX11_of_8 : decode cX11_of 8 = .ok (.ifCond .ne 7, 3) := by decide +kernel
theorem dX11_of_11 : decode cX11_of 11 = .ok (.sipush (-1001), 3) := by decide +kernel
theorem dX11_of_14 : decode cX11_of 14 = .ok (.ireturn, 1) := by decide +kernel
theorem dX11_of_15 : decode cX11_of 15 = .ok (.iload_n 2, 1) := by decide +kernel
theorem dX11_of_16 : decode cX11_of 16 = .ok (.tableswitch 172 0 8 #[52, 62, 72, 82, 92, 102, 117, 130, 151], 52) := by decide +kernel
theorem dX11_of_68 : decode cX11_of 68 = .ok (.aload_n 0, 1) := by decide +kernel
theorem dX11_of_69 : decode cX11_of 69 = .ok (.getfield 12, 3) := by decide +kernel
theorem dX11_of_72 : decode cX11_of 72 = .ok (.getfield 108, 3) := by decide +kernel
theorem dX11_of_75 : decode cX11_of 75 = .ok (.iload_n 1, 1) := by decide +kernel
theorem dX11_of_76 : decode cX11_of 76 = .ok (.iaload, 1) := by decide +kernel
theorem dX11_of_77 : decode cX11_of 77 = .ok (.ireturn, 1) := by decide +kernel
theorem dX11_of_78 : decode cX11_of 78 = .ok (.aload_n 0, 1) := by decide +kernel
theorem dX11_of_79 : decode cX11_of 79 = .ok (.getfield 12, 3) := by decide +kernel
theorem dX11_of_82 : decode cX11_of 82 = .ok (.getfield 111, 3) := by decide +kernel
theorem dX11_of_85 : decode cX11_of 85 = .ok (.iload_n 1, 1) := by decide +kernel
theorem dX11_of_86 : decode cX11_of 86 = .ok (.iaload, 1) := by decide +kernel
theorem dX11_of_87 : decode cX11_of 87 = .ok (.ireturn, 1) := by decide +kernel
theorem dX11_of_88 : decode cX11_of 88 = .ok (.aload_n 0, 1) := by decide +kernel
theorem dX11_of_89 : decode cX11_of 89 = .ok (.getfield 12, 3) := by decide +kernel
theorem dX11_of_92 : decode cX11_of 92 = .ok (.getfield 114, 3) := by decide +kernel
theorem dX11_of_95 : decode cX11_of 95 = .ok (.iload_n 1, 1) := by decide +kernel
theorem dX11_of_96 : decode cX11_of 96 = .ok (.iaload, 1) := by decide +kernel
theorem dX11_of_97 : decode cX11_of 97 = .ok (.ireturn, 1) := by decide +kernel
theorem dX11_of_98 : decode cX11_of 98 = .ok (.aload_n 0, 1) := by decide +kernel
theorem dX11_of_99 : decode cX11_of 99 = .ok (.getfield 12, 3) := by decide +kernel
theorem dX11_of_102 : decode cX11_of 102 = .ok (.getfield 117, 3) := by decide +kernel
theorem dX11_of_105 : decode cX11_of 105 = .ok (.iload_n 1, 1) := by decide +kernel
theorem dX11_of_106 : decode cX11_of 106 = .ok (.iaload, 1) := by decide +kernel
theorem dX11_of_107 : decode cX11_of 107 = .ok (.ireturn, 1) := by decide +kernel
theorem dX11_of_108 : decode cX11_of 108 = .ok (.aload_n 0, 1) := by decide +kernel
theorem dX11_of_109 : decode cX11_of 109 = .ok (.getfield 12, 3) := by decide +kernel
theorem dX11_of_112 : decode cX11_of 112 = .ok (.getfield 120, 3) := by decide +kernel
theorem dX11_of_115 : decode cX11_of 115 = .ok (.iload_n 1, 1) := by decide +kernel
theorem dX11_of_116 : decode cX11_of 116 = .ok (.iaload, 1) := by decide +kernel
theorem dX11_of_117 : decode cX11_of 117 = .ok (.ireturn, 1) := by decide +kernel
theorem dX11_of_118 : decode cX11_of 118 = .ok (.aload_n 0, 1) := by decide +kernel
theorem dX11_of_119 : decode cX11_of 119 = .ok (.iload_n 1, 1) := by decide +kernel
theorem dX11_of_120 : decode cX11_of 120 = .ok (.aload_n 0, 1) := by decide +kernel
theorem dX11_of_121 : decode cX11_of 121 = .ok (.getfield 12, 3) := by decide +kernel
theorem dX11_of_124 : decode cX11_of 124 = .ok (.getfield 114, 3) := by decide +kernel
theorem dX11_of_127 : decode cX11_of 127 = .ok (.iload_n 1, 1) := by decide +kernel
theorem dX11_of_128 : decode cX11_of 128 = .ok (.iaload, 1) := by decide +kernel
theorem dX11_of_129 : decode cX11_of 129 = .ok (.invokevirtual 126, 3) := by decide +kernel
theorem dX11_of_132 : decode cX11_of 132 = .ok (.ireturn, 1) := by decide +kernel
theorem dX11_of_133 : decode cX11_of 133 = .ok (.aload_n 0, 1) := by decide +kernel
theorem dX11_of_134 : decode cX11_of 134 = .ok (.getfield 27, 3) := by decide +kernel
theorem dX11_of_137 : decode cX11_of 137 = .ok (.aload_n 0, 1) := by decide +kernel
theorem dX11_of_138 : decode cX11_of 138 = .ok (.getfield 12, 3) := by decide +kernel
theorem dX11_of_141 : decode cX11_of 141 = .ok (.iload_n 1, 1) := by decide +kernel
theorem dX11_of_142 : decode cX11_of 142 = .ok (.invokevirtual 130, 3) := by decide +kernel
theorem dX11_of_145 : decode cX11_of 145 = .ok (.ireturn, 1) := by decide +kernel
theorem dX11_of_146 : decode cX11_of 146 = .ok (.aload_n 0, 1) := by decide +kernel
theorem dX11_of_147 : decode cX11_of 147 = .ok (.getfield 27, 3) := by decide +kernel
theorem dX11_of_150 : decode cX11_of 150 = .ok (.aload_n 0, 1) := by decide +kernel
theorem dX11_of_151 : decode cX11_of 151 = .ok (.getfield 12, 3) := by decide +kernel
theorem dX11_of_154 : decode cX11_of 154 = .ok (.invokevirtual 134, 3) := by decide +kernel
theorem dX11_of_157 : decode cX11_of 157 = .ok (.aload_n 0, 1) := by decide +kernel
theorem dX11_of_158 : decode cX11_of 158 = .ok (.getfield 27, 3) := by decide +kernel
theorem dX11_of_161 : decode cX11_of 161 = .ok (.getfield 138, 3) := by decide +kernel
theorem dX11_of_164 : decode cX11_of 164 = .ok (.iload_n 1, 1) := by decide +kernel
theorem dX11_of_165 : decode cX11_of 165 = .ok (.iaload, 1) := by decide +kernel
theorem dX11_of_166 : decode cX11_of 166 = .ok (.ireturn, 1) := by decide +kernel
theorem dX11_of_167 : decode cX11_of 167 = .ok (.aload_n 0, 1) := by decide +kernel
theorem dX11_of_168 : decode cX11_of 168 = .ok (.getfield 27, 3) := by decide +kernel
theorem dX11_of_171 : decode cX11_of 171 = .ok (.aload_n 0, 1) := by decide +kernel
theorem dX11_of_172 : decode cX11_of 172 = .ok (.getfield 12, 3) := by decide +kernel
theorem dX11_of_175 : decode cX11_of 175 = .ok (.invokevirtual 141, 3) := by decide +kernel
theorem dX11_of_178 : decode cX11_of 178 = .ok (.aload_n 0, 1) := by decide +kernel
theorem dX11_of_179 : decode cX11_of 179 = .ok (.getfield 27, 3) := by decide +kernel
theorem dX11_of_182 : decode cX11_of 182 = .ok (.getfield 138, 3) := by decide +kernel
theorem dX11_of_185 : decode cX11_of 185 = .ok (.iload_n 1, 1) := by decide +kernel
theorem dX11_of_186 : decode cX11_of 186 = .ok (.iaload, 1) := by decide +kernel
theorem dX11_of_187 : decode cX11_of 187 = .ok (.ireturn, 1) := by decide +kernel
theorem dX11_of_188 : decode cX11_of 188 = .ok (.sipush (-1001), 3) := by decide +kernel
theorem dX11_of_191 : decode cX11_of 191 = .ok (.ireturn, 1) := by decide +kernel
theorem dX11_by_0 : decode cX11_by 0 = .ok (.aload_n 0, 1) := by decide +kernel
theorem dX11_by_1 : decode cX11_by 1 = .ok (.getfield 12, 3) := by decide +kernel
theorem dX11_by_4 : decode cX11_by 4 = .ok (.iload_n 1, 1) := by decide +kernel
theorem dX11_by_5 : decode cX11_by 5 = .ok (.invokevirtual 101, 3) := by decide +kernel
theorem dX11_by_8 : decode cX11_by 8 = .ok (.astore_n 3, 1) := by decide +kernel
theorem dX11_by_9 : decode cX11_by 9 = .ok (.aload_n 3, 1) := by decide +kernel
theorem dX11_by_10 : decode cX11_by 10 = .ok (.ifnonnull 5, 3) := by decide +kernel
theorem dX11_by_13 : decode cX11_by 13 = .ok (.iconst (-1), 1) := by decide +kernel
theorem dX11_by_14 : decode cX11_by 14 = .ok (.ireturn, 1) := by decide +kernel
theorem dX11_by_15 : decode cX11_by 15 = .ok (.iload_n 2, 1) := by decide +kernel
theorem dX11_by_16 : decode cX11_by 16 = .ok (.tableswitch 72 0 4 #[36, 41, 46, 51, 63], 36) := by decide +kernel
theorem dX11_by_52 : decode cX11_by 52 = .ok (.aload_n 3, 1) := by decide +kernel
theorem dX11_by_53 : decode cX11_by 53 = .ok (.getfield 144, 3) := by decide +kernel
theorem dX11_by_56 : decode cX11_by 56 = .ok (.ireturn, 1) := by decide +kernel
theorem dX11_by_57 : decode cX11_by 57 = .ok (.aload_n 3, 1) := by decide +kernel
theorem dX11_by_58 : decode cX11_by 58 = .ok (.getfield 147, 3) := by decide +kernel
theorem dX11_by_61 : decode cX11_by 61 = .ok (.ireturn, 1) := by decide +kernel
theorem dX11_by_62 : decode cX11_by 62 = .ok (.aload_n 3, 1) := by decide +kernel
theorem dX11_by_63 : decode cX11_by 63 = .ok (.getfield 150, 3) := by decide +kernel
theorem dX11_by_66 : decode cX11_by 66 = .ok (.ireturn, 1) := by decide +kernel
theorem dX11_by_67 : decode cX11_by 67 = .ok (.aload_n 0, 1) := by decide +kernel
theorem dX11_by_68 : decode cX11_by 68 = .ok (.getfield 12, 3) := by decide +kernel
theorem dX11_by_71 : decode cX11_by 71 = .ok (.iload_n 1, 1) := by decide +kernel
theorem dX11_by_72 : decode cX11_by 72 = .ok (.invokevirtual 152, 3) := by decide +kernel
theorem dX11_by_75 : decode cX11_by 75 = .ok (.invokestatic 156, 3) := by decide +kernel
theorem dX11_by_78 : decode cX11_by 78 = .ok (.ireturn, 1) := by decide +kernel
theorem dX11_by_79 : decode cX11_by 79 = .ok (.aload_n 0, 1) := by decide +kernel
theorem dX11_by_80 : decode cX11_by 80 = .ok (.getfield 12, 3) := by decide +kernel
theorem dX11_by_83 : decode cX11_by 83 = .ok (.iload_n 1, 1) := by decide +kernel
theorem dX11_by_84 : decode cX11_by 84 = .ok (.invokevirtual 152, 3) := by decide +kernel
theorem dX11_by_87 : decode cX11_by 87 = .ok (.ireturn, 1) := by decide +kernel
theorem dX11_by_88 : decode cX11_by 88 = .ok (.iconst (-1), 1) := by decide +kernel
theorem dX11_by_89 : decode cX11_by 89 = .ok (.ireturn, 1) := by decide +kernel
theorem dX11_move_0 : decode cX11_move 0 = .ok (.aload_n 0, 1) := by decide +kernel
theorem dX11_move_1 : decode cX11_move 1 = .ok (.getfield 12, 3) := by decide +kernel
theorem dX11_move_4 : decode cX11_move 4 = .ok (.iload_n 1, 1) := by decide +kernel
theorem dX11_move_5 : decode cX11_move 5 = .ok (.invokevirtual 122, 3) := by decide +kernel
theorem dX11_move_8 : decode cX11_move 8 = .ok (.ifCond .eq 14, 3) := by decide +kernel
theorem dX11_move_11 : decode cX11_move 11 = .ok (.aload_n 0, 1) := by decide +kernel
theorem dX11_move_12 : decode cX11_move 12 = .ok (.getfield 12, 3) := by decide +kernel
theorem dX11_move_15 : decode cX11_move 15 = .ok (.iload_n 2, 1) := by decide +kernel
theorem dX11_move_16 : decode cX11_move 16 = .ok (.invokevirtual 101, 3) := by decide +kernel
theorem dX11_move_19 : decode cX11_move 19 = .ok (.ifnonnull 5, 3) := by decide +kernel
theorem dX11_move_22 : decode cX11_move 22 = .ok (.iconst (-1), 1) := by decide +kernel
theorem dX11_move_23 : decode cX11_move 23 = .ok (.ireturn, 1) := by decide +kernel
theorem dX11_move_24 : decode cX11_move 24 = .ok (.aload_n 0, 1) := by decide +kernel
theorem dX11_move_25 : decode cX11_move 25 = .ok (.getfield 12, 3) := by decide +kernel
theorem dX11_move_28 : decode cX11_move 28 = .ok (.getfield 114, 3) := by decide +kernel
theorem dX11_move_31 : decode cX11_move 31 = .ok (.iload_n 1, 1) := by decide +kernel
theorem dX11_move_32 : decode cX11_move 32 = .ok (.iaload, 1) := by decide +kernel
theorem dX11_move_33 : decode cX11_move 33 = .ok (.istore_n 3, 1) := by decide +kernel
theorem dX11_move_34 : decode cX11_move 34 = .ok (.aload_n 0, 1) := by decide +kernel
theorem dX11_move_35 : decode cX11_move 35 = .ok (.getfield 12, 3) := by decide +kernel
theorem dX11_move_38 : decode cX11_move 38 = .ok (.getfield 114, 3) := by decide +kernel
theorem dX11_move_41 : decode cX11_move 41 = .ok (.iload_n 1, 1) := by decide +kernel
theorem dX11_move_42 : decode cX11_move 42 = .ok (.iload_n 2, 1) := by decide +kernel
theorem dX11_move_43 : decode cX11_move 43 = .ok (.iastore, 1) := by decide +kernel
theorem dX11_move_44 : decode cX11_move 44 = .ok (.iload_n 3, 1) := by decide +kernel
theorem dX11_move_45 : decode cX11_move 45 = .ok (.ireturn, 1) := by decide +kernel
theorem dX11_set_0 : decode cX11_set 0 = .ok (.aload_n 0, 1) := by decide +kernel
theorem dX11_set_1 : decode cX11_set 1 = .ok (.getfield 12, 3) := by decide +kernel
theorem dX11_set_4 : decode cX11_set 4 = .ok (.iload_n 1, 1) := by decide +kernel
theorem dX11_set_5 : decode cX11_set 5 = .ok (.invokevirtual 122, 3) := by decide +kernel
theorem dX11_set_8 : decode cX11_set 8 = .ok (.ifCond .eq 12, 3) := by decide +kernel
theorem dX11_set_11 : decode cX11_set 11 = .ok (.iload_n 2, 1) := by decide +kernel
theorem dX11_set_12 : decode cX11_set 12 = .ok (.ifCond .lt 8, 3) := by decide +kernel
theorem dX11_set_15 : decode cX11_set 15 = .ok (.iload_n 2, 1) := by decide +kernel
theorem dX11_set_16 : decode cX11_set 16 = .ok (.iconst 2, 1) := by decide +kernel
theorem dX11_set_17 : decode cX11_set 17 = .ok (.if_icmp .le 5, 3) := by decide +kernel
theorem dX11_set_20 : decode cX11_set 20 = .ok (.iconst (-1), 1) := by decide +kernel
theorem dX11_set_21 : decode cX11_set 21 = .ok (.ireturn, 1) := by decide +kernel
theorem dX11_set_22 : decode cX11_set 22 = .ok (.iload_n 3, 1) := by decide +kernel
theorem dX11_set_23 : decode cX11_set 23 = .ok (.iload_n 2, 1) := by decide +kernel
theorem dX11_set_24 : decode cX11_set 24 = .ok (.iconst 2, 1) := by decide +kernel
theorem dX11_set_25 : decode cX11_set 25 = .ok (.if_icmp .ne 8, 3) := by decide +kernel
theorem dX11_set_28 : decode cX11_set 28 = .ok (.bipush 9, 2) := by decide +kernel
theorem dX11_set_30 : decode cX11_set 30 = .ok (.goto 5, 3) := by decide +kernel
theorem dX11_set_33 : decode cX11_set 33 = .ok (.bipush 99, 2) := by decide +kernel
theorem dX11_set_35 : decode cX11_set 35 = .ok (.invokestatic 84, 3) := by decide +kernel
theorem dX11_set_38 : decode cX11_set 38 = .ok (.ifCond .ne 6, 3) := by decide +kernel
theorem dX11_set_41 : decode cX11_set 41 = .ok (.bipush (-2), 2) := by decide +kernel
theorem dX11_set_43 : decode cX11_set 43 = .ok (.ireturn, 1) := by decide +kernel
theorem dX11_set_44 : decode cX11_set 44 = .ok (.iload_n 2, 1) := by decide +kernel
theorem dX11_set_45 : decode cX11_set 45 = .ok (.ifCond .ne 13, 3) := by decide +kernel
theorem dX11_set_48 : decode cX11_set 48 = .ok (.aload_n 0, 1) := by decide +kernel
theorem dX11_set_49 : decode cX11_set 49 = .ok (.getfield 12, 3) := by decide +kernel
theorem dX11_set_52 : decode cX11_set 52 = .ok (.getfield 108, 3) := by decide +kernel
theorem dX11_set_55 : decode cX11_set 55 = .ok (.goto 25, 3) := by decide +kernel
theorem dX11_set_58 : decode cX11_set 58 = .ok (.iload_n 2, 1) := by decide +kernel
theorem dX11_set_59 : decode cX11_set 59 = .ok (.iconst 1, 1) := by decide +kernel
theorem dX11_set_60 : decode cX11_set 60 = .ok (.if_icmp .ne 13, 3) := by decide +kernel
theorem dX11_set_63 : decode cX11_set 63 = .ok (.aload_n 0, 1) := by decide +kernel
theorem dX11_set_64 : decode cX11_set 64 = .ok (.getfield 12, 3) := by decide +kernel
theorem dX11_set_67 : decode cX11_set 67 = .ok (.getfield 111, 3) := by decide +kernel
theorem dX11_set_70 : decode cX11_set 70 = .ok (.goto 10, 3) := by decide +kernel
theorem dX11_set_73 : decode cX11_set 73 = .ok (.aload_n 0, 1) := by decide +kernel
theorem dX11_set_74 : decode cX11_set 74 = .ok (.getfield 12, 3) := by decide +kernel
theorem dX11_set_77 : decode cX11_set 77 = .ok (.getfield 117, 3) := by decide +kernel
theorem dX11_set_80 : decode cX11_set 80 = .ok (.astore 4, 2) := by decide +kernel
theorem dX11_set_82 : decode cX11_set 82 = .ok (.aload 4, 2) := by decide +kernel
theorem dX11_set_84 : decode cX11_set 84 = .ok (.iload_n 1, 1) := by decide +kernel
theorem dX11_set_85 : decode cX11_set 85 = .ok (.iaload, 1) := by decide +kernel
theorem dX11_set_86 : decode cX11_set 86 = .ok (.istore 5, 2) := by decide +kernel
theorem dX11_set_88 : decode cX11_set 88 = .ok (.aload 4, 2) := by decide +kernel
theorem dX11_set_90 : decode cX11_set 90 = .ok (.iload_n 1, 1) := by decide +kernel
theorem dX11_set_91 : decode cX11_set 91 = .ok (.iload_n 3, 1) := by decide +kernel
theorem dX11_set_92 : decode cX11_set 92 = .ok (.iastore, 1) := by decide +kernel
theorem dX11_set_93 : decode cX11_set 93 = .ok (.iload 5, 2) := by decide +kernel
theorem dX11_set_95 : decode cX11_set 95 = .ok (.ireturn, 1) := by decide +kernel
theorem dX11_fresh_0 : decode cX11_fresh 0 = .ok (.iload_n 1, 1) := by decide +kernel
theorem dX11_fresh_1 : decode cX11_fresh 1 = .ok (.bipush 99, 2) := by decide +kernel
theorem dX11_fresh_3 : decode cX11_fresh 3 = .ok (.invokestatic 84, 3) := by decide +kernel
theorem dX11_fresh_6 : decode cX11_fresh 6 = .ok (.ifCond .eq 12, 3) := by decide +kernel
theorem dX11_fresh_9 : decode cX11_fresh 9 = .ok (.iload_n 2, 1) := by decide +kernel
theorem dX11_fresh_10 : decode cX11_fresh 10 = .ok (.bipush 99, 2) := by decide +kernel
theorem dX11_fresh_12 : decode cX11_fresh 12 = .ok (.invokestatic 84, 3) := by decide +kernel
theorem dX11_fresh_15 : decode cX11_fresh 15 = .ok (.ifCond .ne 6, 3) := by decide +kernel
theorem dX11_fresh_18 : decode cX11_fresh 18 = .ok (.bipush (-2), 2) := by decide +kernel
theorem dX11_fresh_20 : decode cX11_fresh 20 = .ok (.ireturn, 1) := by decide +kernel
theorem dX11_fresh_21 : decode cX11_fresh 21 = .ok (.aload_n 0, 1) := by decide +kernel
theorem dX11_fresh_22 : decode cX11_fresh 22 = .ok (.getfield 12, 3) := by decide +kernel
theorem dX11_fresh_25 : decode cX11_fresh 25 = .ok (.getfield 78, 3) := by decide +kernel
theorem dX11_fresh_28 : decode cX11_fresh 28 = .ok (.istore_n 3, 1) := by decide +kernel
theorem dX11_fresh_29 : decode cX11_fresh 29 = .ok (.aload_n 0, 1) := by decide +kernel
theorem dX11_fresh_30 : decode cX11_fresh 30 = .ok (.getfield 12, 3) := by decide +kernel
theorem dX11_fresh_33 : decode cX11_fresh 33 = .ok (.iload_n 1, 1) := by decide +kernel
theorem dX11_fresh_34 : decode cX11_fresh 34 = .ok (.putfield 78, 3) := by decide +kernel
theorem dX11_fresh_37 : decode cX11_fresh 37 = .ok (.aload_n 0, 1) := by decide +kernel
theorem dX11_fresh_38 : decode cX11_fresh 38 = .ok (.getfield 12, 3) := by decide +kernel
theorem dX11_fresh_41 : decode cX11_fresh 41 = .ok (.iload_n 2, 1) := by decide +kernel
theorem dX11_fresh_42 : decode cX11_fresh 42 = .ok (.putfield 81, 3) := by decide +kernel
theorem dX11_fresh_45 : decode cX11_fresh 45 = .ok (.iload_n 3, 1) := by decide +kernel
theorem dX11_fresh_46 : decode cX11_fresh 46 = .ok (.ireturn, 1) := by decide +kernel
theorem dX11_mark_0 : decode cX11_mark 0 = .ok (.aload_n 0, 1) := by decide +kernel
theorem dX11_mark_1 : decode cX11_mark 1 = .ok (.getfield 12, 3) := by decide +kernel
theorem dX11_mark_4 : decode cX11_mark 4 = .ok (.iload_n 2, 1) := by decide +kernel
theorem dX11_mark_5 : decode cX11_mark 5 = .ok (.invokevirtual 101, 3) := by decide +kernel
theorem dX11_mark_8 : decode cX11_mark 8 = .ok (.astore_n 3, 1) := by decide +kernel
theorem dX11_mark_9 : decode cX11_mark 9 = .ok (.aload_n 0, 1) := by decide +kernel
theorem dX11_mark_10 : decode cX11_mark 10 = .ok (.getfield 12, 3) := by decide +kernel
theorem dX11_mark_13 : decode cX11_mark 13 = .ok (.iload_n 1, 1) := by decide +kernel
theorem dX11_mark_14 : decode cX11_mark 14 = .ok (.invokevirtual 122, 3) := by decide +kernel
theorem dX11_mark_17 : decode cX11_mark 17 = .ok (.ifCond .eq 7, 3) := by decide +kernel
theorem dX11_mark_20 : decode cX11_mark 20 = .ok (.aload_n 3, 1) := by decide +kernel
theorem dX11_mark_21 : decode cX11_mark 21 = .ok (.ifnonnull 7, 3) := by decide +kernel
theorem dX11_mark_24 : decode cX11_mark 24 = .ok (.sipush (-1001), 3) := by decide +kernel
theorem dX11_mark_27 : decode cX11_mark 27 = .ok (.ireturn, 1) := by decide +kernel
theorem dX11_mark_28 : decode cX11_mark 28 = .ok (.aload_n 0, 1) := by decide +kernel
theorem dX11_mark_29 : decode cX11_mark 29 = .ok (.getfield 27, 3) := by decide +kernel
theorem dX11_mark_32 : decode cX11_mark 32 = .ok (.aload_n 0, 1) := by decide +kernel
theorem dX11_mark_33 : decode cX11_mark 33 = .ok (.getfield 12, 3) := by decide +kernel
theorem dX11_mark_36 : decode cX11_mark 36 = .ok (.iload_n 1, 1) := by decide +kernel
theorem dX11_mark_37 : decode cX11_mark 37 = .ok (.aload_n 3, 1) := by decide +kernel
theorem dX11_mark_38 : decode cX11_mark 38 = .ok (.invokevirtual 161, 3) := by decide +kernel
theorem dX11_mark_41 : decode cX11_mark 41 = .ok (.ireturn, 1) := by decide +kernel
theorem dX11_wrong_0 : decode cX11_wrong 0 = .ok (.iload_n 1, 1) := by decide +kernel
theorem dX11_wrong_1 : decode cX11_wrong 1 = .ok (.ifCond .lt 8, 3) := by decide +kernel
theorem dX11_wrong_4 : decode cX11_wrong 4 = .ok (.iload_n 1, 1) := by decide +kernel
theorem dX11_wrong_5 : decode cX11_wrong 5 = .ok (.iconst 2, 1) := by decide +kernel
theorem dX11_wrong_6 : decode cX11_wrong 6 = .ok (.if_icmp .le 5, 3) := by decide +kernel
theorem dX11_wrong_9 : decode cX11_wrong 9 = .ok (.iconst (-1), 1) := by decide +kernel
theorem dX11_wrong_10 : decode cX11_wrong 10 = .ok (.ireturn, 1) := by decide +kernel
theorem dX11_wrong_11 : decode cX11_wrong 11 = .ok (.aload_n 0, 1) := by decide +kernel
theorem dX11_wrong_12 : decode cX11_wrong 12 = .ok (.getfield 27, 3) := by decide +kernel
theorem dX11_wrong_15 : decode cX11_wrong 15 = .ok (.aload_n 0, 1) := by decide +kernel
theorem dX11_wrong_16 : decode cX11_wrong 16 = .ok (.getfield 12, 3) := by decide +kernel
theorem dX11_wrong_19 : decode cX11_wrong 19 = .ok (.invokevirtual 134, 3) := by decide +kernel
theorem dX11_wrong_22 : decode cX11_wrong 22 = .ok (.aload_n 0, 1) := by decide +kernel
theorem dX11_wrong_23 : decode cX11_wrong 23 = .ok (.getfield 27, 3) := by decide +kernel
theorem dX11_wrong_26 : decode cX11_wrong 26 = .ok (.getfield 138, 3) := by decide +kernel
theorem dX11_wrong_29 : decode cX11_wrong 29 = .ok (.iconst 0, 1) := by decide +kernel
theorem dX11_wrong_30 : decode cX11_wrong 30 = .ok (.aload_n 0, 1) := by decide +kernel
theorem dX11_wrong_31 : decode cX11_wrong 31 = .ok (.getfield 38, 3) := by decide +kernel
theorem dX11_wrong_34 : decode cX11_wrong 34 = .ok (.iconst 0, 1) := by decide +kernel
theorem dX11_wrong_35 : decode cX11_wrong 35 = .ok (.bipush 10, 2) := by decide +kernel
theorem dX11_wrong_37 : decode cX11_wrong 37 = .ok (.invokestatic 165, 3) := by decide +kernel
theorem dX11_wrong_40 : decode cX11_wrong 40 = .ok (.aload_n 0, 1) := by decide +kernel
theorem dX11_wrong_41 : decode cX11_wrong 41 = .ok (.getfield 27, 3) := by decide +kernel
theorem dX11_wrong_44 : decode cX11_wrong 44 = .ok (.aload_n 0, 1) := by decide +kernel
theorem dX11_wrong_45 : decode cX11_wrong 45 = .ok (.getfield 12, 3) := by decide +kernel
theorem dX11_wrong_48 : decode cX11_wrong 48 = .ok (.invokevirtual 171, 3) := by decide +kernel
theorem dX11_wrong_51 : decode cX11_wrong 51 = .ok (.iconst 0, 1) := by decide +kernel
theorem dX11_wrong_52 : decode cX11_wrong 52 = .ok (.istore_n 2, 1) := by decide +kernel
theorem dX11_wrong_53 : decode cX11_wrong 53 = .ok (.iconst 0, 1) := by decide +kernel
theorem dX11_wrong_54 : decode cX11_wrong 54 = .ok (.istore_n 3, 1) := by decide +kernel
theorem dX11_wrong_55 : decode cX11_wrong 55 = .ok (.iconst 0, 1) := by decide +kernel
theorem dX11_wrong_56 : decode cX11_wrong 56 = .ok (.istore 4, 2) := by decide +kernel
theorem dX11_wrong_58 : decode cX11_wrong 58 = .ok (.iconst 0, 1) := by decide +kernel
theorem dX11_wrong_59 : decode cX11_wrong 59 = .ok (.istore 5, 2) := by decide +kernel
theorem dX11_wrong_61 : decode cX11_wrong 61 = .ok (.iload 5, 2) := by decide +kernel
theorem dX11_wrong_63 : decode cX11_wrong 63 = .ok (.aload_n 0, 1) := by decide +kernel
theorem dX11_wrong_64 : decode cX11_wrong 64 = .ok (.getfield 12, 3) := by decide +kernel
theorem dX11_wrong_67 : decode cX11_wrong 67 = .ok (.getfield 105, 3) := by decide +kernel
theorem dX11_wrong_70 : decode cX11_wrong 70 = .ok (.if_icmp .ge 73, 3) := by decide +kernel
theorem dX11_wrong_73 : decode cX11_wrong 73 = .ok (.iload 5, 2) := by decide +kernel
theorem dX11_wrong_75 : decode cX11_wrong 75 = .ok (.bipush 10, 2) := by decide +kernel
theorem dX11_wrong_77 : decode cX11_wrong 77 = .ok (.if_icmp .ge 66, 3) := by decide +kernel
theorem dX11_wrong_80 : decode cX11_wrong 80 = .ok (.aload_n 0, 1) := by decide +kernel
theorem dX11_wrong_81 : decode cX11_wrong 81 = .ok (.getfield 27, 3) := by decide +kernel
theorem dX11_wrong_84 : decode cX11_wrong 84 = .ok (.getfield 138, 3) := by decide +kernel
theorem dX11_wrong_87 : decode cX11_wrong 87 = .ok (.iload 5, 2) := by decide +kernel
theorem dX11_wrong_89 : decode cX11_wrong 89 = .ok (.iaload, 1) := by decide +kernel
theorem dX11_wrong_90 : decode cX11_wrong 90 = .ok (.istore 6, 2) := by decide +kernel
theorem dX11_wrong_92 : decode cX11_wrong 92 = .ok (.iload 6, 2) := by decide +kernel
theorem dX11_wrong_94 : decode cX11_wrong 94 = .ok (.aload_n 0, 1) := by decide +kernel
theorem dX11_wrong_95 : decode cX11_wrong 95 = .ok (.getfield 38, 3) := by decide +kernel
theorem dX11_wrong_98 : decode cX11_wrong 98 = .ok (.iload 5, 2) := by decide +kernel
theorem dX11_wrong_100 : decode cX11_wrong 100 = .ok (.iaload, 1) := by decide +kernel
theorem dX11_wrong_101 : decode cX11_wrong 101 = .ok (.if_icmp .eq 10, 3) := by decide +kernel
theorem dX11_wrong_104 : decode cX11_wrong 104 = .ok (.iload_n 2, 1) := by decide +kernel
theorem dX11_wrong_105 : decode cX11_wrong 105 = .ok (.iconst 1, 1) := by decide +kernel
theorem dX11_wrong_106 : decode cX11_wrong 106 = .ok (.iload 5, 2) := by decide +kernel
theorem dX11_wrong_108 : decode cX11_wrong 108 = .ok (.ishl, 1) := by decide +kernel
theorem dX11_wrong_109 : decode cX11_wrong 109 = .ok (.ior, 1) := by decide +kernel
theorem dX11_wrong_110 : decode cX11_wrong 110 = .ok (.istore_n 2, 1) := by decide +kernel
theorem dX11_wrong_111 : decode cX11_wrong 111 = .ok (.iload 6, 2) := by decide +kernel
theorem dX11_wrong_113 : decode cX11_wrong 113 = .ok (.aload_n 0, 1) := by decide +kernel
theorem dX11_wrong_114 : decode cX11_wrong 114 = .ok (.getfield 38, 3) := by decide +kernel
theorem dX11_wrong_117 : decode cX11_wrong 117 = .ok (.iload 5, 2) := by decide +kernel
theorem dX11_wrong_119 : decode cX11_wrong 119 = .ok (.iaload, 1) := by decide +kernel
theorem dX11_wrong_120 : decode cX11_wrong 120 = .ok (.if_icmp .ge 10, 3) := by decide +kernel
theorem dX11_wrong_123 : decode cX11_wrong 123 = .ok (.iload_n 3, 1) := by decide +kernel
theorem dX11_wrong_124 : decode cX11_wrong 124 = .ok (.iconst 1, 1) := by decide +kernel
theorem dX11_wrong_125 : decode cX11_wrong 125 = .ok (.iload 5, 2) := by decide +kernel
theorem dX11_wrong_127 : decode cX11_wrong 127 = .ok (.ishl, 1) := by decide +kernel
theorem dX11_wrong_128 : decode cX11_wrong 128 = .ok (.ior, 1) := by decide +kernel
theorem dX11_wrong_129 : decode cX11_wrong 129 = .ok (.istore_n 3, 1) := by decide +kernel
theorem dX11_wrong_130 : decode cX11_wrong 130 = .ok (.iload 4, 2) := by decide +kernel
theorem dX11_wrong_132 : decode cX11_wrong 132 = .ok (.iload 6, 2) := by decide +kernel
theorem dX11_wrong_134 : decode cX11_wrong 134 = .ok (.iadd, 1) := by decide +kernel
theorem dX11_wrong_135 : decode cX11_wrong 135 = .ok (.istore 4, 2) := by decide +kernel
theorem dX11_wrong_137 : decode cX11_wrong 137 = .ok (.iinc 5 1, 3) := by decide +kernel
theorem dX11_wrong_140 : decode cX11_wrong 140 = .ok (.goto (-79), 3) := by decide +kernel
theorem dX11_wrong_143 : decode cX11_wrong 143 = .ok (.iload_n 1, 1) := by decide +kernel
theorem dX11_wrong_144 : decode cX11_wrong 144 = .ok (.ifCond .ne 7, 3) := by decide +kernel
theorem dX11_wrong_147 : decode cX11_wrong 147 = .ok (.iload_n 2, 1) := by decide +kernel
theorem dX11_wrong_148 : decode cX11_wrong 148 = .ok (.goto 14, 3) := by decide +kernel
theorem dX11_wrong_151 : decode cX11_wrong 151 = .ok (.iload_n 1, 1) := by decide +kernel
theorem dX11_wrong_152 : decode cX11_wrong 152 = .ok (.iconst 1, 1) := by decide +kernel
theorem dX11_wrong_153 : decode cX11_wrong 153 = .ok (.if_icmp .ne 7, 3) := by decide +kernel
theorem dX11_wrong_156 : decode cX11_wrong 156 = .ok (.iload_n 3, 1) := by decide +kernel
theorem dX11_wrong_157 : decode cX11_wrong 157 = .ok (.goto 5, 3) := by decide +kernel
theorem dX11_wrong_160 : decode cX11_wrong 160 = .ok (.iload 4, 2) := by decide +kernel
theorem dX11_wrong_162 : decode cX11_wrong 162 = .ok (.ireturn, 1) := by decide +kernel
theorem dX11_moved_0 : decode cX11_moved 0 = .ok (.aload_n 0, 1) := by decide +kernel
theorem dX11_moved_1 : decode cX11_moved 1 = .ok (.getfield 12, 3) := by decide +kernel
theorem dX11_moved_4 : decode cX11_moved 4 = .ok (.iload_n 2, 1) := by decide +kernel
theorem dX11_moved_5 : decode cX11_moved 5 = .ok (.invokevirtual 101, 3) := by decide +kernel
theorem dX11_moved_8 : decode cX11_moved 8 = .ok (.astore_n 3, 1) := by decide +kernel
theorem dX11_moved_9 : decode cX11_moved 9 = .ok (.aload_n 0, 1) := by decide +kernel
theorem dX11_moved_10 : decode cX11_moved 10 = .ok (.getfield 12, 3) := by decide +kernel
theorem dX11_moved_13 : decode cX11_moved 13 = .ok (.iload_n 1, 1) := by decide +kernel
theorem dX11_moved_14 : decode cX11_moved 14 = .ok (.invokevirtual 122, 3) := by decide +kernel
theorem dX11_moved_17 : decode cX11_moved 17 = .ok (.ifCond .eq 7, 3) := by decide +kernel
theorem dX11_moved_20 : decode cX11_moved 20 = .ok (.aload_n 3, 1) := by decide +kernel
theorem dX11_moved_21 : decode cX11_moved 21 = .ok (.ifnonnull 5, 3) := by decide +kernel
theorem dX11_moved_24 : decode cX11_moved 24 = .ok (.iconst (-1), 1) := by decide +kernel
theorem dX11_moved_25 : decode cX11_moved 25 = .ok (.ireturn, 1) := by decide +kernel
theorem dX11_moved_26 : decode cX11_moved 26 = .ok (.aload_n 0, 1) := by decide +kernel
theorem dX11_moved_27 : decode cX11_moved 27 = .ok (.iload_n 1, 1) := by decide +kernel
theorem dX11_moved_28 : decode cX11_moved 28 = .ok (.aload_n 3, 1) := by decide +kernel
theorem dX11_moved_29 : decode cX11_moved 29 = .ok (.invokevirtual 174, 3) := by decide +kernel
theorem dX11_moved_32 : decode cX11_moved 32 = .ok (.ireturn, 1) := by decide +kernel
theorem dX11_best_0 : decode cX11_best 0 = .ok (.aload_n 0, 1) := by decide +kernel
theorem dX11_best_1 : decode cX11_best 1 = .ok (.getfield 12, 3) := by decide +kernel
theorem dX11_best_4 : decode cX11_best 4 = .ok (.iload_n 1, 1) := by decide +kernel
theorem dX11_best_5 : decode cX11_best 5 = .ok (.invokevirtual 122, 3) := by decide +kernel
theorem dX11_best_8 : decode cX11_best 8 = .ok (.ifCond .eq 12, 3) := by decide +kernel
theorem dX11_best_11 : decode cX11_best 11 = .ok (.iload_n 2, 1) := by decide +kernel
theorem dX11_best_12 : decode cX11_best 12 = .ok (.ifCond .lt 8, 3) := by decide +kernel
theorem dX11_best_15 : decode cX11_best 15 = .ok (.iload_n 2, 1) := by decide +kernel
theorem dX11_best_16 : decode cX11_best 16 = .ok (.iconst 1, 1) := by decide +kernel
theorem dX11_best_17 : decode cX11_best 17 = .ok (.if_icmp .le 5, 3) := by decide +kernel
theorem dX11_best_20 : decode cX11_best 20 = .ok (.iconst (-1), 1) := by decide +kernel
theorem dX11_best_21 : decode cX11_best 21 = .ok (.ireturn, 1) := by decide +kernel
theorem dX11_best_22 : decode cX11_best 22 = .ok (.iconst (-1), 1) := by decide +kernel
theorem dX11_best_23 : decode cX11_best 23 = .ok (.istore_n 3, 1) := by decide +kernel
theorem dX11_best_24 : decode cX11_best 24 = .ok (.iconst (-1), 1) := by decide +kernel
theorem dX11_best_25 : decode cX11_best 25 = .ok (.istore 4, 2) := by decide +kernel
theorem dX11_best_27 : decode cX11_best 27 = .ok (.iconst 0, 1) := by decide +kernel
theorem dX11_best_28 : decode cX11_best 28 = .ok (.istore 5, 2) := by decide +kernel
theorem dX11_best_30 : decode cX11_best 30 = .ok (.iload 5, 2) := by decide +kernel
theorem dX11_best_32 : decode cX11_best 32 = .ok (.iconst 4, 1) := by decide +kernel
theorem dX11_best_33 : decode cX11_best 33 = .ok (.if_icmp .ge 52, 3) := by decide +kernel
theorem dX11_best_36 : decode cX11_best 36 = .ok (.aload_n 0, 1) := by decide +kernel
theorem dX11_best_37 : decode cX11_best 37 = .ok (.getfield 12, 3) := by decide +kernel
theorem dX11_best_40 : decode cX11_best 40 = .ok (.iload 5, 2) := by decide +kernel
theorem dX11_best_42 : decode cX11_best 42 = .ok (.invokevirtual 101, 3) := by decide +kernel
theorem dX11_best_45 : decode cX11_best 45 = .ok (.astore 6, 2) := by decide +kernel
theorem dX11_best_47 : decode cX11_best 47 = .ok (.aload 6, 2) := by decide +kernel
theorem dX11_best_49 : decode cX11_best 49 = .ok (.ifnonnull 7, 3) := by decide +kernel
theorem dX11_best_52 : decode cX11_best 52 = .ok (.iconst (-1), 1) := by decide +kernel
theorem dX11_best_53 : decode cX11_best 53 = .ok (.goto 10, 3) := by decide +kernel
theorem dX11_best_56 : decode cX11_best 56 = .ok (.aload_n 0, 1) := by decide +kernel
theorem dX11_best_57 : decode cX11_best 57 = .ok (.iload_n 1, 1) := by decide +kernel
theorem dX11_best_58 : decode cX11_best 58 = .ok (.aload 6, 2) := by decide +kernel
theorem dX11_best_60 : decode cX11_best 60 = .ok (.invokevirtual 174, 3) := by decide +kernel
theorem dX11_best_63 : decode cX11_best 63 = .ok (.istore 7, 2) := by decide +kernel
theorem dX11_best_65 : decode cX11_best 65 = .ok (.iload 7, 2) := by decide +kernel
theorem dX11_best_67 : decode cX11_best 67 = .ok (.iload 4, 2) := by decide +kernel
theorem dX11_best_69 : decode cX11_best 69 = .ok (.if_icmp .le 10, 3) := by decide +kernel
theorem dX11_best_72 : decode cX11_best 72 = .ok (.iload 5, 2) := by decide +kernel
theorem dX11_best_74 : decode cX11_best 74 = .ok (.istore_n 3, 1) := by decide +kernel
theorem dX11_best_75 : decode cX11_best 75 = .ok (.iload 7, 2) := by decide +kernel
theorem dX11_best_77 : decode cX11_best 77 = .ok (.istore 4, 2) := by decide +kernel
theorem dX11_best_79 : decode cX11_best 79 = .ok (.iinc 5 1, 3) := by decide +kernel
theorem dX11_best_82 : decode cX11_best 82 = .ok (.goto (-52), 3) := by decide +kernel
theorem dX11_best_85 : decode cX11_best 85 = .ok (.iload_n 2, 1) := by decide +kernel
theorem dX11_best_86 : decode cX11_best 86 = .ok (.ifCond .ne 7, 3) := by decide +kernel
theorem dX11_best_89 : decode cX11_best 89 = .ok (.iload_n 3, 1) := by decide +kernel
theorem dX11_best_90 : decode cX11_best 90 = .ok (.goto 5, 3) := by decide +kernel
theorem dX11_best_93 : decode cX11_best 93 = .ok (.iload 4, 2) := by decide +kernel
theorem dX11_best_95 : decode cX11_best 95 = .ok (.ireturn, 1) := by decide +kernel
theorem dX11_asked_0 : decode cX11_asked 0 = .ok (.aload_n 0, 1) := by decide +kernel
theorem dX11_asked_1 : decode cX11_asked 1 = .ok (.getfield 12, 3) := by decide +kernel
theorem dX11_asked_4 : decode cX11_asked 4 = .ok (.iload_n 1, 1) := by decide +kernel
theorem dX11_asked_5 : decode cX11_asked 5 = .ok (.invokevirtual 101, 3) := by decide +kernel
theorem dX11_asked_8 : decode cX11_asked 8 = .ok (.astore_n 3, 1) := by decide +kernel
theorem dX11_asked_9 : decode cX11_asked 9 = .ok (.aload_n 3, 1) := by decide +kernel
theorem dX11_asked_10 : decode cX11_asked 10 = .ok (.ifnonnull 5, 3) := by decide +kernel
theorem dX11_asked_13 : decode cX11_asked 13 = .ok (.iconst (-1), 1) := by decide +kernel
theorem dX11_asked_14 : decode cX11_asked 14 = .ok (.ireturn, 1) := by decide +kernel
theorem dX11_asked_15 : decode cX11_asked 15 = .ok (.iload_n 2, 1) := by decide +kernel
theorem dX11_asked_16 : decode cX11_asked 16 = .ok (.bipush 50, 2) := by decide +kernel
theorem dX11_asked_18 : decode cX11_asked 18 = .ok (.invokestatic 84, 3) := by decide +kernel
theorem dX11_asked_21 : decode cX11_asked 21 = .ok (.ifCond .ne 6, 3) := by decide +kernel
theorem dX11_asked_24 : decode cX11_asked 24 = .ok (.bipush (-2), 2) := by decide +kernel
theorem dX11_asked_26 : decode cX11_asked 26 = .ok (.ireturn, 1) := by decide +kernel
theorem dX11_asked_27 : decode cX11_asked 27 = .ok (.iconst 0, 1) := by decide +kernel
theorem dX11_asked_28 : decode cX11_asked 28 = .ok (.istore 4, 2) := by decide +kernel
theorem dX11_asked_30 : decode cX11_asked 30 = .ok (.iload 4, 2) := by decide +kernel
theorem dX11_asked_32 : decode cX11_asked 32 = .ok (.bipush 9, 2) := by decide +kernel
theorem dX11_asked_34 : decode cX11_asked 34 = .ok (.aload_n 3, 1) := by decide +kernel
theorem dX11_asked_35 : decode cX11_asked 35 = .ok (.getfield 147, 3) := by decide +kernel
theorem dX11_asked_38 : decode cX11_asked 38 = .ok (.isub, 1) := by decide +kernel
theorem dX11_asked_39 : decode cX11_asked 39 = .ok (.if_icmp .gt 53, 3) := by decide +kernel
theorem dX11_asked_42 : decode cX11_asked 42 = .ok (.aload_n 3, 1) := by decide +kernel
theorem dX11_asked_43 : decode cX11_asked 43 = .ok (.getfield 144, 3) := by decide +kernel
theorem dX11_asked_46 : decode cX11_asked 46 = .ok (.aload_n 3, 1) := by decide +kernel
theorem dX11_asked_47 : decode cX11_asked 47 = .ok (.getfield 178, 3) := by decide +kernel
theorem dX11_asked_50 : decode cX11_asked 50 = .ok (.aload_n 3, 1) := by decide +kernel
theorem dX11_asked_51 : decode cX11_asked 51 = .ok (.getfield 147, 3) := by decide +kernel
theorem dX11_asked_54 : decode cX11_asked 54 = .ok (.iload 4, 2) := by decide +kernel
theorem dX11_asked_56 : decode cX11_asked 56 = .ok (.iadd, 1) := by decide +kernel
theorem dX11_asked_57 : decode cX11_asked 57 = .ok (.aload_n 3, 1) := by decide +kernel
theorem dX11_asked_58 : decode cX11_asked 58 = .ok (.getfield 150, 3) := by decide +kernel
theorem dX11_asked_61 : decode cX11_asked 61 = .ok (.invokestatic 95, 3) := by decide +kernel
theorem dX11_asked_64 : decode cX11_asked 64 = .ok (.astore 5, 2) := by decide +kernel
theorem dX11_asked_66 : decode cX11_asked 66 = .ok (.aload_n 0, 1) := by decide +kernel
theorem dX11_asked_67 : decode cX11_asked 67 = .ok (.getfield 27, 3) := by decide +kernel
theorem dX11_asked_70 : decode cX11_asked 70 = .ok (.aload_n 0, 1) := by decide +kernel
theorem dX11_asked_71 : decode cX11_asked 71 = .ok (.getfield 12, 3) := by decide +kernel
theorem dX11_asked_74 : decode cX11_asked 74 = .ok (.aload 5, 2) := by decide +kernel
theorem dX11_asked_76 : decode cX11_asked 76 = .ok (.invokevirtual 181, 3) := by decide +kernel
theorem dX11_asked_79 : decode cX11_asked 79 = .ok (.iload_n 2, 1) := by decide +kernel
theorem dX11_asked_80 : decode cX11_asked 80 = .ok (.if_icmp .lt 6, 3) := by decide +kernel
theorem dX11_asked_83 : decode cX11_asked 83 = .ok (.iload 4, 2) := by decide +kernel
theorem dX11_asked_85 : decode cX11_asked 85 = .ok (.ireturn, 1) := by decide +kernel
theorem dX11_asked_86 : decode cX11_asked 86 = .ok (.iinc 4 1, 3) := by decide +kernel
theorem dX11_asked_89 : decode cX11_asked 89 = .ok (.goto (-59), 3) := by decide +kernel
theorem dX11_asked_92 : decode cX11_asked 92 = .ok (.bipush (-5), 2) := by decide +kernel
theorem dX11_asked_94 : decode cX11_asked 94 = .ok (.ireturn, 1) := by decide +kernel
theorem dX11_swap_0 : decode cX11_swap 0 = .ok (.iload_n 1, 1) := by decide +kernel
theorem dX11_swap_1 : decode cX11_swap 1 = .ok (.ifCond .lt 8, 3) := by decide +kernel
theorem dX11_swap_4 : decode cX11_swap 4 = .ok (.iload_n 1, 1) := by decide +kernel
theorem dX11_swap_5 : decode cX11_swap 5 = .ok (.iconst 1, 1) := by decide +kernel
theorem dX11_swap_6 : decode cX11_swap 6 = .ok (.if_icmp .le 5, 3) := by decide +kernel
theorem dX11_swap_9 : decode cX11_swap 9 = .ok (.iconst (-1), 1) := by decide +kernel
theorem dX11_swap_10 : decode cX11_swap 10 = .ok (.ireturn, 1) := by decide +kernel
theorem dX11_swap_11 : decode cX11_swap 11 = .ok (.aload_n 0, 1) := by decide +kernel
theorem dX11_swap_12 : decode cX11_swap 12 = .ok (.getfield 27, 3) := by decide +kernel
theorem dX11_swap_15 : decode cX11_swap 15 = .ok (.aload_n 0, 1) := by decide +kernel
theorem dX11_swap_16 : decode cX11_swap 16 = .ok (.getfield 12, 3) := by decide +kernel
theorem dX11_swap_19 : decode cX11_swap 19 = .ok (.invokevirtual 171, 3) := by decide +kernel
theorem dX11_swap_22 : decode cX11_swap 22 = .ok (.aload_n 0, 1) := by decide +kernel
theorem dX11_swap_23 : decode cX11_swap 23 = .ok (.getfield 27, 3) := by decide +kernel
theorem dX11_swap_26 : decode cX11_swap 26 = .ok (.getfield 138, 3) := by decide +kernel
theorem dX11_swap_29 : decode cX11_swap 29 = .ok (.iconst 0, 1) := by decide +kernel
theorem dX11_swap_30 : decode cX11_swap 30 = .ok (.aload_n 0, 1) := by decide +kernel
theorem dX11_swap_31 : decode cX11_swap 31 = .ok (.getfield 38, 3) := by decide +kernel
theorem dX11_swap_34 : decode cX11_swap 34 = .ok (.iconst 0, 1) := by decide +kernel
theorem dX11_swap_35 : decode cX11_swap 35 = .ok (.bipush 10, 2) := by decide +kernel
theorem dX11_swap_37 : decode cX11_swap 37 = .ok (.invokestatic 165, 3) := by decide +kernel
theorem dX11_swap_40 : decode cX11_swap 40 = .ok (.aload_n 0, 1) := by decide +kernel
theorem dX11_swap_41 : decode cX11_swap 41 = .ok (.getfield 18, 3) := by decide +kernel
theorem dX11_swap_44 : decode cX11_swap 44 = .ok (.aload_n 0, 1) := by decide +kernel
theorem dX11_swap_45 : decode cX11_swap 45 = .ok (.getfield 12, 3) := by decide +kernel
theorem dX11_swap_48 : decode cX11_swap 48 = .ok (.invokevirtual 185, 3) := by decide +kernel
theorem dX11_swap_51 : decode cX11_swap 51 = .ok (.iconst 0, 1) := by decide +kernel
theorem dX11_swap_52 : decode cX11_swap 52 = .ok (.istore_n 2, 1) := by decide +kernel
theorem dX11_swap_53 : decode cX11_swap 53 = .ok (.bipush (-5), 2) := by decide +kernel
theorem dX11_swap_55 : decode cX11_swap 55 = .ok (.istore_n 3, 1) := by decide +kernel
theorem dX11_swap_56 : decode cX11_swap 56 = .ok (.iconst 0, 1) := by decide +kernel
theorem dX11_swap_57 : decode cX11_swap 57 = .ok (.istore 4, 2) := by decide +kernel
theorem dX11_swap_59 : decode cX11_swap 59 = .ok (.iload 4, 2) := by decide +kernel
theorem dX11_swap_61 : decode cX11_swap 61 = .ok (.bipush 10, 2) := by decide +kernel
theorem dX11_swap_63 : decode cX11_swap 63 = .ok (.if_icmp .ge 58, 3) := by decide +kernel
theorem dX11_swap_66 : decode cX11_swap 66 = .ok (.iload 4, 2) := by decide +kernel
theorem dX11_swap_68 : decode cX11_swap 68 = .ok (.iconst 1, 1) := by decide +kernel
theorem dX11_swap_69 : decode cX11_swap 69 = .ok (.iadd, 1) := by decide +kernel
theorem dX11_swap_70 : decode cX11_swap 70 = .ok (.istore 5, 2) := by decide +kernel
theorem dX11_swap_72 : decode cX11_swap 72 = .ok (.iload 5, 2) := by decide +kernel
theorem dX11_swap_74 : decode cX11_swap 74 = .ok (.bipush 10, 2) := by decide +kernel
theorem dX11_swap_76 : decode cX11_swap 76 = .ok (.if_icmp .ge 39, 3) := by decide +kernel
theorem dX11_swap_79 : decode cX11_swap 79 = .ok (.aload_n 0, 1) := by decide +kernel
theorem dX11_swap_80 : decode cX11_swap 80 = .ok (.iload 4, 2) := by decide +kernel
theorem dX11_swap_82 : decode cX11_swap 82 = .ok (.iload 5, 2) := by decide +kernel
theorem dX11_swap_84 : decode cX11_swap 84 = .ok (.invokevirtual 188, 3) := by decide +kernel
theorem dX11_swap_87 : decode cX11_swap 87 = .ok (.ifCond .ne 6, 3) := by decide +kernel
theorem dX11_swap_90 : decode cX11_swap 90 = .ok (.goto 19, 3) := by decide +kernel
theorem dX11_swap_93 : decode cX11_swap 93 = .ok (.iload_n 2, 1) := by decide +kernel
theorem dX11_swap_94 : decode cX11_swap 94 = .ok (.ifCond .ne 12, 3) := by decide +kernel
theorem dX11_swap_97 : decode cX11_swap 97 = .ok (.bipush 10, 2) := by decide +kernel
theorem dX11_swap_99 : decode cX11_swap 99 = .ok (.iload 4, 2) := by decide +kernel
theorem dX11_swap_101 : decode cX11_swap 101 = .ok (.imul, 1) := by decide +kernel
theorem dX11_swap_102 : decode cX11_swap 102 = .ok (.iload 5, 2) := by decide +kernel
theorem dX11_swap_104 : decode cX11_swap 104 = .ok (.iadd, 1) := by decide +kernel
theorem dX11_swap_105 : decode cX11_swap 105 = .ok (.istore_n 3, 1) := by decide +kernel
theorem dX11_swap_106 : decode cX11_swap 106 = .ok (.iinc 2 1, 3) := by decide +kernel
theorem dX11_swap_109 : decode cX11_swap 109 = .ok (.iinc 5 1, 3) := by decide +kernel
theorem dX11_swap_112 : decode cX11_swap 112 = .ok (.goto (-40), 3) := by decide +kernel
theorem dX11_swap_115 : decode cX11_swap 115 = .ok (.iinc 4 1, 3) := by decide +kernel
theorem dX11_swap_118 : decode cX11_swap 118 = .ok (.goto (-59), 3) := by decide +kernel
theorem dX11_swap_121 : decode cX11_swap 121 = .ok (.iload_n 1, 1) := by decide +kernel
theorem dX11_swap_122 : decode cX11_swap 122 = .ok (.ifCond .ne 7, 3) := by decide +kernel
theorem dX11_swap_125 : decode cX11_swap 125 = .ok (.iload_n 2, 1) := by decide +kernel
theorem dX11_swap_126 : decode cX11_swap 126 = .ok (.goto 4, 3) := by decide +kernel
theorem dX11_swap_129 : decode cX11_swap 129 = .ok (.iload_n 3, 1) := by decide +kernel
theorem dX11_swap_130 : decode cX11_swap 130 = .ok (.ireturn, 1) := by decide +kernel
theorem dX11_year_0 : decode cX11_year 0 = .ok (.aload_n 0, 1) := by decide +kernel
theorem dX11_year_1 : decode cX11_year 1 = .ok (.getfield 12, 3) := by decide +kernel
theorem dX11_year_4 : decode cX11_year 4 = .ok (.getfield 75, 3) := by decide +kernel
theorem dX11_year_7 : decode cX11_year 7 = .ok (.bipush 99, 2) := by decide +kernel
theorem dX11_year_9 : decode cX11_year 9 = .ok (.if_icmp .lt 6, 3) := by decide +kernel
theorem dX11_year_12 : decode cX11_year 12 = .ok (.bipush (-3), 2) := by decide +kernel
theorem dX11_year_14 : decode cX11_year 14 = .ok (.ireturn, 1) := by decide +kernel
theorem dX11_year_15 : decode cX11_year 15 = .ok (.aload_n 0, 1) := by decide +kernel
theorem dX11_year_16 : decode cX11_year 16 = .ok (.aload_n 0, 1) := by decide +kernel
theorem dX11_year_17 : decode cX11_year 17 = .ok (.getfield 12, 3) := by decide +kernel
theorem dX11_year_20 : decode cX11_year 20 = .ok (.iconst 0, 1) := by decide +kernel
theorem dX11_year_21 : decode cX11_year 21 = .ok (.invokevirtual 191, 3) := by decide +kernel
theorem dX11_year_24 : decode cX11_year 24 = .ok (.ireturn, 1) := by decide +kernel
theorem dX11_years_0 : decode cX11_years 0 = .ok (.iload_n 2, 1) := by decide +kernel
theorem dX11_years_1 : decode cX11_years 1 = .ok (.ifCond .lt 8, 3) := by decide +kernel
theorem dX11_years_4 : decode cX11_years 4 = .ok (.iload_n 2, 1) := by decide +kernel
theorem dX11_years_5 : decode cX11_years 5 = .ok (.iconst 3, 1) := by decide +kernel
theorem dX11_years_6 : decode cX11_years 6 = .ok (.if_icmp .le 7, 3) := by decide +kernel
theorem dX11_years_9 : decode cX11_years 9 = .ok (.sipush (-1001), 3) := by decide +kernel
theorem dX11_years_12 : decode cX11_years 12 = .ok (.ireturn, 1) := by decide +kernel
theorem dX11_years_13 : decode cX11_years 13 = .ok (.iload_n 3, 1) := by decide +kernel
theorem dX11_years_14 : decode cX11_years 14 = .ok (.ifCond .lt 28, 3) := by decide +kernel
theorem dX11_years_17 : decode cX11_years 17 = .ok (.iload_n 3, 1) := by decide +kernel
theorem dX11_years_18 : decode cX11_years 18 = .ok (.iconst 1, 1) := by decide +kernel
theorem dX11_years_19 : decode cX11_years 19 = .ok (.if_icmp .le 27, 3) := by decide +kernel
theorem dX11_years_22 : decode cX11_years 22 = .ok (.iload_n 3, 1) := by decide +kernel
theorem dX11_years_23 : decode cX11_years 23 = .ok (.bipush 10, 2) := by decide +kernel
theorem dX11_years_25 : decode cX11_years 25 = .ok (.if_icmp .lt 17, 3) := by decide +kernel
theorem dX11_years_28 : decode cX11_years 28 = .ok (.aload_n 0, 1) := by decide +kernel
theorem dX11_years_29 : decode cX11_years 29 = .ok (.getfield 12, 3) := by decide +kernel
theorem dX11_years_32 : decode cX11_years 32 = .ok (.iload_n 3, 1) := by decide +kernel
theorem dX11_years_33 : decode cX11_years 33 = .ok (.bipush 10, 2) := by decide +kernel
theorem dX11_years_35 : decode cX11_years 35 = .ok (.isub, 1) := by decide +kernel
theorem dX11_years_36 : decode cX11_years 36 = .ok (.invokevirtual 122, 3) := by decide +kernel
theorem dX11_years_39 : decode cX11_years 39 = .ok (.ifCond .ne 7, 3) := by decide +kernel
theorem dX11_years_42 : decode cX11_years 42 = .ok (.sipush (-1001), 3) := by decide +kernel
theorem dX11_years_45 : decode cX11_years 45 = .ok (.ireturn, 1) := by decide +kernel
theorem dX11_years_46 : decode cX11_years 46 = .ok (.iload_n 1, 1) := by decide +kernel
theorem dX11_years_47 : decode cX11_years 47 = .ok (.bipush 20, 2) := by decide +kernel
theorem dX11_years_49 : decode cX11_years 49 = .ok (.invokestatic 84, 3) := by decide +kernel
theorem dX11_years_52 : decode cX11_years 52 = .ok (.ifCond .ne 7, 3) := by decide +kernel
theorem dX11_years_55 : decode cX11_years 55 = .ok (.sipush (-1002), 3) := by decide +kernel
theorem dX11_years_58 : decode cX11_years 58 = .ok (.ireturn, 1) := by decide +kernel
theorem dX11_years_59 : decode cX11_years 59 = .ok (.aload_n 0, 1) := by decide +kernel
theorem dX11_years_60 : decode cX11_years 60 = .ok (.getfield 18, 3) := by decide +kernel
theorem dX11_years_63 : decode cX11_years 63 = .ok (.aload_n 0, 1) := by decide +kernel
theorem dX11_years_64 : decode cX11_years 64 = .ok (.getfield 12, 3) := by decide +kernel
theorem dX11_years_67 : decode cX11_years 67 = .ok (.invokevirtual 185, 3) := by decide +kernel
theorem dX11_years_70 : decode cX11_years 70 = .ok (.iconst 0, 1) := by decide +kernel
theorem dX11_years_71 : decode cX11_years 71 = .ok (.istore 4, 2) := by decide +kernel
theorem dX11_years_73 : decode cX11_years 73 = .ok (.iconst 0, 1) := by decide +kernel
theorem dX11_years_74 : decode cX11_years 74 = .ok (.istore 5, 2) := by decide +kernel
theorem dX11_years_76 : decode cX11_years 76 = .ok (.iload 5, 2) := by decide +kernel
theorem dX11_years_78 : decode cX11_years 78 = .ok (.iload_n 1, 1) := by decide +kernel
theorem dX11_years_79 : decode cX11_years 79 = .ok (.if_icmp .ge 23, 3) := by decide +kernel
theorem dX11_years_82 : decode cX11_years 82 = .ok (.iload 4, 2) := by decide +kernel
theorem dX11_years_84 : decode cX11_years 84 = .ok (.aload_n 0, 1) := by decide +kernel
theorem dX11_years_85 : decode cX11_years 85 = .ok (.aload_n 0, 1) := by decide +kernel
theorem dX11_years_86 : decode cX11_years 86 = .ok (.getfield 18, 3) := by decide +kernel
theorem dX11_years_89 : decode cX11_years 89 = .ok (.iload_n 2, 1) := by decide +kernel
theorem dX11_years_90 : decode cX11_years 90 = .ok (.invokevirtual 191, 3) := by decide +kernel
theorem dX11_years_93 : decode cX11_years 93 = .ok (.iadd, 1) := by decide +kernel
theorem dX11_years_94 : decode cX11_years 94 = .ok (.istore 4, 2) := by decide +kernel
theorem dX11_years_96 : decode cX11_years 96 = .ok (.iinc 5 1, 3) := by decide +kernel
theorem dX11_years_99 : decode cX11_years 99 = .ok (.goto (-23), 3) := by decide +kernel
theorem dX11_years_102 : decode cX11_years 102 = .ok (.iload_n 3, 1) := by decide +kernel
theorem dX11_years_103 : decode cX11_years 103 = .ok (.iconst 1, 1) := by decide +kernel
theorem dX11_years_104 : decode cX11_years 104 = .ok (.if_icmp .ne 6, 3) := by decide +kernel
theorem dX11_years_107 : decode cX11_years 107 = .ok (.iload 4, 2) := by decide +kernel
theorem dX11_years_109 : decode cX11_years 109 = .ok (.ireturn, 1) := by decide +kernel
theorem dX11_years_110 : decode cX11_years 110 = .ok (.iload_n 3, 1) := by decide +kernel
theorem dX11_years_111 : decode cX11_years 111 = .ok (.ifCond .ne 13, 3) := by decide +kernel
theorem dX11_years_114 : decode cX11_years 114 = .ok (.aload_n 0, 1) := by decide +kernel
theorem dX11_years_115 : decode cX11_years 115 = .ok (.getfield 18, 3) := by decide +kernel
theorem dX11_years_118 : decode cX11_years 118 = .ok (.invokevirtual 194, 3) := by decide +kernel
theorem dX11_years_121 : decode cX11_years 121 = .ok (.goto 15, 3) := by decide +kernel
theorem dX11_years_124 : decode cX11_years 124 = .ok (.aload_n 0, 1) := by decide +kernel
theorem dX11_years_125 : decode cX11_years 125 = .ok (.getfield 18, 3) := by decide +kernel
theorem dX11_years_128 : decode cX11_years 128 = .ok (.getfield 120, 3) := by decide +kernel
theorem dX11_years_131 : decode cX11_years 131 = .ok (.iload_n 3, 1) := by decide +kernel
theorem dX11_years_132 : decode cX11_years 132 = .ok (.bipush 10, 2) := by decide +kernel
theorem dX11_years_134 : decode cX11_years 134 = .ok (.isub, 1) := by decide +kernel
theorem dX11_years_135 : decode cX11_years 135 = .ok (.iaload, 1) := by decide +kernel
theorem dX11_years_136 : decode cX11_years 136 = .ok (.ireturn, 1) := by decide +kernel
theorem dX11_chance_0 : decode cX11_chance 0 = .ok (.iload_n 1, 1) := by decide +kernel
theorem dX11_chance_1 : decode cX11_chance 1 = .ok (.iconst 1, 1) := by decide +kernel
theorem dX11_chance_2 : decode cX11_chance 2 = .ok (.if_icmp .lt 9, 3) := by decide +kernel
theorem dX11_chance_5 : decode cX11_chance 5 = .ok (.iload_n 1, 1) := by decide +kernel
theorem dX11_chance_6 : decode cX11_chance 6 = .ok (.bipush 30, 2) := by decide +kernel
theorem dX11_chance_8 : decode cX11_chance 8 = .ok (.if_icmp .le 7, 3) := by decide +kernel
theorem dX11_chance_11 : decode cX11_chance 11 = .ok (.ldc2_w 197, 3) := by decide +kernel
theorem dX11_chance_14 : decode cX11_chance 14 = .ok (.lreturn, 1) := by decide +kernel
theorem dX11_chance_15 : decode cX11_chance 15 = .ok (.iload_n 2, 1) := by decide +kernel
theorem dX11_chance_16 : decode cX11_chance 16 = .ok (.iload_n 1, 1) := by decide +kernel
theorem dX11_chance_17 : decode cX11_chance 17 = .ok (.invokestatic 84, 3) := by decide +kernel
theorem dX11_chance_20 : decode cX11_chance 20 = .ok (.ifCond .eq 20, 3) := by decide +kernel
theorem dX11_chance_23 : decode cX11_chance 23 = .ok (.iload_n 3, 1) := by decide +kernel
theorem dX11_chance_24 : decode cX11_chance 24 = .ok (.iload_n 1, 1) := by decide +kernel
theorem dX11_chance_25 : decode cX11_chance 25 = .ok (.invokestatic 84, 3) := by decide +kernel
theorem dX11_chance_28 : decode cX11_chance 28 = .ok (.ifCond .eq 12, 3) := by decide +kernel
theorem dX11_chance_31 : decode cX11_chance 31 = .ok (.iload 4, 2) := by decide +kernel
theorem dX11_chance_33 : decode cX11_chance 33 = .ok (.iload_n 3, 1) := by decide +kernel
theorem dX11_chance_34 : decode cX11_chance 34 = .ok (.invokestatic 84, 3) := by decide +kernel
theorem dX11_chance_37 : decode cX11_chance 37 = .ok (.ifCond .ne 7, 3) := by decide +kernel
theorem dX11_chance_40 : decode cX11_chance 40 = .ok (.ldc2_w 197, 3) := by decide +kernel
theorem dX11_chance_43 : decode cX11_chance 43 = .ok (.lreturn, 1) := by decide +kernel
theorem dX11_chance_44 : decode cX11_chance 44 = .ok (.iload_n 2, 1) := by decide +kernel
theorem dX11_chance_45 : decode cX11_chance 45 = .ok (.iload 4, 2) := by decide +kernel
theorem dX11_chance_47 : decode cX11_chance 47 = .ok (.invokestatic 199, 3) := by decide +kernel
theorem dX11_chance_50 : decode cX11_chance 50 = .ok (.iload_n 1, 1) := by decide +kernel
theorem dX11_chance_51 : decode cX11_chance 51 = .ok (.iload_n 2, 1) := by decide +kernel
theorem dX11_chance_52 : decode cX11_chance 52 = .ok (.isub, 1) := by decide +kernel
theorem dX11_chance_53 : decode cX11_chance 53 = .ok (.iload_n 3, 1) := by decide +kernel
theorem dX11_chance_54 : decode cX11_chance 54 = .ok (.iload 4, 2) := by decide +kernel
theorem dX11_chance_56 : decode cX11_chance 56 = .ok (.isub, 1) := by decide +kernel
theorem dX11_chance_57 : decode cX11_chance 57 = .ok (.invokestatic 199, 3) := by decide +kernel
theorem dX11_chance_60 : decode cX11_chance 60 = .ok (.lmul, 1) := by decide +kernel
theorem dX11_chance_61 : decode cX11_chance 61 = .ok (.iload_n 1, 1) := by decide +kernel
theorem dX11_chance_62 : decode cX11_chance 62 = .ok (.iload_n 3, 1) := by decide +kernel
theorem dX11_chance_63 : decode cX11_chance 63 = .ok (.invokestatic 199, 3) := by decide +kernel
theorem dX11_chance_66 : decode cX11_chance 66 = .ok (.iload 5, 2) := by decide +kernel
theorem dX11_chance_68 : decode cX11_chance 68 = .ok (.invokestatic 203, 3) := by decide +kernel
theorem dX11_chance_71 : decode cX11_chance 71 = .ok (.lreturn, 1) := by decide +kernel
theorem dX11_book_0 : decode cX11_book 0 = .ok (.aload_n 0, 1) := by decide +kernel
theorem dX11_book_1 : decode cX11_book 1 = .ok (.getfield 12, 3) := by decide +kernel
theorem dX11_book_4 : decode cX11_book 4 = .ok (.iload_n 1, 1) := by decide +kernel
theorem dX11_book_5 : decode cX11_book 5 = .ok (.invokevirtual 122, 3) := by decide +kernel
theorem dX11_book_8 : decode cX11_book 8 = .ok (.ifCond .eq 14, 3) := by decide +kernel
theorem dX11_book_11 : decode cX11_book 11 = .ok (.aload_n 0, 1) := by decide +kernel
theorem dX11_book_12 : decode cX11_book 12 = .ok (.getfield 12, 3) := by decide +kernel
theorem dX11_book_15 : decode cX11_book 15 = .ok (.iload_n 2, 1) := by decide +kernel
theorem dX11_book_16 : decode cX11_book 16 = .ok (.invokevirtual 101, 3) := by decide +kernel
theorem dX11_book_19 : decode cX11_book 19 = .ok (.ifnonnull 5, 3) := by decide +kernel
theorem dX11_book_22 : decode cX11_book 22 = .ok (.iconst (-1), 1) := by decide +kernel
theorem dX11_book_23 : decode cX11_book 23 = .ok (.ireturn, 1) := by decide +kernel
theorem dX11_book_24 : decode cX11_book 24 = .ok (.iload_n 3, 1) := by decide +kernel
theorem dX11_book_25 : decode cX11_book 25 = .ok (.iconst 1, 1) := by decide +kernel
theorem dX11_book_26 : decode cX11_book 26 = .ok (.if_icmp .lt 8, 3) := by decide +kernel
theorem dX11_book_29 : decode cX11_book 29 = .ok (.iload_n 3, 1) := by decide +kernel
theorem dX11_book_30 : decode cX11_book 30 = .ok (.iconst 5, 1) := by decide +kernel
theorem dX11_book_31 : decode cX11_book 31 = .ok (.if_icmp .le 6, 3) := by decide +kernel
theorem dX11_book_34 : decode cX11_book 34 = .ok (.bipush (-2), 2) := by decide +kernel
theorem dX11_book_36 : decode cX11_book 36 = .ok (.ireturn, 1) := by decide +kernel
theorem dX11_book_37 : decode cX11_book 37 = .ok (.aload_n 0, 1) := by decide +kernel
theorem dX11_book_38 : decode cX11_book 38 = .ok (.getfield 12, 3) := by decide +kernel
theorem dX11_book_41 : decode cX11_book 41 = .ok (.getfield 207, 3) := by decide +kernel
theorem dX11_book_44 : decode cX11_book 44 = .ok (.bipush 20, 2) := by decide +kernel
theorem dX11_book_46 : decode cX11_book 46 = .ok (.if_icmp .lt 6, 3) := by decide +kernel
theorem dX11_book_49 : decode cX11_book 49 = .ok (.bipush (-4), 2) := by decide +kernel
theorem dX11_book_51 : decode cX11_book 51 = .ok (.ireturn, 1) := by decide +kernel
theorem dX11_book_52 : decode cX11_book 52 = .ok (.aload_n 0, 1) := by decide +kernel
theorem dX11_book_53 : decode cX11_book 53 = .ok (.getfield 12, 3) := by decide +kernel
theorem dX11_book_56 : decode cX11_book 56 = .ok (.getfield 210, 3) := by decide +kernel
theorem dX11_book_59 : decode cX11_book 59 = .ok (.aload_n 0, 1) := by decide +kernel
theorem dX11_book_60 : decode cX11_book 60 = .ok (.getfield 12, 3) := by decide +kernel
theorem dX11_book_63 : decode cX11_book 63 = .ok (.getfield 207, 3) := by decide +kernel
theorem dX11_book_66 : decode cX11_book 66 = .ok (.iload_n 1, 1) := by decide +kernel
theorem dX11_book_67 : decode cX11_book 67 = .ok (.iastore, 1) := by decide +kernel
theorem dX11_book_68 : decode cX11_book 68 = .ok (.aload_n 0, 1) := by decide +kernel
theorem dX11_book_69 : decode cX11_book 69 = .ok (.getfield 12, 3) := by decide +kernel
theorem dX11_book_72 : decode cX11_book 72 = .ok (.getfield 213, 3) := by decide +kernel
theorem dX11_book_75 : decode cX11_book 75 = .ok (.aload_n 0, 1) := by decide +kernel
theorem dX11_book_76 : decode cX11_book 76 = .ok (.getfield 12, 3) := by decide +kernel
theorem dX11_book_79 : decode cX11_book 79 = .ok (.getfield 207, 3) := by decide +kernel
theorem dX11_book_82 : decode cX11_book 82 = .ok (.iload_n 2, 1) := by decide +kernel
theorem dX11_book_83 : decode cX11_book 83 = .ok (.iastore, 1) := by decide +kernel
theorem dX11_book_84 : decode cX11_book 84 = .ok (.aload_n 0, 1) := by decide +kernel
theorem dX11_book_85 : decode cX11_book 85 = .ok (.getfield 12, 3) := by decide +kernel
theorem dX11_book_88 : decode cX11_book 88 = .ok (.getfield 216, 3) := by decide +kernel
theorem dX11_book_91 : decode cX11_book 91 = .ok (.aload_n 0, 1) := by decide +kernel
theorem dX11_book_92 : decode cX11_book 92 = .ok (.getfield 12, 3) := by decide +kernel
theorem dX11_book_95 : decode cX11_book 95 = .ok (.getfield 207, 3) := by decide +kernel
theorem dX11_book_98 : decode cX11_book 98 = .ok (.iload_n 3, 1) := by decide +kernel
theorem dX11_book_99 : decode cX11_book 99 = .ok (.iastore, 1) := by decide +kernel
theorem dX11_book_100 : decode cX11_book 100 = .ok (.aload_n 0, 1) := by decide +kernel
theorem dX11_book_101 : decode cX11_book 101 = .ok (.getfield 12, 3) := by decide +kernel
theorem dX11_book_104 : decode cX11_book 104 = .ok (.dup, 1) := by decide +kernel
theorem dX11_book_105 : decode cX11_book 105 = .ok (.getfield 207, 3) := by decide +kernel
theorem dX11_book_108 : decode cX11_book 108 = .ok (.iconst 1, 1) := by decide +kernel
theorem dX11_book_109 : decode cX11_book 109 = .ok (.iadd, 1) := by decide +kernel
theorem dX11_book_110 : decode cX11_book 110 = .ok (.putfield 207, 3) := by decide +kernel
theorem dX11_book_113 : decode cX11_book 113 = .ok (.aload_n 0, 1) := by decide +kernel
theorem dX11_book_114 : decode cX11_book 114 = .ok (.getfield 12, 3) := by decide +kernel
theorem dX11_book_117 : decode cX11_book 117 = .ok (.getfield 207, 3) := by decide +kernel
theorem dX11_book_120 : decode cX11_book 120 = .ok (.ireturn, 1) := by decide +kernel
theorem dX11_clear_0 : decode cX11_clear 0 = .ok (.aload_n 0, 1) := by decide +kernel
theorem dX11_clear_1 : decode cX11_clear 1 = .ok (.getfield 12, 3) := by decide +kernel
theorem dX11_clear_4 : decode cX11_clear 4 = .ok (.getfield 207, 3) := by decide +kernel
theorem dX11_clear_7 : decode cX11_clear 7 = .ok (.istore_n 1, 1) := by decide +kernel
theorem dX11_clear_8 : decode cX11_clear 8 = .ok (.aload_n 0, 1) := by decide +kernel
theorem dX11_clear_9 : decode cX11_clear 9 = .ok (.getfield 12, 3) := by decide +kernel
theorem dX11_clear_12 : decode cX11_clear 12 = .ok (.iconst 0, 1) := by decide +kernel
theorem dX11_clear_13 : decode cX11_clear 13 = .ok (.putfield 207, 3) := by decide +kernel
theorem dX11_clear_16 : decode cX11_clear 16 = .ok (.iload_n 1, 1) := by decide +kernel
theorem dX11_clear_17 : decode cX11_clear 17 = .ok (.ireturn, 1) := by decide +kernel
theorem dX11_nets_0 : decode cX11_nets 0 = .ok (.iload_n 1, 1) := by decide +kernel
theorem dX11_nets_1 : decode cX11_nets 1 = .ok (.iconst (-1), 1) := by decide +kernel
theorem dX11_nets_2 : decode cX11_nets 2 = .ok (.if_icmp .ne 8, 3) := by decide +kernel
theorem dX11_nets_5 : decode cX11_nets 5 = .ok (.aload_n 0, 1) := by decide +kernel
theorem dX11_nets_6 : decode cX11_nets 6 = .ok (.invokevirtual 219, 3) := by decide +kernel
theorem dX11_nets_9 : decode cX11_nets 9 = .ok (.ireturn, 1) := by decide +kernel
theorem dX11_nets_10 : decode cX11_nets 10 = .ok (.aload_n 0, 1) := by decide +kernel
theorem dX11_nets_11 : decode cX11_nets 11 = .ok (.getfield 12, 3) := by decide +kernel
theorem dX11_nets_14 : decode cX11_nets 14 = .ok (.iload_n 1, 1) := by decide +kernel
theorem dX11_nets_15 : decode cX11_nets 15 = .ok (.invokevirtual 101, 3) := by decide +kernel
theorem dX11_nets_18 : decode cX11_nets 18 = .ok (.ifnonnull 7, 3) := by decide +kernel
theorem dX11_nets_21 : decode cX11_nets 21 = .ok (.iconst (-1), 1) := by decide +kernel
theorem dX11_nets_22 : decode cX11_nets 22 = .ok (.goto 8, 3) := by decide +kernel
theorem dX11_nets_25 : decode cX11_nets 25 = .ok (.aload_n 0, 1) := by decide +kernel
theorem dX11_nets_26 : decode cX11_nets 26 = .ok (.iload_n 1, 1) := by decide +kernel
theorem dX11_nets_27 : decode cX11_nets 27 = .ok (.invokevirtual 222, 3) := by decide +kernel
theorem dX11_nets_30 : decode cX11_nets 30 = .ok (.ireturn, 1) := by decide +kernel
theorem dX11_leans_0 : decode cX11_leans 0 = .ok (.aload_n 0, 1) := by decide +kernel
theorem dX11_leans_1 : decode cX11_leans 1 = .ok (.getfield 12, 3) := by decide +kernel
theorem dX11_leans_4 : decode cX11_leans 4 = .ok (.iload_n 1, 1) := by decide +kernel
theorem dX11_leans_5 : decode cX11_leans 5 = .ok (.invokevirtual 101, 3) := by decide +kernel
theorem dX11_leans_8 : decode cX11_leans 8 = .ok (.ifnull 19, 3) := by decide +kernel
theorem dX11_leans_11 : decode cX11_leans 11 = .ok (.aload_n 0, 1) := by decide +kernel
theorem dX11_leans_12 : decode cX11_leans 12 = .ok (.getfield 12, 3) := by decide +kernel
theorem dX11_leans_15 : decode cX11_leans 15 = .ok (.iload_n 2, 1) := by decide +kernel
theorem dX11_leans_16 : decode cX11_leans 16 = .ok (.invokevirtual 101, 3) := by decide +kernel
theorem dX11_leans_19 : decode cX11_leans 19 = .ok (.ifnull 8, 3) := by decide +kernel
theorem dX11_leans_22 : decode cX11_leans 22 = .ok (.iload_n 1, 1) := by decide +kernel
theorem dX11_leans_23 : decode cX11_leans 23 = .ok (.iload_n 2, 1) := by decide +kernel
theorem dX11_leans_24 : decode cX11_leans 24 = .ok (.if_icmp .ne 7, 3) := by decide +kernel
theorem dX11_leans_27 : decode cX11_leans 27 = .ok (.ldc2_w 197, 3) := by decide +kernel
theorem dX11_leans_30 : decode cX11_leans 30 = .ok (.lreturn, 1) := by decide +kernel
theorem dX11_leans_31 : decode cX11_leans 31 = .ok (.iconst 0, 1) := by decide +kernel
theorem dX11_leans_32 : decode cX11_leans 32 = .ok (.istore 4, 2) := by decide +kernel
theorem dX11_leans_34 : decode cX11_leans 34 = .ok (.iconst 0, 1) := by decide +kernel
theorem dX11_leans_35 : decode cX11_leans 35 = .ok (.istore 5, 2) := by decide +kernel
theorem dX11_leans_37 : decode cX11_leans 37 = .ok (.iconst 0, 1) := by decide +kernel
theorem dX11_leans_38 : decode cX11_leans 38 = .ok (.istore 6, 2) := by decide +kernel
theorem dX11_leans_40 : decode cX11_leans 40 = .ok (.iload 6, 2) := by decide +kernel
theorem dX11_leans_42 : decode cX11_leans 42 = .ok (.aload_n 0, 1) := by decide +kernel
theorem dX11_leans_43 : decode cX11_leans 43 = .ok (.getfield 12, 3) := by decide +kernel
theorem dX11_leans_46 : decode cX11_leans 46 = .ok (.getfield 105, 3) := by decide +kernel
theorem dX11_leans_49 : decode cX11_leans 49 = .ok (.if_icmp .ge 59, 3) := by decide +kernel
theorem dX11_leans_52 : decode cX11_leans 52 = .ok (.aload_n 0, 1) := by decide +kernel
theorem dX11_leans_53 : decode cX11_leans 53 = .ok (.getfield 12, 3) := by decide +kernel
theorem dX11_leans_56 : decode cX11_leans 56 = .ok (.iload 6, 2) := by decide +kernel
theorem dX11_leans_58 : decode cX11_leans 58 = .ok (.iload_n 1, 1) := by decide +kernel
theorem dX11_leans_59 : decode cX11_leans 59 = .ok (.invokevirtual 225, 3) := by decide +kernel
theorem dX11_leans_62 : decode cX11_leans 62 = .ok (.istore 7, 2) := by decide +kernel
theorem dX11_leans_64 : decode cX11_leans 64 = .ok (.aload_n 0, 1) := by decide +kernel
theorem dX11_leans_65 : decode cX11_leans 65 = .ok (.getfield 12, 3) := by decide +kernel
theorem dX11_leans_68 : decode cX11_leans 68 = .ok (.iload 6, 2) := by decide +kernel
theorem dX11_leans_70 : decode cX11_leans 70 = .ok (.iload_n 2, 1) := by decide +kernel
theorem dX11_leans_71 : decode cX11_leans 71 = .ok (.invokevirtual 225, 3) := by decide +kernel
theorem dX11_leans_74 : decode cX11_leans 74 = .ok (.istore 8, 2) := by decide +kernel
theorem dX11_leans_76 : decode cX11_leans 76 = .ok (.iload 7, 2) := by decide +kernel
theorem dX11_leans_78 : decode cX11_leans 78 = .ok (.ifCond .eq 24, 3) := by decide +kernel
theorem dX11_leans_81 : decode cX11_leans 81 = .ok (.iload 8, 2) := by decide +kernel
theorem dX11_leans_83 : decode cX11_leans 83 = .ok (.ifCond .ne 6, 3) := by decide +kernel
theorem dX11_leans_86 : decode cX11_leans 86 = .ok (.goto 16, 3) := by decide +kernel
theorem dX11_leans_89 : decode cX11_leans 89 = .ok (.iload 4, 2) := by decide +kernel
theorem dX11_leans_91 : decode cX11_leans 91 = .ok (.iload 7, 2) := by decide +kernel
theorem dX11_leans_93 : decode cX11_leans 93 = .ok (.iload 8, 2) := by decide +kernel
theorem dX11_leans_95 : decode cX11_leans 95 = .ok (.isub, 1) := by decide +kernel
theorem dX11_leans_96 : decode cX11_leans 96 = .ok (.iadd, 1) := by decide +kernel
theorem dX11_leans_97 : decode cX11_leans 97 = .ok (.istore 4, 2) := by decide +kernel
theorem dX11_leans_99 : decode cX11_leans 99 = .ok (.iinc 5 1, 3) := by decide +kernel
theorem dX11_leans_102 : decode cX11_leans 102 = .ok (.iinc 6 1, 3) := by decide +kernel
theorem dX11_leans_105 : decode cX11_leans 105 = .ok (.goto (-65), 3) := by decide +kernel
theorem dX11_leans_108 : decode cX11_leans 108 = .ok (.iload 4, 2) := by decide +kernel
theorem dX11_leans_110 : decode cX11_leans 110 = .ok (.i2l, 1) := by decide +kernel
theorem dX11_leans_111 : decode cX11_leans 111 = .ok (.iload 5, 2) := by decide +kernel
theorem dX11_leans_113 : decode cX11_leans 113 = .ok (.i2l, 1) := by decide +kernel
theorem dX11_leans_114 : decode cX11_leans 114 = .ok (.iload_n 3, 1) := by decide +kernel
theorem dX11_leans_115 : decode cX11_leans 115 = .ok (.invokestatic 203, 3) := by decide +kernel
theorem dX11_leans_118 : decode cX11_leans 118 = .ok (.lreturn, 1) := by decide +kernel
theorem dX11_looked_0 : decode cX11_looked 0 = .ok (.iconst 0, 1) := by decide +kernel
theorem dX11_looked_1 : decode cX11_looked 1 = .ok (.istore_n 1, 1) := by decide +kernel
theorem dX11_looked_2 : decode cX11_looked 2 = .ok (.iload_n 1, 1) := by decide +kernel
theorem dX11_looked_3 : decode cX11_looked 3 = .ok (.aload_n 0, 1) := by decide +kernel
theorem dX11_looked_4 : decode cX11_looked 4 = .ok (.getfield 12, 3) := by decide +kernel
theorem dX11_looked_7 : decode cX11_looked 7 = .ok (.getfield 207, 3) := by decide +kernel
theorem dX11_looked_10 : decode cX11_looked 10 = .ok (.if_icmp .ge 67, 3) := by decide +kernel
theorem dX11_looked_13 : decode cX11_looked 13 = .ok (.iload_n 1, 1) := by decide +kernel
theorem dX11_looked_14 : decode cX11_looked 14 = .ok (.bipush 20, 2) := by decide +kernel
theorem dX11_looked_16 : decode cX11_looked 16 = .ok (.if_icmp .ge 61, 3) := by decide +kernel
theorem dX11_looked_19 : decode cX11_looked 19 = .ok (.aload_n 0, 1) := by decide +kernel
theorem dX11_looked_20 : decode cX11_looked 20 = .ok (.getfield 12, 3) := by decide +kernel
theorem dX11_looked_23 : decode cX11_looked 23 = .ok (.aload_n 0, 1) := by decide +kernel
theorem dX11_looked_24 : decode cX11_looked 24 = .ok (.getfield 12, 3) := by decide +kernel
theorem dX11_looked_27 : decode cX11_looked 27 = .ok (.getfield 213, 3) := by decide +kernel
theorem dX11_looked_30 : decode cX11_looked 30 = .ok (.iload_n 1, 1) := by decide +kernel
theorem dX11_looked_31 : decode cX11_looked 31 = .ok (.iaload, 1) := by decide +kernel
theorem dX11_looked_32 : decode cX11_looked 32 = .ok (.invokevirtual 101, 3) := by decide +kernel
theorem dX11_looked_35 : decode cX11_looked 35 = .ok (.astore_n 2, 1) := by decide +kernel
theorem dX11_looked_36 : decode cX11_looked 36 = .ok (.aload_n 2, 1) := by decide +kernel
theorem dX11_looked_37 : decode cX11_looked 37 = .ok (.ifnonnull 6, 3) := by decide +kernel
theorem dX11_looked_40 : decode cX11_looked 40 = .ok (.goto 31, 3) := by decide +kernel
theorem dX11_looked_43 : decode cX11_looked 43 = .ok (.aload_n 0, 1) := by decide +kernel
theorem dX11_looked_44 : decode cX11_looked 44 = .ok (.aload_n 0, 1) := by decide +kernel
theorem dX11_looked_45 : decode cX11_looked 45 = .ok (.getfield 12, 3) := by decide +kernel
theorem dX11_looked_48 : decode cX11_looked 48 = .ok (.getfield 210, 3) := by decide +kernel
theorem dX11_looked_51 : decode cX11_looked 51 = .ok (.iload_n 1, 1) := by decide +kernel
theorem dX11_looked_52 : decode cX11_looked 52 = .ok (.iaload, 1) := by decide +kernel
theorem dX11_looked_53 : decode cX11_looked 53 = .ok (.aload_n 2, 1) := by decide +kernel
theorem dX11_looked_54 : decode cX11_looked 54 = .ok (.invokevirtual 174, 3) := by decide +kernel
theorem dX11_looked_57 : decode cX11_looked 57 = .ok (.aload_n 0, 1) := by decide +kernel
theorem dX11_looked_58 : decode cX11_looked 58 = .ok (.getfield 12, 3) := by decide +kernel
theorem dX11_looked_61 : decode cX11_looked 61 = .ok (.getfield 216, 3) := by decide +kernel
theorem dX11_looked_64 : decode cX11_looked 64 = .ok (.iload_n 1, 1) := by decide +kernel
theorem dX11_looked_65 : decode cX11_looked 65 = .ok (.iaload, 1) := by decide +kernel
theorem dX11_looked_66 : decode cX11_looked 66 = .ok (.if_icmp .eq 5, 3) := by decide +kernel
theorem dX11_looked_69 : decode cX11_looked 69 = .ok (.iload_n 1, 1) := by decide +kernel
theorem dX11_looked_70 : decode cX11_looked 70 = .ok (.ireturn, 1) := by decide +kernel
theorem dX11_looked_71 : decode cX11_looked 71 = .ok (.iinc 1 1, 3) := by decide +kernel
theorem dX11_looked_74 : decode cX11_looked 74 = .ok (.goto (-72), 3) := by decide +kernel
theorem dX11_looked_77 : decode cX11_looked 77 = .ok (.bipush (-5), 2) := by decide +kernel
theorem dX11_looked_79 : decode cX11_looked 79 = .ok (.ireturn, 1) := by decide +kernel
theorem dX11_act_0 : decode cX11_act 0 = .ok (.aload_n 0, 1) := by decide +kernel
theorem dX11_act_1 : decode cX11_act 1 = .ok (.getfield 34, 3) := by decide +kernel
theorem dX11_act_4 : decode cX11_act 4 = .ok (.iconst 0, 1) := by decide +kernel
theorem dX11_act_5 : decode cX11_act 5 = .ok (.putfield 228, 3) := by decide +kernel
theorem dX11_act_8 : decode cX11_act 8 = .ok (.aload_n 0, 1) := by decide +kernel
theorem dX11_act_9 : decode cX11_act 9 = .ok (.getfield 12, 3) := by decide +kernel
theorem dX11_act_12 : decode cX11_act 12 = .ok (.iload_n 1, 1) := by decide +kernel
theorem dX11_act_13 : decode cX11_act 13 = .ok (.invokevirtual 101, 3) := by decide +kernel
theorem dX11_act_16 : decode cX11_act 16 = .ok (.astore 4, 2) := by decide +kernel
theorem dX11_act_18 : decode cX11_act 18 = .ok (.aload 4, 2) := by decide +kernel
theorem dX11_act_20 : decode cX11_act 20 = .ok (.ifnonnull 5, 3) := by decide +kernel
theorem dX11_act_23 : decode cX11_act 23 = .ok (.iconst 0, 1) := by decide +kernel
theorem dX11_act_24 : decode cX11_act 24 = .ok (.ireturn, 1) := by decide +kernel
theorem dX11_act_25 : decode cX11_act 25 = .ok (.iload_n 2, 1) := by decide +kernel
theorem dX11_act_26 : decode cX11_act 26 = .ok (.tableswitch 59 0 2 #[26, 37, 48], 26) := by decide +kernel
theorem dX11_act_52 : decode cX11_act 52 = .ok (.aload 4, 2) := by decide +kernel
theorem dX11_act_54 : decode cX11_act 54 = .ok (.iload_n 3, 1) := by decide +kernel
theorem dX11_act_55 : decode cX11_act 55 = .ok (.aload_n 0, 1) := by decide +kernel
theorem dX11_act_56 : decode cX11_act 56 = .ok (.getfield 34, 3) := by decide +kernel
theorem dX11_act_59 : decode cX11_act 59 = .ok (.invokevirtual 231, 3) := by decide +kernel
theorem dX11_act_62 : decode cX11_act 62 = .ok (.ireturn, 1) := by decide +kernel
theorem dX11_act_63 : decode cX11_act 63 = .ok (.aload 4, 2) := by decide +kernel
theorem dX11_act_65 : decode cX11_act 65 = .ok (.iload_n 3, 1) := by decide +kernel
theorem dX11_act_66 : decode cX11_act 66 = .ok (.aload_n 0, 1) := by decide +kernel
theorem dX11_act_67 : decode cX11_act 67 = .ok (.getfield 34, 3) := by decide +kernel
theorem dX11_act_70 : decode cX11_act 70 = .ok (.invokevirtual 235, 3) := by decide +kernel
theorem dX11_act_73 : decode cX11_act 73 = .ok (.ireturn, 1) := by decide +kernel
theorem dX11_act_74 : decode cX11_act 74 = .ok (.aload 4, 2) := by decide +kernel
theorem dX11_act_76 : decode cX11_act 76 = .ok (.iload_n 3, 1) := by decide +kernel
theorem dX11_act_77 : decode cX11_act 77 = .ok (.aload_n 0, 1) := by decide +kernel
theorem dX11_act_78 : decode cX11_act 78 = .ok (.getfield 34, 3) := by decide +kernel
theorem dX11_act_81 : decode cX11_act 81 = .ok (.invokevirtual 238, 3) := by decide +kernel
theorem dX11_act_84 : decode cX11_act 84 = .ok (.ireturn, 1) := by decide +kernel
theorem dX11_act_85 : decode cX11_act 85 = .ok (.iconst 0, 1) := by decide +kernel
theorem dX11_act_86 : decode cX11_act 86 = .ok (.ireturn, 1) := by decide +kernel
theorem dX11_trace_0 : decode cX11_trace 0 = .ok (.iload_n 1, 1) := by decide +kernel
theorem dX11_trace_1 : decode cX11_trace 1 = .ok (.ifCond .lt 20, 3) := by decide +kernel
theorem dX11_trace_4 : decode cX11_trace 4 = .ok (.iload_n 1, 1) := by decide +kernel
theorem dX11_trace_5 : decode cX11_trace 5 = .ok (.aload_n 0, 1) := by decide +kernel
theorem dX11_trace_6 : decode cX11_trace 6 = .ok (.getfield 34, 3) := by decide +kernel
theorem dX11_trace_9 : decode cX11_trace 9 = .ok (.getfield 228, 3) := by decide +kernel
theorem dX11_trace_12 : decode cX11_trace 12 = .ok (.if_icmp .ge 9, 3) := by decide +kernel
theorem dX11_trace_15 : decode cX11_trace 15 = .ok (.iload_n 1, 1) := by decide +kernel
theorem dX11_trace_16 : decode cX11_trace 16 = .ok (.bipush 20, 2) := by decide +kernel
theorem dX11_trace_18 : decode cX11_trace 18 = .ok (.if_icmp .lt 7, 3) := by decide +kernel
theorem dX11_trace_21 : decode cX11_trace 21 = .ok (.iconst (-1), 1) := by decide +kernel
theorem dX11_trace_22 : decode cX11_trace 22 = .ok (.goto 12, 3) := by decide +kernel
theorem dX11_trace_25 : decode cX11_trace 25 = .ok (.aload_n 0, 1) := by decide +kernel
theorem dX11_trace_26 : decode cX11_trace 26 = .ok (.getfield 34, 3) := by decide +kernel
theorem dX11_trace_29 : decode cX11_trace 29 = .ok (.getfield 241, 3) := by decide +kernel
theorem dX11_trace_32 : decode cX11_trace 32 = .ok (.iload_n 1, 1) := by decide +kernel
theorem dX11_trace_33 : decode cX11_trace 33 = .ok (.iaload, 1) := by decide +kernel
theorem dX11_trace_34 : decode cX11_trace 34 = .ok (.ireturn, 1) := by decide +kernel
theorem dX11_as_0 : decode cX11_as 0 = .ok (.aload_n 0, 1) := by decide +kernel
theorem dX11_as_1 : decode cX11_as 1 = .ok (.getfield 12, 3) := by decide +kernel
theorem dX11_as_4 : decode cX11_as 4 = .ok (.iload_n 1, 1) := by decide +kernel
theorem dX11_as_5 : decode cX11_as 5 = .ok (.invokevirtual 101, 3) := by decide +kernel
theorem dX11_as_8 : decode cX11_as 8 = .ok (.astore_n 3, 1) := by decide +kernel
theorem dX11_as_9 : decode cX11_as 9 = .ok (.aload_n 3, 1) := by decide +kernel
theorem dX11_as_10 : decode cX11_as 10 = .ok (.ifnull 13, 3) := by decide +kernel
theorem dX11_as_13 : decode cX11_as 13 = .ok (.iload_n 2, 1) := by decide +kernel
theorem dX11_as_14 : decode cX11_as 14 = .ok (.ifCond .lt 9, 3) := by decide +kernel
theorem dX11_as_17 : decode cX11_as 17 = .ok (.iload_n 2, 1) := by decide +kernel
theorem dX11_as_18 : decode cX11_as 18 = .ok (.bipush 7, 2) := by decide +kernel
theorem dX11_as_20 : decode cX11_as 20 = .ok (.if_icmp .lt 5, 3) := by decide +kernel
theorem dX11_as_23 : decode cX11_as 23 = .ok (.iconst (-1), 1) := by decide +kernel
theorem dX11_as_24 : decode cX11_as 24 = .ok (.ireturn, 1) := by decide +kernel
theorem dX11_as_25 : decode cX11_as 25 = .ok (.aload_n 3, 1) := by decide +kernel
theorem dX11_as_26 : decode cX11_as 26 = .ok (.iload_n 2, 1) := by decide +kernel
theorem dX11_as_27 : decode cX11_as 27 = .ok (.invokevirtual 244, 3) := by decide +kernel
theorem dX11_as_30 : decode cX11_as 30 = .ok (.ifCond .eq 10, 3) := by decide +kernel
theorem dX11_as_33 : decode cX11_as 33 = .ok (.aload_n 3, 1) := by decide +kernel
theorem dX11_as_34 : decode cX11_as 34 = .ok (.getfield 147, 3) := by decide +kernel
theorem dX11_as_37 : decode cX11_as 37 = .ok (.goto 5, 3) := by decide +kernel
theorem dX11_as_40 : decode cX11_as 40 = .ok (.bipush (-6), 2) := by decide +kernel
theorem dX11_as_42 : decode cX11_as 42 = .ok (.ireturn, 1) := by decide +kernel
theorem dX11_image_0 : decode cX11_image 0 = .ok (.aload_n 0, 1) := by decide +kernel
theorem dX11_image_1 : decode cX11_image 1 = .ok (.getfield 21, 3) := by decide +kernel
theorem dX11_image_4 : decode cX11_image 4 = .ok (.aload_n 0, 1) := by decide +kernel
theorem dX11_image_5 : decode cX11_image 5 = .ok (.getfield 12, 3) := by decide +kernel
theorem dX11_image_8 : decode cX11_image 8 = .ok (.invokevirtual 185, 3) := by decide +kernel
theorem dX11_image_11 : decode cX11_image 11 = .ok (.aload_n 0, 1) := by decide +kernel
theorem dX11_image_12 : decode cX11_image 12 = .ok (.iconst 1, 1) := by decide +kernel
theorem dX11_image_13 : decode cX11_image 13 = .ok (.putfield 247, 3) := by decide +kernel
theorem dX11_image_16 : decode cX11_image 16 = .ok (.aload_n 0, 1) := by decide +kernel
theorem dX11_image_17 : decode cX11_image 17 = .ok (.getfield 12, 3) := by decide +kernel
theorem dX11_image_20 : decode cX11_image 20 = .ok (.getfield 105, 3) := by decide +kernel
theorem dX11_image_23 : decode cX11_image 23 = .ok (.ireturn, 1) := by decide +kernel
theorem dX11_undo_0 : decode cX11_undo 0 = .ok (.aload_n 0, 1) := by decide +kernel
theorem dX11_undo_1 : decode cX11_undo 1 = .ok (.getfield 247, 3) := by decide +kernel
theorem dX11_undo_4 : decode cX11_undo 4 = .ok (.ifCond .ne 6, 3) := by decide +kernel
theorem dX11_undo_7 : decode cX11_undo 7 = .ok (.bipush (-3), 2) := by decide +kernel
theorem dX11_undo_9 : decode cX11_undo 9 = .ok (.ireturn, 1) := by decide +kernel
theorem dX11_undo_10 : decode cX11_undo 10 = .ok (.aload_n 0, 1) := by decide +kernel
theorem dX11_undo_11 : decode cX11_undo 11 = .ok (.getfield 12, 3) := by decide +kernel
theorem dX11_undo_14 : decode cX11_undo 14 = .ok (.aload_n 0, 1) := by decide +kernel
theorem dX11_undo_15 : decode cX11_undo 15 = .ok (.getfield 21, 3) := by decide +kernel
theorem dX11_undo_18 : decode cX11_undo 18 = .ok (.invokevirtual 185, 3) := by decide +kernel
theorem dX11_undo_21 : decode cX11_undo 21 = .ok (.aload_n 0, 1) := by decide +kernel
theorem dX11_undo_22 : decode cX11_undo 22 = .ok (.getfield 12, 3) := by decide +kernel
theorem dX11_undo_25 : decode cX11_undo 25 = .ok (.getfield 105, 3) := by decide +kernel
theorem dX11_undo_28 : decode cX11_undo 28 = .ok (.ireturn, 1) := by decide +kernel
theorem dX11_count_0 : decode cX11_count 0 = .ok (.iload_n 1, 1) := by decide +kernel
theorem dX11_count_1 : decode cX11_count 1 = .ok (.tableswitch 87 0 5 #[39, 47, 55, 63, 71, 79], 39) := by decide +kernel
theorem dX11_count_40 : decode cX11_count 40 = .ok (.aload_n 0, 1) := by decide +kernel
theorem dX11_count_41 : decode cX11_count 41 = .ok (.getfield 12, 3) := by decide +kernel
theorem dX11_count_44 : decode cX11_count 44 = .ok (.getfield 105, 3) := by decide +kernel
theorem dX11_count_47 : decode cX11_count 47 = .ok (.ireturn, 1) := by decide +kernel
theorem dX11_count_48 : decode cX11_count 48 = .ok (.aload_n 0, 1) := by decide +kernel
theorem dX11_count_49 : decode cX11_count 49 = .ok (.getfield 12, 3) := by decide +kernel
theorem dX11_count_52 : decode cX11_count 52 = .ok (.getfield 88, 3) := by decide +kernel
theorem dX11_count_55 : decode cX11_count 55 = .ok (.ireturn, 1) := by decide +kernel
theorem dX11_count_56 : decode cX11_count 56 = .ok (.aload_n 0, 1) := by decide +kernel
theorem dX11_count_57 : decode cX11_count 57 = .ok (.getfield 12, 3) := by decide +kernel
theorem dX11_count_60 : decode cX11_count 60 = .ok (.getfield 50, 3) := by decide +kernel
theorem dX11_count_63 : decode cX11_count 63 = .ok (.ireturn, 1) := by decide +kernel
theorem dX11_count_64 : decode cX11_count 64 = .ok (.aload_n 0, 1) := by decide +kernel
theorem dX11_count_65 : decode cX11_count 65 = .ok (.getfield 12, 3) := by decide +kernel
theorem dX11_count_68 : decode cX11_count 68 = .ok (.getfield 207, 3) := by decide +kernel
theorem dX11_count_71 : decode cX11_count 71 = .ok (.ireturn, 1) := by decide +kernel
theorem dX11_count_72 : decode cX11_count 72 = .ok (.aload_n 0, 1) := by decide +kernel
theorem dX11_count_73 : decode cX11_count 73 = .ok (.getfield 12, 3) := by decide +kernel
theorem dX11_count_76 : decode cX11_count 76 = .ok (.getfield 42, 3) := by decide +kernel
theorem dX11_count_79 : decode cX11_count 79 = .ok (.ireturn, 1) := by decide +kernel
theorem dX11_count_80 : decode cX11_count 80 = .ok (.aload_n 0, 1) := by decide +kernel
theorem dX11_count_81 : decode cX11_count 81 = .ok (.getfield 34, 3) := by decide +kernel
theorem dX11_count_84 : decode cX11_count 84 = .ok (.getfield 228, 3) := by decide +kernel
theorem dX11_count_87 : decode cX11_count 87 = .ok (.ireturn, 1) := by decide +kernel
theorem dX11_count_88 : decode cX11_count 88 = .ok (.iconst (-1), 1) := by decide +kernel
theorem dX11_count_89 : decode cX11_count 89 = .ok (.ireturn, 1) := by decide +kernel
theorem dX11_isWithin_0 : decode cX11_isWithin 0 = .ok (.iload_n 0, 1) := by decide +kernel
theorem dX11_isWithin_1 : decode cX11_isWithin 1 = .ok (.ifCond .lt 12, 3) := by decide +kernel
theorem dX11_isWithin_4 : decode cX11_isWithin 4 = .ok (.iload_n 0, 1) := by decide +kernel
theorem dX11_isWithin_5 : decode cX11_isWithin 5 = .ok (.iload_n 1, 1) := by decide +kernel
theorem dX11_isWithin_6 : decode cX11_isWithin 6 = .ok (.if_icmp .gt 7, 3) := by decide +kernel
theorem dX11_isWithin_9 : decode cX11_isWithin 9 = .ok (.iconst 1, 1) := by decide +kernel
theorem dX11_isWithin_10 : decode cX11_isWithin 10 = .ok (.goto 4, 3) := by decide +kernel
theorem dX11_isWithin_13 : decode cX11_isWithin 13 = .ok (.iconst 0, 1) := by decide +kernel
theorem dX11_isWithin_14 : decode cX11_isWithin 14 = .ok (.ireturn, 1) := by decide +kernel
theorem dX11_gradeUnder_0 : decode cX11_gradeUnder 0 = .ok (.aload_n 0, 1) := by decide +kernel
theorem dX11_gradeUnder_1 : decode cX11_gradeUnder 1 = .ok (.getfield 18, 3) := by decide +kernel
theorem dX11_gradeUnder_4 : decode cX11_gradeUnder 4 = .ok (.aload_n 0, 1) := by decide +kernel
theorem dX11_gradeUnder_5 : decode cX11_gradeUnder 5 = .ok (.getfield 12, 3) := by decide +kernel
theorem dX11_gradeUnder_8 : decode cX11_gradeUnder 8 = .ok (.invokevirtual 185, 3) := by decide +kernel
theorem dX11_gradeUnder_11 : decode cX11_gradeUnder 11 = .ok (.aload_n 0, 1) := by decide +kernel
theorem dX11_gradeUnder_12 : decode cX11_gradeUnder 12 = .ok (.getfield 18, 3) := by decide +kernel
theorem dX11_gradeUnder_15 : decode cX11_gradeUnder 15 = .ok (.getfield 114, 3) := by decide +kernel
theorem dX11_gradeUnder_18 : decode cX11_gradeUnder 18 = .ok (.iload_n 1, 1) := by decide +kernel
theorem dX11_gradeUnder_19 : decode cX11_gradeUnder 19 = .ok (.aload_n 2, 1) := by decide +kernel
theorem dX11_gradeUnder_20 : decode cX11_gradeUnder 20 = .ok (.getfield 178, 3) := by decide +kernel
theorem dX11_gradeUnder_23 : decode cX11_gradeUnder 23 = .ok (.iastore, 1) := by decide +kernel
theorem dX11_gradeUnder_24 : decode cX11_gradeUnder 24 = .ok (.aload_n 0, 1) := by decide +kernel
theorem dX11_gradeUnder_25 : decode cX11_gradeUnder 25 = .ok (.getfield 27, 3) := by decide +kernel
theorem dX11_gradeUnder_28 : decode cX11_gradeUnder 28 = .ok (.aload_n 0, 1) := by decide +kernel
theorem dX11_gradeUnder_29 : decode cX11_gradeUnder 29 = .ok (.getfield 18, 3) := by decide +kernel
theorem dX11_gradeUnder_32 : decode cX11_gradeUnder 32 = .ok (.iload_n 1, 1) := by decide +kernel
theorem dX11_gradeUnder_33 : decode cX11_gradeUnder 33 = .ok (.invokevirtual 130, 3) := by decide +kernel
theorem dX11_gradeUnder_36 : decode cX11_gradeUnder 36 = .ok (.ireturn, 1) := by decide +kernel
theorem dX11_bothGain_0 : decode cX11_bothGain 0 = .ok (.aload_n 0, 1) := by decide +kernel
theorem dX11_bothGain_1 : decode cX11_bothGain 1 = .ok (.getfield 18, 3) := by decide +kernel
theorem dX11_bothGain_4 : decode cX11_bothGain 4 = .ok (.iload_n 1, 1) := by decide +kernel
theorem dX11_bothGain_5 : decode cX11_bothGain 5 = .ok (.invokevirtual 122, 3) := by decide +kernel
theorem dX11_bothGain_8 : decode cX11_bothGain 8 = .ok (.ifCond .eq 14, 3) := by decide +kernel
theorem dX11_bothGain_11 : decode cX11_bothGain 11 = .ok (.aload_n 0, 1) := by decide +kernel
theorem dX11_bothGain_12 : decode cX11_bothGain 12 = .ok (.getfield 18, 3) := by decide +kernel
theorem dX11_bothGain_15 : decode cX11_bothGain 15 = .ok (.iload_n 2, 1) := by decide +kernel
theorem dX11_bothGain_16 : decode cX11_bothGain 16 = .ok (.invokevirtual 122, 3) := by decide +kernel
theorem dX11_bothGain_19 : decode cX11_bothGain 19 = .ok (.ifCond .ne 5, 3) := by decide +kernel
theorem dX11_bothGain_22 : decode cX11_bothGain 22 = .ok (.iconst 0, 1) := by decide +kernel
theorem dX11_bothGain_23 : decode cX11_bothGain 23 = .ok (.ireturn, 1) := by decide +kernel
theorem dX11_bothGain_24 : decode cX11_bothGain 24 = .ok (.aload_n 0, 1) := by decide +kernel
theorem dX11_bothGain_25 : decode cX11_bothGain 25 = .ok (.getfield 18, 3) := by decide +kernel
theorem dX11_bothGain_28 : decode cX11_bothGain 28 = .ok (.getfield 114, 3) := by decide +kernel
theorem dX11_bothGain_31 : decode cX11_bothGain 31 = .ok (.iload_n 1, 1) := by decide +kernel
theorem dX11_bothGain_32 : decode cX11_bothGain 32 = .ok (.iaload, 1) := by decide +kernel
theorem dX11_bothGain_33 : decode cX11_bothGain 33 = .ok (.aload_n 0, 1) := by decide +kernel
theorem dX11_bothGain_34 : decode cX11_bothGain 34 = .ok (.getfield 18, 3) := by decide +kernel
theorem dX11_bothGain_37 : decode cX11_bothGain 37 = .ok (.getfield 114, 3) := by decide +kernel
theorem dX11_bothGain_40 : decode cX11_bothGain 40 = .ok (.iload_n 2, 1) := by decide +kernel
theorem dX11_bothGain_41 : decode cX11_bothGain 41 = .ok (.iaload, 1) := by decide +kernel
theorem dX11_bothGain_42 : decode cX11_bothGain 42 = .ok (.if_icmp .ne 5, 3) := by decide +kernel
theorem dX11_bothGain_45 : decode cX11_bothGain 45 = .ok (.iconst 0, 1) := by decide +kernel
theorem dX11_bothGain_46 : decode cX11_bothGain 46 = .ok (.ireturn, 1) := by decide +kernel
theorem dX11_bothGain_47 : decode cX11_bothGain 47 = .ok (.aload_n 0, 1) := by decide +kernel
theorem dX11_bothGain_48 : decode cX11_bothGain 48 = .ok (.getfield 18, 3) := by decide +kernel
theorem dX11_bothGain_51 : decode cX11_bothGain 51 = .ok (.iload_n 1, 1) := by decide +kernel
theorem dX11_bothGain_52 : decode cX11_bothGain 52 = .ok (.iload_n 2, 1) := by decide +kernel
theorem dX11_bothGain_53 : decode cX11_bothGain 53 = .ok (.invokevirtual 251, 3) := by decide +kernel
theorem dX11_bothGain_56 : decode cX11_bothGain 56 = .ok (.aload_n 0, 1) := by decide +kernel
theorem dX11_bothGain_57 : decode cX11_bothGain 57 = .ok (.getfield 27, 3) := by decide +kernel
theorem dX11_bothGain_60 : decode cX11_bothGain 60 = .ok (.aload_n 0, 1) := by decide +kernel
theorem dX11_bothGain_61 : decode cX11_bothGain 61 = .ok (.getfield 18, 3) := by decide +kernel
theorem dX11_bothGain_64 : decode cX11_bothGain 64 = .ok (.iload_n 1, 1) := by decide +kernel
theorem dX11_bothGain_65 : decode cX11_bothGain 65 = .ok (.invokevirtual 130, 3) := by decide +kernel
theorem dX11_bothGain_68 : decode cX11_bothGain 68 = .ok (.aload_n 0, 1) := by decide +kernel
theorem dX11_bothGain_69 : decode cX11_bothGain 69 = .ok (.getfield 38, 3) := by decide +kernel
theorem dX11_bothGain_72 : decode cX11_bothGain 72 = .ok (.iload_n 1, 1) := by decide +kernel
theorem dX11_bothGain_73 : decode cX11_bothGain 73 = .ok (.iaload, 1) := by decide +kernel
theorem dX11_bothGain_74 : decode cX11_bothGain 74 = .ok (.if_icmp .le 28, 3) := by decide +kernel
theorem dX11_bothGain_77 : decode cX11_bothGain 77 = .ok (.aload_n 0, 1) := by decide +kernel
theorem dX11_bothGain_78 : decode cX11_bothGain 78 = .ok (.getfield 27, 3) := by decide +kernel
theorem dX11_bothGain_81 : decode cX11_bothGain 81 = .ok (.aload_n 0, 1) := by decide +kernel
theorem dX11_bothGain_82 : decode cX11_bothGain 82 = .ok (.getfield 18, 3) := by decide +kernel
theorem dX11_bothGain_85 : decode cX11_bothGain 85 = .ok (.iload_n 2, 1) := by decide +kernel
theorem dX11_bothGain_86 : decode cX11_bothGain 86 = .ok (.invokevirtual 130, 3) := by decide +kernel
theorem dX11_bothGain_89 : decode cX11_bothGain 89 = .ok (.aload_n 0, 1) := by decide +kernel
theorem dX11_bothGain_90 : decode cX11_bothGain 90 = .ok (.getfield 38, 3) := by decide +kernel
theorem dX11_bothGain_93 : decode cX11_bothGain 93 = .ok (.iload_n 2, 1) := by decide +kernel
theorem dX11_bothGain_94 : decode cX11_bothGain 94 = .ok (.iaload, 1) := by decide +kernel
theorem dX11_bothGain_95 : decode cX11_bothGain 95 = .ok (.if_icmp .le 7, 3) := by decide +kernel
theorem dX11_bothGain_98 : decode cX11_bothGain 98 = .ok (.iconst 1, 1) := by decide +kernel
theorem dX11_bothGain_99 : decode cX11_bothGain 99 = .ok (.goto 4, 3) := by decide +kernel
theorem dX11_bothGain_102 : decode cX11_bothGain 102 = .ok (.iconst 0, 1) := by decide +kernel
theorem dX11_bothGain_103 : decode cX11_bothGain 103 = .ok (.istore_n 3, 1) := by decide +kernel
theorem dX11_bothGain_104 : decode cX11_bothGain 104 = .ok (.aload_n 0, 1) := by decide +kernel
theorem dX11_bothGain_105 : decode cX11_bothGain 105 = .ok (.getfield 18, 3) := by decide +kernel
theorem dX11_bothGain_108 : decode cX11_bothGain 108 = .ok (.iload_n 1, 1) := by decide +kernel
theorem dX11_bothGain_109 : decode cX11_bothGain 109 = .ok (.iload_n 2, 1) := by decide +kernel
theorem dX11_bothGain_110 : decode cX11_bothGain 110 = .ok (.invokevirtual 251, 3) := by decide +kernel
theorem dX11_bothGain_113 : decode cX11_bothGain 113 = .ok (.iload_n 3, 1) := by decide +kernel
theorem dX11_bothGain_114 : decode cX11_bothGain 114 = .ok (.ireturn, 1) := by decide +kernel
theorem dX11_goYear_0 : decode cX11_goYear 0 = .ok (.iload_n 2, 1) := by decide +kernel
theorem dX11_goYear_1 : decode cX11_goYear 1 = .ok (.iconst 3, 1) := by decide +kernel
theorem dX11_goYear_2 : decode cX11_goYear 2 = .ok (.if_icmp .ne 14, 3) := by decide +kernel
theorem dX11_goYear_5 : decode cX11_goYear 5 = .ok (.aload_n 0, 1) := by decide +kernel
theorem dX11_goYear_6 : decode cX11_goYear 6 = .ok (.getfield 27, 3) := by decide +kernel
theorem dX11_goYear_9 : decode cX11_goYear 9 = .ok (.aload_n 1, 1) := by decide +kernel
theorem dX11_goYear_10 : decode cX11_goYear 10 = .ok (.invokevirtual 134, 3) := by decide +kernel
theorem dX11_goYear_13 : decode cX11_goYear 13 = .ok (.goto 11, 3) := by decide +kernel
theorem dX11_goYear_16 : decode cX11_goYear 16 = .ok (.aload_n 0, 1) := by decide +kernel
theorem dX11_goYear_17 : decode cX11_goYear 17 = .ok (.getfield 27, 3) := by decide +kernel
theorem dX11_goYear_20 : decode cX11_goYear 20 = .ok (.aload_n 1, 1) := by decide +kernel
theorem dX11_goYear_21 : decode cX11_goYear 21 = .ok (.invokevirtual 171, 3) := by decide +kernel
theorem dX11_goYear_24 : decode cX11_goYear 24 = .ok (.iconst 0, 1) := by decide +kernel
theorem dX11_goYear_25 : decode cX11_goYear 25 = .ok (.istore_n 3, 1) := by decide +kernel
theorem dX11_goYear_26 : decode cX11_goYear 26 = .ok (.iconst 0, 1) := by decide +kernel
theorem dX11_goYear_27 : decode cX11_goYear 27 = .ok (.istore 4, 2) := by decide +kernel
theorem dX11_goYear_29 : decode cX11_goYear 29 = .ok (.iload 4, 2) := by decide +kernel
theorem dX11_goYear_31 : decode cX11_goYear 31 = .ok (.aload_n 1, 1) := by decide +kernel
theorem dX11_goYear_32 : decode cX11_goYear 32 = .ok (.getfield 105, 3) := by decide +kernel
theorem dX11_goYear_35 : decode cX11_goYear 35 = .ok (.if_icmp .ge 61, 3) := by decide +kernel
theorem dX11_goYear_38 : decode cX11_goYear 38 = .ok (.aload_n 0, 1) := by decide +kernel
theorem dX11_goYear_39 : decode cX11_goYear 39 = .ok (.getfield 27, 3) := by decide +kernel
theorem dX11_goYear_42 : decode cX11_goYear 42 = .ok (.getfield 138, 3) := by decide +kernel
theorem dX11_goYear_45 : decode cX11_goYear 45 = .ok (.iload 4, 2) := by decide +kernel
theorem dX11_goYear_47 : decode cX11_goYear 47 = .ok (.iaload, 1) := by decide +kernel
theorem dX11_goYear_48 : decode cX11_goYear 48 = .ok (.istore 5, 2) := by decide +kernel
theorem dX11_goYear_50 : decode cX11_goYear 50 = .ok (.aload_n 1, 1) := by decide +kernel
theorem dX11_goYear_51 : decode cX11_goYear 51 = .ok (.getfield 120, 3) := by decide +kernel
theorem dX11_goYear_54 : decode cX11_goYear 54 = .ok (.iload 4, 2) := by decide +kernel
theorem dX11_goYear_56 : decode cX11_goYear 56 = .ok (.sipush 9999, 3) := by decide +kernel
theorem dX11_goYear_59 : decode cX11_goYear 59 = .ok (.aload_n 1, 1) := by decide +kernel
theorem dX11_goYear_60 : decode cX11_goYear 60 = .ok (.getfield 120, 3) := by decide +kernel
theorem dX11_goYear_63 : decode cX11_goYear 63 = .ok (.iload 4, 2) := by decide +kernel
theorem dX11_goYear_65 : decode cX11_goYear 65 = .ok (.iaload, 1) := by decide +kernel
theorem dX11_goYear_66 : decode cX11_goYear 66 = .ok (.aload_n 1, 1) := by decide +kernel
theorem dX11_goYear_67 : decode cX11_goYear 67 = .ok (.getfield 62, 3) := by decide +kernel
theorem dX11_goYear_70 : decode cX11_goYear 70 = .ok (.getfield 72, 3) := by decide +kernel
theorem dX11_goYear_73 : decode cX11_goYear 73 = .ok (.iload 5, 2) := by decide +kernel
theorem dX11_goYear_75 : decode cX11_goYear 75 = .ok (.imul, 1) := by decide +kernel
theorem dX11_goYear_76 : decode cX11_goYear 76 = .ok (.iadd, 1) := by decide +kernel
theorem dX11_goYear_77 : decode cX11_goYear 77 = .ok (.invokestatic 255, 3) := by decide +kernel
theorem dX11_goYear_80 : decode cX11_goYear 80 = .ok (.iastore, 1) := by decide +kernel
theorem dX11_goYear_81 : decode cX11_goYear 81 = .ok (.iload 5, 2) := by decide +kernel
theorem dX11_goYear_83 : decode cX11_goYear 83 = .ok (.iconst 1, 1) := by decide +kernel
theorem dX11_goYear_84 : decode cX11_goYear 84 = .ok (.if_icmp .ne 6, 3) := by decide +kernel
theorem dX11_goYear_87 : decode cX11_goYear 87 = .ok (.iinc 3 1, 3) := by decide +kernel
theorem dX11_goYear_90 : decode cX11_goYear 90 = .ok (.iinc 4 1, 3) := by decide +kernel
theorem dX11_goYear_93 : decode cX11_goYear 93 = .ok (.goto (-64), 3) := by decide +kernel
theorem dX11_goYear_96 : decode cX11_goYear 96 = .ok (.iload_n 2, 1) := by decide +kernel
theorem dX11_goYear_97 : decode cX11_goYear 97 = .ok (.iconst 1, 1) := by decide +kernel
theorem dX11_goYear_98 : decode cX11_goYear 98 = .ok (.if_icmp .ne 8, 3) := by decide +kernel
theorem dX11_goYear_101 : decode cX11_goYear 101 = .ok (.iconst 0, 1) := by decide +kernel
theorem dX11_goYear_102 : decode cX11_goYear 102 = .ok (.istore_n 3, 1) := by decide +kernel
theorem dX11_goYear_103 : decode cX11_goYear 103 = .ok (.goto 21, 3) := by decide +kernel
theorem dX11_goYear_106 : decode cX11_goYear 106 = .ok (.iload_n 2, 1) := by decide +kernel
theorem dX11_goYear_107 : decode cX11_goYear 107 = .ok (.iconst 2, 1) := by decide +kernel
theorem dX11_goYear_108 : decode cX11_goYear 108 = .ok (.if_icmp .ne 11, 3) := by decide +kernel
theorem dX11_goYear_111 : decode cX11_goYear 111 = .ok (.aload_n 1, 1) := by decide +kernel
theorem dX11_goYear_112 : decode cX11_goYear 112 = .ok (.iload_n 3, 1) := by decide +kernel
theorem dX11_goYear_113 : decode cX11_goYear 113 = .ok (.invokestatic 260, 3) := by decide +kernel
theorem dX11_goYear_116 : decode cX11_goYear 116 = .ok (.goto 8, 3) := by decide +kernel
theorem dX11_goYear_119 : decode cX11_goYear 119 = .ok (.aload_n 0, 1) := by decide +kernel
theorem dX11_goYear_120 : decode cX11_goYear 120 = .ok (.aload_n 1, 1) := by decide +kernel
theorem dX11_goYear_121 : decode cX11_goYear 121 = .ok (.invokevirtual 264, 3) := by decide +kernel
theorem dX11_goYear_124 : decode cX11_goYear 124 = .ok (.aload_n 1, 1) := by decide +kernel
theorem dX11_goYear_125 : decode cX11_goYear 125 = .ok (.dup, 1) := by decide +kernel
theorem dX11_goYear_126 : decode cX11_goYear 126 = .ok (.getfield 75, 3) := by decide +kernel
theorem dX11_goYear_129 : decode cX11_goYear 129 = .ok (.iconst 1, 1) := by decide +kernel
theorem dX11_goYear_130 : decode cX11_goYear 130 = .ok (.iadd, 1) := by decide +kernel
theorem dX11_goYear_131 : decode cX11_goYear 131 = .ok (.putfield 75, 3) := by decide +kernel
theorem dX11_goYear_134 : decode cX11_goYear 134 = .ok (.iload_n 3, 1) := by decide +kernel
theorem dX11_goYear_135 : decode cX11_goYear 135 = .ok (.ireturn, 1) := by decide +kernel
theorem dX11_outByGrade_0 : decode cX11_outByGrade 0 = .ok (.iconst 0, 1) := by decide +kernel
theorem dX11_outByGrade_1 : decode cX11_outByGrade 1 = .ok (.istore_n 2, 1) := by decide +kernel
theorem dX11_outByGrade_2 : decode cX11_outByGrade 2 = .ok (.iload_n 2, 1) := by decide +kernel
theorem dX11_outByGrade_3 : decode cX11_outByGrade 3 = .ok (.aload_n 1, 1) := by decide +kernel
theorem dX11_outByGrade_4 : decode cX11_outByGrade 4 = .ok (.getfield 105, 3) := by decide +kernel
theorem dX11_outByGrade_7 : decode cX11_outByGrade 7 = .ok (.if_icmp .ge 27, 3) := by decide +kernel
theorem dX11_outByGrade_10 : decode cX11_outByGrade 10 = .ok (.aload_n 0, 1) := by decide +kernel
theorem dX11_outByGrade_11 : decode cX11_outByGrade 11 = .ok (.getfield 27, 3) := by decide +kernel
theorem dX11_outByGrade_14 : decode cX11_outByGrade 14 = .ok (.getfield 138, 3) := by decide +kernel
theorem dX11_outByGrade_17 : decode cX11_outByGrade 17 = .ok (.iload_n 2, 1) := by decide +kernel
theorem dX11_outByGrade_18 : decode cX11_outByGrade 18 = .ok (.iaload, 1) := by decide +kernel
theorem dX11_outByGrade_19 : decode cX11_outByGrade 19 = .ok (.iconst 1, 1) := by decide +kernel
theorem dX11_outByGrade_20 : decode cX11_outByGrade 20 = .ok (.if_icmp .ne 8, 3) := by decide +kernel
theorem dX11_outByGrade_23 : decode cX11_outByGrade 23 = .ok (.aload_n 1, 1) := by decide +kernel
theorem dX11_outByGrade_24 : decode cX11_outByGrade 24 = .ok (.iload_n 2, 1) := by decide +kernel
theorem dX11_outByGrade_25 : decode cX11_outByGrade 25 = .ok (.invokevirtual 267, 3) := by decide +kernel
theorem dX11_outByGrade_28 : decode cX11_outByGrade 28 = .ok (.iinc 2 1, 3) := by decide +kernel
theorem dX11_outByGrade_31 : decode cX11_outByGrade 31 = .ok (.goto (-29), 3) := by decide +kernel
theorem dX11_outByGrade_34 : decode cX11_outByGrade 34 = .ok (.return_, 1) := by decide +kernel
theorem dX11_outByLot_0 : decode cX11_outByLot 0 = .ok (.aload_n 0, 1) := by decide +kernel
theorem dX11_outByLot_1 : decode cX11_outByLot 1 = .ok (.getfield 105, 3) := by decide +kernel
theorem dX11_outByLot_4 : decode cX11_outByLot 4 = .ok (.ifCond .ne 4, 3) := by decide +kernel
theorem dX11_outByLot_7 : decode cX11_outByLot 7 = .ok (.return_, 1) := by decide +kernel
theorem dX11_outByLot_8 : decode cX11_outByLot 8 = .ok (.iconst 0, 1) := by decide +kernel
theorem dX11_outByLot_9 : decode cX11_outByLot 9 = .ok (.istore_n 2, 1) := by decide +kernel
theorem dX11_outByLot_10 : decode cX11_outByLot 10 = .ok (.iload_n 2, 1) := by decide +kernel
theorem dX11_outByLot_11 : decode cX11_outByLot 11 = .ok (.iload_n 1, 1) := by decide +kernel
theorem dX11_outByLot_12 : decode cX11_outByLot 12 = .ok (.if_icmp .ge 27, 3) := by decide +kernel
theorem dX11_outByLot_15 : decode cX11_outByLot 15 = .ok (.aload_n 0, 1) := by decide +kernel
theorem dX11_outByLot_16 : decode cX11_outByLot 16 = .ok (.aload_n 0, 1) := by decide +kernel
theorem dX11_outByLot_17 : decode cX11_outByLot 17 = .ok (.getfield 75, 3) := by decide +kernel
theorem dX11_outByLot_20 : decode cX11_outByLot 20 = .ok (.bipush 7, 2) := by decide +kernel
theorem dX11_outByLot_22 : decode cX11_outByLot 22 = .ok (.imul, 1) := by decide +kernel
theorem dX11_outByLot_23 : decode cX11_outByLot 23 = .ok (.iload_n 2, 1) := by decide +kernel
theorem dX11_outByLot_24 : decode cX11_outByLot 24 = .ok (.iadd, 1) := by decide +kernel
theorem dX11_outByLot_25 : decode cX11_outByLot 25 = .ok (.aload_n 0, 1) := by decide +kernel
theorem dX11_outByLot_26 : decode cX11_outByLot 26 = .ok (.getfield 105, 3) := by decide +kernel
theorem dX11_outByLot_29 : decode cX11_outByLot 29 = .ok (.irem, 1) := by decide +kernel
theorem dX11_outByLot_30 : decode cX11_outByLot 30 = .ok (.invokevirtual 267, 3) := by decide +kernel
theorem dX11_outByLot_33 : decode cX11_outByLot 33 = .ok (.iinc 2 1, 3) := by decide +kernel
theorem dX11_outByLot_36 : decode cX11_outByLot 36 = .ok (.goto (-26), 3) := by decide +kernel
theorem dX11_outByLot_39 : decode cX11_outByLot 39 = .ok (.return_, 1) := by decide +kernel
theorem dX11_choices_0 : decode cX11_choices 0 = .ok (.iload_n 1, 1) := by decide +kernel
theorem dX11_choices_1 : decode cX11_choices 1 = .ok (.ifCond .lt 8, 3) := by decide +kernel
theorem dX11_choices_4 : decode cX11_choices 4 = .ok (.iload_n 1, 1) := by decide +kernel
theorem dX11_choices_5 : decode cX11_choices 5 = .ok (.iload_n 0, 1) := by decide +kernel
theorem dX11_choices_6 : decode cX11_choices 6 = .ok (.if_icmp .le 5, 3) := by decide +kernel
theorem dX11_choices_9 : decode cX11_choices 9 = .ok (.lconst 0, 1) := by decide +kernel
theorem dX11_choices_10 : decode cX11_choices 10 = .ok (.lreturn, 1) := by decide +kernel
theorem dX11_choices_11 : decode cX11_choices 11 = .ok (.lconst 1, 1) := by decide +kernel
theorem dX11_choices_12 : decode cX11_choices 12 = .ok (.lstore_n 2, 1) := by decide +kernel
theorem dX11_choices_13 : decode cX11_choices 13 = .ok (.iconst 0, 1) := by decide +kernel
theorem dX11_choices_14 : decode cX11_choices 14 = .ok (.istore 4, 2) := by decide +kernel
theorem dX11_choices_16 : decode cX11_choices 16 = .ok (.iload 4, 2) := by decide +kernel
theorem dX11_choices_18 : decode cX11_choices 18 = .ok (.iload_n 1, 1) := by decide +kernel
theorem dX11_choices_19 : decode cX11_choices 19 = .ok (.if_icmp .ge 23, 3) := by decide +kernel
theorem dX11_choices_22 : decode cX11_choices 22 = .ok (.lload_n 2, 1) := by decide +kernel
theorem dX11_choices_23 : decode cX11_choices 23 = .ok (.iload_n 0, 1) := by decide +kernel
theorem dX11_choices_24 : decode cX11_choices 24 = .ok (.iload 4, 2) := by decide +kernel
theorem dX11_choices_26 : decode cX11_choices 26 = .ok (.isub, 1) := by decide +kernel
theorem dX11_choices_27 : decode cX11_choices 27 = .ok (.i2l, 1) := by decide +kernel
theorem dX11_choices_28 : decode cX11_choices 28 = .ok (.lmul, 1) := by decide +kernel
theorem dX11_choices_29 : decode cX11_choices 29 = .ok (.iload 4, 2) := by decide +kernel
theorem dX11_choices_31 : decode cX11_choices 31 = .ok (.iconst 1, 1) := by decide +kernel
theorem dX11_choices_32 : decode cX11_choices 32 = .ok (.iadd, 1) := by decide +kernel
theorem dX11_choices_33 : decode cX11_choices 33 = .ok (.i2l, 1) := by decide +kernel
theorem dX11_choices_34 : decode cX11_choices 34 = .ok (.ldiv, 1) := by decide +kernel
theorem dX11_choices_35 : decode cX11_choices 35 = .ok (.lstore_n 2, 1) := by decide +kernel
theorem dX11_choices_36 : decode cX11_choices 36 = .ok (.iinc 4 1, 3) := by decide +kernel
theorem dX11_choices_39 : decode cX11_choices 39 = .ok (.goto (-23), 3) := by decide +kernel
theorem dX11_choices_42 : decode cX11_choices 42 = .ok (.lload_n 2, 1) := by decide +kernel
theorem dX11_choices_43 : decode cX11_choices 43 = .ok (.lreturn, 1) := by decide +kernel
theorem dX11_lowest_0 : decode cX11_lowest 0 = .ok (.lload_n 2, 1) := by decide +kernel
theorem dX11_lowest_1 : decode cX11_lowest 1 = .ok (.lconst 0, 1) := by decide +kernel
theorem dX11_lowest_2 : decode cX11_lowest 2 = .ok (.lcmp, 1) := by decide +kernel
theorem dX11_lowest_3 : decode cX11_lowest 3 = .ok (.ifCond .le 14, 3) := by decide +kernel
theorem dX11_lowest_6 : decode cX11_lowest 6 = .ok (.iload 4, 2) := by decide +kernel
theorem dX11_lowest_8 : decode cX11_lowest 8 = .ok (.ifCond .lt 9, 3) := by decide +kernel
theorem dX11_lowest_11 : decode cX11_lowest 11 = .ok (.iload 4, 2) := by decide +kernel
theorem dX11_lowest_13 : decode cX11_lowest 13 = .ok (.iconst 1, 1) := by decide +kernel
theorem dX11_lowest_14 : decode cX11_lowest 14 = .ok (.if_icmp .le 7, 3) := by decide +kernel
theorem dX11_lowest_17 : decode cX11_lowest 17 = .ok (.ldc2_w 197, 3) := by decide +kernel
theorem dX11_lowest_20 : decode cX11_lowest 20 = .ok (.lreturn, 1) := by decide +kernel
theorem dX11_lowest_21 : decode cX11_lowest 21 = .ok (.lload_n 0, 1) := by decide +kernel
theorem dX11_lowest_22 : decode cX11_lowest 22 = .ok (.invokestatic 271, 3) := by decide +kernel
theorem dX11_lowest_25 : decode cX11_lowest 25 = .ok (.lstore 5, 2) := by decide +kernel
theorem dX11_lowest_27 : decode cX11_lowest 27 = .ok (.lload_n 2, 1) := by decide +kernel
theorem dX11_lowest_28 : decode cX11_lowest 28 = .ok (.lstore 7, 2) := by decide +kernel
theorem dX11_lowest_30 : decode cX11_lowest 30 = .ok (.iconst 0, 1) := by decide +kernel
theorem dX11_lowest_31 : decode cX11_lowest 31 = .ok (.istore 9, 2) := by decide +kernel
theorem dX11_lowest_33 : decode cX11_lowest 33 = .ok (.iload 9, 2) := by decide +kernel
theorem dX11_lowest_35 : decode cX11_lowest 35 = .ok (.bipush 100, 2) := by decide +kernel
theorem dX11_lowest_37 : decode cX11_lowest 37 = .ok (.if_icmp .ge 31, 3) := by decide +kernel
theorem dX11_lowest_40 : decode cX11_lowest 40 = .ok (.lload 5, 2) := by decide +kernel
theorem dX11_lowest_42 : decode cX11_lowest 42 = .ok (.lconst 0, 1) := by decide +kernel
theorem dX11_lowest_43 : decode cX11_lowest 43 = .ok (.lcmp, 1) := by decide +kernel
theorem dX11_lowest_44 : decode cX11_lowest 44 = .ok (.ifCond .eq 24, 3) := by decide +kernel
theorem dX11_lowest_47 : decode cX11_lowest 47 = .ok (.lload 7, 2) := by decide +kernel
theorem dX11_lowest_49 : decode cX11_lowest 49 = .ok (.lload 5, 2) := by decide +kernel
theorem dX11_lowest_51 : decode cX11_lowest 51 = .ok (.lrem, 1) := by decide +kernel
theorem dX11_lowest_52 : decode cX11_lowest 52 = .ok (.lstore 10, 2) := by decide +kernel
theorem dX11_lowest_54 : decode cX11_lowest 54 = .ok (.lload 5, 2) := by decide +kernel
theorem dX11_lowest_56 : decode cX11_lowest 56 = .ok (.lstore 7, 2) := by decide +kernel
theorem dX11_lowest_58 : decode cX11_lowest 58 = .ok (.lload 10, 2) := by decide +kernel
theorem dX11_lowest_60 : decode cX11_lowest 60 = .ok (.lstore 5, 2) := by decide +kernel
theorem dX11_lowest_62 : decode cX11_lowest 62 = .ok (.iinc 9 1, 3) := by decide +kernel
theorem dX11_lowest_65 : decode cX11_lowest 65 = .ok (.goto (-32), 3) := by decide +kernel
theorem dX11_lowest_68 : decode cX11_lowest 68 = .ok (.iload 4, 2) := by decide +kernel
theorem dX11_lowest_70 : decode cX11_lowest 70 = .ok (.ifCond .ne 7, 3) := by decide +kernel
theorem dX11_lowest_73 : decode cX11_lowest 73 = .ok (.lload_n 0, 1) := by decide +kernel
theorem dX11_lowest_74 : decode cX11_lowest 74 = .ok (.goto 4, 3) := by decide +kernel
theorem dX11_lowest_77 : decode cX11_lowest 77 = .ok (.lload_n 2, 1) := by decide +kernel
theorem dX11_lowest_78 : decode cX11_lowest 78 = .ok (.lload 7, 2) := by decide +kernel
theorem dX11_lowest_80 : decode cX11_lowest 80 = .ok (.ldiv, 1) := by decide +kernel
theorem dX11_lowest_81 : decode cX11_lowest 81 = .ok (.lreturn, 1) := by decide +kernel
theorem dX11_howManyNets_0 : decode cX11_howManyNets 0 = .ok (.iconst 0, 1) := by decide +kernel
theorem dX11_howManyNets_1 : decode cX11_howManyNets 1 = .ok (.istore_n 1, 1) := by decide +kernel
theorem dX11_howManyNets_2 : decode cX11_howManyNets 2 = .ok (.iconst 0, 1) := by decide +kernel
theorem dX11_howManyNets_3 : decode cX11_howManyNets 3 = .ok (.istore_n 2, 1) := by decide +kernel
theorem dX11_howManyNets_4 : decode cX11_howManyNets 4 = .ok (.iload_n 2, 1) := by decide +kernel
theorem dX11_howManyNets_5 : decode cX11_howManyNets 5 = .ok (.aload_n 0, 1) := by decide +kernel
theorem dX11_howManyNets_6 : decode cX11_howManyNets 6 = .ok (.getfield 12, 3) := by decide +kernel
theorem dX11_howManyNets_9 : decode cX11_howManyNets 9 = .ok (.getfield 88, 3) := by decide +kernel
theorem dX11_howManyNets_12 : decode cX11_howManyNets 12 = .ok (.if_icmp .ge 36, 3) := by decide +kernel
theorem dX11_howManyNets_15 : decode cX11_howManyNets 15 = .ok (.aload_n 0, 1) := by decide +kernel
theorem dX11_howManyNets_16 : decode cX11_howManyNets 16 = .ok (.iload_n 2, 1) := by decide +kernel
theorem dX11_howManyNets_17 : decode cX11_howManyNets 17 = .ok (.invokevirtual 222, 3) := by decide +kernel
theorem dX11_howManyNets_20 : decode cX11_howManyNets 20 = .ok (.iconst 1, 1) := by decide +kernel
theorem dX11_howManyNets_21 : decode cX11_howManyNets 21 = .ok (.iload_n 2, 1) := by decide +kernel
theorem dX11_howManyNets_22 : decode cX11_howManyNets 22 = .ok (.ishl, 1) := by decide +kernel
theorem dX11_howManyNets_23 : decode cX11_howManyNets 23 = .ok (.iconst 1, 1) := by decide +kernel
theorem dX11_howManyNets_24 : decode cX11_howManyNets 24 = .ok (.isub, 1) := by decide +kernel
theorem dX11_howManyNets_25 : decode cX11_howManyNets 25 = .ok (.iand, 1) := by decide +kernel
theorem dX11_howManyNets_26 : decode cX11_howManyNets 26 = .ok (.ifCond .ne 7, 3) := by decide +kernel
theorem dX11_howManyNets_29 : decode cX11_howManyNets 29 = .ok (.iconst 1, 1) := by decide +kernel
theorem dX11_howManyNets_30 : decode cX11_howManyNets 30 = .ok (.goto 4, 3) := by decide +kernel
theorem dX11_howManyNets_33 : decode cX11_howManyNets 33 = .ok (.iconst 0, 1) := by decide +kernel
theorem dX11_howManyNets_34 : decode cX11_howManyNets 34 = .ok (.istore_n 3, 1) := by decide +kernel
theorem dX11_howManyNets_35 : decode cX11_howManyNets 35 = .ok (.iload_n 3, 1) := by decide +kernel
theorem dX11_howManyNets_36 : decode cX11_howManyNets 36 = .ok (.ifCond .eq 6, 3) := by decide +kernel
theorem dX11_howManyNets_39 : decode cX11_howManyNets 39 = .ok (.iinc 1 1, 3) := by decide +kernel
theorem dX11_howManyNets_42 : decode cX11_howManyNets 42 = .ok (.iinc 2 1, 3) := by decide +kernel
theorem dX11_howManyNets_45 : decode cX11_howManyNets 45 = .ok (.goto (-41), 3) := by decide +kernel
theorem dX11_howManyNets_48 : decode cX11_howManyNets 48 = .ok (.iload_n 1, 1) := by decide +kernel
theorem dX11_howManyNets_49 : decode cX11_howManyNets 49 = .ok (.ireturn, 1) := by decide +kernel
theorem dX11_netOf_0 : decode cX11_netOf 0 = .ok (.iconst 1, 1) := by decide +kernel
theorem dX11_netOf_1 : decode cX11_netOf 1 = .ok (.iload_n 1, 1) := by decide +kernel
theorem dX11_netOf_2 : decode cX11_netOf 2 = .ok (.ishl, 1) := by decide +kernel
theorem dX11_netOf_3 : decode cX11_netOf 3 = .ok (.istore_n 2, 1) := by decide +kernel
theorem dX11_netOf_4 : decode cX11_netOf 4 = .ok (.iconst 1, 1) := by decide +kernel
theorem dX11_netOf_5 : decode cX11_netOf 5 = .ok (.istore_n 3, 1) := by decide +kernel
theorem dX11_netOf_6 : decode cX11_netOf 6 = .ok (.iload_n 3, 1) := by decide +kernel
theorem dX11_netOf_7 : decode cX11_netOf 7 = .ok (.iconst 4, 1) := by decide +kernel
theorem dX11_netOf_8 : decode cX11_netOf 8 = .ok (.if_icmp .ge 17, 3) := by decide +kernel
theorem dX11_netOf_11 : decode cX11_netOf 11 = .ok (.iload_n 2, 1) := by decide +kernel
theorem dX11_netOf_12 : decode cX11_netOf 12 = .ok (.aload_n 0, 1) := by decide +kernel
theorem dX11_netOf_13 : decode cX11_netOf 13 = .ok (.iload_n 2, 1) := by decide +kernel
theorem dX11_netOf_14 : decode cX11_netOf 14 = .ok (.invokevirtual 275, 3) := by decide +kernel
theorem dX11_netOf_17 : decode cX11_netOf 17 = .ok (.ior, 1) := by decide +kernel
theorem dX11_netOf_18 : decode cX11_netOf 18 = .ok (.istore_n 2, 1) := by decide +kernel
theorem dX11_netOf_19 : decode cX11_netOf 19 = .ok (.iinc 3 1, 3) := by decide +kernel
theorem dX11_netOf_22 : decode cX11_netOf 22 = .ok (.goto (-16), 3) := by decide +kernel
theorem dX11_netOf_25 : decode cX11_netOf 25 = .ok (.iload_n 2, 1) := by decide +kernel
theorem dX11_netOf_26 : decode cX11_netOf 26 = .ok (.ireturn, 1) := by decide +kernel
theorem dX11_neighbours_0 : decode cX11_neighbours 0 = .ok (.iconst 0, 1) := by decide +kernel
theorem dX11_neighbours_1 : decode cX11_neighbours 1 = .ok (.istore_n 2, 1) := by decide +kernel
theorem dX11_neighbours_2 : decode cX11_neighbours 2 = .ok (.iconst 0, 1) := by decide +kernel
theorem dX11_neighbours_3 : decode cX11_neighbours 3 = .ok (.istore_n 3, 1) := by decide +kernel
theorem dX11_neighbours_4 : decode cX11_neighbours 4 = .ok (.iload_n 3, 1) := by decide +kernel
theorem dX11_neighbours_5 : decode cX11_neighbours 5 = .ok (.aload_n 0, 1) := by decide +kernel
theorem dX11_neighbours_6 : decode cX11_neighbours 6 = .ok (.getfield 12, 3) := by decide +kernel
theorem dX11_neighbours_9 : decode cX11_neighbours 9 = .ok (.getfield 207, 3) := by decide +kernel
theorem dX11_neighbours_12 : decode cX11_neighbours 12 = .ok (.if_icmp .ge 86, 3) := by decide +kernel
theorem dX11_neighbours_15 : decode cX11_neighbours 15 = .ok (.iload_n 1, 1) := by decide +kernel
theorem dX11_neighbours_16 : decode cX11_neighbours 16 = .ok (.iconst 1, 1) := by decide +kernel
theorem dX11_neighbours_17 : decode cX11_neighbours 17 = .ok (.aload_n 0, 1) := by decide +kernel
theorem dX11_neighbours_18 : decode cX11_neighbours 18 = .ok (.getfield 12, 3) := by decide +kernel
theorem dX11_neighbours_21 : decode cX11_neighbours 21 = .ok (.getfield 213, 3) := by decide +kernel
theorem dX11_neighbours_24 : decode cX11_neighbours 24 = .ok (.iload_n 3, 1) := by decide +kernel
theorem dX11_neighbours_25 : decode cX11_neighbours 25 = .ok (.iaload, 1) := by decide +kernel
theorem dX11_neighbours_26 : decode cX11_neighbours 26 = .ok (.ishl, 1) := by decide +kernel
theorem dX11_neighbours_27 : decode cX11_neighbours 27 = .ok (.iand, 1) := by decide +kernel
theorem dX11_neighbours_28 : decode cX11_neighbours 28 = .ok (.ifCond .ne 6, 3) := by decide +kernel
theorem dX11_neighbours_31 : decode cX11_neighbours 31 = .ok (.goto 61, 3) := by decide +kernel
theorem dX11_neighbours_34 : decode cX11_neighbours 34 = .ok (.iconst 0, 1) := by decide +kernel
theorem dX11_neighbours_35 : decode cX11_neighbours 35 = .ok (.istore 4, 2) := by decide +kernel
theorem dX11_neighbours_37 : decode cX11_neighbours 37 = .ok (.iload 4, 2) := by decide +kernel
theorem dX11_neighbours_39 : decode cX11_neighbours 39 = .ok (.aload_n 0, 1) := by decide +kernel
theorem dX11_neighbours_40 : decode cX11_neighbours 40 = .ok (.getfield 12, 3) := by decide +kernel
theorem dX11_neighbours_43 : decode cX11_neighbours 43 = .ok (.getfield 207, 3) := by decide +kernel
theorem dX11_neighbours_46 : decode cX11_neighbours 46 = .ok (.if_icmp .ge 46, 3) := by decide +kernel
theorem dX11_neighbours_49 : decode cX11_neighbours 49 = .ok (.aload_n 0, 1) := by decide +kernel
theorem dX11_neighbours_50 : decode cX11_neighbours 50 = .ok (.getfield 12, 3) := by decide +kernel
theorem dX11_neighbours_53 : decode cX11_neighbours 53 = .ok (.getfield 210, 3) := by decide +kernel
theorem dX11_neighbours_56 : decode cX11_neighbours 56 = .ok (.iload 4, 2) := by decide +kernel
theorem dX11_neighbours_58 : decode cX11_neighbours 58 = .ok (.iaload, 1) := by decide +kernel
theorem dX11_neighbours_59 : decode cX11_neighbours 59 = .ok (.aload_n 0, 1) := by decide +kernel
theorem dX11_neighbours_60 : decode cX11_neighbours 60 = .ok (.getfield 12, 3) := by decide +kernel
theorem dX11_neighbours_63 : decode cX11_neighbours 63 = .ok (.getfield 210, 3) := by decide +kernel
theorem dX11_neighbours_66 : decode cX11_neighbours 66 = .ok (.iload_n 3, 1) := by decide +kernel
theorem dX11_neighbours_67 : decode cX11_neighbours 67 = .ok (.iaload, 1) := by decide +kernel
theorem dX11_neighbours_68 : decode cX11_neighbours 68 = .ok (.if_icmp .ne 18, 3) := by decide +kernel
theorem dX11_neighbours_71 : decode cX11_neighbours 71 = .ok (.iload_n 2, 1) := by decide +kernel
theorem dX11_neighbours_72 : decode cX11_neighbours 72 = .ok (.iconst 1, 1) := by decide +kernel
theorem dX11_neighbours_73 : decode cX11_neighbours 73 = .ok (.aload_n 0, 1) := by decide +kernel
theorem dX11_neighbours_74 : decode cX11_neighbours 74 = .ok (.getfield 12, 3) := by decide +kernel
theorem dX11_neighbours_77 : decode cX11_neighbours 77 = .ok (.getfield 213, 3) := by decide +kernel
theorem dX11_neighbours_80 : decode cX11_neighbours 80 = .ok (.iload 4, 2) := by decide +kernel
theorem dX11_neighbours_82 : decode cX11_neighbours 82 = .ok (.iaload, 1) := by decide +kernel
theorem dX11_neighbours_83 : decode cX11_neighbours 83 = .ok (.ishl, 1) := by decide +kernel
theorem dX11_neighbours_84 : decode cX11_neighbours 84 = .ok (.ior, 1) := by decide +kernel
theorem dX11_neighbours_85 : decode cX11_neighbours 85 = .ok (.istore_n 2, 1) := by decide +kernel
theorem dX11_neighbours_86 : decode cX11_neighbours 86 = .ok (.iinc 4 1, 3) := by decide +kernel
theorem dX11_neighbours_89 : decode cX11_neighbours 89 = .ok (.goto (-52), 3) := by decide +kernel
theorem dX11_neighbours_92 : decode cX11_neighbours 92 = .ok (.iinc 3 1, 3) := by decide +kernel
theorem dX11_neighbours_95 : decode cX11_neighbours 95 = .ok (.goto (-91), 3) := by decide +kernel
theorem dX11_neighbours_98 : decode cX11_neighbours 98 = .ok (.iload_n 2, 1) := by decide +kernel
theorem dX11_neighbours_99 : decode cX11_neighbours 99 = .ok (.ireturn, 1) := by decide +kernel
theorem dX12_init_0 : decode cX12_init 0 = .ok (.aload_n 0, 1) := by decide +kernel
theorem dX12_init_1 : decode cX12_init 1 = .ok (.invokespecial 3, 3) := by decide +kernel
theorem dX12_init_4 : decode cX12_init 4 = .ok (.aload_n 0, 1) := by decide +kernel
theorem dX12_init_5 : decode cX12_init 5 = .ok (.sipush 952, 3) := by decide +kernel
theorem dX12_init_8 : decode cX12_init 8 = .ok (.newarray .int, 2) := by decide +kernel
theorem dX12_init_10 : decode cX12_init 10 = .ok (.putfield 9, 3) := by decide +kernel
theorem dX12_init_13 : decode cX12_init 13 = .ok (.aload_n 0, 1) := by decide +kernel
theorem dX12_init_14 : decode cX12_init 14 = .ok (.sipush 952, 3) := by decide +kernel
theorem dX12_init_17 : decode cX12_init 17 = .ok (.newarray .int, 2) := by decide +kernel
theorem dX12_init_19 : decode cX12_init 19 = .ok (.putfield 15, 3) := by decide +kernel
theorem dX12_init_22 : decode cX12_init 22 = .ok (.aload_n 0, 1) := by decide +kernel
theorem dX12_init_23 : decode cX12_init 23 = .ok (.bipush 51, 2) := by decide +kernel
theorem dX12_init_25 : decode cX12_init 25 = .ok (.newarray .int, 2) := by decide +kernel
theorem dX12_init_27 : decode cX12_init 27 = .ok (.putfield 18, 3) := by decide +kernel
theorem dX12_init_30 : decode cX12_init 30 = .ok (.aload_n 0, 1) := by decide +kernel
theorem dX12_init_31 : decode cX12_init 31 = .ok (.bipush 6, 2) := by decide +kernel
theorem dX12_init_33 : decode cX12_init 33 = .ok (.newarray .int, 2) := by decide +kernel
theorem dX12_init_35 : decode cX12_init 35 = .ok (.putfield 21, 3) := by decide +kernel
theorem dX12_init_38 : decode cX12_init 38 = .ok (.aload_n 0, 1) := by decide +kernel
theorem dX12_init_39 : decode cX12_init 39 = .ok (.bipush 64, 2) := by decide +kernel
theorem dX12_init_41 : decode cX12_init 41 = .ok (.newarray .boolean, 2) := by decide +kernel
theorem dX12_init_43 : decode cX12_init 43 = .ok (.putfield 24, 3) := by decide +kernel
theorem dX12_init_46 : decode cX12_init 46 = .ok (.aload_n 0, 1) := by decide +kernel
theorem dX12_init_47 : decode cX12_init 47 = .ok (.bipush 10, 2) := by decide +kernel
theorem dX12_init_49 : decode cX12_init 49 = .ok (.newarray .int, 2) := by decide +kernel
theorem dX12_init_51 : decode cX12_init 51 = .ok (.putfield 28, 3) := by decide +kernel
theorem dX12_init_54 : decode cX12_init 54 = .ok (.aload_n 0, 1) := by decide +kernel
theorem dX12_init_55 : decode cX12_init 55 = .ok (.bipush 10, 2) := by decide +kernel
theorem dX12_init_57 : decode cX12_init 57 = .ok (.newarray .int, 2) := by decide +kernel
theorem dX12_init_59 : decode cX12_init 59 = .ok (.putfield 31, 3) := by decide +kernel
theorem dX12_init_62 : decode cX12_init 62 = .ok (.aload_n 0, 1) := by decide +kernel
theorem dX12_init_63 : decode cX12_init 63 = .ok (.bipush 10, 2) := by decide +kernel
theorem dX12_init_65 : decode cX12_init 65 = .ok (.newarray .int, 2) := by decide +kernel
theorem dX12_init_67 : decode cX12_init 67 = .ok (.putfield 34, 3) := by decide +kernel
theorem dX12_init_70 : decode cX12_init 70 = .ok (.aload_n 0, 1) := by decide +kernel
theorem dX12_init_71 : decode cX12_init 71 = .ok (.bipush 10, 2) := by decide +kernel
theorem dX12_init_73 : decode cX12_init 73 = .ok (.newarray .boolean, 2) := by decide +kernel
theorem dX12_init_75 : decode cX12_init 75 = .ok (.putfield 37, 3) := by decide +kernel
theorem dX12_init_78 : decode cX12_init 78 = .ok (.aload_n 0, 1) := by decide +kernel
theorem dX12_init_79 : decode cX12_init 79 = .ok (.iconst 4, 1) := by decide +kernel
theorem dX12_init_80 : decode cX12_init 80 = .ok (.newarray .int, 2) := by decide +kernel
theorem dX12_init_82 : decode cX12_init 82 = .ok (.putfield 40, 3) := by decide +kernel
theorem dX12_init_85 : decode cX12_init 85 = .ok (.aload_n 0, 1) := by decide +kernel
theorem dX12_init_86 : decode cX12_init 86 = .ok (.bipush 20, 2) := by decide +kernel
theorem dX12_init_88 : decode cX12_init 88 = .ok (.newarray .int, 2) := by decide +kernel
theorem dX12_init_90 : decode cX12_init 90 = .ok (.putfield 43, 3) := by decide +kernel
theorem dX12_init_93 : decode cX12_init 93 = .ok (.aload_n 0, 1) := by decide +kernel
theorem dX12_init_94 : decode cX12_init 94 = .ok (.getfield 9, 3) := by decide +kernel
theorem dX12_init_97 : decode cX12_init 97 = .ok (.bipush 56, 2) := by decide +kernel
theorem dX12_init_99 : decode cX12_init 99 = .ok (.iconst (-1), 1) := by decide +kernel
theorem dX12_init_100 : decode cX12_init 100 = .ok (.iastore, 1) := by decide +kernel
theorem dX12_init_101 : decode cX12_init 101 = .ok (.aload_n 0, 1) := by decide +kernel
theorem dX12_init_102 : decode cX12_init 102 = .ok (.getfield 9, 3) := by decide +kernel
theorem dX12_init_105 : decode cX12_init 105 = .ok (.bipush 57, 2) := by decide +kernel
theorem dX12_init_107 : decode cX12_init 107 = .ok (.bipush 50, 2) := by decide +kernel
theorem dX12_init_109 : decode cX12_init 109 = .ok (.iastore, 1) := by decide +kernel
theorem dX12_init_110 : decode cX12_init 110 = .ok (.aload_n 0, 1) := by decide +kernel
theorem dX12_init_111 : decode cX12_init 111 = .ok (.getfield 9, 3) := by decide +kernel
theorem dX12_init_114 : decode cX12_init 114 = .ok (.bipush 58, 2) := by decide +kernel
theorem dX12_init_116 : decode cX12_init 116 = .ok (.bipush 50, 2) := by decide +kernel
theorem dX12_init_118 : decode cX12_init 118 = .ok (.iastore, 1) := by decide +kernel
theorem dX12_init_119 : decode cX12_init 119 = .ok (.return_, 1) := by decide +kernel
theorem dX12_in_0 : decode cX12_in 0 = .ok (.iload_n 0, 1) := by decide +kernel
theorem dX12_in_1 : decode cX12_in 1 = .ok (.iload_n 1, 1) := by decide +kernel
theorem dX12_in_2 : decode cX12_in 2 = .ok (.if_icmp .lt 12, 3) := by decide +kernel
theorem dX12_in_5 : decode cX12_in 5 = .ok (.iload_n 0, 1) := by decide +kernel
theorem dX12_in_6 : decode cX12_in 6 = .ok (.iload_n 2, 1) := by decide +kernel
theorem dX12_in_7 : decode cX12_in 7 = .ok (.if_icmp .gt 7, 3) := by decide +kernel
theorem dX12_in_10 : decode cX12_in 10 = .ok (.iconst 1, 1) := by decide +kernel
theorem dX12_in_11 : decode cX12_in 11 = .ok (.goto 4, 3) := by decide +kernel
theorem dX12_in_14 : decode cX12_in 14 = .ok (.iconst 0, 1) := by decide +kernel
theorem dX12_in_15 : decode cX12_in 15 = .ok (.ireturn, 1) := by decide +kernel
theorem dX12_size_0 : decode cX12_size 0 = .ok (.iload_n 0, 1) := by decide +kernel
theorem dX12_size_1 : decode cX12_size 1 = .ok (.ifCond .ge 8, 3) := by decide +kernel
theorem dX12_size_4 : decode cX12_size 4 = .ok (.iload_n 0, 1) := by decide +kernel
theorem dX12_size_5 : decode cX12_size 5 = .ok (.ineg, 1) := by decide +kernel
theorem dX12_size_6 : decode cX12_size 6 = .ok (.goto 4, 3) := by decide +kernel
theorem dX12_size_9 : decode cX12_size 9 = .ok (.iload_n 0, 1) := by decide +kernel
theorem dX12_size_10 : decode cX12_size 10 = .ok (.ireturn, 1) := by decide +kernel
theorem dX12_isWorker_0 : decode cX12_isWorker 0 = .ok (.iload_n 1, 1) := by decide +kernel
theorem dX12_isWorker_1 : decode cX12_isWorker 1 = .ok (.iconst 0, 1) := by decide +kernel
theorem dX12_isWorker_2 : decode cX12_isWorker 2 = .ok (.aload_n 0, 1) := by decide +kernel
theorem dX12_isWorker_3 : decode cX12_isWorker 3 = .ok (.getfield 9, 3) := by decide +kernel
theorem dX12_isWorker_6 : decode cX12_isWorker 6 = .ok (.bipush 51, 2) := by decide +kernel
theorem dX12_isWorker_8 : decode cX12_isWorker 8 = .ok (.iaload, 1) := by decide +kernel
theorem dX12_isWorker_9 : decode cX12_isWorker 9 = .ok (.iconst 1, 1) := by decide +kernel
theorem dX12_isWorker_10 : decode cX12_isWorker 10 = .ok (.isub, 1) := by decide +kernel
theorem dX12_isWorker_11 : decode cX12_isWorker 11 = .ok (.invokestatic 50, 3) := by decide +kernel
theorem dX12_isWorker_14 : decode cX12_isWorker 14 = .ok (.ireturn, 1) := by decide +kernel
theorem dX12_isChief_0 : decode cX12_isChief 0 = .ok (.iload_n 1, 1) := by decide +kernel
theorem dX12_isChief_1 : decode cX12_isChief 1 = .ok (.iconst 0, 1) := by decide +kernel
theorem dX12_isChief_2 : decode cX12_isChief 2 = .ok (.aload_n 0, 1) := by decide +kernel
theorem dX12_isChief_3 : decode cX12_isChief 3 = .ok (.getfield 9, 3) := by decide +kernel
theorem dX12_isChief_6 : decode cX12_isChief 6 = .ok (.bipush 52, 2) := by decide +kernel
theorem dX12_isChief_8 : decode cX12_isChief 8 = .ok (.iaload, 1) := by decide +kernel
theorem dX12_isChief_9 : decode cX12_isChief 9 = .ok (.iconst 1, 1) := by decide +kernel
theorem dX12_isChief_10 : decode cX12_isChief 10 = .ok (.isub, 1) := by decide +kernel
theorem dX12_isChief_11 : decode cX12_isChief 11 = .ok (.invokestatic 50, 3) := by decide +kernel
theorem dX12_isChief_14 : decode cX12_isChief 14 = .ok (.ireturn, 1) := by decide +kernel
theorem dX12_keeps_0 : decode cX12_keeps 0 = .ok (.iconst 0, 1) := by decide +kernel
theorem dX12_keeps_1 : decode cX12_keeps 1 = .ok (.istore_n 1, 1) := by decide +kernel
theorem dX12_keeps_2 : decode cX12_keeps 2 = .ok (.iload_n 1, 1) := by decide +kernel
theorem dX12_keeps_3 : decode cX12_keeps 3 = .ok (.bipush 51, 2) := by decide +kernel
theorem dX12_keeps_5 : decode cX12_keeps 5 = .ok (.if_icmp .ge 21, 3) := by decide +kernel
theorem dX12_keeps_8 : decode cX12_keeps 8 = .ok (.aload_n 0, 1) := by decide +kernel
theorem dX12_keeps_9 : decode cX12_keeps 9 = .ok (.getfield 18, 3) := by decide +kernel
theorem dX12_keeps_12 : decode cX12_keeps 12 = .ok (.iload_n 1, 1) := by decide +kernel
theorem dX12_keeps_13 : decode cX12_keeps 13 = .ok (.aload_n 0, 1) := by decide +kernel
theorem dX12_keeps_14 : decode cX12_keeps 14 = .ok (.getfield 9, 3) := by decide +kernel
theorem dX12_keeps_17 : decode cX12_keeps 17 = .ok (.iload_n 1, 1) := by decide +kernel
theorem dX12_keeps_18 : decode cX12_keeps 18 = .ok (.iaload, 1) := by decide +kernel
theorem dX12_keeps_19 : decode cX12_keeps 19 = .ok (.iastore, 1) := by decide +kernel
theorem dX12_keeps_20 : decode cX12_keeps 20 = .ok (.iinc 1 1, 3) := by decide +kernel
theorem dX12_keeps_23 : decode cX12_keeps 23 = .ok (.goto (-21), 3) := by decide +kernel
theorem dX12_keeps_26 : decode cX12_keeps 26 = .ok (.return_, 1) := by decide +kernel
theorem dX12_goesBack_0 : decode cX12_goesBack 0 = .ok (.iconst 0, 1) := by decide +kernel
theorem dX12_goesBack_1 : decode cX12_goesBack 1 = .ok (.istore_n 1, 1) := by decide +kernel
theorem dX12_goesBack_2 : decode cX12_goesBack 2 = .ok (.iload_n 1, 1) := by decide +kernel
theorem dX12_goesBack_3 : decode cX12_goesBack 3 = .ok (.bipush 51, 2) := by decide +kernel
theorem dX12_goesBack_5 : decode cX12_goesBack 5 = .ok (.if_icmp .ge 21, 3) := by decide +kernel
theorem dX12_goesBack_8 : decode cX12_goesBack 8 = .ok (.aload_n 0, 1) := by decide +kernel
theorem dX12_goesBack_9 : decode cX12_goesBack 9 = .ok (.getfield 9, 3) := by decide +kernel
theorem dX12_goesBack_12 : decode cX12_goesBack 12 = .ok (.iload_n 1, 1) := by decide +kernel
theorem dX12_goesBack_13 : decode cX12_goesBack 13 = .ok (.aload_n 0, 1) := by decide +kernel
theorem dX12_goesBack_14 : decode cX12_goesBack 14 = .ok (.getfield 18, 3) := by decide +kernel
theorem dX12_goesBack_17 : decode cX12_goesBack 17 = .ok (.iload_n 1, 1) := by decide +kernel
theorem dX12_goesBack_18 : decode cX12_goesBack 18 = .ok (.iaload, 1) := by decide +kernel
theorem dX12_goesBack_19 : decode cX12_goesBack 19 = .ok (.iastore, 1) := by decide +kernel
theorem dX12_goesBack_20 : decode cX12_goesBack 20 = .ok (.iinc 1 1, 3) := by decide +kernel
theorem dX12_goesBack_23 : decode cX12_goesBack 23 = .ok (.goto (-21), 3) := by decide +kernel
theorem dX12_goesBack_26 : decode cX12_goesBack 26 = .ok (.return_, 1) := by decide +kernel
theorem dX12_feed_0 : decode cX12_feed 0 = .ok (.iload_n 1, 1) := by decide +kernel
theorem dX12_feed_1 : decode cX12_feed 1 = .ok (.iconst 0, 1) := by decide +kernel
theorem dX12_feed_2 : decode cX12_feed 2 = .ok (.bipush 127, 2) := by decide +kernel
theorem dX12_feed_4 : decode cX12_feed 4 = .ok (.invokestatic 50, 3) := by decide +kernel
theorem dX12_feed_7 : decode cX12_feed 7 = .ok (.ifCond .ne 6, 3) := by decide +kernel
theorem dX12_feed_10 : decode cX12_feed 10 = .ok (.bipush (-2), 2) := by decide +kernel
theorem dX12_feed_12 : decode cX12_feed 12 = .ok (.ireturn, 1) := by decide +kernel
theorem dX12_feed_13 : decode cX12_feed 13 = .ok (.aload_n 0, 1) := by decide +kernel
theorem dX12_feed_14 : decode cX12_feed 14 = .ok (.getfield 9, 3) := by decide +kernel
theorem dX12_feed_17 : decode cX12_feed 17 = .ok (.bipush 55, 2) := by decide +kernel
theorem dX12_feed_19 : decode cX12_feed 19 = .ok (.iaload, 1) := by decide +kernel
theorem dX12_feed_20 : decode cX12_feed 20 = .ok (.bipush 100, 2) := by decide +kernel
theorem dX12_feed_22 : decode cX12_feed 22 = .ok (.if_icmp .ne 6, 3) := by decide +kernel
theorem dX12_feed_25 : decode cX12_feed 25 = .ok (.bipush (-4), 2) := by decide +kernel
theorem dX12_feed_27 : decode cX12_feed 27 = .ok (.ireturn, 1) := by decide +kernel
theorem dX12_feed_28 : decode cX12_feed 28 = .ok (.aload_n 0, 1) := by decide +kernel
theorem dX12_feed_29 : decode cX12_feed 29 = .ok (.getfield 9, 3) := by decide +kernel
theorem dX12_feed_32 : decode cX12_feed 32 = .ok (.sipush 132, 3) := by decide +kernel
theorem dX12_feed_35 : decode cX12_feed 35 = .ok (.aload_n 0, 1) := by decide +kernel
theorem dX12_feed_36 : decode cX12_feed 36 = .ok (.getfield 9, 3) := by decide +kernel
theorem dX12_feed_39 : decode cX12_feed 39 = .ok (.bipush 55, 2) := by decide +kernel
theorem dX12_feed_41 : decode cX12_feed 41 = .ok (.iaload, 1) := by decide +kernel
theorem dX12_feed_42 : decode cX12_feed 42 = .ok (.iadd, 1) := by decide +kernel
theorem dX12_feed_43 : decode cX12_feed 43 = .ok (.iload_n 1, 1) := by decide +kernel
theorem dX12_feed_44 : decode cX12_feed 44 = .ok (.iastore, 1) := by decide +kernel
theorem dX12_feed_45 : decode cX12_feed 45 = .ok (.aload_n 0, 1) := by decide +kernel
theorem dX12_feed_46 : decode cX12_feed 46 = .ok (.getfield 9, 3) := by decide +kernel
theorem dX12_feed_49 : decode cX12_feed 49 = .ok (.bipush 55, 2) := by decide +kernel
theorem dX12_feed_51 : decode cX12_feed 51 = .ok (.dup2, 1) := by decide +kernel
theorem dX12_feed_52 : decode cX12_feed 52 = .ok (.iaload, 1) := by decide +kernel
theorem dX12_feed_53 : decode cX12_feed 53 = .ok (.iconst 1, 1) := by decide +kernel
theorem dX12_feed_54 : decode cX12_feed 54 = .ok (.iadd, 1) := by decide +kernel
theorem dX12_feed_55 : decode cX12_feed 55 = .ok (.iastore, 1) := by decide +kernel
theorem dX12_feed_56 : decode cX12_feed 56 = .ok (.aload_n 0, 1) := by decide +kernel
theorem dX12_feed_57 : decode cX12_feed 57 = .ok (.getfield 9, 3) := by decide +kernel
theorem dX12_feed_60 : decode cX12_feed 60 = .ok (.bipush 55, 2) := by decide +kernel
theorem dX12_feed_62 : decode cX12_feed 62 = .ok (.iaload, 1) := by decide +kernel
theorem dX12_feed_63 : decode cX12_feed 63 = .ok (.ireturn, 1) := by decide +kernel
theorem dX12_here_0 : decode cX12_here 0 = .ok (.aload_n 0, 1) := by decide +kernel
theorem dX12_here_1 : decode cX12_here 1 = .ok (.getfield 54, 3) := by decide +kernel
theorem dX12_here_4 : decode cX12_here 4 = .ok (.aload_n 0, 1) := by decide +kernel
theorem dX12_here_5 : decode cX12_here 5 = .ok (.getfield 57, 3) := by decide +kernel
theorem dX12_here_8 : decode cX12_here 8 = .ok (.if_icmp .ge 19, 3) := by decide +kernel
theorem dX12_here_11 : decode cX12_here 11 = .ok (.aload_n 0, 1) := by decide +kernel
theorem dX12_here_12 : decode cX12_here 12 = .ok (.getfield 9, 3) := by decide +kernel
theorem dX12_here_15 : decode cX12_here 15 = .ok (.sipush 132, 3) := by decide +kernel
theorem dX12_here_18 : decode cX12_here 18 = .ok (.aload_n 0, 1) := by decide +kernel
theorem dX12_here_19 : decode cX12_here 19 = .ok (.getfield 54, 3) := by decide +kernel
theorem dX12_here_22 : decode cX12_here 22 = .ok (.iadd, 1) := by decide +kernel
theorem dX12_here_23 : decode cX12_here 23 = .ok (.iaload, 1) := by decide +kernel
theorem dX12_here_24 : decode cX12_here 24 = .ok (.goto 4, 3) := by decide +kernel
theorem dX12_here_27 : decode cX12_here 27 = .ok (.iconst (-1), 1) := by decide +kernel
theorem dX12_here_28 : decode cX12_here 28 = .ok (.ireturn, 1) := by decide +kernel
theorem dX12_must_0 : decode cX12_must 0 = .ok (.aload_n 0, 1) := by decide +kernel
theorem dX12_must_1 : decode cX12_must 1 = .ok (.aload_n 0, 1) := by decide +kernel
theorem dX12_must_2 : decode cX12_must 2 = .ok (.getfield 60, 3) := by decide +kernel
theorem dX12_must_5 : decode cX12_must 5 = .ok (.ifCond .ne 11, 3) := by decide +kernel
theorem dX12_must_8 : decode cX12_must 8 = .ok (.aload_n 0, 1) := by decide +kernel
theorem dX12_must_9 : decode cX12_must 9 = .ok (.invokevirtual 64, 3) := by decide +kernel
theorem dX12_must_12 : decode cX12_must 12 = .ok (.iload_n 1, 1) := by decide +kernel
theorem dX12_must_13 : decode cX12_must 13 = .ok (.if_icmp .eq 7, 3) := by decide +kernel
theorem dX12_must_16 : decode cX12_must 16 = .ok (.iconst 1, 1) := by decide +kernel
theorem dX12_must_17 : decode cX12_must 17 = .ok (.goto 4, 3) := by decide +kernel
theorem dX12_must_20 : decode cX12_must 20 = .ok (.iconst 0, 1) := by decide +kernel
theorem dX12_must_21 : decode cX12_must 21 = .ok (.putfield 60, 3) := by decide +kernel
theorem dX12_must_24 : decode cX12_must 24 = .ok (.aload_n 0, 1) := by decide +kernel
theorem dX12_must_25 : decode cX12_must 25 = .ok (.dup, 1) := by decide +kernel
theorem dX12_must_26 : decode cX12_must 26 = .ok (.getfield 54, 3) := by decide +kernel
theorem dX12_must_29 : decode cX12_must 29 = .ok (.aload_n 0, 1) := by decide +kernel
theorem dX12_must_30 : decode cX12_must 30 = .ok (.getfield 60, 3) := by decide +kernel
theorem dX12_must_33 : decode cX12_must 33 = .ok (.ifCond .eq 7, 3) := by decide +kernel
theorem dX12_must_36 : decode cX12_must 36 = .ok (.iconst 0, 1) := by decide +kernel
theorem dX12_must_37 : decode cX12_must 37 = .ok (.goto 4, 3) := by decide +kernel
theorem dX12_must_40 : decode cX12_must 40 = .ok (.iconst 1, 1) := by decide +kernel
theorem dX12_must_41 : decode cX12_must 41 = .ok (.iadd, 1) := by decide +kernel
theorem dX12_must_42 : decode cX12_must 42 = .ok (.putfield 54, 3) := by decide +kernel
theorem dX12_must_45 : decode cX12_must 45 = .ok (.return_, 1) := by decide +kernel
theorem dX12_spells_0 : decode cX12_spells 0 = .ok (.iconst 0, 1) := by decide +kernel
theorem dX12_spells_1 : decode cX12_spells 1 = .ok (.istore_n 2, 1) := by decide +kernel
theorem dX12_spells_2 : decode cX12_spells 2 = .ok (.iload_n 2, 1) := by decide +kernel
theorem dX12_spells_3 : decode cX12_spells 3 = .ok (.aload_n 1, 1) := by decide +kernel
theorem dX12_spells_4 : decode cX12_spells 4 = .ok (.invokevirtual 68, 3) := by decide +kernel
theorem dX12_spells_7 : decode cX12_spells 7 = .ok (.if_icmp .ge 18, 3) := by decide +kernel
theorem dX12_spells_10 : decode cX12_spells 10 = .ok (.aload_n 0, 1) := by decide +kernel
theorem dX12_spells_11 : decode cX12_spells 11 = .ok (.aload_n 1, 1) := by decide +kernel
theorem dX12_spells_12 : decode cX12_spells 12 = .ok (.iload_n 2, 1) := by decide +kernel
theorem dX12_spells_13 : decode cX12_spells 13 = .ok (.invokevirtual 73, 3) := by decide +kernel
theorem dX12_spells_16 : decode cX12_spells 16 = .ok (.invokevirtual 77, 3) := by decide +kernel
theorem dX12_spells_19 : decode cX12_spells 19 = .ok (.iinc 2 1, 3) := by decide +kernel
theorem dX12_spells_22 : decode cX12_spells 22 = .ok (.goto (-20), 3) := by decide +kernel
theorem dX12_spells_25 : decode cX12_spells 25 = .ok (.return_, 1) := by decide +kernel
theorem dX12_figures_0 : decode cX12_figures 0 = .ok (.aload_n 0, 1) := by decide +kernel
theorem dX12_figures_1 : decode cX12_figures 1 = .ok (.aload_n 0, 1) := by decide +kernel
theorem dX12_figures_2 : decode cX12_figures 2 = .ok (.getfield 60, 3) := by decide +kernel
theorem dX12_figures_5 : decode cX12_figures 5 = .ok (.ifCond .ne 17, 3) := by decide +kernel
theorem dX12_figures_8 : decode cX12_figures 8 = .ok (.aload_n 0, 1) := by decide +kernel
theorem dX12_figures_9 : decode cX12_figures 9 = .ok (.invokevirtual 64, 3) := by decide +kernel
theorem dX12_figures_12 : decode cX12_figures 12 = .ok (.bipush 48, 2) := by decide +kernel
theorem dX12_figures_14 : decode cX12_figures 14 = .ok (.bipush 57, 2) := by decide +kernel
theorem dX12_figures_16 : decode cX12_figures 16 = .ok (.invokestatic 50, 3) := by decide +kernel
theorem dX12_figures_19 : decode cX12_figures 19 = .ok (.ifCond .ne 7, 3) := by decide +kernel
theorem dX12_figures_22 : decode cX12_figures 22 = .ok (.iconst 1, 1) := by decide +kernel
theorem dX12_figures_23 : decode cX12_figures 23 = .ok (.goto 4, 3) := by decide +kernel
theorem dX12_figures_26 : decode cX12_figures 26 = .ok (.iconst 0, 1) := by decide +kernel
theorem dX12_figures_27 : decode cX12_figures 27 = .ok (.putfield 60, 3) := by decide +kernel
theorem dX12_figures_30 : decode cX12_figures 30 = .ok (.iconst 0, 1) := by decide +kernel
theorem dX12_figures_31 : decode cX12_figures 31 = .ok (.istore_n 1, 1) := by decide +kernel
theorem dX12_figures_32 : decode cX12_figures 32 = .ok (.iconst 0, 1) := by decide +kernel
theorem dX12_figures_33 : decode cX12_figures 33 = .ok (.istore_n 2, 1) := by decide +kernel
theorem dX12_figures_34 : decode cX12_figures 34 = .ok (.iload_n 2, 1) := by decide +kernel
theorem dX12_figures_35 : decode cX12_figures 35 = .ok (.iconst 2, 1) := by decide +kernel
theorem dX12_figures_36 : decode cX12_figures 36 = .ok (.if_icmp .ge 61, 3) := by decide +kernel
theorem dX12_figures_39 : decode cX12_figures 39 = .ok (.aload_n 0, 1) := by decide +kernel
theorem dX12_figures_40 : decode cX12_figures 40 = .ok (.getfield 60, 3) := by decide +kernel
theorem dX12_figures_43 : decode cX12_figures 43 = .ok (.ifCond .ne 54, 3) := by decide +kernel
theorem dX12_figures_46 : decode cX12_figures 46 = .ok (.aload_n 0, 1) := by decide +kernel
theorem dX12_figures_47 : decode cX12_figures 47 = .ok (.invokevirtual 64, 3) := by decide +kernel
theorem dX12_figures_50 : decode cX12_figures 50 = .ok (.bipush 48, 2) := by decide +kernel
theorem dX12_figures_52 : decode cX12_figures 52 = .ok (.bipush 57, 2) := by decide +kernel
theorem dX12_figures_54 : decode cX12_figures 54 = .ok (.invokestatic 50, 3) := by decide +kernel
theorem dX12_figures_57 : decode cX12_figures 57 = .ok (.ifCond .eq 40, 3) := by decide +kernel
theorem dX12_figures_60 : decode cX12_figures 60 = .ok (.iload_n 2, 1) := by decide +kernel
theorem dX12_figures_61 : decode cX12_figures 61 = .ok (.ifCond .eq 7, 3) := by decide +kernel
theorem dX12_figures_64 : decode cX12_figures 64 = .ok (.iload_n 1, 1) := by decide +kernel
theorem dX12_figures_65 : decode cX12_figures 65 = .ok (.ifCond .le 32, 3) := by decide +kernel
theorem dX12_figures_68 : decode cX12_figures 68 = .ok (.bipush 10, 2) := by decide +kernel
theorem dX12_figures_70 : decode cX12_figures 70 = .ok (.iload_n 1, 1) := by decide +kernel
theorem dX12_figures_71 : decode cX12_figures 71 = .ok (.imul, 1) := by decide +kernel
theorem dX12_figures_72 : decode cX12_figures 72 = .ok (.aload_n 0, 1) := by decide +kernel
theorem dX12_figures_73 : decode cX12_figures 73 = .ok (.invokevirtual 64, 3) := by decide +kernel
theorem dX12_figures_76 : decode cX12_figures 76 = .ok (.iadd, 1) := by decide +kernel
theorem dX12_figures_77 : decode cX12_figures 77 = .ok (.bipush 48, 2) := by decide +kernel
theorem dX12_figures_79 : decode cX12_figures 79 = .ok (.isub, 1) := by decide +kernel
theorem dX12_figures_80 : decode cX12_figures 80 = .ok (.istore_n 1, 1) := by decide +kernel
theorem dX12_figures_81 : decode cX12_figures 81 = .ok (.aload_n 0, 1) := by decide +kernel
theorem dX12_figures_82 : decode cX12_figures 82 = .ok (.dup, 1) := by decide +kernel
theorem dX12_figures_83 : decode cX12_figures 83 = .ok (.getfield 54, 3) := by decide +kernel
theorem dX12_figures_86 : decode cX12_figures 86 = .ok (.iconst 1, 1) := by decide +kernel
theorem dX12_figures_87 : decode cX12_figures 87 = .ok (.iadd, 1) := by decide +kernel
theorem dX12_figures_88 : decode cX12_figures 88 = .ok (.putfield 54, 3) := by decide +kernel
theorem dX12_figures_91 : decode cX12_figures 91 = .ok (.iinc 2 1, 3) := by decide +kernel
theorem dX12_figures_94 : decode cX12_figures 94 = .ok (.goto (-60), 3) := by decide +kernel
theorem dX12_figures_97 : decode cX12_figures 97 = .ok (.iload_n 1, 1) := by decide +kernel
theorem dX12_figures_98 : decode cX12_figures 98 = .ok (.ireturn, 1) := by decide +kernel
theorem dX12_among_0 : decode cX12_among 0 = .ok (.iconst 0, 1) := by decide +kernel
theorem dX12_among_1 : decode cX12_among 1 = .ok (.istore_n 2, 1) := by decide +kernel
theorem dX12_among_2 : decode cX12_among 2 = .ok (.iload_n 2, 1) := by decide +kernel
theorem dX12_among_3 : decode cX12_among 3 = .ok (.aload_n 1, 1) := by decide +kernel
theorem dX12_among_4 : decode cX12_among 4 = .ok (.invokevirtual 68, 3) := by decide +kernel
theorem dX12_among_7 : decode cX12_among 7 = .ok (.if_icmp .ge 33, 3) := by decide +kernel
theorem dX12_among_10 : decode cX12_among 10 = .ok (.aload_n 0, 1) := by decide +kernel
theorem dX12_among_11 : decode cX12_among 11 = .ok (.invokevirtual 64, 3) := by decide +kernel
theorem dX12_among_14 : decode cX12_among 14 = .ok (.aload_n 1, 1) := by decide +kernel
theorem dX12_among_15 : decode cX12_among 15 = .ok (.iload_n 2, 1) := by decide +kernel
theorem dX12_among_16 : decode cX12_among 16 = .ok (.invokevirtual 73, 3) := by decide +kernel
theorem dX12_among_19 : decode cX12_among 19 = .ok (.if_icmp .ne 15, 3) := by decide +kernel
theorem dX12_among_22 : decode cX12_among 22 = .ok (.aload_n 0, 1) := by decide +kernel
theorem dX12_among_23 : decode cX12_among 23 = .ok (.dup, 1) := by decide +kernel
theorem dX12_among_24 : decode cX12_among 24 = .ok (.getfield 54, 3) := by decide +kernel
theorem dX12_among_27 : decode cX12_among 27 = .ok (.iconst 1, 1) := by decide +kernel
theorem dX12_among_28 : decode cX12_among 28 = .ok (.iadd, 1) := by decide +kernel
theorem dX12_among_29 : decode cX12_among 29 = .ok (.putfield 54, 3) := by decide +kernel
theorem dX12_among_32 : decode cX12_among 32 = .ok (.iload_n 2, 1) := by decide +kernel
theorem dX12_among_33 : decode cX12_among 33 = .ok (.ireturn, 1) := by decide +kernel
theorem dX12_among_34 : decode cX12_among 34 = .ok (.iinc 2 1, 3) := by decide +kernel
theorem dX12_among_37 : decode cX12_among 37 = .ok (.goto (-35), 3) := by decide +kernel
theorem dX12_among_40 : decode cX12_among 40 = .ok (.iconst (-1), 1) := by decide +kernel
theorem dX12_among_41 : decode cX12_among 41 = .ok (.ireturn, 1) := by decide +kernel
theorem dX12_emits_0 : decode cX12_emits 0 = .ok (.aload_n 0, 1) := by decide +kernel
theorem dX12_emits_1 : decode cX12_emits 1 = .ok (.getfield 60, 3) := by decide +kernel
theorem dX12_emits_4 : decode cX12_emits 4 = .ok (.ifCond .ne 52, 3) := by decide +kernel
theorem dX12_emits_7 : decode cX12_emits 7 = .ok (.aload_n 0, 1) := by decide +kernel
theorem dX12_emits_8 : decode cX12_emits 8 = .ok (.getfield 9, 3) := by decide +kernel
theorem dX12_emits_11 : decode cX12_emits 11 = .ok (.sipush 252, 3) := by decide +kernel
theorem dX12_emits_14 : decode cX12_emits 14 = .ok (.sipush 140, 3) := by decide +kernel
theorem dX12_emits_17 : decode cX12_emits 17 = .ok (.aload_n 0, 1) := by decide +kernel
theorem dX12_emits_18 : decode cX12_emits 18 = .ok (.getfield 81, 3) := by decide +kernel
theorem dX12_emits_21 : decode cX12_emits 21 = .ok (.imul, 1) := by decide +kernel
theorem dX12_emits_22 : decode cX12_emits 22 = .ok (.iadd, 1) := by decide +kernel
theorem dX12_emits_23 : decode cX12_emits 23 = .ok (.aload_n 0, 1) := by decide +kernel
theorem dX12_emits_24 : decode cX12_emits 24 = .ok (.getfield 9, 3) := by decide +kernel
theorem dX12_emits_27 : decode cX12_emits 27 = .ok (.sipush 247, 3) := by decide +kernel
theorem dX12_emits_30 : decode cX12_emits 30 = .ok (.aload_n 0, 1) := by decide +kernel
theorem dX12_emits_31 : decode cX12_emits 31 = .ok (.getfield 81, 3) := by decide +kernel
theorem dX12_emits_34 : decode cX12_emits 34 = .ok (.iadd, 1) := by decide +kernel
theorem dX12_emits_35 : decode cX12_emits 35 = .ok (.iaload, 1) := by decide +kernel
theorem dX12_emits_36 : decode cX12_emits 36 = .ok (.iadd, 1) := by decide +kernel
theorem dX12_emits_37 : decode cX12_emits 37 = .ok (.iload_n 1, 1) := by decide +kernel
theorem dX12_emits_38 : decode cX12_emits 38 = .ok (.iastore, 1) := by decide +kernel
theorem dX12_emits_39 : decode cX12_emits 39 = .ok (.aload_n 0, 1) := by decide +kernel
theorem dX12_emits_40 : decode cX12_emits 40 = .ok (.getfield 9, 3) := by decide +kernel
theorem dX12_emits_43 : decode cX12_emits 43 = .ok (.sipush 247, 3) := by decide +kernel
theorem dX12_emits_46 : decode cX12_emits 46 = .ok (.aload_n 0, 1) := by decide +kernel
theorem dX12_emits_47 : decode cX12_emits 47 = .ok (.getfield 81, 3) := by decide +kernel
theorem dX12_emits_50 : decode cX12_emits 50 = .ok (.iadd, 1) := by decide +kernel
theorem dX12_emits_51 : decode cX12_emits 51 = .ok (.dup2, 1) := by decide +kernel
theorem dX12_emits_52 : decode cX12_emits 52 = .ok (.iaload, 1) := by decide +kernel
theorem dX12_emits_53 : decode cX12_emits 53 = .ok (.iconst 1, 1) := by decide +kernel
theorem dX12_emits_54 : decode cX12_emits 54 = .ok (.iadd, 1) := by decide +kernel
theorem dX12_emits_55 : decode cX12_emits 55 = .ok (.iastore, 1) := by decide +kernel
theorem dX12_emits_56 : decode cX12_emits 56 = .ok (.return_, 1) := by decide +kernel
theorem dX12_factor_0 : decode cX12_factor 0 = .ok (.aload_n 0, 1) := by decide +kernel
theorem dX12_factor_1 : decode cX12_factor 1 = .ok (.getfield 60, 3) := by decide +kernel
theorem dX12_factor_4 : decode cX12_factor 4 = .ok (.ifCond .eq 4, 3) := by decide +kernel
theorem dX12_factor_7 : decode cX12_factor 7 = .ok (.return_, 1) := by decide +kernel
theorem dX12_factor_8 : decode cX12_factor 8 = .ok (.aload_n 0, 1) := by decide +kernel
theorem dX12_factor_9 : decode cX12_factor 9 = .ok (.invokevirtual 64, 3) := by decide +kernel
theorem dX12_factor_12 : decode cX12_factor 12 = .ok (.istore_n 1, 1) := by decide +kernel
theorem dX12_factor_13 : decode cX12_factor 13 = .ok (.iload_n 1, 1) := by decide +kernel
theorem dX12_factor_14 : decode cX12_factor 14 = .ok (.bipush 33, 2) := by decide +kernel
theorem dX12_factor_16 : decode cX12_factor 16 = .ok (.if_icmp .eq 9, 3) := by decide +kernel
theorem dX12_factor_19 : decode cX12_factor 19 = .ok (.iload_n 1, 1) := by decide +kernel
theorem dX12_factor_20 : decode cX12_factor 20 = .ok (.bipush 40, 2) := by decide +kernel
theorem dX12_factor_22 : decode cX12_factor 22 = .ok (.if_icmp .ne 90, 3) := by decide +kernel
theorem dX12_factor_25 : decode cX12_factor 25 = .ok (.aload_n 0, 1) := by decide +kernel
theorem dX12_factor_26 : decode cX12_factor 26 = .ok (.aload_n 0, 1) := by decide +kernel
theorem dX12_factor_27 : decode cX12_factor 27 = .ok (.getfield 84, 3) := by decide +kernel
theorem dX12_factor_30 : decode cX12_factor 30 = .ok (.iconst 5, 1) := by decide +kernel
theorem dX12_factor_31 : decode cX12_factor 31 = .ok (.if_icmp .ne 7, 3) := by decide +kernel
theorem dX12_factor_34 : decode cX12_factor 34 = .ok (.iconst 1, 1) := by decide +kernel
theorem dX12_factor_35 : decode cX12_factor 35 = .ok (.goto 4, 3) := by decide +kernel
theorem dX12_factor_38 : decode cX12_factor 38 = .ok (.iconst 0, 1) := by decide +kernel
theorem dX12_factor_39 : decode cX12_factor 39 = .ok (.putfield 60, 3) := by decide +kernel
theorem dX12_factor_42 : decode cX12_factor 42 = .ok (.aload_n 0, 1) := by decide +kernel
theorem dX12_factor_43 : decode cX12_factor 43 = .ok (.dup, 1) := by decide +kernel
theorem dX12_factor_44 : decode cX12_factor 44 = .ok (.getfield 84, 3) := by decide +kernel
theorem dX12_factor_47 : decode cX12_factor 47 = .ok (.iconst 1, 1) := by decide +kernel
theorem dX12_factor_48 : decode cX12_factor 48 = .ok (.iadd, 1) := by decide +kernel
theorem dX12_factor_49 : decode cX12_factor 49 = .ok (.putfield 84, 3) := by decide +kernel
theorem dX12_factor_52 : decode cX12_factor 52 = .ok (.aload_n 0, 1) := by decide +kernel
theorem dX12_factor_53 : decode cX12_factor 53 = .ok (.dup, 1) := by decide +kernel
theorem dX12_factor_54 : decode cX12_factor 54 = .ok (.getfield 54, 3) := by decide +kernel
theorem dX12_factor_57 : decode cX12_factor 57 = .ok (.aload_n 0, 1) := by decide +kernel
theorem dX12_factor_58 : decode cX12_factor 58 = .ok (.getfield 60, 3) := by decide +kernel
theorem dX12_factor_61 : decode cX12_factor 61 = .ok (.ifCond .eq 7, 3) := by decide +kernel
theorem dX12_factor_64 : decode cX12_factor 64 = .ok (.iconst 0, 1) := by decide +kernel
theorem dX12_factor_65 : decode cX12_factor 65 = .ok (.goto 4, 3) := by decide +kernel
theorem dX12_factor_68 : decode cX12_factor 68 = .ok (.iconst 1, 1) := by decide +kernel
theorem dX12_factor_69 : decode cX12_factor 69 = .ok (.iadd, 1) := by decide +kernel
theorem dX12_factor_70 : decode cX12_factor 70 = .ok (.putfield 54, 3) := by decide +kernel
theorem dX12_factor_73 : decode cX12_factor 73 = .ok (.iload_n 1, 1) := by decide +kernel
theorem dX12_factor_74 : decode cX12_factor 74 = .ok (.bipush 33, 2) := by decide +kernel
theorem dX12_factor_76 : decode cX12_factor 76 = .ok (.if_icmp .ne 15, 3) := by decide +kernel
theorem dX12_factor_79 : decode cX12_factor 79 = .ok (.aload_n 0, 1) := by decide +kernel
theorem dX12_factor_80 : decode cX12_factor 80 = .ok (.invokevirtual 87, 3) := by decide +kernel
theorem dX12_factor_83 : decode cX12_factor 83 = .ok (.aload_n 0, 1) := by decide +kernel
theorem dX12_factor_84 : decode cX12_factor 84 = .ok (.iconst (-1), 1) := by decide +kernel
theorem dX12_factor_85 : decode cX12_factor 85 = .ok (.invokevirtual 90, 3) := by decide +kernel
theorem dX12_factor_88 : decode cX12_factor 88 = .ok (.goto 13, 3) := by decide +kernel
theorem dX12_factor_91 : decode cX12_factor 91 = .ok (.aload_n 0, 1) := by decide +kernel
theorem dX12_factor_92 : decode cX12_factor 92 = .ok (.invokevirtual 93, 3) := by decide +kernel
theorem dX12_factor_95 : decode cX12_factor 95 = .ok (.aload_n 0, 1) := by decide +kernel
theorem dX12_factor_96 : decode cX12_factor 96 = .ok (.bipush 41, 2) := by decide +kernel
theorem dX12_factor_98 : decode cX12_factor 98 = .ok (.invokevirtual 77, 3) := by decide +kernel
theorem dX12_factor_101 : decode cX12_factor 101 = .ok (.aload_n 0, 1) := by decide +kernel
theorem dX12_factor_102 : decode cX12_factor 102 = .ok (.dup, 1) := by decide +kernel
theorem dX12_factor_103 : decode cX12_factor 103 = .ok (.getfield 84, 3) := by decide +kernel
theorem dX12_factor_106 : decode cX12_factor 106 = .ok (.iconst 1, 1) := by decide +kernel
theorem dX12_factor_107 : decode cX12_factor 107 = .ok (.isub, 1) := by decide +kernel
theorem dX12_factor_108 : decode cX12_factor 108 = .ok (.putfield 84, 3) := by decide +kernel
theorem dX12_factor_111 : decode cX12_factor 111 = .ok (.return_, 1) := by decide +kernel
theorem dX12_factor_112 : decode cX12_factor 112 = .ok (.aload_n 0, 1) := by decide +kernel
theorem dX12_factor_113 : decode cX12_factor 113 = .ok (.ldc 96, 2) := by decide +kernel
theorem dX12_factor_115 : decode cX12_factor 115 = .ok (.invokevirtual 98, 3) := by decide +kernel
theorem dX12_factor_118 : decode cX12_factor 118 = .ok (.istore_n 2, 1) := by decide +kernel
theorem dX12_factor_119 : decode cX12_factor 119 = .ok (.aload_n 0, 1) := by decide +kernel
theorem dX12_factor_120 : decode cX12_factor 120 = .ok (.iload_n 2, 1) := by decide +kernel
theorem dX12_factor_121 : decode cX12_factor 121 = .ok (.iconst (-1), 1) := by decide +kernel
theorem dX12_factor_122 : decode cX12_factor 122 = .ok (.if_icmp .ne 7, 3) := by decide +kernel
theorem dX12_factor_125 : decode cX12_factor 125 = .ok (.iconst 1, 1) := by decide +kernel
theorem dX12_factor_126 : decode cX12_factor 126 = .ok (.goto 4, 3) := by decide +kernel
theorem dX12_factor_129 : decode cX12_factor 129 = .ok (.iconst 0, 1) := by decide +kernel
theorem dX12_factor_130 : decode cX12_factor 130 = .ok (.putfield 60, 3) := by decide +kernel
theorem dX12_factor_133 : decode cX12_factor 133 = .ok (.aload_n 0, 1) := by decide +kernel
theorem dX12_factor_134 : decode cX12_factor 134 = .ok (.getfield 60, 3) := by decide +kernel
theorem dX12_factor_137 : decode cX12_factor 137 = .ok (.ifCond .eq 7, 3) := by decide +kernel
theorem dX12_factor_140 : decode cX12_factor 140 = .ok (.iconst 0, 1) := by decide +kernel
theorem dX12_factor_141 : decode cX12_factor 141 = .ok (.goto 9, 3) := by decide +kernel
theorem dX12_factor_144 : decode cX12_factor 144 = .ok (.aload_n 0, 1) := by decide +kernel
theorem dX12_factor_145 : decode cX12_factor 145 = .ok (.ldc 102, 2) := by decide +kernel
theorem dX12_factor_147 : decode cX12_factor 147 = .ok (.invokevirtual 98, 3) := by decide +kernel
theorem dX12_factor_150 : decode cX12_factor 150 = .ok (.istore_n 3, 1) := by decide +kernel
theorem dX12_factor_151 : decode cX12_factor 151 = .ok (.aload_n 0, 1) := by decide +kernel
theorem dX12_factor_152 : decode cX12_factor 152 = .ok (.aload_n 0, 1) := by decide +kernel
theorem dX12_factor_153 : decode cX12_factor 153 = .ok (.getfield 60, 3) := by decide +kernel
theorem dX12_factor_156 : decode cX12_factor 156 = .ok (.ifCond .ne 8, 3) := by decide +kernel
theorem dX12_factor_159 : decode cX12_factor 159 = .ok (.iload_n 3, 1) := by decide +kernel
theorem dX12_factor_160 : decode cX12_factor 160 = .ok (.iconst (-1), 1) := by decide +kernel
theorem dX12_factor_161 : decode cX12_factor 161 = .ok (.if_icmp .ne 7, 3) := by decide +kernel
theorem dX12_factor_164 : decode cX12_factor 164 = .ok (.iconst 1, 1) := by decide +kernel
theorem dX12_factor_165 : decode cX12_factor 165 = .ok (.goto 4, 3) := by decide +kernel
theorem dX12_factor_168 : decode cX12_factor 168 = .ok (.iconst 0, 1) := by decide +kernel
theorem dX12_factor_169 : decode cX12_factor 169 = .ok (.putfield 60, 3) := by decide +kernel
theorem dX12_factor_172 : decode cX12_factor 172 = .ok (.aload_n 0, 1) := by decide +kernel
theorem dX12_factor_173 : decode cX12_factor 173 = .ok (.invokevirtual 104, 3) := by decide +kernel
theorem dX12_factor_176 : decode cX12_factor 176 = .ok (.istore 4, 2) := by decide +kernel
theorem dX12_factor_178 : decode cX12_factor 178 = .ok (.aload_n 0, 1) := by decide +kernel
theorem dX12_factor_179 : decode cX12_factor 179 = .ok (.iload_n 2, 1) := by decide +kernel
theorem dX12_factor_180 : decode cX12_factor 180 = .ok (.bipush 8, 2) := by decide +kernel
theorem dX12_factor_182 : decode cX12_factor 182 = .ok (.iload_n 3, 1) := by decide +kernel
theorem dX12_factor_183 : decode cX12_factor 183 = .ok (.imul, 1) := by decide +kernel
theorem dX12_factor_184 : decode cX12_factor 184 = .ok (.iadd, 1) := by decide +kernel
theorem dX12_factor_185 : decode cX12_factor 185 = .ok (.bipush 32, 2) := by decide +kernel
theorem dX12_factor_187 : decode cX12_factor 187 = .ok (.iload 4, 2) := by decide +kernel
theorem dX12_factor_189 : decode cX12_factor 189 = .ok (.imul, 1) := by decide +kernel
theorem dX12_factor_190 : decode cX12_factor 190 = .ok (.iadd, 1) := by decide +kernel
theorem dX12_factor_191 : decode cX12_factor 191 = .ok (.invokevirtual 90, 3) := by decide +kernel
theorem dX12_factor_194 : decode cX12_factor 194 = .ok (.return_, 1) := by decide +kernel
theorem dX12_every_0 : decode cX12_every 0 = .ok (.aload_n 0, 1) := by decide +kernel
theorem dX12_every_1 : decode cX12_every 1 = .ok (.invokevirtual 87, 3) := by decide +kernel
theorem dX12_every_4 : decode cX12_every 4 = .ok (.aload_n 0, 1) := by decide +kernel
theorem dX12_every_5 : decode cX12_every 5 = .ok (.getfield 60, 3) := by decide +kernel
theorem dX12_every_8 : decode cX12_every 8 = .ok (.ifCond .ne 35, 3) := by decide +kernel
theorem dX12_every_11 : decode cX12_every 11 = .ok (.aload_n 0, 1) := by decide +kernel
theorem dX12_every_12 : decode cX12_every 12 = .ok (.invokevirtual 64, 3) := by decide +kernel
theorem dX12_every_15 : decode cX12_every 15 = .ok (.bipush 38, 2) := by decide +kernel
theorem dX12_every_17 : decode cX12_every 17 = .ok (.if_icmp .ne 26, 3) := by decide +kernel
theorem dX12_every_20 : decode cX12_every 20 = .ok (.aload_n 0, 1) := by decide +kernel
theorem dX12_every_21 : decode cX12_every 21 = .ok (.dup, 1) := by decide +kernel
theorem dX12_every_22 : decode cX12_every 22 = .ok (.getfield 54, 3) := by decide +kernel
theorem dX12_every_25 : decode cX12_every 25 = .ok (.iconst 1, 1) := by decide +kernel
theorem dX12_every_26 : decode cX12_every 26 = .ok (.iadd, 1) := by decide +kernel
theorem dX12_every_27 : decode cX12_every 27 = .ok (.putfield 54, 3) := by decide +kernel
theorem dX12_every_30 : decode cX12_every 30 = .ok (.aload_n 0, 1) := by decide +kernel
theorem dX12_every_31 : decode cX12_every 31 = .ok (.invokevirtual 87, 3) := by decide +kernel
theorem dX12_every_34 : decode cX12_every 34 = .ok (.aload_n 0, 1) := by decide +kernel
theorem dX12_every_35 : decode cX12_every 35 = .ok (.bipush (-2), 2) := by decide +kernel
theorem dX12_every_37 : decode cX12_every 37 = .ok (.invokevirtual 90, 3) := by decide +kernel
theorem dX12_every_40 : decode cX12_every 40 = .ok (.goto (-36), 3) := by decide +kernel
theorem dX12_every_43 : decode cX12_every 43 = .ok (.return_, 1) := by decide +kernel
theorem dX12_some_0 : decode cX12_some 0 = .ok (.aload_n 0, 1) := by decide +kernel
theorem dX12_some_1 : decode cX12_some 1 = .ok (.invokevirtual 107, 3) := by decide +kernel
theorem dX12_some_4 : decode cX12_some 4 = .ok (.aload_n 0, 1) := by decide +kernel
theorem dX12_some_5 : decode cX12_some 5 = .ok (.getfield 60, 3) := by decide +kernel
theorem dX12_some_8 : decode cX12_some 8 = .ok (.ifCond .ne 35, 3) := by decide +kernel
theorem dX12_some_11 : decode cX12_some 11 = .ok (.aload_n 0, 1) := by decide +kernel
theorem dX12_some_12 : decode cX12_some 12 = .ok (.invokevirtual 64, 3) := by decide +kernel
theorem dX12_some_15 : decode cX12_some 15 = .ok (.bipush 124, 2) := by decide +kernel
theorem dX12_some_17 : decode cX12_some 17 = .ok (.if_icmp .ne 26, 3) := by decide +kernel
theorem dX12_some_20 : decode cX12_some 20 = .ok (.aload_n 0, 1) := by decide +kernel
theorem dX12_some_21 : decode cX12_some 21 = .ok (.dup, 1) := by decide +kernel
theorem dX12_some_22 : decode cX12_some 22 = .ok (.getfield 54, 3) := by decide +kernel
theorem dX12_some_25 : decode cX12_some 25 = .ok (.iconst 1, 1) := by decide +kernel
theorem dX12_some_26 : decode cX12_some 26 = .ok (.iadd, 1) := by decide +kernel
theorem dX12_some_27 : decode cX12_some 27 = .ok (.putfield 54, 3) := by decide +kernel
theorem dX12_some_30 : decode cX12_some 30 = .ok (.aload_n 0, 1) := by decide +kernel
theorem dX12_some_31 : decode cX12_some 31 = .ok (.invokevirtual 107, 3) := by decide +kernel
theorem dX12_some_34 : decode cX12_some 34 = .ok (.aload_n 0, 1) := by decide +kernel
theorem dX12_some_35 : decode cX12_some 35 = .ok (.bipush (-3), 2) := by decide +kernel
theorem dX12_some_37 : decode cX12_some 37 = .ok (.invokevirtual 90, 3) := by decide +kernel
theorem dX12_some_40 : decode cX12_some 40 = .ok (.goto (-36), 3) := by decide +kernel
theorem dX12_some_43 : decode cX12_some 43 = .ok (.return_, 1) := by decide +kernel
theorem dX12_much_0 : decode cX12_much 0 = .ok (.aload_n 0, 1) := by decide +kernel
theorem dX12_much_1 : decode cX12_much 1 = .ok (.aload_n 2, 1) := by decide +kernel
theorem dX12_much_2 : decode cX12_much 2 = .ok (.invokevirtual 110, 3) := by decide +kernel
theorem dX12_much_5 : decode cX12_much 5 = .ok (.aload_n 0, 1) := by decide +kernel
theorem dX12_much_6 : decode cX12_much 6 = .ok (.invokevirtual 104, 3) := by decide +kernel
theorem dX12_much_9 : decode cX12_much 9 = .ok (.istore_n 3, 1) := by decide +kernel
theorem dX12_much_10 : decode cX12_much 10 = .ok (.aload_n 0, 1) := by decide +kernel
theorem dX12_much_11 : decode cX12_much 11 = .ok (.bipush 32, 2) := by decide +kernel
theorem dX12_much_13 : decode cX12_much 13 = .ok (.invokevirtual 77, 3) := by decide +kernel
theorem dX12_much_16 : decode cX12_much 16 = .ok (.aload_n 0, 1) := by decide +kernel
theorem dX12_much_17 : decode cX12_much 17 = .ok (.invokevirtual 93, 3) := by decide +kernel
theorem dX12_much_20 : decode cX12_much 20 = .ok (.aload_n 0, 1) := by decide +kernel
theorem dX12_much_21 : decode cX12_much 21 = .ok (.iload_n 1, 1) := by decide +kernel
theorem dX12_much_22 : decode cX12_much 22 = .ok (.iload_n 3, 1) := by decide +kernel
theorem dX12_much_23 : decode cX12_much 23 = .ok (.isub, 1) := by decide +kernel
theorem dX12_much_24 : decode cX12_much 24 = .ok (.invokevirtual 90, 3) := by decide +kernel
theorem dX12_much_27 : decode cX12_much 27 = .ok (.return_, 1) := by decide +kernel
theorem dX12_tellsHere_0 : decode cX12_tellsHere 0 = .ok (.aload_n 0, 1) := by decide +kernel
theorem dX12_tellsHere_1 : decode cX12_tellsHere 1 = .ok (.aload_n 2, 1) := by decide +kernel
theorem dX12_tellsHere_2 : decode cX12_tellsHere 2 = .ok (.invokevirtual 110, 3) := by decide +kernel
theorem dX12_tellsHere_5 : decode cX12_tellsHere 5 = .ok (.aload_n 0, 1) := by decide +kernel
theorem dX12_tellsHere_6 : decode cX12_tellsHere 6 = .ok (.invokevirtual 104, 3) := by decide +kernel
theorem dX12_tellsHere_9 : decode cX12_tellsHere 9 = .ok (.istore_n 3, 1) := by decide +kernel
theorem dX12_tellsHere_10 : decode cX12_tellsHere 10 = .ok (.aload_n 0, 1) := by decide +kernel
theorem dX12_tellsHere_11 : decode cX12_tellsHere 11 = .ok (.getfield 60, 3) := by decide +kernel
theorem dX12_tellsHere_14 : decode cX12_tellsHere 14 = .ok (.ifCond .ne 15, 3) := by decide +kernel
theorem dX12_tellsHere_17 : decode cX12_tellsHere 17 = .ok (.aload_n 0, 1) := by decide +kernel
theorem dX12_tellsHere_18 : decode cX12_tellsHere 18 = .ok (.getfield 9, 3) := by decide +kernel
theorem dX12_tellsHere_21 : decode cX12_tellsHere 21 = .ok (.iload_n 1, 1) := by decide +kernel
theorem dX12_tellsHere_22 : decode cX12_tellsHere 22 = .ok (.aload_n 0, 1) := by decide +kernel
theorem dX12_tellsHere_23 : decode cX12_tellsHere 23 = .ok (.getfield 81, 3) := by decide +kernel
theorem dX12_tellsHere_26 : decode cX12_tellsHere 26 = .ok (.iadd, 1) := by decide +kernel
theorem dX12_tellsHere_27 : decode cX12_tellsHere 27 = .ok (.iload_n 3, 1) := by decide +kernel
theorem dX12_tellsHere_28 : decode cX12_tellsHere 28 = .ok (.iastore, 1) := by decide +kernel
theorem dX12_tellsHere_29 : decode cX12_tellsHere 29 = .ok (.return_, 1) := by decide +kernel
theorem dX12_clauseHere_0 : decode cX12_clauseHere 0 = .ok (.aload_n 0, 1) := by decide +kernel
theorem dX12_clauseHere_1 : decode cX12_clauseHere 1 = .ok (.invokevirtual 64, 3) := by decide +kernel
theorem dX12_clauseHere_4 : decode cX12_clauseHere 4 = .ok (.tableswitch 119 102 112 #[83, 119, 119, 119, 119, 119, 71, 60, 119, 95, 107], 60) := by decide +kernel
theorem dX12_clauseHere_64 : decode cX12_clauseHere 64 = .ok (.aload_n 0, 1) := by decide +kernel
theorem dX12_clauseHere_65 : decode cX12_clauseHere 65 = .ok (.bipush (-10), 2) := by decide +kernel
theorem dX12_clauseHere_67 : decode cX12_clauseHere 67 = .ok (.ldc 114, 2) := by decide +kernel
theorem dX12_clauseHere_69 : decode cX12_clauseHere 69 = .ok (.invokevirtual 116, 3) := by decide +kernel
theorem dX12_clauseHere_72 : decode cX12_clauseHere 72 = .ok (.goto 56, 3) := by decide +kernel
theorem dX12_clauseHere_75 : decode cX12_clauseHere 75 = .ok (.aload_n 0, 1) := by decide +kernel
theorem dX12_clauseHere_76 : decode cX12_clauseHere 76 = .ok (.sipush (-200), 3) := by decide +kernel
theorem dX12_clauseHere_79 : decode cX12_clauseHere 79 = .ok (.ldc 120, 2) := by decide +kernel
theorem dX12_clauseHere_81 : decode cX12_clauseHere 81 = .ok (.invokevirtual 116, 3) := by decide +kernel
theorem dX12_clauseHere_84 : decode cX12_clauseHere 84 = .ok (.goto 44, 3) := by decide +kernel
theorem dX12_clauseHere_87 : decode cX12_clauseHere 87 = .ok (.aload_n 0, 1) := by decide +kernel
theorem dX12_clauseHere_88 : decode cX12_clauseHere 88 = .ok (.sipush 232, 3) := by decide +kernel
theorem dX12_clauseHere_91 : decode cX12_clauseHere 91 = .ok (.ldc 122, 2) := by decide +kernel
theorem dX12_clauseHere_93 : decode cX12_clauseHere 93 = .ok (.invokevirtual 124, 3) := by decide +kernel
theorem dX12_clauseHere_96 : decode cX12_clauseHere 96 = .ok (.goto 32, 3) := by decide +kernel
theorem dX12_clauseHere_99 : decode cX12_clauseHere 99 = .ok (.aload_n 0, 1) := by decide +kernel
theorem dX12_clauseHere_100 : decode cX12_clauseHere 100 = .ok (.sipush 237, 3) := by decide +kernel
theorem dX12_clauseHere_103 : decode cX12_clauseHere 103 = .ok (.ldc 127, 2) := by decide +kernel
theorem dX12_clauseHere_105 : decode cX12_clauseHere 105 = .ok (.invokevirtual 124, 3) := by decide +kernel
theorem dX12_clauseHere_108 : decode cX12_clauseHere 108 = .ok (.goto 20, 3) := by decide +kernel
theorem dX12_clauseHere_111 : decode cX12_clauseHere 111 = .ok (.aload_n 0, 1) := by decide +kernel
theorem dX12_clauseHere_112 : decode cX12_clauseHere 112 = .ok (.sipush 242, 3) := by decide +kernel
theorem dX12_clauseHere_115 : decode cX12_clauseHere 115 = .ok (.ldc 129, 2) := by decide +kernel
theorem dX12_clauseHere_117 : decode cX12_clauseHere 117 = .ok (.invokevirtual 124, 3) := by decide +kernel
theorem dX12_clauseHere_120 : decode cX12_clauseHere 120 = .ok (.goto 8, 3) := by decide +kernel
theorem dX12_clauseHere_123 : decode cX12_clauseHere 123 = .ok (.aload_n 0, 1) := by decide +kernel
theorem dX12_clauseHere_124 : decode cX12_clauseHere 124 = .ok (.iconst 1, 1) := by decide +kernel
theorem dX12_clauseHere_125 : decode cX12_clauseHere 125 = .ok (.putfield 60, 3) := by decide +kernel
theorem dX12_clauseHere_128 : decode cX12_clauseHere 128 = .ok (.return_, 1) := by decide +kernel
theorem dX12_house_0 : decode cX12_house 0 = .ok (.aload_n 0, 1) := by decide +kernel
theorem dX12_house_1 : decode cX12_house 1 = .ok (.getfield 9, 3) := by decide +kernel
theorem dX12_house_4 : decode cX12_house 4 = .ok (.bipush 53, 2) := by decide +kernel
theorem dX12_house_6 : decode cX12_house 6 = .ok (.iaload, 1) := by decide +kernel
theorem dX12_house_7 : decode cX12_house 7 = .ok (.iconst 5, 1) := by decide +kernel
theorem dX12_house_8 : decode cX12_house 8 = .ok (.if_icmp .ne 6, 3) := by decide +kernel
theorem dX12_house_11 : decode cX12_house 11 = .ok (.bipush (-4), 2) := by decide +kernel
theorem dX12_house_13 : decode cX12_house 13 = .ok (.ireturn, 1) := by decide +kernel
theorem dX12_house_14 : decode cX12_house 14 = .ok (.aload_n 0, 1) := by decide +kernel
theorem dX12_house_15 : decode cX12_house 15 = .ok (.aload_n 0, 1) := by decide +kernel
theorem dX12_house_16 : decode cX12_house 16 = .ok (.getfield 9, 3) := by decide +kernel
theorem dX12_house_19 : decode cX12_house 19 = .ok (.bipush 53, 2) := by decide +kernel
theorem dX12_house_21 : decode cX12_house 21 = .ok (.iaload, 1) := by decide +kernel
theorem dX12_house_22 : decode cX12_house 22 = .ok (.putfield 81, 3) := by decide +kernel
theorem dX12_house_25 : decode cX12_house 25 = .ok (.aload_n 0, 1) := by decide +kernel
theorem dX12_house_26 : decode cX12_house 26 = .ok (.aload_n 0, 1) := by decide +kernel
theorem dX12_house_27 : decode cX12_house 27 = .ok (.getfield 9, 3) := by decide +kernel
theorem dX12_house_30 : decode cX12_house 30 = .ok (.bipush 55, 2) := by decide +kernel
theorem dX12_house_32 : decode cX12_house 32 = .ok (.iaload, 1) := by decide +kernel
theorem dX12_house_33 : decode cX12_house 33 = .ok (.putfield 57, 3) := by decide +kernel
theorem dX12_house_36 : decode cX12_house 36 = .ok (.aload_n 0, 1) := by decide +kernel
theorem dX12_house_37 : decode cX12_house 37 = .ok (.getfield 9, 3) := by decide +kernel
theorem dX12_house_40 : decode cX12_house 40 = .ok (.bipush 55, 2) := by decide +kernel
theorem dX12_house_42 : decode cX12_house 42 = .ok (.iconst 0, 1) := by decide +kernel
theorem dX12_house_43 : decode cX12_house 43 = .ok (.iastore, 1) := by decide +kernel
theorem dX12_house_44 : decode cX12_house 44 = .ok (.aload_n 0, 1) := by decide +kernel
theorem dX12_house_45 : decode cX12_house 45 = .ok (.getfield 9, 3) := by decide +kernel
theorem dX12_house_48 : decode cX12_house 48 = .ok (.sipush 232, 3) := by decide +kernel
theorem dX12_house_51 : decode cX12_house 51 = .ok (.aload_n 0, 1) := by decide +kernel
theorem dX12_house_52 : decode cX12_house 52 = .ok (.getfield 81, 3) := by decide +kernel
theorem dX12_house_55 : decode cX12_house 55 = .ok (.iadd, 1) := by decide +kernel
theorem dX12_house_56 : decode cX12_house 56 = .ok (.bipush 10, 2) := by decide +kernel
theorem dX12_house_58 : decode cX12_house 58 = .ok (.iastore, 1) := by decide +kernel
theorem dX12_house_59 : decode cX12_house 59 = .ok (.aload_n 0, 1) := by decide +kernel
theorem dX12_house_60 : decode cX12_house 60 = .ok (.getfield 9, 3) := by decide +kernel
theorem dX12_house_63 : decode cX12_house 63 = .ok (.sipush 237, 3) := by decide +kernel
theorem dX12_house_66 : decode cX12_house 66 = .ok (.aload_n 0, 1) := by decide +kernel
theorem dX12_house_67 : decode cX12_house 67 = .ok (.getfield 81, 3) := by decide +kernel
theorem dX12_house_70 : decode cX12_house 70 = .ok (.iadd, 1) := by decide +kernel
theorem dX12_house_71 : decode cX12_house 71 = .ok (.iconst 0, 1) := by decide +kernel
theorem dX12_house_72 : decode cX12_house 72 = .ok (.iastore, 1) := by decide +kernel
theorem dX12_house_73 : decode cX12_house 73 = .ok (.aload_n 0, 1) := by decide +kernel
theorem dX12_house_74 : decode cX12_house 74 = .ok (.getfield 9, 3) := by decide +kernel
theorem dX12_house_77 : decode cX12_house 77 = .ok (.sipush 242, 3) := by decide +kernel
theorem dX12_house_80 : decode cX12_house 80 = .ok (.aload_n 0, 1) := by decide +kernel
theorem dX12_house_81 : decode cX12_house 81 = .ok (.getfield 81, 3) := by decide +kernel
theorem dX12_house_84 : decode cX12_house 84 = .ok (.iadd, 1) := by decide +kernel
theorem dX12_house_85 : decode cX12_house 85 = .ok (.bipush 10, 2) := by decide +kernel
theorem dX12_house_87 : decode cX12_house 87 = .ok (.iastore, 1) := by decide +kernel
theorem dX12_house_88 : decode cX12_house 88 = .ok (.aload_n 0, 1) := by decide +kernel
theorem dX12_house_89 : decode cX12_house 89 = .ok (.getfield 9, 3) := by decide +kernel
theorem dX12_house_92 : decode cX12_house 92 = .ok (.sipush 247, 3) := by decide +kernel
theorem dX12_house_95 : decode cX12_house 95 = .ok (.aload_n 0, 1) := by decide +kernel
theorem dX12_house_96 : decode cX12_house 96 = .ok (.getfield 81, 3) := by decide +kernel
theorem dX12_house_99 : decode cX12_house 99 = .ok (.iadd, 1) := by decide +kernel
theorem dX12_house_100 : decode cX12_house 100 = .ok (.iconst 0, 1) := by decide +kernel
theorem dX12_house_101 : decode cX12_house 101 = .ok (.iastore, 1) := by decide +kernel
theorem dX12_house_102 : decode cX12_house 102 = .ok (.aload_n 0, 1) := by decide +kernel
theorem dX12_house_103 : decode cX12_house 103 = .ok (.iconst 0, 1) := by decide +kernel
theorem dX12_house_104 : decode cX12_house 104 = .ok (.putfield 54, 3) := by decide +kernel
theorem dX12_house_107 : decode cX12_house 107 = .ok (.aload_n 0, 1) := by decide +kernel
theorem dX12_house_108 : decode cX12_house 108 = .ok (.iconst 0, 1) := by decide +kernel
theorem dX12_house_109 : decode cX12_house 109 = .ok (.putfield 60, 3) := by decide +kernel
theorem dX12_house_112 : decode cX12_house 112 = .ok (.aload_n 0, 1) := by decide +kernel
theorem dX12_house_113 : decode cX12_house 113 = .ok (.iconst 0, 1) := by decide +kernel
theorem dX12_house_114 : decode cX12_house 114 = .ok (.putfield 84, 3) := by decide +kernel
theorem dX12_house_117 : decode cX12_house 117 = .ok (.iconst 1, 1) := by decide +kernel
theorem dX12_house_118 : decode cX12_house 118 = .ok (.istore_n 1, 1) := by decide +kernel
theorem dX12_house_119 : decode cX12_house 119 = .ok (.aload_n 0, 1) := by decide +kernel
theorem dX12_house_120 : decode cX12_house 120 = .ok (.invokevirtual 131, 3) := by decide +kernel
theorem dX12_house_123 : decode cX12_house 123 = .ok (.aload_n 0, 1) := by decide +kernel
theorem dX12_house_124 : decode cX12_house 124 = .ok (.getfield 60, 3) := by decide +kernel
theorem dX12_house_127 : decode cX12_house 127 = .ok (.ifCond .ne 38, 3) := by decide +kernel
theorem dX12_house_130 : decode cX12_house 130 = .ok (.iload_n 1, 1) := by decide +kernel
theorem dX12_house_131 : decode cX12_house 131 = .ok (.bipush 10, 2) := by decide +kernel
theorem dX12_house_133 : decode cX12_house 133 = .ok (.if_icmp .ge 32, 3) := by decide +kernel
theorem dX12_house_136 : decode cX12_house 136 = .ok (.aload_n 0, 1) := by decide +kernel
theorem dX12_house_137 : decode cX12_house 137 = .ok (.invokevirtual 64, 3) := by decide +kernel
theorem dX12_house_140 : decode cX12_house 140 = .ok (.bipush 59, 2) := by decide +kernel
theorem dX12_house_142 : decode cX12_house 142 = .ok (.if_icmp .ne 23, 3) := by decide +kernel
theorem dX12_house_145 : decode cX12_house 145 = .ok (.aload_n 0, 1) := by decide +kernel
theorem dX12_house_146 : decode cX12_house 146 = .ok (.dup, 1) := by decide +kernel
theorem dX12_house_147 : decode cX12_house 147 = .ok (.getfield 54, 3) := by decide +kernel
theorem dX12_house_150 : decode cX12_house 150 = .ok (.iconst 1, 1) := by decide +kernel
theorem dX12_house_151 : decode cX12_house 151 = .ok (.iadd, 1) := by decide +kernel
theorem dX12_house_152 : decode cX12_house 152 = .ok (.putfield 54, 3) := by decide +kernel
theorem dX12_house_155 : decode cX12_house 155 = .ok (.aload_n 0, 1) := by decide +kernel
theorem dX12_house_156 : decode cX12_house 156 = .ok (.invokevirtual 131, 3) := by decide +kernel
theorem dX12_house_159 : decode cX12_house 159 = .ok (.iinc 1 1, 3) := by decide +kernel
theorem dX12_house_162 : decode cX12_house 162 = .ok (.goto (-39), 3) := by decide +kernel
theorem dX12_house_165 : decode cX12_house 165 = .ok (.aload_n 0, 1) := by decide +kernel
theorem dX12_house_166 : decode cX12_house 166 = .ok (.getfield 60, 3) := by decide +kernel
theorem dX12_house_169 : decode cX12_house 169 = .ok (.ifCond .ne 14, 3) := by decide +kernel
theorem dX12_house_172 : decode cX12_house 172 = .ok (.aload_n 0, 1) := by decide +kernel
theorem dX12_house_173 : decode cX12_house 173 = .ok (.getfield 54, 3) := by decide +kernel
theorem dX12_house_176 : decode cX12_house 176 = .ok (.aload_n 0, 1) := by decide +kernel
theorem dX12_house_177 : decode cX12_house 177 = .ok (.getfield 57, 3) := by decide +kernel
theorem dX12_house_180 : decode cX12_house 180 = .ok (.if_icmp .eq 11, 3) := by decide +kernel
theorem dX12_house_183 : decode cX12_house 183 = .ok (.bipush (-10), 2) := by decide +kernel
theorem dX12_house_185 : decode cX12_house 185 = .ok (.aload_n 0, 1) := by decide +kernel
theorem dX12_house_186 : decode cX12_house 186 = .ok (.getfield 54, 3) := by decide +kernel
theorem dX12_house_189 : decode cX12_house 189 = .ok (.isub, 1) := by decide +kernel
theorem dX12_house_190 : decode cX12_house 190 = .ok (.ireturn, 1) := by decide +kernel
theorem dX12_house_191 : decode cX12_house 191 = .ok (.aload_n 0, 1) := by decide +kernel
theorem dX12_house_192 : decode cX12_house 192 = .ok (.getfield 9, 3) := by decide +kernel
theorem dX12_house_195 : decode cX12_house 195 = .ok (.bipush 53, 2) := by decide +kernel
theorem dX12_house_197 : decode cX12_house 197 = .ok (.dup2, 1) := by decide +kernel
theorem dX12_house_198 : decode cX12_house 198 = .ok (.iaload, 1) := by decide +kernel
theorem dX12_house_199 : decode cX12_house 199 = .ok (.iconst 1, 1) := by decide +kernel
theorem dX12_house_200 : decode cX12_house 200 = .ok (.iadd, 1) := by decide +kernel
theorem dX12_house_201 : decode cX12_house 201 = .ok (.iastore, 1) := by decide +kernel
theorem dX12_house_202 : decode cX12_house 202 = .ok (.aload_n 0, 1) := by decide +kernel
theorem dX12_house_203 : decode cX12_house 203 = .ok (.getfield 9, 3) := by decide +kernel
theorem dX12_house_206 : decode cX12_house 206 = .ok (.bipush 56, 2) := by decide +kernel
theorem dX12_house_208 : decode cX12_house 208 = .ok (.aload_n 0, 1) := by decide +kernel
theorem dX12_house_209 : decode cX12_house 209 = .ok (.getfield 81, 3) := by decide +kernel
theorem dX12_house_212 : decode cX12_house 212 = .ok (.iastore, 1) := by decide +kernel
theorem dX12_house_213 : decode cX12_house 213 = .ok (.aload_n 0, 1) := by decide +kernel
theorem dX12_house_214 : decode cX12_house 214 = .ok (.getfield 81, 3) := by decide +kernel
theorem dX12_house_217 : decode cX12_house 217 = .ok (.ireturn, 1) := by decide +kernel
theorem dX12_tellsOf_0 : decode cX12_tellsOf 0 = .ok (.aload_n 0, 1) := by decide +kernel
theorem dX12_tellsOf_1 : decode cX12_tellsOf 1 = .ok (.getfield 9, 3) := by decide +kernel
theorem dX12_tellsOf_4 : decode cX12_tellsOf 4 = .ok (.bipush 56, 2) := by decide +kernel
theorem dX12_tellsOf_6 : decode cX12_tellsOf 6 = .ok (.iaload, 1) := by decide +kernel
theorem dX12_tellsOf_7 : decode cX12_tellsOf 7 = .ok (.iconst (-1), 1) := by decide +kernel
theorem dX12_tellsOf_8 : decode cX12_tellsOf 8 = .ok (.if_icmp .ne 7, 3) := by decide +kernel
theorem dX12_tellsOf_11 : decode cX12_tellsOf 11 = .ok (.iload_n 2, 1) := by decide +kernel
theorem dX12_tellsOf_12 : decode cX12_tellsOf 12 = .ok (.goto 17, 3) := by decide +kernel
theorem dX12_tellsOf_15 : decode cX12_tellsOf 15 = .ok (.aload_n 0, 1) := by decide +kernel
theorem dX12_tellsOf_16 : decode cX12_tellsOf 16 = .ok (.getfield 9, 3) := by decide +kernel
theorem dX12_tellsOf_19 : decode cX12_tellsOf 19 = .ok (.iload_n 1, 1) := by decide +kernel
theorem dX12_tellsOf_20 : decode cX12_tellsOf 20 = .ok (.aload_n 0, 1) := by decide +kernel
theorem dX12_tellsOf_21 : decode cX12_tellsOf 21 = .ok (.getfield 9, 3) := by decide +kernel
theorem dX12_tellsOf_24 : decode cX12_tellsOf 24 = .ok (.bipush 56, 2) := by decide +kernel
theorem dX12_tellsOf_26 : decode cX12_tellsOf 26 = .ok (.iaload, 1) := by decide +kernel
theorem dX12_tellsOf_27 : decode cX12_tellsOf 27 = .ok (.iadd, 1) := by decide +kernel
theorem dX12_tellsOf_28 : decode cX12_tellsOf 28 = .ok (.iaload, 1) := by decide +kernel
theorem dX12_tellsOf_29 : decode cX12_tellsOf 29 = .ok (.ireturn, 1) := by decide +kernel
theorem dX12_told_0 : decode cX12_told 0 = .ok (.iload_n 1, 1) := by decide +kernel
theorem dX12_told_1 : decode cX12_told 1 = .ok (.tableswitch 91 0 5 #[39, 49, 58, 68, 75, 83], 39) := by decide +kernel
theorem dX12_told_40 : decode cX12_told 40 = .ok (.aload_n 0, 1) := by decide +kernel
theorem dX12_told_41 : decode cX12_told 41 = .ok (.sipush 232, 3) := by decide +kernel
theorem dX12_told_44 : decode cX12_told 44 = .ok (.bipush 10, 2) := by decide +kernel
theorem dX12_told_46 : decode cX12_told 46 = .ok (.invokevirtual 134, 3) := by decide +kernel
theorem dX12_told_49 : decode cX12_told 49 = .ok (.ireturn, 1) := by decide +kernel
theorem dX12_told_50 : decode cX12_told 50 = .ok (.aload_n 0, 1) := by decide +kernel
theorem dX12_told_51 : decode cX12_told 51 = .ok (.sipush 237, 3) := by decide +kernel
theorem dX12_told_54 : decode cX12_told 54 = .ok (.iconst 0, 1) := by decide +kernel
theorem dX12_told_55 : decode cX12_told 55 = .ok (.invokevirtual 134, 3) := by decide +kernel
theorem dX12_told_58 : decode cX12_told 58 = .ok (.ireturn, 1) := by decide +kernel
theorem dX12_told_59 : decode cX12_told 59 = .ok (.aload_n 0, 1) := by decide +kernel
theorem dX12_told_60 : decode cX12_told 60 = .ok (.sipush 242, 3) := by decide +kernel
theorem dX12_told_63 : decode cX12_told 63 = .ok (.bipush 10, 2) := by decide +kernel
theorem dX12_told_65 : decode cX12_told 65 = .ok (.invokevirtual 134, 3) := by decide +kernel
theorem dX12_told_68 : decode cX12_told 68 = .ok (.ireturn, 1) := by decide +kernel
theorem dX12_told_69 : decode cX12_told 69 = .ok (.aload_n 0, 1) := by decide +kernel
theorem dX12_told_70 : decode cX12_told 70 = .ok (.getfield 9, 3) := by decide +kernel
theorem dX12_told_73 : decode cX12_told 73 = .ok (.iconst 0, 1) := by decide +kernel
theorem dX12_told_74 : decode cX12_told 74 = .ok (.iaload, 1) := by decide +kernel
theorem dX12_told_75 : decode cX12_told 75 = .ok (.ireturn, 1) := by decide +kernel
theorem dX12_told_76 : decode cX12_told 76 = .ok (.aload_n 0, 1) := by decide +kernel
theorem dX12_told_77 : decode cX12_told 77 = .ok (.getfield 9, 3) := by decide +kernel
theorem dX12_told_80 : decode cX12_told 80 = .ok (.bipush 57, 2) := by decide +kernel
theorem dX12_told_82 : decode cX12_told 82 = .ok (.iaload, 1) := by decide +kernel
theorem dX12_told_83 : decode cX12_told 83 = .ok (.ireturn, 1) := by decide +kernel
theorem dX12_told_84 : decode cX12_told 84 = .ok (.aload_n 0, 1) := by decide +kernel
theorem dX12_told_85 : decode cX12_told 85 = .ok (.getfield 9, 3) := by decide +kernel
theorem dX12_told_88 : decode cX12_told 88 = .ok (.bipush 58, 2) := by decide +kernel
theorem dX12_told_90 : decode cX12_told 90 = .ok (.iaload, 1) := by decide +kernel
theorem dX12_told_91 : decode cX12_told 91 = .ok (.ireturn, 1) := by decide +kernel
theorem dX12_told_92 : decode cX12_told 92 = .ok (.iconst (-1), 1) := by decide +kernel
