theorem dX12_told_93 : decode cX12_told 93 = .ok (.ireturn, 1) := by decide +kernel
theorem dX12_chief_0 : decode cX12_chief 0 = .ok (.iload_n 1, 1) := by decide +kernel
theorem dX12_chief_1 : decode cX12_chief 1 = .ok (.iconst 0, 1) := by decide +kernel
theorem dX12_chief_2 : decode cX12_chief 2 = .ok (.bipush 6, 2) := by decide +kernel
theorem dX12_chief_4 : decode cX12_chief 4 = .ok (.invokestatic 50, 3) := by decide +kernel
theorem dX12_chief_7 : decode cX12_chief 7 = .ok (.ifCond .ne 5, 3) := by decide +kernel
theorem dX12_chief_10 : decode cX12_chief 10 = .ok (.iconst (-1), 1) := by decide +kernel
theorem dX12_chief_11 : decode cX12_chief 11 = .ok (.ireturn, 1) := by decide +kernel
theorem dX12_chief_12 : decode cX12_chief 12 = .ok (.iload_n 2, 1) := by decide +kernel
theorem dX12_chief_13 : decode cX12_chief 13 = .ok (.iconst 0, 1) := by decide +kernel
theorem dX12_chief_14 : decode cX12_chief 14 = .ok (.bipush 9, 2) := by decide +kernel
theorem dX12_chief_16 : decode cX12_chief 16 = .ok (.invokestatic 50, 3) := by decide +kernel
theorem dX12_chief_19 : decode cX12_chief 19 = .ok (.ifCond .eq 13, 3) := by decide +kernel
theorem dX12_chief_22 : decode cX12_chief 22 = .ok (.iload_n 3, 1) := by decide +kernel
theorem dX12_chief_23 : decode cX12_chief 23 = .ok (.iconst 0, 1) := by decide +kernel
theorem dX12_chief_24 : decode cX12_chief 24 = .ok (.bipush 9, 2) := by decide +kernel
theorem dX12_chief_26 : decode cX12_chief 26 = .ok (.invokestatic 50, 3) := by decide +kernel
theorem dX12_chief_29 : decode cX12_chief 29 = .ok (.ifCond .ne 6, 3) := by decide +kernel
theorem dX12_chief_32 : decode cX12_chief 32 = .ok (.bipush (-2), 2) := by decide +kernel
theorem dX12_chief_34 : decode cX12_chief 34 = .ok (.ireturn, 1) := by decide +kernel
theorem dX12_chief_35 : decode cX12_chief 35 = .ok (.aload_n 0, 1) := by decide +kernel
theorem dX12_chief_36 : decode cX12_chief 36 = .ok (.getfield 9, 3) := by decide +kernel
theorem dX12_chief_39 : decode cX12_chief 39 = .ok (.bipush 52, 2) := by decide +kernel
theorem dX12_chief_41 : decode cX12_chief 41 = .ok (.iaload, 1) := by decide +kernel
theorem dX12_chief_42 : decode cX12_chief 42 = .ok (.iconst 4, 1) := by decide +kernel
theorem dX12_chief_43 : decode cX12_chief 43 = .ok (.if_icmp .ne 6, 3) := by decide +kernel
theorem dX12_chief_46 : decode cX12_chief 46 = .ok (.bipush (-4), 2) := by decide +kernel
theorem dX12_chief_48 : decode cX12_chief 48 = .ok (.ireturn, 1) := by decide +kernel
theorem dX12_chief_49 : decode cX12_chief 49 = .ok (.aload_n 0, 1) := by decide +kernel
theorem dX12_chief_50 : decode cX12_chief 50 = .ok (.getfield 9, 3) := by decide +kernel
theorem dX12_chief_53 : decode cX12_chief 53 = .ok (.bipush 52, 2) := by decide +kernel
theorem dX12_chief_55 : decode cX12_chief 55 = .ok (.iaload, 1) := by decide +kernel
theorem dX12_chief_56 : decode cX12_chief 56 = .ok (.istore 4, 2) := by decide +kernel
theorem dX12_chief_58 : decode cX12_chief 58 = .ok (.aload_n 0, 1) := by decide +kernel
theorem dX12_chief_59 : decode cX12_chief 59 = .ok (.getfield 9, 3) := by decide +kernel
theorem dX12_chief_62 : decode cX12_chief 62 = .ok (.bipush 60, 2) := by decide +kernel
theorem dX12_chief_64 : decode cX12_chief 64 = .ok (.iload 4, 2) := by decide +kernel
theorem dX12_chief_66 : decode cX12_chief 66 = .ok (.iadd, 1) := by decide +kernel
theorem dX12_chief_67 : decode cX12_chief 67 = .ok (.iload_n 1, 1) := by decide +kernel
theorem dX12_chief_68 : decode cX12_chief 68 = .ok (.iastore, 1) := by decide +kernel
theorem dX12_chief_69 : decode cX12_chief 69 = .ok (.aload_n 0, 1) := by decide +kernel
theorem dX12_chief_70 : decode cX12_chief 70 = .ok (.getfield 9, 3) := by decide +kernel
theorem dX12_chief_73 : decode cX12_chief 73 = .ok (.bipush 64, 2) := by decide +kernel
theorem dX12_chief_75 : decode cX12_chief 75 = .ok (.iload 4, 2) := by decide +kernel
theorem dX12_chief_77 : decode cX12_chief 77 = .ok (.iadd, 1) := by decide +kernel
theorem dX12_chief_78 : decode cX12_chief 78 = .ok (.iload_n 2, 1) := by decide +kernel
theorem dX12_chief_79 : decode cX12_chief 79 = .ok (.iastore, 1) := by decide +kernel
theorem dX12_chief_80 : decode cX12_chief 80 = .ok (.aload_n 0, 1) := by decide +kernel
theorem dX12_chief_81 : decode cX12_chief 81 = .ok (.getfield 9, 3) := by decide +kernel
theorem dX12_chief_84 : decode cX12_chief 84 = .ok (.bipush 68, 2) := by decide +kernel
theorem dX12_chief_86 : decode cX12_chief 86 = .ok (.iload 4, 2) := by decide +kernel
theorem dX12_chief_88 : decode cX12_chief 88 = .ok (.iadd, 1) := by decide +kernel
theorem dX12_chief_89 : decode cX12_chief 89 = .ok (.iload_n 3, 1) := by decide +kernel
theorem dX12_chief_90 : decode cX12_chief 90 = .ok (.iastore, 1) := by decide +kernel
theorem dX12_chief_91 : decode cX12_chief 91 = .ok (.aload_n 0, 1) := by decide +kernel
theorem dX12_chief_92 : decode cX12_chief 92 = .ok (.getfield 9, 3) := by decide +kernel
theorem dX12_chief_95 : decode cX12_chief 95 = .ok (.bipush 52, 2) := by decide +kernel
theorem dX12_chief_97 : decode cX12_chief 97 = .ok (.dup2, 1) := by decide +kernel
theorem dX12_chief_98 : decode cX12_chief 98 = .ok (.iaload, 1) := by decide +kernel
theorem dX12_chief_99 : decode cX12_chief 99 = .ok (.iconst 1, 1) := by decide +kernel
theorem dX12_chief_100 : decode cX12_chief 100 = .ok (.iadd, 1) := by decide +kernel
theorem dX12_chief_101 : decode cX12_chief 101 = .ok (.iastore, 1) := by decide +kernel
theorem dX12_chief_102 : decode cX12_chief 102 = .ok (.iload 4, 2) := by decide +kernel
theorem dX12_chief_104 : decode cX12_chief 104 = .ok (.ireturn, 1) := by decide +kernel
theorem dX12_worker_0 : decode cX12_worker 0 = .ok (.aload_n 0, 1) := by decide +kernel
theorem dX12_worker_1 : decode cX12_worker 1 = .ok (.iload_n 1, 1) := by decide +kernel
theorem dX12_worker_2 : decode cX12_worker 2 = .ok (.invokevirtual 138, 3) := by decide +kernel
theorem dX12_worker_5 : decode cX12_worker 5 = .ok (.ifCond .ne 5, 3) := by decide +kernel
theorem dX12_worker_8 : decode cX12_worker 8 = .ok (.iconst (-1), 1) := by decide +kernel
theorem dX12_worker_9 : decode cX12_worker 9 = .ok (.ireturn, 1) := by decide +kernel
theorem dX12_worker_10 : decode cX12_worker 10 = .ok (.iload_n 2, 1) := by decide +kernel
theorem dX12_worker_11 : decode cX12_worker 11 = .ok (.iconst 0, 1) := by decide +kernel
theorem dX12_worker_12 : decode cX12_worker 12 = .ok (.bipush 99, 2) := by decide +kernel
theorem dX12_worker_14 : decode cX12_worker 14 = .ok (.invokestatic 50, 3) := by decide +kernel
theorem dX12_worker_17 : decode cX12_worker 17 = .ok (.ifCond .eq 24, 3) := by decide +kernel
theorem dX12_worker_20 : decode cX12_worker 20 = .ok (.iload_n 3, 1) := by decide +kernel
theorem dX12_worker_21 : decode cX12_worker 21 = .ok (.iconst 0, 1) := by decide +kernel
theorem dX12_worker_22 : decode cX12_worker 22 = .ok (.bipush 99, 2) := by decide +kernel
theorem dX12_worker_24 : decode cX12_worker 24 = .ok (.invokestatic 50, 3) := by decide +kernel
theorem dX12_worker_27 : decode cX12_worker 27 = .ok (.ifCond .eq 14, 3) := by decide +kernel
theorem dX12_worker_30 : decode cX12_worker 30 = .ok (.iload 4, 2) := by decide +kernel
theorem dX12_worker_32 : decode cX12_worker 32 = .ok (.iconst 0, 1) := by decide +kernel
theorem dX12_worker_33 : decode cX12_worker 33 = .ok (.bipush 9, 2) := by decide +kernel
theorem dX12_worker_35 : decode cX12_worker 35 = .ok (.invokestatic 50, 3) := by decide +kernel
theorem dX12_worker_38 : decode cX12_worker 38 = .ok (.ifCond .ne 6, 3) := by decide +kernel
theorem dX12_worker_41 : decode cX12_worker 41 = .ok (.bipush (-2), 2) := by decide +kernel
theorem dX12_worker_43 : decode cX12_worker 43 = .ok (.ireturn, 1) := by decide +kernel
theorem dX12_worker_44 : decode cX12_worker 44 = .ok (.aload_n 0, 1) := by decide +kernel
theorem dX12_worker_45 : decode cX12_worker 45 = .ok (.getfield 9, 3) := by decide +kernel
theorem dX12_worker_48 : decode cX12_worker 48 = .ok (.bipush 51, 2) := by decide +kernel
theorem dX12_worker_50 : decode cX12_worker 50 = .ok (.iaload, 1) := by decide +kernel
theorem dX12_worker_51 : decode cX12_worker 51 = .ok (.bipush 10, 2) := by decide +kernel
theorem dX12_worker_53 : decode cX12_worker 53 = .ok (.if_icmp .ne 6, 3) := by decide +kernel
theorem dX12_worker_56 : decode cX12_worker 56 = .ok (.bipush (-4), 2) := by decide +kernel
theorem dX12_worker_58 : decode cX12_worker 58 = .ok (.ireturn, 1) := by decide +kernel
theorem dX12_worker_59 : decode cX12_worker 59 = .ok (.aload_n 0, 1) := by decide +kernel
theorem dX12_worker_60 : decode cX12_worker 60 = .ok (.getfield 9, 3) := by decide +kernel
theorem dX12_worker_63 : decode cX12_worker 63 = .ok (.bipush 51, 2) := by decide +kernel
theorem dX12_worker_65 : decode cX12_worker 65 = .ok (.iaload, 1) := by decide +kernel
theorem dX12_worker_66 : decode cX12_worker 66 = .ok (.istore 5, 2) := by decide +kernel
theorem dX12_worker_68 : decode cX12_worker 68 = .ok (.aload_n 0, 1) := by decide +kernel
theorem dX12_worker_69 : decode cX12_worker 69 = .ok (.getfield 9, 3) := by decide +kernel
theorem dX12_worker_72 : decode cX12_worker 72 = .ok (.bipush 31, 2) := by decide +kernel
theorem dX12_worker_74 : decode cX12_worker 74 = .ok (.iload 5, 2) := by decide +kernel
theorem dX12_worker_76 : decode cX12_worker 76 = .ok (.iadd, 1) := by decide +kernel
theorem dX12_worker_77 : decode cX12_worker 77 = .ok (.iload_n 1, 1) := by decide +kernel
theorem dX12_worker_78 : decode cX12_worker 78 = .ok (.iastore, 1) := by decide +kernel
theorem dX12_worker_79 : decode cX12_worker 79 = .ok (.aload_n 0, 1) := by decide +kernel
theorem dX12_worker_80 : decode cX12_worker 80 = .ok (.getfield 9, 3) := by decide +kernel
theorem dX12_worker_83 : decode cX12_worker 83 = .ok (.iconst 1, 1) := by decide +kernel
theorem dX12_worker_84 : decode cX12_worker 84 = .ok (.iload 5, 2) := by decide +kernel
theorem dX12_worker_86 : decode cX12_worker 86 = .ok (.iadd, 1) := by decide +kernel
theorem dX12_worker_87 : decode cX12_worker 87 = .ok (.iload_n 2, 1) := by decide +kernel
theorem dX12_worker_88 : decode cX12_worker 88 = .ok (.iastore, 1) := by decide +kernel
theorem dX12_worker_89 : decode cX12_worker 89 = .ok (.aload_n 0, 1) := by decide +kernel
theorem dX12_worker_90 : decode cX12_worker 90 = .ok (.getfield 9, 3) := by decide +kernel
theorem dX12_worker_93 : decode cX12_worker 93 = .ok (.bipush 11, 2) := by decide +kernel
theorem dX12_worker_95 : decode cX12_worker 95 = .ok (.iload 5, 2) := by decide +kernel
theorem dX12_worker_97 : decode cX12_worker 97 = .ok (.iadd, 1) := by decide +kernel
theorem dX12_worker_98 : decode cX12_worker 98 = .ok (.iload_n 3, 1) := by decide +kernel
theorem dX12_worker_99 : decode cX12_worker 99 = .ok (.iastore, 1) := by decide +kernel
theorem dX12_worker_100 : decode cX12_worker 100 = .ok (.aload_n 0, 1) := by decide +kernel
theorem dX12_worker_101 : decode cX12_worker 101 = .ok (.getfield 9, 3) := by decide +kernel
theorem dX12_worker_104 : decode cX12_worker 104 = .ok (.bipush 41, 2) := by decide +kernel
theorem dX12_worker_106 : decode cX12_worker 106 = .ok (.iload 5, 2) := by decide +kernel
theorem dX12_worker_108 : decode cX12_worker 108 = .ok (.iadd, 1) := by decide +kernel
theorem dX12_worker_109 : decode cX12_worker 109 = .ok (.iload 4, 2) := by decide +kernel
theorem dX12_worker_111 : decode cX12_worker 111 = .ok (.iastore, 1) := by decide +kernel
theorem dX12_worker_112 : decode cX12_worker 112 = .ok (.aload_n 0, 1) := by decide +kernel
theorem dX12_worker_113 : decode cX12_worker 113 = .ok (.getfield 9, 3) := by decide +kernel
theorem dX12_worker_116 : decode cX12_worker 116 = .ok (.bipush 21, 2) := by decide +kernel
theorem dX12_worker_118 : decode cX12_worker 118 = .ok (.iload 5, 2) := by decide +kernel
theorem dX12_worker_120 : decode cX12_worker 120 = .ok (.iadd, 1) := by decide +kernel
theorem dX12_worker_121 : decode cX12_worker 121 = .ok (.iconst 0, 1) := by decide +kernel
theorem dX12_worker_122 : decode cX12_worker 122 = .ok (.iastore, 1) := by decide +kernel
theorem dX12_worker_123 : decode cX12_worker 123 = .ok (.aload_n 0, 1) := by decide +kernel
theorem dX12_worker_124 : decode cX12_worker 124 = .ok (.getfield 9, 3) := by decide +kernel
theorem dX12_worker_127 : decode cX12_worker 127 = .ok (.bipush 51, 2) := by decide +kernel
theorem dX12_worker_129 : decode cX12_worker 129 = .ok (.dup2, 1) := by decide +kernel
theorem dX12_worker_130 : decode cX12_worker 130 = .ok (.iaload, 1) := by decide +kernel
theorem dX12_worker_131 : decode cX12_worker 131 = .ok (.iconst 1, 1) := by decide +kernel
theorem dX12_worker_132 : decode cX12_worker 132 = .ok (.iadd, 1) := by decide +kernel
theorem dX12_worker_133 : decode cX12_worker 133 = .ok (.iastore, 1) := by decide +kernel
theorem dX12_worker_134 : decode cX12_worker 134 = .ok (.iload 5, 2) := by decide +kernel
theorem dX12_worker_136 : decode cX12_worker 136 = .ok (.ireturn, 1) := by decide +kernel
theorem dX12_teamOf_0 : decode cX12_teamOf 0 = .ok (.iconst 0, 1) := by decide +kernel
theorem dX12_teamOf_1 : decode cX12_teamOf 1 = .ok (.istore_n 2, 1) := by decide +kernel
theorem dX12_teamOf_2 : decode cX12_teamOf 2 = .ok (.iconst 0, 1) := by decide +kernel
theorem dX12_teamOf_3 : decode cX12_teamOf 3 = .ok (.istore_n 3, 1) := by decide +kernel
theorem dX12_teamOf_4 : decode cX12_teamOf 4 = .ok (.iload_n 3, 1) := by decide +kernel
theorem dX12_teamOf_5 : decode cX12_teamOf 5 = .ok (.aload_n 0, 1) := by decide +kernel
theorem dX12_teamOf_6 : decode cX12_teamOf 6 = .ok (.getfield 9, 3) := by decide +kernel
theorem dX12_teamOf_9 : decode cX12_teamOf 9 = .ok (.bipush 51, 2) := by decide +kernel
theorem dX12_teamOf_11 : decode cX12_teamOf 11 = .ok (.iaload, 1) := by decide +kernel
theorem dX12_teamOf_12 : decode cX12_teamOf 12 = .ok (.if_icmp .ge 30, 3) := by decide +kernel
theorem dX12_teamOf_15 : decode cX12_teamOf 15 = .ok (.iload_n 2, 1) := by decide +kernel
theorem dX12_teamOf_16 : decode cX12_teamOf 16 = .ok (.aload_n 0, 1) := by decide +kernel
theorem dX12_teamOf_17 : decode cX12_teamOf 17 = .ok (.getfield 9, 3) := by decide +kernel
theorem dX12_teamOf_20 : decode cX12_teamOf 20 = .ok (.bipush 31, 2) := by decide +kernel
theorem dX12_teamOf_22 : decode cX12_teamOf 22 = .ok (.iload_n 3, 1) := by decide +kernel
theorem dX12_teamOf_23 : decode cX12_teamOf 23 = .ok (.iadd, 1) := by decide +kernel
theorem dX12_teamOf_24 : decode cX12_teamOf 24 = .ok (.iaload, 1) := by decide +kernel
theorem dX12_teamOf_25 : decode cX12_teamOf 25 = .ok (.iload_n 1, 1) := by decide +kernel
theorem dX12_teamOf_26 : decode cX12_teamOf 26 = .ok (.if_icmp .ne 7, 3) := by decide +kernel
theorem dX12_teamOf_29 : decode cX12_teamOf 29 = .ok (.iconst 1, 1) := by decide +kernel
theorem dX12_teamOf_30 : decode cX12_teamOf 30 = .ok (.goto 4, 3) := by decide +kernel
theorem dX12_teamOf_33 : decode cX12_teamOf 33 = .ok (.iconst 0, 1) := by decide +kernel
theorem dX12_teamOf_34 : decode cX12_teamOf 34 = .ok (.iadd, 1) := by decide +kernel
theorem dX12_teamOf_35 : decode cX12_teamOf 35 = .ok (.istore_n 2, 1) := by decide +kernel
theorem dX12_teamOf_36 : decode cX12_teamOf 36 = .ok (.iinc 3 1, 3) := by decide +kernel
theorem dX12_teamOf_39 : decode cX12_teamOf 39 = .ok (.goto (-35), 3) := by decide +kernel
theorem dX12_teamOf_42 : decode cX12_teamOf 42 = .ok (.iload_n 2, 1) := by decide +kernel
theorem dX12_teamOf_43 : decode cX12_teamOf 43 = .ok (.ireturn, 1) := by decide +kernel
theorem dX12_by_0 : decode cX12_by 0 = .ok (.aload_n 0, 1) := by decide +kernel
theorem dX12_by_1 : decode cX12_by 1 = .ok (.iload_n 1, 1) := by decide +kernel
theorem dX12_by_2 : decode cX12_by 2 = .ok (.invokevirtual 138, 3) := by decide +kernel
theorem dX12_by_5 : decode cX12_by 5 = .ok (.ifCond .eq 12, 3) := by decide +kernel
theorem dX12_by_8 : decode cX12_by 8 = .ok (.iload_n 2, 1) := by decide +kernel
theorem dX12_by_9 : decode cX12_by 9 = .ok (.iconst 0, 1) := by decide +kernel
theorem dX12_by_10 : decode cX12_by 10 = .ok (.iconst 4, 1) := by decide +kernel
theorem dX12_by_11 : decode cX12_by 11 = .ok (.invokestatic 50, 3) := by decide +kernel
theorem dX12_by_14 : decode cX12_by 14 = .ok (.ifCond .ne 5, 3) := by decide +kernel
theorem dX12_by_17 : decode cX12_by 17 = .ok (.iconst (-1), 1) := by decide +kernel
theorem dX12_by_18 : decode cX12_by 18 = .ok (.ireturn, 1) := by decide +kernel
theorem dX12_by_19 : decode cX12_by 19 = .ok (.iload_n 2, 1) := by decide +kernel
theorem dX12_by_20 : decode cX12_by 20 = .ok (.iconst 3, 1) := by decide +kernel
theorem dX12_by_21 : decode cX12_by 21 = .ok (.if_icmp .ge 17, 3) := by decide +kernel
theorem dX12_by_24 : decode cX12_by 24 = .ok (.aload_n 0, 1) := by decide +kernel
theorem dX12_by_25 : decode cX12_by 25 = .ok (.getfield 9, 3) := by decide +kernel
theorem dX12_by_28 : decode cX12_by 28 = .ok (.bipush 60, 2) := by decide +kernel
theorem dX12_by_30 : decode cX12_by 30 = .ok (.iconst 4, 1) := by decide +kernel
theorem dX12_by_31 : decode cX12_by 31 = .ok (.iload_n 2, 1) := by decide +kernel
theorem dX12_by_32 : decode cX12_by 32 = .ok (.imul, 1) := by decide +kernel
theorem dX12_by_33 : decode cX12_by 33 = .ok (.iadd, 1) := by decide +kernel
theorem dX12_by_34 : decode cX12_by 34 = .ok (.iload_n 1, 1) := by decide +kernel
theorem dX12_by_35 : decode cX12_by 35 = .ok (.iadd, 1) := by decide +kernel
theorem dX12_by_36 : decode cX12_by 36 = .ok (.iaload, 1) := by decide +kernel
theorem dX12_by_37 : decode cX12_by 37 = .ok (.ireturn, 1) := by decide +kernel
theorem dX12_by_38 : decode cX12_by 38 = .ok (.iconst 0, 1) := by decide +kernel
theorem dX12_by_39 : decode cX12_by 39 = .ok (.istore_n 3, 1) := by decide +kernel
theorem dX12_by_40 : decode cX12_by 40 = .ok (.iconst 0, 1) := by decide +kernel
theorem dX12_by_41 : decode cX12_by 41 = .ok (.istore 4, 2) := by decide +kernel
theorem dX12_by_43 : decode cX12_by 43 = .ok (.iload 4, 2) := by decide +kernel
theorem dX12_by_45 : decode cX12_by 45 = .ok (.aload_n 0, 1) := by decide +kernel
theorem dX12_by_46 : decode cX12_by 46 = .ok (.getfield 9, 3) := by decide +kernel
theorem dX12_by_49 : decode cX12_by 49 = .ok (.bipush 51, 2) := by decide +kernel
theorem dX12_by_51 : decode cX12_by 51 = .ok (.iaload, 1) := by decide +kernel
theorem dX12_by_52 : decode cX12_by 52 = .ok (.if_icmp .ge 34, 3) := by decide +kernel
theorem dX12_by_55 : decode cX12_by 55 = .ok (.iload_n 3, 1) := by decide +kernel
theorem dX12_by_56 : decode cX12_by 56 = .ok (.aload_n 0, 1) := by decide +kernel
theorem dX12_by_57 : decode cX12_by 57 = .ok (.getfield 9, 3) := by decide +kernel
theorem dX12_by_60 : decode cX12_by 60 = .ok (.bipush 31, 2) := by decide +kernel
theorem dX12_by_62 : decode cX12_by 62 = .ok (.iload 4, 2) := by decide +kernel
theorem dX12_by_64 : decode cX12_by 64 = .ok (.iadd, 1) := by decide +kernel
theorem dX12_by_65 : decode cX12_by 65 = .ok (.iaload, 1) := by decide +kernel
theorem dX12_by_66 : decode cX12_by 66 = .ok (.iload_n 1, 1) := by decide +kernel
theorem dX12_by_67 : decode cX12_by 67 = .ok (.if_icmp .ne 10, 3) := by decide +kernel
theorem dX12_by_70 : decode cX12_by 70 = .ok (.iconst 1, 1) := by decide +kernel
theorem dX12_by_71 : decode cX12_by 71 = .ok (.iload 4, 2) := by decide +kernel
theorem dX12_by_73 : decode cX12_by 73 = .ok (.ishl, 1) := by decide +kernel
theorem dX12_by_74 : decode cX12_by 74 = .ok (.goto 4, 3) := by decide +kernel
theorem dX12_by_77 : decode cX12_by 77 = .ok (.iconst 0, 1) := by decide +kernel
theorem dX12_by_78 : decode cX12_by 78 = .ok (.ior, 1) := by decide +kernel
theorem dX12_by_79 : decode cX12_by 79 = .ok (.istore_n 3, 1) := by decide +kernel
theorem dX12_by_80 : decode cX12_by 80 = .ok (.iinc 4 1, 3) := by decide +kernel
theorem dX12_by_83 : decode cX12_by 83 = .ok (.goto (-40), 3) := by decide +kernel
theorem dX12_by_86 : decode cX12_by 86 = .ok (.iload_n 2, 1) := by decide +kernel
theorem dX12_by_87 : decode cX12_by 87 = .ok (.iconst 3, 1) := by decide +kernel
theorem dX12_by_88 : decode cX12_by 88 = .ok (.if_icmp .ne 11, 3) := by decide +kernel
theorem dX12_by_91 : decode cX12_by 91 = .ok (.aload_n 0, 1) := by decide +kernel
theorem dX12_by_92 : decode cX12_by 92 = .ok (.iload_n 1, 1) := by decide +kernel
theorem dX12_by_93 : decode cX12_by 93 = .ok (.invokevirtual 142, 3) := by decide +kernel
theorem dX12_by_96 : decode cX12_by 96 = .ok (.goto 4, 3) := by decide +kernel
theorem dX12_by_99 : decode cX12_by 99 = .ok (.iload_n 3, 1) := by decide +kernel
theorem dX12_by_100 : decode cX12_by 100 = .ok (.ireturn, 1) := by decide +kernel
theorem dX12_move_0 : decode cX12_move 0 = .ok (.aload_n 0, 1) := by decide +kernel
theorem dX12_move_1 : decode cX12_move 1 = .ok (.iload_n 1, 1) := by decide +kernel
theorem dX12_move_2 : decode cX12_move 2 = .ok (.invokevirtual 146, 3) := by decide +kernel
theorem dX12_move_5 : decode cX12_move 5 = .ok (.ifCond .eq 11, 3) := by decide +kernel
theorem dX12_move_8 : decode cX12_move 8 = .ok (.aload_n 0, 1) := by decide +kernel
theorem dX12_move_9 : decode cX12_move 9 = .ok (.iload_n 2, 1) := by decide +kernel
theorem dX12_move_10 : decode cX12_move 10 = .ok (.invokevirtual 138, 3) := by decide +kernel
theorem dX12_move_13 : decode cX12_move 13 = .ok (.ifCond .ne 5, 3) := by decide +kernel
theorem dX12_move_16 : decode cX12_move 16 = .ok (.iconst (-1), 1) := by decide +kernel
theorem dX12_move_17 : decode cX12_move 17 = .ok (.ireturn, 1) := by decide +kernel
theorem dX12_move_18 : decode cX12_move 18 = .ok (.aload_n 0, 1) := by decide +kernel
theorem dX12_move_19 : decode cX12_move 19 = .ok (.getfield 9, 3) := by decide +kernel
theorem dX12_move_22 : decode cX12_move 22 = .ok (.bipush 31, 2) := by decide +kernel
theorem dX12_move_24 : decode cX12_move 24 = .ok (.iload_n 1, 1) := by decide +kernel
theorem dX12_move_25 : decode cX12_move 25 = .ok (.iadd, 1) := by decide +kernel
theorem dX12_move_26 : decode cX12_move 26 = .ok (.iaload, 1) := by decide +kernel
theorem dX12_move_27 : decode cX12_move 27 = .ok (.istore_n 3, 1) := by decide +kernel
theorem dX12_move_28 : decode cX12_move 28 = .ok (.aload_n 0, 1) := by decide +kernel
theorem dX12_move_29 : decode cX12_move 29 = .ok (.getfield 9, 3) := by decide +kernel
theorem dX12_move_32 : decode cX12_move 32 = .ok (.bipush 31, 2) := by decide +kernel
theorem dX12_move_34 : decode cX12_move 34 = .ok (.iload_n 1, 1) := by decide +kernel
theorem dX12_move_35 : decode cX12_move 35 = .ok (.iadd, 1) := by decide +kernel
theorem dX12_move_36 : decode cX12_move 36 = .ok (.iload_n 2, 1) := by decide +kernel
theorem dX12_move_37 : decode cX12_move 37 = .ok (.iastore, 1) := by decide +kernel
theorem dX12_move_38 : decode cX12_move 38 = .ok (.iload_n 3, 1) := by decide +kernel
theorem dX12_move_39 : decode cX12_move 39 = .ok (.ireturn, 1) := by decide +kernel
theorem dX12_set_0 : decode cX12_set 0 = .ok (.aload_n 0, 1) := by decide +kernel
theorem dX12_set_1 : decode cX12_set 1 = .ok (.iload_n 1, 1) := by decide +kernel
theorem dX12_set_2 : decode cX12_set 2 = .ok (.invokevirtual 146, 3) := by decide +kernel
theorem dX12_set_5 : decode cX12_set 5 = .ok (.ifCond .eq 12, 3) := by decide +kernel
theorem dX12_set_8 : decode cX12_set 8 = .ok (.iload_n 2, 1) := by decide +kernel
theorem dX12_set_9 : decode cX12_set 9 = .ok (.iconst 0, 1) := by decide +kernel
theorem dX12_set_10 : decode cX12_set 10 = .ok (.iconst 2, 1) := by decide +kernel
theorem dX12_set_11 : decode cX12_set 11 = .ok (.invokestatic 50, 3) := by decide +kernel
theorem dX12_set_14 : decode cX12_set 14 = .ok (.ifCond .ne 5, 3) := by decide +kernel
theorem dX12_set_17 : decode cX12_set 17 = .ok (.iconst (-1), 1) := by decide +kernel
theorem dX12_set_18 : decode cX12_set 18 = .ok (.ireturn, 1) := by decide +kernel
theorem dX12_set_19 : decode cX12_set 19 = .ok (.iload_n 3, 1) := by decide +kernel
theorem dX12_set_20 : decode cX12_set 20 = .ok (.iconst 0, 1) := by decide +kernel
theorem dX12_set_21 : decode cX12_set 21 = .ok (.iload_n 2, 1) := by decide +kernel
theorem dX12_set_22 : decode cX12_set 22 = .ok (.iconst 2, 1) := by decide +kernel
theorem dX12_set_23 : decode cX12_set 23 = .ok (.if_icmp .ne 8, 3) := by decide +kernel
theorem dX12_set_26 : decode cX12_set 26 = .ok (.bipush 9, 2) := by decide +kernel
theorem dX12_set_28 : decode cX12_set 28 = .ok (.goto 5, 3) := by decide +kernel
theorem dX12_set_31 : decode cX12_set 31 = .ok (.bipush 99, 2) := by decide +kernel
theorem dX12_set_33 : decode cX12_set 33 = .ok (.invokestatic 50, 3) := by decide +kernel
theorem dX12_set_36 : decode cX12_set 36 = .ok (.ifCond .ne 6, 3) := by decide +kernel
theorem dX12_set_39 : decode cX12_set 39 = .ok (.bipush (-2), 2) := by decide +kernel
theorem dX12_set_41 : decode cX12_set 41 = .ok (.ireturn, 1) := by decide +kernel
theorem dX12_set_42 : decode cX12_set 42 = .ok (.iload_n 2, 1) := by decide +kernel
theorem dX12_set_43 : decode cX12_set 43 = .ok (.ifCond .ne 7, 3) := by decide +kernel
theorem dX12_set_46 : decode cX12_set 46 = .ok (.iconst 1, 1) := by decide +kernel
theorem dX12_set_47 : decode cX12_set 47 = .ok (.goto 15, 3) := by decide +kernel
theorem dX12_set_50 : decode cX12_set 50 = .ok (.iload_n 2, 1) := by decide +kernel
theorem dX12_set_51 : decode cX12_set 51 = .ok (.iconst 1, 1) := by decide +kernel
theorem dX12_set_52 : decode cX12_set 52 = .ok (.if_icmp .ne 8, 3) := by decide +kernel
theorem dX12_set_55 : decode cX12_set 55 = .ok (.bipush 11, 2) := by decide +kernel
theorem dX12_set_57 : decode cX12_set 57 = .ok (.goto 5, 3) := by decide +kernel
theorem dX12_set_60 : decode cX12_set 60 = .ok (.bipush 41, 2) := by decide +kernel
theorem dX12_set_62 : decode cX12_set 62 = .ok (.iload_n 1, 1) := by decide +kernel
theorem dX12_set_63 : decode cX12_set 63 = .ok (.iadd, 1) := by decide +kernel
theorem dX12_set_64 : decode cX12_set 64 = .ok (.istore 4, 2) := by decide +kernel
theorem dX12_set_66 : decode cX12_set 66 = .ok (.aload_n 0, 1) := by decide +kernel
theorem dX12_set_67 : decode cX12_set 67 = .ok (.getfield 9, 3) := by decide +kernel
theorem dX12_set_70 : decode cX12_set 70 = .ok (.iload 4, 2) := by decide +kernel
theorem dX12_set_72 : decode cX12_set 72 = .ok (.iaload, 1) := by decide +kernel
theorem dX12_set_73 : decode cX12_set 73 = .ok (.istore 5, 2) := by decide +kernel
theorem dX12_set_75 : decode cX12_set 75 = .ok (.aload_n 0, 1) := by decide +kernel
theorem dX12_set_76 : decode cX12_set 76 = .ok (.getfield 9, 3) := by decide +kernel
theorem dX12_set_79 : decode cX12_set 79 = .ok (.iload 4, 2) := by decide +kernel
theorem dX12_set_81 : decode cX12_set 81 = .ok (.iload_n 3, 1) := by decide +kernel
theorem dX12_set_82 : decode cX12_set 82 = .ok (.iastore, 1) := by decide +kernel
theorem dX12_set_83 : decode cX12_set 83 = .ok (.iload 5, 2) := by decide +kernel
theorem dX12_set_85 : decode cX12_set 85 = .ok (.ireturn, 1) := by decide +kernel
theorem dX12_fresh_0 : decode cX12_fresh 0 = .ok (.iload_n 1, 1) := by decide +kernel
theorem dX12_fresh_1 : decode cX12_fresh 1 = .ok (.iconst 0, 1) := by decide +kernel
theorem dX12_fresh_2 : decode cX12_fresh 2 = .ok (.bipush 99, 2) := by decide +kernel
theorem dX12_fresh_4 : decode cX12_fresh 4 = .ok (.invokestatic 50, 3) := by decide +kernel
theorem dX12_fresh_7 : decode cX12_fresh 7 = .ok (.ifCond .eq 13, 3) := by decide +kernel
theorem dX12_fresh_10 : decode cX12_fresh 10 = .ok (.iload_n 2, 1) := by decide +kernel
theorem dX12_fresh_11 : decode cX12_fresh 11 = .ok (.iconst 0, 1) := by decide +kernel
theorem dX12_fresh_12 : decode cX12_fresh 12 = .ok (.bipush 99, 2) := by decide +kernel
theorem dX12_fresh_14 : decode cX12_fresh 14 = .ok (.invokestatic 50, 3) := by decide +kernel
theorem dX12_fresh_17 : decode cX12_fresh 17 = .ok (.ifCond .ne 6, 3) := by decide +kernel
theorem dX12_fresh_20 : decode cX12_fresh 20 = .ok (.bipush (-2), 2) := by decide +kernel
theorem dX12_fresh_22 : decode cX12_fresh 22 = .ok (.ireturn, 1) := by decide +kernel
theorem dX12_fresh_23 : decode cX12_fresh 23 = .ok (.aload_n 0, 1) := by decide +kernel
theorem dX12_fresh_24 : decode cX12_fresh 24 = .ok (.getfield 9, 3) := by decide +kernel
theorem dX12_fresh_27 : decode cX12_fresh 27 = .ok (.bipush 57, 2) := by decide +kernel
theorem dX12_fresh_29 : decode cX12_fresh 29 = .ok (.iaload, 1) := by decide +kernel
theorem dX12_fresh_30 : decode cX12_fresh 30 = .ok (.istore_n 3, 1) := by decide +kernel
theorem dX12_fresh_31 : decode cX12_fresh 31 = .ok (.aload_n 0, 1) := by decide +kernel
theorem dX12_fresh_32 : decode cX12_fresh 32 = .ok (.getfield 9, 3) := by decide +kernel
theorem dX12_fresh_35 : decode cX12_fresh 35 = .ok (.bipush 57, 2) := by decide +kernel
theorem dX12_fresh_37 : decode cX12_fresh 37 = .ok (.iload_n 1, 1) := by decide +kernel
theorem dX12_fresh_38 : decode cX12_fresh 38 = .ok (.iastore, 1) := by decide +kernel
theorem dX12_fresh_39 : decode cX12_fresh 39 = .ok (.aload_n 0, 1) := by decide +kernel
theorem dX12_fresh_40 : decode cX12_fresh 40 = .ok (.getfield 9, 3) := by decide +kernel
theorem dX12_fresh_43 : decode cX12_fresh 43 = .ok (.bipush 58, 2) := by decide +kernel
theorem dX12_fresh_45 : decode cX12_fresh 45 = .ok (.iload_n 2, 1) := by decide +kernel
theorem dX12_fresh_46 : decode cX12_fresh 46 = .ok (.iastore, 1) := by decide +kernel
theorem dX12_fresh_47 : decode cX12_fresh 47 = .ok (.iload_n 3, 1) := by decide +kernel
theorem dX12_fresh_48 : decode cX12_fresh 48 = .ok (.ireturn, 1) := by decide +kernel
theorem dX12_moreOf_0 : decode cX12_moreOf 0 = .ok (.aload_n 0, 1) := by decide +kernel
theorem dX12_moreOf_1 : decode cX12_moreOf 1 = .ok (.getfield 21, 3) := by decide +kernel
theorem dX12_moreOf_4 : decode cX12_moreOf 4 = .ok (.iconst 0, 1) := by decide +kernel
theorem dX12_moreOf_5 : decode cX12_moreOf 5 = .ok (.iload_n 1, 1) := by decide +kernel
theorem dX12_moreOf_6 : decode cX12_moreOf 6 = .ok (.iastore, 1) := by decide +kernel
theorem dX12_moreOf_7 : decode cX12_moreOf 7 = .ok (.aload_n 0, 1) := by decide +kernel
theorem dX12_moreOf_8 : decode cX12_moreOf 8 = .ok (.getfield 21, 3) := by decide +kernel
theorem dX12_moreOf_11 : decode cX12_moreOf 11 = .ok (.iconst 1, 1) := by decide +kernel
theorem dX12_moreOf_12 : decode cX12_moreOf 12 = .ok (.iload_n 2, 1) := by decide +kernel
theorem dX12_moreOf_13 : decode cX12_moreOf 13 = .ok (.iastore, 1) := by decide +kernel
theorem dX12_moreOf_14 : decode cX12_moreOf 14 = .ok (.aload_n 0, 1) := by decide +kernel
theorem dX12_moreOf_15 : decode cX12_moreOf 15 = .ok (.getfield 21, 3) := by decide +kernel
theorem dX12_moreOf_18 : decode cX12_moreOf 18 = .ok (.iconst 2, 1) := by decide +kernel
theorem dX12_moreOf_19 : decode cX12_moreOf 19 = .ok (.aload_n 0, 1) := by decide +kernel
theorem dX12_moreOf_20 : decode cX12_moreOf 20 = .ok (.getfield 9, 3) := by decide +kernel
theorem dX12_moreOf_23 : decode cX12_moreOf 23 = .ok (.bipush 60, 2) := by decide +kernel
theorem dX12_moreOf_25 : decode cX12_moreOf 25 = .ok (.iload_n 2, 1) := by decide +kernel
theorem dX12_moreOf_26 : decode cX12_moreOf 26 = .ok (.iadd, 1) := by decide +kernel
theorem dX12_moreOf_27 : decode cX12_moreOf 27 = .ok (.iaload, 1) := by decide +kernel
theorem dX12_moreOf_28 : decode cX12_moreOf 28 = .ok (.iastore, 1) := by decide +kernel
theorem dX12_moreOf_29 : decode cX12_moreOf 29 = .ok (.aload_n 0, 1) := by decide +kernel
theorem dX12_moreOf_30 : decode cX12_moreOf 30 = .ok (.getfield 21, 3) := by decide +kernel
theorem dX12_moreOf_33 : decode cX12_moreOf 33 = .ok (.iconst 3, 1) := by decide +kernel
theorem dX12_moreOf_34 : decode cX12_moreOf 34 = .ok (.aload_n 0, 1) := by decide +kernel
theorem dX12_moreOf_35 : decode cX12_moreOf 35 = .ok (.getfield 9, 3) := by decide +kernel
theorem dX12_moreOf_38 : decode cX12_moreOf 38 = .ok (.iconst 1, 1) := by decide +kernel
theorem dX12_moreOf_39 : decode cX12_moreOf 39 = .ok (.iload_n 1, 1) := by decide +kernel
theorem dX12_moreOf_40 : decode cX12_moreOf 40 = .ok (.iadd, 1) := by decide +kernel
theorem dX12_moreOf_41 : decode cX12_moreOf 41 = .ok (.iaload, 1) := by decide +kernel
theorem dX12_moreOf_42 : decode cX12_moreOf 42 = .ok (.bipush 10, 2) := by decide +kernel
theorem dX12_moreOf_44 : decode cX12_moreOf 44 = .ok (.idiv, 1) := by decide +kernel
theorem dX12_moreOf_45 : decode cX12_moreOf 45 = .ok (.iastore, 1) := by decide +kernel
theorem dX12_moreOf_46 : decode cX12_moreOf 46 = .ok (.aload_n 0, 1) := by decide +kernel
theorem dX12_moreOf_47 : decode cX12_moreOf 47 = .ok (.getfield 21, 3) := by decide +kernel
theorem dX12_moreOf_50 : decode cX12_moreOf 50 = .ok (.iconst 4, 1) := by decide +kernel
theorem dX12_moreOf_51 : decode cX12_moreOf 51 = .ok (.aload_n 0, 1) := by decide +kernel
theorem dX12_moreOf_52 : decode cX12_moreOf 52 = .ok (.getfield 9, 3) := by decide +kernel
theorem dX12_moreOf_55 : decode cX12_moreOf 55 = .ok (.iconst 0, 1) := by decide +kernel
theorem dX12_moreOf_56 : decode cX12_moreOf 56 = .ok (.iaload, 1) := by decide +kernel
theorem dX12_moreOf_57 : decode cX12_moreOf 57 = .ok (.bipush 10, 2) := by decide +kernel
theorem dX12_moreOf_59 : decode cX12_moreOf 59 = .ok (.irem, 1) := by decide +kernel
theorem dX12_moreOf_60 : decode cX12_moreOf 60 = .ok (.iastore, 1) := by decide +kernel
theorem dX12_moreOf_61 : decode cX12_moreOf 61 = .ok (.aload_n 0, 1) := by decide +kernel
theorem dX12_moreOf_62 : decode cX12_moreOf 62 = .ok (.getfield 21, 3) := by decide +kernel
theorem dX12_moreOf_65 : decode cX12_moreOf 65 = .ok (.iconst 5, 1) := by decide +kernel
theorem dX12_moreOf_66 : decode cX12_moreOf 66 = .ok (.aload_n 0, 1) := by decide +kernel
theorem dX12_moreOf_67 : decode cX12_moreOf 67 = .ok (.iload_n 2, 1) := by decide +kernel
theorem dX12_moreOf_68 : decode cX12_moreOf 68 = .ok (.invokevirtual 142, 3) := by decide +kernel
theorem dX12_moreOf_71 : decode cX12_moreOf 71 = .ok (.iastore, 1) := by decide +kernel
theorem dX12_moreOf_72 : decode cX12_moreOf 72 = .ok (.iconst 0, 1) := by decide +kernel
theorem dX12_moreOf_73 : decode cX12_moreOf 73 = .ok (.istore_n 3, 1) := by decide +kernel
theorem dX12_moreOf_74 : decode cX12_moreOf 74 = .ok (.aload_n 0, 1) := by decide +kernel
theorem dX12_moreOf_75 : decode cX12_moreOf 75 = .ok (.sipush 247, 3) := by decide +kernel
theorem dX12_moreOf_78 : decode cX12_moreOf 78 = .ok (.iconst 0, 1) := by decide +kernel
theorem dX12_moreOf_79 : decode cX12_moreOf 79 = .ok (.invokevirtual 134, 3) := by decide +kernel
theorem dX12_moreOf_82 : decode cX12_moreOf 82 = .ok (.istore 4, 2) := by decide +kernel
theorem dX12_moreOf_84 : decode cX12_moreOf 84 = .ok (.sipush 252, 3) := by decide +kernel
theorem dX12_moreOf_87 : decode cX12_moreOf 87 = .ok (.sipush 140, 3) := by decide +kernel
theorem dX12_moreOf_90 : decode cX12_moreOf 90 = .ok (.aload_n 0, 1) := by decide +kernel
theorem dX12_moreOf_91 : decode cX12_moreOf 91 = .ok (.getfield 9, 3) := by decide +kernel
theorem dX12_moreOf_94 : decode cX12_moreOf 94 = .ok (.bipush 56, 2) := by decide +kernel
theorem dX12_moreOf_96 : decode cX12_moreOf 96 = .ok (.iaload, 1) := by decide +kernel
theorem dX12_moreOf_97 : decode cX12_moreOf 97 = .ok (.imul, 1) := by decide +kernel
theorem dX12_moreOf_98 : decode cX12_moreOf 98 = .ok (.iadd, 1) := by decide +kernel
theorem dX12_moreOf_99 : decode cX12_moreOf 99 = .ok (.istore 5, 2) := by decide +kernel
theorem dX12_moreOf_101 : decode cX12_moreOf 101 = .ok (.iconst 0, 1) := by decide +kernel
theorem dX12_moreOf_102 : decode cX12_moreOf 102 = .ok (.istore 6, 2) := by decide +kernel
theorem dX12_moreOf_104 : decode cX12_moreOf 104 = .ok (.iload 5, 2) := by decide +kernel
theorem dX12_moreOf_106 : decode cX12_moreOf 106 = .ok (.istore 7, 2) := by decide +kernel
theorem dX12_moreOf_108 : decode cX12_moreOf 108 = .ok (.iload 7, 2) := by decide +kernel
theorem dX12_moreOf_110 : decode cX12_moreOf 110 = .ok (.iload 5, 2) := by decide +kernel
theorem dX12_moreOf_112 : decode cX12_moreOf 112 = .ok (.iload 4, 2) := by decide +kernel
theorem dX12_moreOf_114 : decode cX12_moreOf 114 = .ok (.iadd, 1) := by decide +kernel
theorem dX12_moreOf_115 : decode cX12_moreOf 115 = .ok (.if_icmp .ge 279, 3) := by decide +kernel
theorem dX12_moreOf_118 : decode cX12_moreOf 118 = .ok (.aload_n 0, 1) := by decide +kernel
theorem dX12_moreOf_119 : decode cX12_moreOf 119 = .ok (.getfield 9, 3) := by decide +kernel
theorem dX12_moreOf_122 : decode cX12_moreOf 122 = .ok (.iload 7, 2) := by decide +kernel
theorem dX12_moreOf_124 : decode cX12_moreOf 124 = .ok (.iaload, 1) := by decide +kernel
theorem dX12_moreOf_125 : decode cX12_moreOf 125 = .ok (.istore 8, 2) := by decide +kernel
theorem dX12_moreOf_127 : decode cX12_moreOf 127 = .ok (.iload 8, 2) := by decide +kernel
theorem dX12_moreOf_129 : decode cX12_moreOf 129 = .ok (.ifCond .lt 97, 3) := by decide +kernel
theorem dX12_moreOf_132 : decode cX12_moreOf 132 = .ok (.aload_n 0, 1) := by decide +kernel
theorem dX12_moreOf_133 : decode cX12_moreOf 133 = .ok (.getfield 21, 3) := by decide +kernel
theorem dX12_moreOf_136 : decode cX12_moreOf 136 = .ok (.iload 8, 2) := by decide +kernel
theorem dX12_moreOf_138 : decode cX12_moreOf 138 = .ok (.bipush 8, 2) := by decide +kernel
theorem dX12_moreOf_140 : decode cX12_moreOf 140 = .ok (.irem, 1) := by decide +kernel
theorem dX12_moreOf_141 : decode cX12_moreOf 141 = .ok (.iaload, 1) := by decide +kernel
theorem dX12_moreOf_142 : decode cX12_moreOf 142 = .ok (.istore 9, 2) := by decide +kernel
theorem dX12_moreOf_144 : decode cX12_moreOf 144 = .ok (.iload 8, 2) := by decide +kernel
theorem dX12_moreOf_146 : decode cX12_moreOf 146 = .ok (.bipush 8, 2) := by decide +kernel
theorem dX12_moreOf_148 : decode cX12_moreOf 148 = .ok (.idiv, 1) := by decide +kernel
theorem dX12_moreOf_149 : decode cX12_moreOf 149 = .ok (.iconst 4, 1) := by decide +kernel
theorem dX12_moreOf_150 : decode cX12_moreOf 150 = .ok (.irem, 1) := by decide +kernel
theorem dX12_moreOf_151 : decode cX12_moreOf 151 = .ok (.istore 10, 2) := by decide +kernel
theorem dX12_moreOf_153 : decode cX12_moreOf 153 = .ok (.iload 8, 2) := by decide +kernel
theorem dX12_moreOf_155 : decode cX12_moreOf 155 = .ok (.bipush 32, 2) := by decide +kernel
theorem dX12_moreOf_157 : decode cX12_moreOf 157 = .ok (.idiv, 1) := by decide +kernel
theorem dX12_moreOf_158 : decode cX12_moreOf 158 = .ok (.istore 11, 2) := by decide +kernel
theorem dX12_moreOf_160 : decode cX12_moreOf 160 = .ok (.aload_n 0, 1) := by decide +kernel
theorem dX12_moreOf_161 : decode cX12_moreOf 161 = .ok (.getfield 24, 3) := by decide +kernel
theorem dX12_moreOf_164 : decode cX12_moreOf 164 = .ok (.iload 6, 2) := by decide +kernel
theorem dX12_moreOf_166 : decode cX12_moreOf 166 = .ok (.iload 10, 2) := by decide +kernel
theorem dX12_moreOf_168 : decode cX12_moreOf 168 = .ok (.ifCond .ne 18, 3) := by decide +kernel
theorem dX12_moreOf_171 : decode cX12_moreOf 171 = .ok (.iload 9, 2) := by decide +kernel
theorem dX12_moreOf_173 : decode cX12_moreOf 173 = .ok (.iload 11, 2) := by decide +kernel
theorem dX12_moreOf_175 : decode cX12_moreOf 175 = .ok (.if_icmp .ge 7, 3) := by decide +kernel
theorem dX12_moreOf_178 : decode cX12_moreOf 178 = .ok (.iconst 1, 1) := by decide +kernel
theorem dX12_moreOf_179 : decode cX12_moreOf 179 = .ok (.goto 40, 3) := by decide +kernel
theorem dX12_moreOf_182 : decode cX12_moreOf 182 = .ok (.iconst 0, 1) := by decide +kernel
theorem dX12_moreOf_183 : decode cX12_moreOf 183 = .ok (.goto 36, 3) := by decide +kernel
theorem dX12_moreOf_186 : decode cX12_moreOf 186 = .ok (.iload 10, 2) := by decide +kernel
theorem dX12_moreOf_188 : decode cX12_moreOf 188 = .ok (.iconst 1, 1) := by decide +kernel
theorem dX12_moreOf_189 : decode cX12_moreOf 189 = .ok (.if_icmp .ne 18, 3) := by decide +kernel
theorem dX12_moreOf_192 : decode cX12_moreOf 192 = .ok (.iload 9, 2) := by decide +kernel
theorem dX12_moreOf_194 : decode cX12_moreOf 194 = .ok (.iload 11, 2) := by decide +kernel
theorem dX12_moreOf_196 : decode cX12_moreOf 196 = .ok (.if_icmp .ne 7, 3) := by decide +kernel
theorem dX12_moreOf_199 : decode cX12_moreOf 199 = .ok (.iconst 1, 1) := by decide +kernel
theorem dX12_moreOf_200 : decode cX12_moreOf 200 = .ok (.goto 19, 3) := by decide +kernel
theorem dX12_moreOf_203 : decode cX12_moreOf 203 = .ok (.iconst 0, 1) := by decide +kernel
theorem dX12_moreOf_204 : decode cX12_moreOf 204 = .ok (.goto 15, 3) := by decide +kernel
theorem dX12_moreOf_207 : decode cX12_moreOf 207 = .ok (.iload 9, 2) := by decide +kernel
theorem dX12_moreOf_209 : decode cX12_moreOf 209 = .ok (.iload 11, 2) := by decide +kernel
theorem dX12_moreOf_211 : decode cX12_moreOf 211 = .ok (.if_icmp .le 7, 3) := by decide +kernel
theorem dX12_moreOf_214 : decode cX12_moreOf 214 = .ok (.iconst 1, 1) := by decide +kernel
theorem dX12_moreOf_215 : decode cX12_moreOf 215 = .ok (.goto 4, 3) := by decide +kernel
theorem dX12_moreOf_218 : decode cX12_moreOf 218 = .ok (.iconst 0, 1) := by decide +kernel
theorem dX12_moreOf_219 : decode cX12_moreOf 219 = .ok (.bastore, 1) := by decide +kernel
theorem dX12_moreOf_220 : decode cX12_moreOf 220 = .ok (.iinc 6 1, 3) := by decide +kernel
theorem dX12_moreOf_223 : decode cX12_moreOf 223 = .ok (.goto 165, 3) := by decide +kernel
theorem dX12_moreOf_226 : decode cX12_moreOf 226 = .ok (.iload 8, 2) := by decide +kernel
theorem dX12_moreOf_228 : decode cX12_moreOf 228 = .ok (.iconst (-1), 1) := by decide +kernel
theorem dX12_moreOf_229 : decode cX12_moreOf 229 = .ok (.if_icmp .ne 32, 3) := by decide +kernel
theorem dX12_moreOf_232 : decode cX12_moreOf 232 = .ok (.aload_n 0, 1) := by decide +kernel
theorem dX12_moreOf_233 : decode cX12_moreOf 233 = .ok (.getfield 24, 3) := by decide +kernel
theorem dX12_moreOf_236 : decode cX12_moreOf 236 = .ok (.iload 6, 2) := by decide +kernel
theorem dX12_moreOf_238 : decode cX12_moreOf 238 = .ok (.iconst 1, 1) := by decide +kernel
theorem dX12_moreOf_239 : decode cX12_moreOf 239 = .ok (.isub, 1) := by decide +kernel
theorem dX12_moreOf_240 : decode cX12_moreOf 240 = .ok (.aload_n 0, 1) := by decide +kernel
theorem dX12_moreOf_241 : decode cX12_moreOf 241 = .ok (.getfield 24, 3) := by decide +kernel
theorem dX12_moreOf_244 : decode cX12_moreOf 244 = .ok (.iload 6, 2) := by decide +kernel
theorem dX12_moreOf_246 : decode cX12_moreOf 246 = .ok (.iconst 1, 1) := by decide +kernel
theorem dX12_moreOf_247 : decode cX12_moreOf 247 = .ok (.isub, 1) := by decide +kernel
theorem dX12_moreOf_248 : decode cX12_moreOf 248 = .ok (.baload, 1) := by decide +kernel
theorem dX12_moreOf_249 : decode cX12_moreOf 249 = .ok (.ifCond .ne 7, 3) := by decide +kernel
theorem dX12_moreOf_252 : decode cX12_moreOf 252 = .ok (.iconst 1, 1) := by decide +kernel
theorem dX12_moreOf_253 : decode cX12_moreOf 253 = .ok (.goto 4, 3) := by decide +kernel
theorem dX12_moreOf_256 : decode cX12_moreOf 256 = .ok (.iconst 0, 1) := by decide +kernel
theorem dX12_moreOf_257 : decode cX12_moreOf 257 = .ok (.bastore, 1) := by decide +kernel
theorem dX12_moreOf_258 : decode cX12_moreOf 258 = .ok (.goto 130, 3) := by decide +kernel
theorem dX12_moreOf_261 : decode cX12_moreOf 261 = .ok (.iload 8, 2) := by decide +kernel
theorem dX12_moreOf_263 : decode cX12_moreOf 263 = .ok (.bipush (-10), 2) := by decide +kernel
theorem dX12_moreOf_265 : decode cX12_moreOf 265 = .ok (.if_icmp .le 82, 3) := by decide +kernel
theorem dX12_moreOf_268 : decode cX12_moreOf 268 = .ok (.iinc 6 (-1), 3) := by decide +kernel
theorem dX12_moreOf_271 : decode cX12_moreOf 271 = .ok (.aload_n 0, 1) := by decide +kernel
theorem dX12_moreOf_272 : decode cX12_moreOf 272 = .ok (.getfield 24, 3) := by decide +kernel
theorem dX12_moreOf_275 : decode cX12_moreOf 275 = .ok (.iload 6, 2) := by decide +kernel
theorem dX12_moreOf_277 : decode cX12_moreOf 277 = .ok (.iconst 1, 1) := by decide +kernel
theorem dX12_moreOf_278 : decode cX12_moreOf 278 = .ok (.isub, 1) := by decide +kernel
theorem dX12_moreOf_279 : decode cX12_moreOf 279 = .ok (.iload 8, 2) := by decide +kernel
theorem dX12_moreOf_281 : decode cX12_moreOf 281 = .ok (.bipush (-2), 2) := by decide +kernel
theorem dX12_moreOf_283 : decode cX12_moreOf 283 = .ok (.if_icmp .ne 33, 3) := by decide +kernel
theorem dX12_moreOf_286 : decode cX12_moreOf 286 = .ok (.aload_n 0, 1) := by decide +kernel
theorem dX12_moreOf_287 : decode cX12_moreOf 287 = .ok (.getfield 24, 3) := by decide +kernel
theorem dX12_moreOf_290 : decode cX12_moreOf 290 = .ok (.iload 6, 2) := by decide +kernel
theorem dX12_moreOf_292 : decode cX12_moreOf 292 = .ok (.iconst 1, 1) := by decide +kernel
theorem dX12_moreOf_293 : decode cX12_moreOf 293 = .ok (.isub, 1) := by decide +kernel
theorem dX12_moreOf_294 : decode cX12_moreOf 294 = .ok (.baload, 1) := by decide +kernel
theorem dX12_moreOf_295 : decode cX12_moreOf 295 = .ok (.ifCond .eq 17, 3) := by decide +kernel
theorem dX12_moreOf_298 : decode cX12_moreOf 298 = .ok (.aload_n 0, 1) := by decide +kernel
theorem dX12_moreOf_299 : decode cX12_moreOf 299 = .ok (.getfield 24, 3) := by decide +kernel
theorem dX12_moreOf_302 : decode cX12_moreOf 302 = .ok (.iload 6, 2) := by decide +kernel
theorem dX12_moreOf_304 : decode cX12_moreOf 304 = .ok (.baload, 1) := by decide +kernel
theorem dX12_moreOf_305 : decode cX12_moreOf 305 = .ok (.ifCond .eq 7, 3) := by decide +kernel
theorem dX12_moreOf_308 : decode cX12_moreOf 308 = .ok (.iconst 1, 1) := by decide +kernel
theorem dX12_moreOf_309 : decode cX12_moreOf 309 = .ok (.goto 34, 3) := by decide +kernel
theorem dX12_moreOf_312 : decode cX12_moreOf 312 = .ok (.iconst 0, 1) := by decide +kernel
theorem dX12_moreOf_313 : decode cX12_moreOf 313 = .ok (.goto 30, 3) := by decide +kernel
theorem dX12_moreOf_316 : decode cX12_moreOf 316 = .ok (.aload_n 0, 1) := by decide +kernel
theorem dX12_moreOf_317 : decode cX12_moreOf 317 = .ok (.getfield 24, 3) := by decide +kernel
theorem dX12_moreOf_320 : decode cX12_moreOf 320 = .ok (.iload 6, 2) := by decide +kernel
theorem dX12_moreOf_322 : decode cX12_moreOf 322 = .ok (.iconst 1, 1) := by decide +kernel
theorem dX12_moreOf_323 : decode cX12_moreOf 323 = .ok (.isub, 1) := by decide +kernel
theorem dX12_moreOf_324 : decode cX12_moreOf 324 = .ok (.baload, 1) := by decide +kernel
theorem dX12_moreOf_325 : decode cX12_moreOf 325 = .ok (.ifCond .ne 13, 3) := by decide +kernel
theorem dX12_moreOf_328 : decode cX12_moreOf 328 = .ok (.aload_n 0, 1) := by decide +kernel
theorem dX12_moreOf_329 : decode cX12_moreOf 329 = .ok (.getfield 24, 3) := by decide +kernel
theorem dX12_moreOf_332 : decode cX12_moreOf 332 = .ok (.iload 6, 2) := by decide +kernel
theorem dX12_moreOf_334 : decode cX12_moreOf 334 = .ok (.baload, 1) := by decide +kernel
theorem dX12_moreOf_335 : decode cX12_moreOf 335 = .ok (.ifCond .eq 7, 3) := by decide +kernel
theorem dX12_moreOf_338 : decode cX12_moreOf 338 = .ok (.iconst 1, 1) := by decide +kernel
theorem dX12_moreOf_339 : decode cX12_moreOf 339 = .ok (.goto 4, 3) := by decide +kernel
theorem dX12_moreOf_342 : decode cX12_moreOf 342 = .ok (.iconst 0, 1) := by decide +kernel
theorem dX12_moreOf_343 : decode cX12_moreOf 343 = .ok (.bastore, 1) := by decide +kernel
theorem dX12_moreOf_344 : decode cX12_moreOf 344 = .ok (.goto 44, 3) := by decide +kernel
theorem dX12_moreOf_347 : decode cX12_moreOf 347 = .ok (.iconst 0, 1) := by decide +kernel
theorem dX12_moreOf_348 : decode cX12_moreOf 348 = .ok (.istore 6, 2) := by decide +kernel
theorem dX12_moreOf_350 : decode cX12_moreOf 350 = .ok (.iload_n 3, 1) := by decide +kernel
theorem dX12_moreOf_351 : decode cX12_moreOf 351 = .ok (.aload_n 0, 1) := by decide +kernel
theorem dX12_moreOf_352 : decode cX12_moreOf 352 = .ok (.getfield 24, 3) := by decide +kernel
theorem dX12_moreOf_355 : decode cX12_moreOf 355 = .ok (.iconst 0, 1) := by decide +kernel
theorem dX12_moreOf_356 : decode cX12_moreOf 356 = .ok (.baload, 1) := by decide +kernel
theorem dX12_moreOf_357 : decode cX12_moreOf 357 = .ok (.ifCond .ne 7, 3) := by decide +kernel
theorem dX12_moreOf_360 : decode cX12_moreOf 360 = .ok (.iconst 0, 1) := by decide +kernel
theorem dX12_moreOf_361 : decode cX12_moreOf 361 = .ok (.goto 25, 3) := by decide +kernel
theorem dX12_moreOf_364 : decode cX12_moreOf 364 = .ok (.iload 8, 2) := by decide +kernel
theorem dX12_moreOf_366 : decode cX12_moreOf 366 = .ok (.sipush (-200), 3) := by decide +kernel
theorem dX12_moreOf_369 : decode cX12_moreOf 369 = .ok (.if_icmp .le 11, 3) := by decide +kernel
theorem dX12_moreOf_372 : decode cX12_moreOf 372 = .ok (.bipush (-10), 2) := by decide +kernel
theorem dX12_moreOf_374 : decode cX12_moreOf 374 = .ok (.iload 8, 2) := by decide +kernel
theorem dX12_moreOf_376 : decode cX12_moreOf 376 = .ok (.isub, 1) := by decide +kernel
theorem dX12_moreOf_377 : decode cX12_moreOf 377 = .ok (.goto 9, 3) := by decide +kernel
theorem dX12_moreOf_380 : decode cX12_moreOf 380 = .ok (.iload 8, 2) := by decide +kernel
theorem dX12_moreOf_382 : decode cX12_moreOf 382 = .ok (.sipush (-200), 3) := by decide +kernel
theorem dX12_moreOf_385 : decode cX12_moreOf 385 = .ok (.isub, 1) := by decide +kernel
theorem dX12_moreOf_386 : decode cX12_moreOf 386 = .ok (.iadd, 1) := by decide +kernel
theorem dX12_moreOf_387 : decode cX12_moreOf 387 = .ok (.istore_n 3, 1) := by decide +kernel
theorem dX12_moreOf_388 : decode cX12_moreOf 388 = .ok (.iinc 7 1, 3) := by decide +kernel
theorem dX12_moreOf_391 : decode cX12_moreOf 391 = .ok (.goto (-283), 3) := by decide +kernel
theorem dX12_moreOf_394 : decode cX12_moreOf 394 = .ok (.iload_n 3, 1) := by decide +kernel
theorem dX12_moreOf_395 : decode cX12_moreOf 395 = .ok (.ireturn, 1) := by decide +kernel
theorem dX12_markOf_0 : decode cX12_markOf 0 = .ok (.aload_n 0, 1) := by decide +kernel
theorem dX12_markOf_1 : decode cX12_markOf 1 = .ok (.getfield 9, 3) := by decide +kernel
theorem dX12_markOf_4 : decode cX12_markOf 4 = .ok (.bipush 64, 2) := by decide +kernel
theorem dX12_markOf_6 : decode cX12_markOf 6 = .ok (.iload_n 2, 1) := by decide +kernel
theorem dX12_markOf_7 : decode cX12_markOf 7 = .ok (.iadd, 1) := by decide +kernel
theorem dX12_markOf_8 : decode cX12_markOf 8 = .ok (.iaload, 1) := by decide +kernel
theorem dX12_markOf_9 : decode cX12_markOf 9 = .ok (.istore_n 3, 1) := by decide +kernel
theorem dX12_markOf_10 : decode cX12_markOf 10 = .ok (.aload_n 0, 1) := by decide +kernel
theorem dX12_markOf_11 : decode cX12_markOf 11 = .ok (.getfield 9, 3) := by decide +kernel
theorem dX12_markOf_14 : decode cX12_markOf 14 = .ok (.bipush 60, 2) := by decide +kernel
theorem dX12_markOf_16 : decode cX12_markOf 16 = .ok (.iload_n 2, 1) := by decide +kernel
theorem dX12_markOf_17 : decode cX12_markOf 17 = .ok (.iadd, 1) := by decide +kernel
theorem dX12_markOf_18 : decode cX12_markOf 18 = .ok (.iaload, 1) := by decide +kernel
theorem dX12_markOf_19 : decode cX12_markOf 19 = .ok (.istore 4, 2) := by decide +kernel
theorem dX12_markOf_21 : decode cX12_markOf 21 = .ok (.aload_n 0, 1) := by decide +kernel
theorem dX12_markOf_22 : decode cX12_markOf 22 = .ok (.getfield 9, 3) := by decide +kernel
theorem dX12_markOf_25 : decode cX12_markOf 25 = .ok (.iconst 1, 1) := by decide +kernel
theorem dX12_markOf_26 : decode cX12_markOf 26 = .ok (.iload_n 1, 1) := by decide +kernel
theorem dX12_markOf_27 : decode cX12_markOf 27 = .ok (.iadd, 1) := by decide +kernel
theorem dX12_markOf_28 : decode cX12_markOf 28 = .ok (.iaload, 1) := by decide +kernel
theorem dX12_markOf_29 : decode cX12_markOf 29 = .ok (.istore 5, 2) := by decide +kernel
theorem dX12_markOf_31 : decode cX12_markOf 31 = .ok (.iload 4, 2) := by decide +kernel
theorem dX12_markOf_33 : decode cX12_markOf 33 = .ok (.iconst 3, 1) := by decide +kernel
theorem dX12_markOf_34 : decode cX12_markOf 34 = .ok (.if_icmp .eq 10, 3) := by decide +kernel
theorem dX12_markOf_37 : decode cX12_markOf 37 = .ok (.iload 4, 2) := by decide +kernel
theorem dX12_markOf_39 : decode cX12_markOf 39 = .ok (.bipush 6, 2) := by decide +kernel
theorem dX12_markOf_41 : decode cX12_markOf 41 = .ok (.if_icmp .ne 33, 3) := by decide +kernel
theorem dX12_markOf_44 : decode cX12_markOf 44 = .ok (.aload_n 0, 1) := by decide +kernel
theorem dX12_markOf_45 : decode cX12_markOf 45 = .ok (.getfield 9, 3) := by decide +kernel
theorem dX12_markOf_48 : decode cX12_markOf 48 = .ok (.iconst 1, 1) := by decide +kernel
theorem dX12_markOf_49 : decode cX12_markOf 49 = .ok (.iload_n 1, 1) := by decide +kernel
theorem dX12_markOf_50 : decode cX12_markOf 50 = .ok (.iadd, 1) := by decide +kernel
theorem dX12_markOf_51 : decode cX12_markOf 51 = .ok (.iaload, 1) := by decide +kernel
theorem dX12_markOf_52 : decode cX12_markOf 52 = .ok (.bipush 10, 2) := by decide +kernel
theorem dX12_markOf_54 : decode cX12_markOf 54 = .ok (.iload_n 3, 1) := by decide +kernel
theorem dX12_markOf_55 : decode cX12_markOf 55 = .ok (.isub, 1) := by decide +kernel
theorem dX12_markOf_56 : decode cX12_markOf 56 = .ok (.imul, 1) := by decide +kernel
theorem dX12_markOf_57 : decode cX12_markOf 57 = .ok (.aload_n 0, 1) := by decide +kernel
theorem dX12_markOf_58 : decode cX12_markOf 58 = .ok (.getfield 9, 3) := by decide +kernel
theorem dX12_markOf_61 : decode cX12_markOf 61 = .ok (.bipush 11, 2) := by decide +kernel
theorem dX12_markOf_63 : decode cX12_markOf 63 = .ok (.iload_n 1, 1) := by decide +kernel
theorem dX12_markOf_64 : decode cX12_markOf 64 = .ok (.iadd, 1) := by decide +kernel
theorem dX12_markOf_65 : decode cX12_markOf 65 = .ok (.iaload, 1) := by decide +kernel
theorem dX12_markOf_66 : decode cX12_markOf 66 = .ok (.iload_n 3, 1) := by decide +kernel
theorem dX12_markOf_67 : decode cX12_markOf 67 = .ok (.imul, 1) := by decide +kernel
theorem dX12_markOf_68 : decode cX12_markOf 68 = .ok (.iadd, 1) := by decide +kernel
theorem dX12_markOf_69 : decode cX12_markOf 69 = .ok (.bipush 10, 2) := by decide +kernel
theorem dX12_markOf_71 : decode cX12_markOf 71 = .ok (.idiv, 1) := by decide +kernel
theorem dX12_markOf_72 : decode cX12_markOf 72 = .ok (.istore 5, 2) := by decide +kernel
theorem dX12_markOf_74 : decode cX12_markOf 74 = .ok (.iload 5, 2) := by decide +kernel
theorem dX12_markOf_76 : decode cX12_markOf 76 = .ok (.aload_n 0, 1) := by decide +kernel
theorem dX12_markOf_77 : decode cX12_markOf 77 = .ok (.iload_n 1, 1) := by decide +kernel
theorem dX12_markOf_78 : decode cX12_markOf 78 = .ok (.iload_n 2, 1) := by decide +kernel
theorem dX12_markOf_79 : decode cX12_markOf 79 = .ok (.invokevirtual 149, 3) := by decide +kernel
theorem dX12_markOf_82 : decode cX12_markOf 82 = .ok (.iadd, 1) := by decide +kernel
theorem dX12_markOf_83 : decode cX12_markOf 83 = .ok (.istore 6, 2) := by decide +kernel
theorem dX12_markOf_85 : decode cX12_markOf 85 = .ok (.iload 6, 2) := by decide +kernel
theorem dX12_markOf_87 : decode cX12_markOf 87 = .ok (.iload 4, 2) := by decide +kernel
theorem dX12_markOf_89 : decode cX12_markOf 89 = .ok (.iconst 1, 1) := by decide +kernel
theorem dX12_markOf_90 : decode cX12_markOf 90 = .ok (.if_icmp .eq 9, 3) := by decide +kernel
theorem dX12_markOf_93 : decode cX12_markOf 93 = .ok (.iload 4, 2) := by decide +kernel
theorem dX12_markOf_95 : decode cX12_markOf 95 = .ok (.iconst 4, 1) := by decide +kernel
theorem dX12_markOf_96 : decode cX12_markOf 96 = .ok (.if_icmp .ne 7, 3) := by decide +kernel
theorem dX12_markOf_99 : decode cX12_markOf 99 = .ok (.iload_n 3, 1) := by decide +kernel
theorem dX12_markOf_100 : decode cX12_markOf 100 = .ok (.goto 17, 3) := by decide +kernel
theorem dX12_markOf_103 : decode cX12_markOf 103 = .ok (.iload 4, 2) := by decide +kernel
theorem dX12_markOf_105 : decode cX12_markOf 105 = .ok (.bipush 6, 2) := by decide +kernel
theorem dX12_markOf_107 : decode cX12_markOf 107 = .ok (.if_icmp .ne 9, 3) := by decide +kernel
theorem dX12_markOf_110 : decode cX12_markOf 110 = .ok (.iconst 2, 1) := by decide +kernel
theorem dX12_markOf_111 : decode cX12_markOf 111 = .ok (.iload_n 3, 1) := by decide +kernel
theorem dX12_markOf_112 : decode cX12_markOf 112 = .ok (.imul, 1) := by decide +kernel
theorem dX12_markOf_113 : decode cX12_markOf 113 = .ok (.goto 4, 3) := by decide +kernel
theorem dX12_markOf_116 : decode cX12_markOf 116 = .ok (.iconst 0, 1) := by decide +kernel
theorem dX12_markOf_117 : decode cX12_markOf 117 = .ok (.iadd, 1) := by decide +kernel
theorem dX12_markOf_118 : decode cX12_markOf 118 = .ok (.istore 6, 2) := by decide +kernel
theorem dX12_markOf_120 : decode cX12_markOf 120 = .ok (.bipush 9, 2) := by decide +kernel
theorem dX12_markOf_122 : decode cX12_markOf 122 = .ok (.aload_n 0, 1) := by decide +kernel
theorem dX12_markOf_123 : decode cX12_markOf 123 = .ok (.getfield 9, 3) := by decide +kernel
theorem dX12_markOf_126 : decode cX12_markOf 126 = .ok (.bipush 41, 2) := by decide +kernel
theorem dX12_markOf_128 : decode cX12_markOf 128 = .ok (.iload_n 1, 1) := by decide +kernel
theorem dX12_markOf_129 : decode cX12_markOf 129 = .ok (.iadd, 1) := by decide +kernel
theorem dX12_markOf_130 : decode cX12_markOf 130 = .ok (.iaload, 1) := by decide +kernel
theorem dX12_markOf_131 : decode cX12_markOf 131 = .ok (.aload_n 0, 1) := by decide +kernel
theorem dX12_markOf_132 : decode cX12_markOf 132 = .ok (.getfield 9, 3) := by decide +kernel
theorem dX12_markOf_135 : decode cX12_markOf 135 = .ok (.bipush 68, 2) := by decide +kernel
theorem dX12_markOf_137 : decode cX12_markOf 137 = .ok (.iload_n 2, 1) := by decide +kernel
theorem dX12_markOf_138 : decode cX12_markOf 138 = .ok (.iadd, 1) := by decide +kernel
theorem dX12_markOf_139 : decode cX12_markOf 139 = .ok (.iaload, 1) := by decide +kernel
theorem dX12_markOf_140 : decode cX12_markOf 140 = .ok (.isub, 1) := by decide +kernel
theorem dX12_markOf_141 : decode cX12_markOf 141 = .ok (.invokestatic 152, 3) := by decide +kernel
theorem dX12_markOf_144 : decode cX12_markOf 144 = .ok (.isub, 1) := by decide +kernel
theorem dX12_markOf_145 : decode cX12_markOf 145 = .ok (.istore 7, 2) := by decide +kernel
theorem dX12_markOf_147 : decode cX12_markOf 147 = .ok (.iload 6, 2) := by decide +kernel
theorem dX12_markOf_149 : decode cX12_markOf 149 = .ok (.iload 4, 2) := by decide +kernel
theorem dX12_markOf_151 : decode cX12_markOf 151 = .ok (.iconst 4, 1) := by decide +kernel
theorem dX12_markOf_152 : decode cX12_markOf 152 = .ok (.if_icmp .ne 13, 3) := by decide +kernel
theorem dX12_markOf_155 : decode cX12_markOf 155 = .ok (.iload 7, 2) := by decide +kernel
theorem dX12_markOf_157 : decode cX12_markOf 157 = .ok (.ifCond .le 8, 3) := by decide +kernel
theorem dX12_markOf_160 : decode cX12_markOf 160 = .ok (.iload 7, 2) := by decide +kernel
theorem dX12_markOf_162 : decode cX12_markOf 162 = .ok (.goto 4, 3) := by decide +kernel
theorem dX12_markOf_165 : decode cX12_markOf 165 = .ok (.iconst 0, 1) := by decide +kernel
theorem dX12_markOf_166 : decode cX12_markOf 166 = .ok (.iadd, 1) := by decide +kernel
theorem dX12_markOf_167 : decode cX12_markOf 167 = .ok (.ireturn, 1) := by decide +kernel
theorem dX12_gradeBy_0 : decode cX12_gradeBy 0 = .ok (.iload_n 0, 1) := by decide +kernel
theorem dX12_gradeBy_1 : decode cX12_gradeBy 1 = .ok (.bipush 80, 2) := by decide +kernel
theorem dX12_gradeBy_3 : decode cX12_gradeBy 3 = .ok (.if_icmp .lt 7, 3) := by decide +kernel
theorem dX12_gradeBy_6 : decode cX12_gradeBy 6 = .ok (.iconst 5, 1) := by decide +kernel
theorem dX12_gradeBy_7 : decode cX12_gradeBy 7 = .ok (.goto 34, 3) := by decide +kernel
theorem dX12_gradeBy_10 : decode cX12_gradeBy 10 = .ok (.iload_n 0, 1) := by decide +kernel
theorem dX12_gradeBy_11 : decode cX12_gradeBy 11 = .ok (.bipush 60, 2) := by decide +kernel
theorem dX12_gradeBy_13 : decode cX12_gradeBy 13 = .ok (.if_icmp .lt 7, 3) := by decide +kernel
theorem dX12_gradeBy_16 : decode cX12_gradeBy 16 = .ok (.iconst 4, 1) := by decide +kernel
theorem dX12_gradeBy_17 : decode cX12_gradeBy 17 = .ok (.goto 24, 3) := by decide +kernel
theorem dX12_gradeBy_20 : decode cX12_gradeBy 20 = .ok (.iload_n 0, 1) := by decide +kernel
theorem dX12_gradeBy_21 : decode cX12_gradeBy 21 = .ok (.bipush 40, 2) := by decide +kernel
theorem dX12_gradeBy_23 : decode cX12_gradeBy 23 = .ok (.if_icmp .lt 7, 3) := by decide +kernel
theorem dX12_gradeBy_26 : decode cX12_gradeBy 26 = .ok (.iconst 3, 1) := by decide +kernel
theorem dX12_gradeBy_27 : decode cX12_gradeBy 27 = .ok (.goto 14, 3) := by decide +kernel
theorem dX12_gradeBy_30 : decode cX12_gradeBy 30 = .ok (.iload_n 0, 1) := by decide +kernel
theorem dX12_gradeBy_31 : decode cX12_gradeBy 31 = .ok (.bipush 20, 2) := by decide +kernel
theorem dX12_gradeBy_33 : decode cX12_gradeBy 33 = .ok (.if_icmp .lt 7, 3) := by decide +kernel
theorem dX12_gradeBy_36 : decode cX12_gradeBy 36 = .ok (.iconst 2, 1) := by decide +kernel
theorem dX12_gradeBy_37 : decode cX12_gradeBy 37 = .ok (.goto 4, 3) := by decide +kernel
theorem dX12_gradeBy_40 : decode cX12_gradeBy 40 = .ok (.iconst 1, 1) := by decide +kernel
theorem dX12_gradeBy_41 : decode cX12_gradeBy 41 = .ok (.ireturn, 1) := by decide +kernel
theorem dX12_inTeam_0 : decode cX12_inTeam 0 = .ok (.iconst 0, 1) := by decide +kernel
theorem dX12_inTeam_1 : decode cX12_inTeam 1 = .ok (.istore_n 1, 1) := by decide +kernel
theorem dX12_inTeam_2 : decode cX12_inTeam 2 = .ok (.iconst 0, 1) := by decide +kernel
theorem dX12_inTeam_3 : decode cX12_inTeam 3 = .ok (.istore_n 2, 1) := by decide +kernel
theorem dX12_inTeam_4 : decode cX12_inTeam 4 = .ok (.iload_n 2, 1) := by decide +kernel
theorem dX12_inTeam_5 : decode cX12_inTeam 5 = .ok (.aload_n 0, 1) := by decide +kernel
theorem dX12_inTeam_6 : decode cX12_inTeam 6 = .ok (.getfield 9, 3) := by decide +kernel
theorem dX12_inTeam_9 : decode cX12_inTeam 9 = .ok (.bipush 51, 2) := by decide +kernel
theorem dX12_inTeam_11 : decode cX12_inTeam 11 = .ok (.iaload, 1) := by decide +kernel
theorem dX12_inTeam_12 : decode cX12_inTeam 12 = .ok (.if_icmp .ge 26, 3) := by decide +kernel
theorem dX12_inTeam_15 : decode cX12_inTeam 15 = .ok (.iload_n 1, 1) := by decide +kernel
theorem dX12_inTeam_16 : decode cX12_inTeam 16 = .ok (.aload_n 0, 1) := by decide +kernel
theorem dX12_inTeam_17 : decode cX12_inTeam 17 = .ok (.getfield 37, 3) := by decide +kernel
theorem dX12_inTeam_20 : decode cX12_inTeam 20 = .ok (.iload_n 2, 1) := by decide +kernel
theorem dX12_inTeam_21 : decode cX12_inTeam 21 = .ok (.baload, 1) := by decide +kernel
theorem dX12_inTeam_22 : decode cX12_inTeam 22 = .ok (.ifCond .eq 7, 3) := by decide +kernel
theorem dX12_inTeam_25 : decode cX12_inTeam 25 = .ok (.iconst 1, 1) := by decide +kernel
theorem dX12_inTeam_26 : decode cX12_inTeam 26 = .ok (.goto 4, 3) := by decide +kernel
theorem dX12_inTeam_29 : decode cX12_inTeam 29 = .ok (.iconst 0, 1) := by decide +kernel
theorem dX12_inTeam_30 : decode cX12_inTeam 30 = .ok (.iadd, 1) := by decide +kernel
theorem dX12_inTeam_31 : decode cX12_inTeam 31 = .ok (.istore_n 1, 1) := by decide +kernel
theorem dX12_inTeam_32 : decode cX12_inTeam 32 = .ok (.iinc 2 1, 3) := by decide +kernel
theorem dX12_inTeam_35 : decode cX12_inTeam 35 = .ok (.goto (-31), 3) := by decide +kernel
theorem dX12_inTeam_38 : decode cX12_inTeam 38 = .ok (.iload_n 1, 1) := by decide +kernel
theorem dX12_inTeam_39 : decode cX12_inTeam 39 = .ok (.ireturn, 1) := by decide +kernel
theorem dX12_givesFives_0 : decode cX12_givesFives 0 = .ok (.iconst 0, 1) := by decide +kernel
theorem dX12_givesFives_1 : decode cX12_givesFives 1 = .ok (.istore_n 3, 1) := by decide +kernel
theorem dX12_givesFives_2 : decode cX12_givesFives 2 = .ok (.iload_n 3, 1) := by decide +kernel
theorem dX12_givesFives_3 : decode cX12_givesFives 3 = .ok (.aload_n 0, 1) := by decide +kernel
theorem dX12_givesFives_4 : decode cX12_givesFives 4 = .ok (.getfield 9, 3) := by decide +kernel
theorem dX12_givesFives_7 : decode cX12_givesFives 7 = .ok (.bipush 51, 2) := by decide +kernel
theorem dX12_givesFives_9 : decode cX12_givesFives 9 = .ok (.iaload, 1) := by decide +kernel
theorem dX12_givesFives_10 : decode cX12_givesFives 10 = .ok (.if_icmp .ge 147, 3) := by decide +kernel
theorem dX12_givesFives_13 : decode cX12_givesFives 13 = .ok (.aload_n 0, 1) := by decide +kernel
theorem dX12_givesFives_14 : decode cX12_givesFives 14 = .ok (.getfield 37, 3) := by decide +kernel
theorem dX12_givesFives_17 : decode cX12_givesFives 17 = .ok (.iload_n 3, 1) := by decide +kernel
theorem dX12_givesFives_18 : decode cX12_givesFives 18 = .ok (.baload, 1) := by decide +kernel
theorem dX12_givesFives_19 : decode cX12_givesFives 19 = .ok (.ifCond .eq 132, 3) := by decide +kernel
theorem dX12_givesFives_22 : decode cX12_givesFives 22 = .ok (.aload_n 1, 1) := by decide +kernel
theorem dX12_givesFives_23 : decode cX12_givesFives 23 = .ok (.iload_n 3, 1) := by decide +kernel
theorem dX12_givesFives_24 : decode cX12_givesFives 24 = .ok (.iaload, 1) := by decide +kernel
theorem dX12_givesFives_25 : decode cX12_givesFives 25 = .ok (.iconst 5, 1) := by decide +kernel
theorem dX12_givesFives_26 : decode cX12_givesFives 26 = .ok (.if_icmp .ne 125, 3) := by decide +kernel
theorem dX12_givesFives_29 : decode cX12_givesFives 29 = .ok (.iconst 0, 1) := by decide +kernel
theorem dX12_givesFives_30 : decode cX12_givesFives 30 = .ok (.istore 4, 2) := by decide +kernel
theorem dX12_givesFives_32 : decode cX12_givesFives 32 = .ok (.iconst 0, 1) := by decide +kernel
theorem dX12_givesFives_33 : decode cX12_givesFives 33 = .ok (.istore 5, 2) := by decide +kernel
theorem dX12_givesFives_35 : decode cX12_givesFives 35 = .ok (.iload 5, 2) := by decide +kernel
theorem dX12_givesFives_37 : decode cX12_givesFives 37 = .ok (.aload_n 0, 1) := by decide +kernel
theorem dX12_givesFives_38 : decode cX12_givesFives 38 = .ok (.getfield 9, 3) := by decide +kernel
theorem dX12_givesFives_41 : decode cX12_givesFives 41 = .ok (.bipush 51, 2) := by decide +kernel
theorem dX12_givesFives_43 : decode cX12_givesFives 43 = .ok (.iaload, 1) := by decide +kernel
theorem dX12_givesFives_44 : decode cX12_givesFives 44 = .ok (.if_icmp .ge 93, 3) := by decide +kernel
theorem dX12_givesFives_47 : decode cX12_givesFives 47 = .ok (.aload_n 0, 1) := by decide +kernel
theorem dX12_givesFives_48 : decode cX12_givesFives 48 = .ok (.getfield 37, 3) := by decide +kernel
theorem dX12_givesFives_51 : decode cX12_givesFives 51 = .ok (.iload 5, 2) := by decide +kernel
theorem dX12_givesFives_53 : decode cX12_givesFives 53 = .ok (.baload, 1) := by decide +kernel
theorem dX12_givesFives_54 : decode cX12_givesFives 54 = .ok (.ifCond .eq 21, 3) := by decide +kernel
theorem dX12_givesFives_57 : decode cX12_givesFives 57 = .ok (.aload_n 0, 1) := by decide +kernel
theorem dX12_givesFives_58 : decode cX12_givesFives 58 = .ok (.getfield 28, 3) := by decide +kernel
theorem dX12_givesFives_61 : decode cX12_givesFives 61 = .ok (.iload 5, 2) := by decide +kernel
theorem dX12_givesFives_63 : decode cX12_givesFives 63 = .ok (.iaload, 1) := by decide +kernel
theorem dX12_givesFives_64 : decode cX12_givesFives 64 = .ok (.invokestatic 155, 3) := by decide +kernel
theorem dX12_givesFives_67 : decode cX12_givesFives 67 = .ok (.iconst 5, 1) := by decide +kernel
theorem dX12_givesFives_68 : decode cX12_givesFives 68 = .ok (.if_icmp .ne 7, 3) := by decide +kernel
theorem dX12_givesFives_71 : decode cX12_givesFives 71 = .ok (.iconst 1, 1) := by decide +kernel
theorem dX12_givesFives_72 : decode cX12_givesFives 72 = .ok (.goto 4, 3) := by decide +kernel
theorem dX12_givesFives_75 : decode cX12_givesFives 75 = .ok (.iconst 0, 1) := by decide +kernel
theorem dX12_givesFives_76 : decode cX12_givesFives 76 = .ok (.istore 6, 2) := by decide +kernel
theorem dX12_givesFives_78 : decode cX12_givesFives 78 = .ok (.iload 4, 2) := by decide +kernel
theorem dX12_givesFives_80 : decode cX12_givesFives 80 = .ok (.iload 6, 2) := by decide +kernel
theorem dX12_givesFives_82 : decode cX12_givesFives 82 = .ok (.ifCond .eq 45, 3) := by decide +kernel
theorem dX12_givesFives_85 : decode cX12_givesFives 85 = .ok (.aload_n 0, 1) := by decide +kernel
theorem dX12_givesFives_86 : decode cX12_givesFives 86 = .ok (.getfield 28, 3) := by decide +kernel
theorem dX12_givesFives_89 : decode cX12_givesFives 89 = .ok (.iload 5, 2) := by decide +kernel
theorem dX12_givesFives_91 : decode cX12_givesFives 91 = .ok (.iaload, 1) := by decide +kernel
theorem dX12_givesFives_92 : decode cX12_givesFives 92 = .ok (.aload_n 0, 1) := by decide +kernel
theorem dX12_givesFives_93 : decode cX12_givesFives 93 = .ok (.getfield 28, 3) := by decide +kernel
theorem dX12_givesFives_96 : decode cX12_givesFives 96 = .ok (.iload_n 3, 1) := by decide +kernel
theorem dX12_givesFives_97 : decode cX12_givesFives 97 = .ok (.iaload, 1) := by decide +kernel
theorem dX12_givesFives_98 : decode cX12_givesFives 98 = .ok (.if_icmp .gt 25, 3) := by decide +kernel
theorem dX12_givesFives_101 : decode cX12_givesFives 101 = .ok (.aload_n 0, 1) := by decide +kernel
theorem dX12_givesFives_102 : decode cX12_givesFives 102 = .ok (.getfield 28, 3) := by decide +kernel
theorem dX12_givesFives_105 : decode cX12_givesFives 105 = .ok (.iload 5, 2) := by decide +kernel
theorem dX12_givesFives_107 : decode cX12_givesFives 107 = .ok (.iaload, 1) := by decide +kernel
theorem dX12_givesFives_108 : decode cX12_givesFives 108 = .ok (.aload_n 0, 1) := by decide +kernel
theorem dX12_givesFives_109 : decode cX12_givesFives 109 = .ok (.getfield 28, 3) := by decide +kernel
theorem dX12_givesFives_112 : decode cX12_givesFives 112 = .ok (.iload_n 3, 1) := by decide +kernel
theorem dX12_givesFives_113 : decode cX12_givesFives 113 = .ok (.iaload, 1) := by decide +kernel
theorem dX12_givesFives_114 : decode cX12_givesFives 114 = .ok (.if_icmp .ne 13, 3) := by decide +kernel
theorem dX12_givesFives_117 : decode cX12_givesFives 117 = .ok (.iload 5, 2) := by decide +kernel
theorem dX12_givesFives_119 : decode cX12_givesFives 119 = .ok (.iload_n 3, 1) := by decide +kernel
theorem dX12_givesFives_120 : decode cX12_givesFives 120 = .ok (.if_icmp .ge 7, 3) := by decide +kernel
theorem dX12_givesFives_123 : decode cX12_givesFives 123 = .ok (.iconst 1, 1) := by decide +kernel
theorem dX12_givesFives_124 : decode cX12_givesFives 124 = .ok (.goto 4, 3) := by decide +kernel
theorem dX12_givesFives_127 : decode cX12_givesFives 127 = .ok (.iconst 0, 1) := by decide +kernel
theorem dX12_givesFives_128 : decode cX12_givesFives 128 = .ok (.iadd, 1) := by decide +kernel
theorem dX12_givesFives_129 : decode cX12_givesFives 129 = .ok (.istore 4, 2) := by decide +kernel
theorem dX12_givesFives_131 : decode cX12_givesFives 131 = .ok (.iinc 5 1, 3) := by decide +kernel
theorem dX12_givesFives_134 : decode cX12_givesFives 134 = .ok (.goto (-99), 3) := by decide +kernel
theorem dX12_givesFives_137 : decode cX12_givesFives 137 = .ok (.aload_n 1, 1) := by decide +kernel
theorem dX12_givesFives_138 : decode cX12_givesFives 138 = .ok (.iload_n 3, 1) := by decide +kernel
theorem dX12_givesFives_139 : decode cX12_givesFives 139 = .ok (.iload 4, 2) := by decide +kernel
theorem dX12_givesFives_141 : decode cX12_givesFives 141 = .ok (.iload_n 2, 1) := by decide +kernel
theorem dX12_givesFives_142 : decode cX12_givesFives 142 = .ok (.if_icmp .ge 7, 3) := by decide +kernel
theorem dX12_givesFives_145 : decode cX12_givesFives 145 = .ok (.iconst 5, 1) := by decide +kernel
theorem dX12_givesFives_146 : decode cX12_givesFives 146 = .ok (.goto 4, 3) := by decide +kernel
theorem dX12_givesFives_149 : decode cX12_givesFives 149 = .ok (.iconst 4, 1) := by decide +kernel
theorem dX12_givesFives_150 : decode cX12_givesFives 150 = .ok (.iastore, 1) := by decide +kernel
theorem dX12_givesFives_151 : decode cX12_givesFives 151 = .ok (.iinc 3 1, 3) := by decide +kernel
theorem dX12_givesFives_154 : decode cX12_givesFives 154 = .ok (.goto (-152), 3) := by decide +kernel
theorem dX12_givesFives_157 : decode cX12_givesFives 157 = .ok (.return_, 1) := by decide +kernel
theorem dX12_givesOnes_0 : decode cX12_givesOnes 0 = .ok (.iconst 0, 1) := by decide +kernel
theorem dX12_givesOnes_1 : decode cX12_givesOnes 1 = .ok (.istore_n 3, 1) := by decide +kernel
theorem dX12_givesOnes_2 : decode cX12_givesOnes 2 = .ok (.iload_n 3, 1) := by decide +kernel
theorem dX12_givesOnes_3 : decode cX12_givesOnes 3 = .ok (.aload_n 0, 1) := by decide +kernel
theorem dX12_givesOnes_4 : decode cX12_givesOnes 4 = .ok (.getfield 9, 3) := by decide +kernel
theorem dX12_givesOnes_7 : decode cX12_givesOnes 7 = .ok (.bipush 51, 2) := by decide +kernel
theorem dX12_givesOnes_9 : decode cX12_givesOnes 9 = .ok (.iaload, 1) := by decide +kernel
theorem dX12_givesOnes_10 : decode cX12_givesOnes 10 = .ok (.if_icmp .ge 116, 3) := by decide +kernel
theorem dX12_givesOnes_13 : decode cX12_givesOnes 13 = .ok (.aload_n 0, 1) := by decide +kernel
theorem dX12_givesOnes_14 : decode cX12_givesOnes 14 = .ok (.getfield 37, 3) := by decide +kernel
theorem dX12_givesOnes_17 : decode cX12_givesOnes 17 = .ok (.iload_n 3, 1) := by decide +kernel
theorem dX12_givesOnes_18 : decode cX12_givesOnes 18 = .ok (.baload, 1) := by decide +kernel
theorem dX12_givesOnes_19 : decode cX12_givesOnes 19 = .ok (.ifCond .eq 101, 3) := by decide +kernel
theorem dX12_givesOnes_22 : decode cX12_givesOnes 22 = .ok (.iconst 0, 1) := by decide +kernel
theorem dX12_givesOnes_23 : decode cX12_givesOnes 23 = .ok (.istore 4, 2) := by decide +kernel
theorem dX12_givesOnes_25 : decode cX12_givesOnes 25 = .ok (.iconst 0, 1) := by decide +kernel
theorem dX12_givesOnes_26 : decode cX12_givesOnes 26 = .ok (.istore 5, 2) := by decide +kernel
theorem dX12_givesOnes_28 : decode cX12_givesOnes 28 = .ok (.iload 5, 2) := by decide +kernel
theorem dX12_givesOnes_30 : decode cX12_givesOnes 30 = .ok (.aload_n 0, 1) := by decide +kernel
theorem dX12_givesOnes_31 : decode cX12_givesOnes 31 = .ok (.getfield 9, 3) := by decide +kernel
theorem dX12_givesOnes_34 : decode cX12_givesOnes 34 = .ok (.bipush 51, 2) := by decide +kernel
theorem dX12_givesOnes_36 : decode cX12_givesOnes 36 = .ok (.iaload, 1) := by decide +kernel
theorem dX12_givesOnes_37 : decode cX12_givesOnes 37 = .ok (.if_icmp .ge 67, 3) := by decide +kernel
theorem dX12_givesOnes_40 : decode cX12_givesOnes 40 = .ok (.iload 4, 2) := by decide +kernel
theorem dX12_givesOnes_42 : decode cX12_givesOnes 42 = .ok (.aload_n 0, 1) := by decide +kernel
theorem dX12_givesOnes_43 : decode cX12_givesOnes 43 = .ok (.getfield 37, 3) := by decide +kernel
theorem dX12_givesOnes_46 : decode cX12_givesOnes 46 = .ok (.iload 5, 2) := by decide +kernel
theorem dX12_givesOnes_48 : decode cX12_givesOnes 48 = .ok (.baload, 1) := by decide +kernel
theorem dX12_givesOnes_49 : decode cX12_givesOnes 49 = .ok (.ifCond .eq 45, 3) := by decide +kernel
theorem dX12_givesOnes_52 : decode cX12_givesOnes 52 = .ok (.aload_n 0, 1) := by decide +kernel
theorem dX12_givesOnes_53 : decode cX12_givesOnes 53 = .ok (.getfield 28, 3) := by decide +kernel
theorem dX12_givesOnes_56 : decode cX12_givesOnes 56 = .ok (.iload 5, 2) := by decide +kernel
theorem dX12_givesOnes_58 : decode cX12_givesOnes 58 = .ok (.iaload, 1) := by decide +kernel
theorem dX12_givesOnes_59 : decode cX12_givesOnes 59 = .ok (.aload_n 0, 1) := by decide +kernel
theorem dX12_givesOnes_60 : decode cX12_givesOnes 60 = .ok (.getfield 28, 3) := by decide +kernel
theorem dX12_givesOnes_63 : decode cX12_givesOnes 63 = .ok (.iload_n 3, 1) := by decide +kernel
theorem dX12_givesOnes_64 : decode cX12_givesOnes 64 = .ok (.iaload, 1) := by decide +kernel
theorem dX12_givesOnes_65 : decode cX12_givesOnes 65 = .ok (.if_icmp .lt 25, 3) := by decide +kernel
theorem dX12_givesOnes_68 : decode cX12_givesOnes 68 = .ok (.aload_n 0, 1) := by decide +kernel
theorem dX12_givesOnes_69 : decode cX12_givesOnes 69 = .ok (.getfield 28, 3) := by decide +kernel
theorem dX12_givesOnes_72 : decode cX12_givesOnes 72 = .ok (.iload 5, 2) := by decide +kernel
theorem dX12_givesOnes_74 : decode cX12_givesOnes 74 = .ok (.iaload, 1) := by decide +kernel
theorem dX12_givesOnes_75 : decode cX12_givesOnes 75 = .ok (.aload_n 0, 1) := by decide +kernel
theorem dX12_givesOnes_76 : decode cX12_givesOnes 76 = .ok (.getfield 28, 3) := by decide +kernel
theorem dX12_givesOnes_79 : decode cX12_givesOnes 79 = .ok (.iload_n 3, 1) := by decide +kernel
theorem dX12_givesOnes_80 : decode cX12_givesOnes 80 = .ok (.iaload, 1) := by decide +kernel
theorem dX12_givesOnes_81 : decode cX12_givesOnes 81 = .ok (.if_icmp .ne 13, 3) := by decide +kernel
theorem dX12_givesOnes_84 : decode cX12_givesOnes 84 = .ok (.iload 5, 2) := by decide +kernel
theorem dX12_givesOnes_86 : decode cX12_givesOnes 86 = .ok (.iload_n 3, 1) := by decide +kernel
theorem dX12_givesOnes_87 : decode cX12_givesOnes 87 = .ok (.if_icmp .le 7, 3) := by decide +kernel
theorem dX12_givesOnes_90 : decode cX12_givesOnes 90 = .ok (.iconst 1, 1) := by decide +kernel
theorem dX12_givesOnes_91 : decode cX12_givesOnes 91 = .ok (.goto 4, 3) := by decide +kernel
theorem dX12_givesOnes_94 : decode cX12_givesOnes 94 = .ok (.iconst 0, 1) := by decide +kernel
theorem dX12_givesOnes_95 : decode cX12_givesOnes 95 = .ok (.iadd, 1) := by decide +kernel
theorem dX12_givesOnes_96 : decode cX12_givesOnes 96 = .ok (.istore 4, 2) := by decide +kernel
theorem dX12_givesOnes_98 : decode cX12_givesOnes 98 = .ok (.iinc 5 1, 3) := by decide +kernel
theorem dX12_givesOnes_101 : decode cX12_givesOnes 101 = .ok (.goto (-73), 3) := by decide +kernel
theorem dX12_givesOnes_104 : decode cX12_givesOnes 104 = .ok (.aload_n 1, 1) := by decide +kernel
theorem dX12_givesOnes_105 : decode cX12_givesOnes 105 = .ok (.iload_n 3, 1) := by decide +kernel
theorem dX12_givesOnes_106 : decode cX12_givesOnes 106 = .ok (.iload 4, 2) := by decide +kernel
theorem dX12_givesOnes_108 : decode cX12_givesOnes 108 = .ok (.iload_n 2, 1) := by decide +kernel
theorem dX12_givesOnes_109 : decode cX12_givesOnes 109 = .ok (.if_icmp .ge 7, 3) := by decide +kernel
theorem dX12_givesOnes_112 : decode cX12_givesOnes 112 = .ok (.iconst 1, 1) := by decide +kernel
theorem dX12_givesOnes_113 : decode cX12_givesOnes 113 = .ok (.goto 6, 3) := by decide +kernel
theorem dX12_givesOnes_116 : decode cX12_givesOnes 116 = .ok (.aload_n 1, 1) := by decide +kernel
theorem dX12_givesOnes_117 : decode cX12_givesOnes 117 = .ok (.iload_n 3, 1) := by decide +kernel
theorem dX12_givesOnes_118 : decode cX12_givesOnes 118 = .ok (.iaload, 1) := by decide +kernel
theorem dX12_givesOnes_119 : decode cX12_givesOnes 119 = .ok (.iastore, 1) := by decide +kernel
theorem dX12_givesOnes_120 : decode cX12_givesOnes 120 = .ok (.iinc 3 1, 3) := by decide +kernel
theorem dX12_givesOnes_123 : decode cX12_givesOnes 123 = .ok (.goto (-121), 3) := by decide +kernel
theorem dX12_givesOnes_126 : decode cX12_givesOnes 126 = .ok (.return_, 1) := by decide +kernel
theorem dX12_turnsOnes_0 : decode cX12_turnsOnes 0 = .ok (.aload_n 0, 1) := by decide +kernel
theorem dX12_turnsOnes_1 : decode cX12_turnsOnes 1 = .ok (.invokevirtual 158, 3) := by decide +kernel
theorem dX12_turnsOnes_4 : decode cX12_turnsOnes 4 = .ok (.iload_n 3, 1) := by decide +kernel
theorem dX12_turnsOnes_5 : decode cX12_turnsOnes 5 = .ok (.iconst (-1), 1) := by decide +kernel
theorem dX12_turnsOnes_6 : decode cX12_turnsOnes 6 = .ok (.if_icmp .ne 7, 3) := by decide +kernel
theorem dX12_turnsOnes_9 : decode cX12_turnsOnes 9 = .ok (.iconst 0, 1) := by decide +kernel
theorem dX12_turnsOnes_10 : decode cX12_turnsOnes 10 = .ok (.goto 4, 3) := by decide +kernel
theorem dX12_turnsOnes_13 : decode cX12_turnsOnes 13 = .ok (.iconst 1, 1) := by decide +kernel
theorem dX12_turnsOnes_14 : decode cX12_turnsOnes 14 = .ok (.isub, 1) := by decide +kernel
theorem dX12_turnsOnes_15 : decode cX12_turnsOnes 15 = .ok (.istore 4, 2) := by decide +kernel
theorem dX12_turnsOnes_17 : decode cX12_turnsOnes 17 = .ok (.iconst 0, 1) := by decide +kernel
theorem dX12_turnsOnes_18 : decode cX12_turnsOnes 18 = .ok (.istore 5, 2) := by decide +kernel
theorem dX12_turnsOnes_20 : decode cX12_turnsOnes 20 = .ok (.iconst 0, 1) := by decide +kernel
theorem dX12_turnsOnes_21 : decode cX12_turnsOnes 21 = .ok (.istore 6, 2) := by decide +kernel
theorem dX12_turnsOnes_23 : decode cX12_turnsOnes 23 = .ok (.iload 6, 2) := by decide +kernel
theorem dX12_turnsOnes_25 : decode cX12_turnsOnes 25 = .ok (.aload_n 0, 1) := by decide +kernel
theorem dX12_turnsOnes_26 : decode cX12_turnsOnes 26 = .ok (.getfield 9, 3) := by decide +kernel
theorem dX12_turnsOnes_29 : decode cX12_turnsOnes 29 = .ok (.bipush 51, 2) := by decide +kernel
theorem dX12_turnsOnes_31 : decode cX12_turnsOnes 31 = .ok (.iaload, 1) := by decide +kernel
theorem dX12_turnsOnes_32 : decode cX12_turnsOnes 32 = .ok (.if_icmp .ge 66, 3) := by decide +kernel
theorem dX12_turnsOnes_35 : decode cX12_turnsOnes 35 = .ok (.aload_n 0, 1) := by decide +kernel
theorem dX12_turnsOnes_36 : decode cX12_turnsOnes 36 = .ok (.getfield 37, 3) := by decide +kernel
theorem dX12_turnsOnes_39 : decode cX12_turnsOnes 39 = .ok (.iload 6, 2) := by decide +kernel
theorem dX12_turnsOnes_41 : decode cX12_turnsOnes 41 = .ok (.baload, 1) := by decide +kernel
theorem dX12_turnsOnes_42 : decode cX12_turnsOnes 42 = .ok (.ifCond .eq 50, 3) := by decide +kernel
theorem dX12_turnsOnes_45 : decode cX12_turnsOnes 45 = .ok (.iload 6, 2) := by decide +kernel
theorem dX12_turnsOnes_47 : decode cX12_turnsOnes 47 = .ok (.iload_n 3, 1) := by decide +kernel
theorem dX12_turnsOnes_48 : decode cX12_turnsOnes 48 = .ok (.if_icmp .eq 44, 3) := by decide +kernel
theorem dX12_turnsOnes_51 : decode cX12_turnsOnes 51 = .ok (.iload 5, 2) := by decide +kernel
theorem dX12_turnsOnes_53 : decode cX12_turnsOnes 53 = .ok (.aload_n 0, 1) := by decide +kernel
theorem dX12_turnsOnes_54 : decode cX12_turnsOnes 54 = .ok (.getfield 9, 3) := by decide +kernel
theorem dX12_turnsOnes_57 : decode cX12_turnsOnes 57 = .ok (.iconst 0, 1) := by decide +kernel
theorem dX12_turnsOnes_58 : decode cX12_turnsOnes 58 = .ok (.iaload, 1) := by decide +kernel
theorem dX12_turnsOnes_59 : decode cX12_turnsOnes 59 = .ok (.iload 4, 2) := by decide +kernel
theorem dX12_turnsOnes_61 : decode cX12_turnsOnes 61 = .ok (.irem, 1) := by decide +kernel
theorem dX12_turnsOnes_62 : decode cX12_turnsOnes 62 = .ok (.isub, 1) := by decide +kernel
theorem dX12_turnsOnes_63 : decode cX12_turnsOnes 63 = .ok (.iload 4, 2) := by decide +kernel
theorem dX12_turnsOnes_65 : decode cX12_turnsOnes 65 = .ok (.iadd, 1) := by decide +kernel
theorem dX12_turnsOnes_66 : decode cX12_turnsOnes 66 = .ok (.iload 4, 2) := by decide +kernel
theorem dX12_turnsOnes_68 : decode cX12_turnsOnes 68 = .ok (.irem, 1) := by decide +kernel
theorem dX12_turnsOnes_69 : decode cX12_turnsOnes 69 = .ok (.istore 7, 2) := by decide +kernel
theorem dX12_turnsOnes_71 : decode cX12_turnsOnes 71 = .ok (.aload_n 1, 1) := by decide +kernel
theorem dX12_turnsOnes_72 : decode cX12_turnsOnes 72 = .ok (.iload 6, 2) := by decide +kernel
theorem dX12_turnsOnes_74 : decode cX12_turnsOnes 74 = .ok (.iload 7, 2) := by decide +kernel
theorem dX12_turnsOnes_76 : decode cX12_turnsOnes 76 = .ok (.iload_n 2, 1) := by decide +kernel
theorem dX12_turnsOnes_77 : decode cX12_turnsOnes 77 = .ok (.if_icmp .ge 7, 3) := by decide +kernel
theorem dX12_turnsOnes_80 : decode cX12_turnsOnes 80 = .ok (.iconst 1, 1) := by decide +kernel
theorem dX12_turnsOnes_81 : decode cX12_turnsOnes 81 = .ok (.goto 7, 3) := by decide +kernel
theorem dX12_turnsOnes_84 : decode cX12_turnsOnes 84 = .ok (.aload_n 1, 1) := by decide +kernel
theorem dX12_turnsOnes_85 : decode cX12_turnsOnes 85 = .ok (.iload 6, 2) := by decide +kernel
theorem dX12_turnsOnes_87 : decode cX12_turnsOnes 87 = .ok (.iaload, 1) := by decide +kernel
theorem dX12_turnsOnes_88 : decode cX12_turnsOnes 88 = .ok (.iastore, 1) := by decide +kernel
theorem dX12_turnsOnes_89 : decode cX12_turnsOnes 89 = .ok (.iinc 5 1, 3) := by decide +kernel
theorem dX12_turnsOnes_92 : decode cX12_turnsOnes 92 = .ok (.iinc 6 1, 3) := by decide +kernel
theorem dX12_turnsOnes_95 : decode cX12_turnsOnes 95 = .ok (.goto (-72), 3) := by decide +kernel
theorem dX12_turnsOnes_98 : decode cX12_turnsOnes 98 = .ok (.return_, 1) := by decide +kernel
theorem dX12_onesBy_0 : decode cX12_onesBy 0 = .ok (.aload_n 0, 1) := by decide +kernel
theorem dX12_onesBy_1 : decode cX12_onesBy 1 = .ok (.getfield 9, 3) := by decide +kernel
theorem dX12_onesBy_4 : decode cX12_onesBy 4 = .ok (.bipush 64, 2) := by decide +kernel
theorem dX12_onesBy_6 : decode cX12_onesBy 6 = .ok (.iload_n 1, 1) := by decide +kernel
theorem dX12_onesBy_7 : decode cX12_onesBy 7 = .ok (.iadd, 1) := by decide +kernel
theorem dX12_onesBy_8 : decode cX12_onesBy 8 = .ok (.iaload, 1) := by decide +kernel
theorem dX12_onesBy_9 : decode cX12_onesBy 9 = .ok (.istore_n 3, 1) := by decide +kernel
theorem dX12_onesBy_10 : decode cX12_onesBy 10 = .ok (.iload_n 2, 1) := by decide +kernel
theorem dX12_onesBy_11 : decode cX12_onesBy 11 = .ok (.ifCond .ne 4, 3) := by decide +kernel
theorem dX12_onesBy_14 : decode cX12_onesBy 14 = .ok (.return_, 1) := by decide +kernel
theorem dX12_onesBy_15 : decode cX12_onesBy 15 = .ok (.aload_n 0, 1) := by decide +kernel
theorem dX12_onesBy_16 : decode cX12_onesBy 16 = .ok (.getfield 9, 3) := by decide +kernel
theorem dX12_onesBy_19 : decode cX12_onesBy 19 = .ok (.bipush 60, 2) := by decide +kernel
theorem dX12_onesBy_21 : decode cX12_onesBy 21 = .ok (.iload_n 1, 1) := by decide +kernel
theorem dX12_onesBy_22 : decode cX12_onesBy 22 = .ok (.iadd, 1) := by decide +kernel
theorem dX12_onesBy_23 : decode cX12_onesBy 23 = .ok (.iaload, 1) := by decide +kernel
theorem dX12_onesBy_24 : decode cX12_onesBy 24 = .ok (.iconst 5, 1) := by decide +kernel
theorem dX12_onesBy_25 : decode cX12_onesBy 25 = .ok (.if_icmp .ne 53, 3) := by decide +kernel
theorem dX12_onesBy_28 : decode cX12_onesBy 28 = .ok (.iload_n 3, 1) := by decide +kernel
theorem dX12_onesBy_29 : decode cX12_onesBy 29 = .ok (.aload_n 0, 1) := by decide +kernel
theorem dX12_onesBy_30 : decode cX12_onesBy 30 = .ok (.getfield 9, 3) := by decide +kernel
theorem dX12_onesBy_33 : decode cX12_onesBy 33 = .ok (.bipush 51, 2) := by decide +kernel
theorem dX12_onesBy_35 : decode cX12_onesBy 35 = .ok (.iaload, 1) := by decide +kernel
theorem dX12_onesBy_36 : decode cX12_onesBy 36 = .ok (.if_icmp .ge 42, 3) := by decide +kernel
theorem dX12_onesBy_39 : decode cX12_onesBy 39 = .ok (.aload_n 0, 1) := by decide +kernel
theorem dX12_onesBy_40 : decode cX12_onesBy 40 = .ok (.getfield 37, 3) := by decide +kernel
theorem dX12_onesBy_43 : decode cX12_onesBy 43 = .ok (.iload_n 3, 1) := by decide +kernel
theorem dX12_onesBy_44 : decode cX12_onesBy 44 = .ok (.baload, 1) := by decide +kernel
theorem dX12_onesBy_45 : decode cX12_onesBy 45 = .ok (.ifCond .eq 33, 3) := by decide +kernel
theorem dX12_onesBy_48 : decode cX12_onesBy 48 = .ok (.aload_n 0, 1) := by decide +kernel
theorem dX12_onesBy_49 : decode cX12_onesBy 49 = .ok (.getfield 31, 3) := by decide +kernel
theorem dX12_onesBy_52 : decode cX12_onesBy 52 = .ok (.iload_n 3, 1) := by decide +kernel
theorem dX12_onesBy_53 : decode cX12_onesBy 53 = .ok (.iconst 1, 1) := by decide +kernel
theorem dX12_onesBy_54 : decode cX12_onesBy 54 = .ok (.iastore, 1) := by decide +kernel
theorem dX12_onesBy_55 : decode cX12_onesBy 55 = .ok (.aload_n 0, 1) := by decide +kernel
theorem dX12_onesBy_56 : decode cX12_onesBy 56 = .ok (.invokevirtual 158, 3) := by decide +kernel
theorem dX12_onesBy_59 : decode cX12_onesBy 59 = .ok (.iconst 1, 1) := by decide +kernel
theorem dX12_onesBy_60 : decode cX12_onesBy 60 = .ok (.if_icmp .le 66, 3) := by decide +kernel
theorem dX12_onesBy_63 : decode cX12_onesBy 63 = .ok (.aload_n 0, 1) := by decide +kernel
theorem dX12_onesBy_64 : decode cX12_onesBy 64 = .ok (.aload_n 0, 1) := by decide +kernel
theorem dX12_onesBy_65 : decode cX12_onesBy 65 = .ok (.getfield 31, 3) := by decide +kernel
theorem dX12_onesBy_68 : decode cX12_onesBy 68 = .ok (.iload_n 2, 1) := by decide +kernel
theorem dX12_onesBy_69 : decode cX12_onesBy 69 = .ok (.iconst 1, 1) := by decide +kernel
theorem dX12_onesBy_70 : decode cX12_onesBy 70 = .ok (.isub, 1) := by decide +kernel
theorem dX12_onesBy_71 : decode cX12_onesBy 71 = .ok (.iload_n 3, 1) := by decide +kernel
theorem dX12_onesBy_72 : decode cX12_onesBy 72 = .ok (.invokevirtual 161, 3) := by decide +kernel
theorem dX12_onesBy_75 : decode cX12_onesBy 75 = .ok (.goto 51, 3) := by decide +kernel
theorem dX12_onesBy_78 : decode cX12_onesBy 78 = .ok (.aload_n 0, 1) := by decide +kernel
theorem dX12_onesBy_79 : decode cX12_onesBy 79 = .ok (.getfield 9, 3) := by decide +kernel
theorem dX12_onesBy_82 : decode cX12_onesBy 82 = .ok (.bipush 60, 2) := by decide +kernel
theorem dX12_onesBy_84 : decode cX12_onesBy 84 = .ok (.iload_n 1, 1) := by decide +kernel
theorem dX12_onesBy_85 : decode cX12_onesBy 85 = .ok (.iadd, 1) := by decide +kernel
theorem dX12_onesBy_86 : decode cX12_onesBy 86 = .ok (.iaload, 1) := by decide +kernel
theorem dX12_onesBy_87 : decode cX12_onesBy 87 = .ok (.iconst 2, 1) := by decide +kernel
theorem dX12_onesBy_88 : decode cX12_onesBy 88 = .ok (.if_icmp .eq 16, 3) := by decide +kernel
theorem dX12_onesBy_91 : decode cX12_onesBy 91 = .ok (.aload_n 0, 1) := by decide +kernel
theorem dX12_onesBy_92 : decode cX12_onesBy 92 = .ok (.getfield 9, 3) := by decide +kernel
theorem dX12_onesBy_95 : decode cX12_onesBy 95 = .ok (.bipush 60, 2) := by decide +kernel
theorem dX12_onesBy_97 : decode cX12_onesBy 97 = .ok (.iload_n 1, 1) := by decide +kernel
theorem dX12_onesBy_98 : decode cX12_onesBy 98 = .ok (.iadd, 1) := by decide +kernel
theorem dX12_onesBy_99 : decode cX12_onesBy 99 = .ok (.iaload, 1) := by decide +kernel
theorem dX12_onesBy_100 : decode cX12_onesBy 100 = .ok (.iconst 5, 1) := by decide +kernel
theorem dX12_onesBy_101 : decode cX12_onesBy 101 = .ok (.if_icmp .ne 16, 3) := by decide +kernel
theorem dX12_onesBy_104 : decode cX12_onesBy 104 = .ok (.aload_n 0, 1) := by decide +kernel
theorem dX12_onesBy_105 : decode cX12_onesBy 105 = .ok (.aload_n 0, 1) := by decide +kernel
theorem dX12_onesBy_106 : decode cX12_onesBy 106 = .ok (.getfield 31, 3) := by decide +kernel
theorem dX12_onesBy_109 : decode cX12_onesBy 109 = .ok (.iload_n 2, 1) := by decide +kernel
theorem dX12_onesBy_110 : decode cX12_onesBy 110 = .ok (.iconst (-1), 1) := by decide +kernel
theorem dX12_onesBy_111 : decode cX12_onesBy 111 = .ok (.invokevirtual 161, 3) := by decide +kernel
theorem dX12_onesBy_114 : decode cX12_onesBy 114 = .ok (.goto 12, 3) := by decide +kernel
theorem dX12_onesBy_117 : decode cX12_onesBy 117 = .ok (.aload_n 0, 1) := by decide +kernel
theorem dX12_onesBy_118 : decode cX12_onesBy 118 = .ok (.aload_n 0, 1) := by decide +kernel
theorem dX12_onesBy_119 : decode cX12_onesBy 119 = .ok (.getfield 31, 3) := by decide +kernel
theorem dX12_onesBy_122 : decode cX12_onesBy 122 = .ok (.iload_n 2, 1) := by decide +kernel
theorem dX12_onesBy_123 : decode cX12_onesBy 123 = .ok (.invokevirtual 165, 3) := by decide +kernel
theorem dX12_onesBy_126 : decode cX12_onesBy 126 = .ok (.return_, 1) := by decide +kernel
theorem dX12_shareOf_0 : decode cX12_shareOf 0 = .ok (.iload_n 1, 1) := by decide +kernel
theorem dX12_shareOf_1 : decode cX12_shareOf 1 = .ok (.aload_n 0, 1) := by decide +kernel
theorem dX12_shareOf_2 : decode cX12_shareOf 2 = .ok (.invokevirtual 158, 3) := by decide +kernel
theorem dX12_shareOf_5 : decode cX12_shareOf 5 = .ok (.imul, 1) := by decide +kernel
theorem dX12_shareOf_6 : decode cX12_shareOf 6 = .ok (.bipush 10, 2) := by decide +kernel
theorem dX12_shareOf_8 : decode cX12_shareOf 8 = .ok (.idiv, 1) := by decide +kernel
theorem dX12_shareOf_9 : decode cX12_shareOf 9 = .ok (.ireturn, 1) := by decide +kernel
theorem dX12_gradesTeam_0 : decode cX12_gradesTeam 0 = .ok (.iconst 0, 1) := by decide +kernel
theorem dX12_gradesTeam_1 : decode cX12_gradesTeam 1 = .ok (.istore_n 2, 1) := by decide +kernel
theorem dX12_gradesTeam_2 : decode cX12_gradesTeam 2 = .ok (.iload_n 2, 1) := by decide +kernel
theorem dX12_gradesTeam_3 : decode cX12_gradesTeam 3 = .ok (.aload_n 0, 1) := by decide +kernel
theorem dX12_gradesTeam_4 : decode cX12_gradesTeam 4 = .ok (.getfield 9, 3) := by decide +kernel
theorem dX12_gradesTeam_7 : decode cX12_gradesTeam 7 = .ok (.bipush 51, 2) := by decide +kernel
theorem dX12_gradesTeam_9 : decode cX12_gradesTeam 9 = .ok (.iaload, 1) := by decide +kernel
theorem dX12_gradesTeam_10 : decode cX12_gradesTeam 10 = .ok (.if_icmp .ge 66, 3) := by decide +kernel
theorem dX12_gradesTeam_13 : decode cX12_gradesTeam 13 = .ok (.aload_n 0, 1) := by decide +kernel
theorem dX12_gradesTeam_14 : decode cX12_gradesTeam 14 = .ok (.getfield 37, 3) := by decide +kernel
theorem dX12_gradesTeam_17 : decode cX12_gradesTeam 17 = .ok (.iload_n 2, 1) := by decide +kernel
theorem dX12_gradesTeam_18 : decode cX12_gradesTeam 18 = .ok (.aload_n 0, 1) := by decide +kernel
theorem dX12_gradesTeam_19 : decode cX12_gradesTeam 19 = .ok (.getfield 9, 3) := by decide +kernel
theorem dX12_gradesTeam_22 : decode cX12_gradesTeam 22 = .ok (.bipush 31, 2) := by decide +kernel
theorem dX12_gradesTeam_24 : decode cX12_gradesTeam 24 = .ok (.iload_n 2, 1) := by decide +kernel
theorem dX12_gradesTeam_25 : decode cX12_gradesTeam 25 = .ok (.iadd, 1) := by decide +kernel
theorem dX12_gradesTeam_26 : decode cX12_gradesTeam 26 = .ok (.iaload, 1) := by decide +kernel
theorem dX12_gradesTeam_27 : decode cX12_gradesTeam 27 = .ok (.iload_n 1, 1) := by decide +kernel
theorem dX12_gradesTeam_28 : decode cX12_gradesTeam 28 = .ok (.if_icmp .ne 7, 3) := by decide +kernel
theorem dX12_gradesTeam_31 : decode cX12_gradesTeam 31 = .ok (.iconst 1, 1) := by decide +kernel
theorem dX12_gradesTeam_32 : decode cX12_gradesTeam 32 = .ok (.goto 4, 3) := by decide +kernel
theorem dX12_gradesTeam_35 : decode cX12_gradesTeam 35 = .ok (.iconst 0, 1) := by decide +kernel
theorem dX12_gradesTeam_36 : decode cX12_gradesTeam 36 = .ok (.bastore, 1) := by decide +kernel
theorem dX12_gradesTeam_37 : decode cX12_gradesTeam 37 = .ok (.aload_n 0, 1) := by decide +kernel
theorem dX12_gradesTeam_38 : decode cX12_gradesTeam 38 = .ok (.getfield 31, 3) := by decide +kernel
theorem dX12_gradesTeam_41 : decode cX12_gradesTeam 41 = .ok (.iload_n 2, 1) := by decide +kernel
theorem dX12_gradesTeam_42 : decode cX12_gradesTeam 42 = .ok (.aload_n 0, 1) := by decide +kernel
theorem dX12_gradesTeam_43 : decode cX12_gradesTeam 43 = .ok (.getfield 37, 3) := by decide +kernel
theorem dX12_gradesTeam_46 : decode cX12_gradesTeam 46 = .ok (.iload_n 2, 1) := by decide +kernel
theorem dX12_gradesTeam_47 : decode cX12_gradesTeam 47 = .ok (.baload, 1) := by decide +kernel
theorem dX12_gradesTeam_48 : decode cX12_gradesTeam 48 = .ok (.ifCond .eq 15, 3) := by decide +kernel
theorem dX12_gradesTeam_51 : decode cX12_gradesTeam 51 = .ok (.aload_n 0, 1) := by decide +kernel
theorem dX12_gradesTeam_52 : decode cX12_gradesTeam 52 = .ok (.getfield 28, 3) := by decide +kernel
theorem dX12_gradesTeam_55 : decode cX12_gradesTeam 55 = .ok (.iload_n 2, 1) := by decide +kernel
theorem dX12_gradesTeam_56 : decode cX12_gradesTeam 56 = .ok (.iaload, 1) := by decide +kernel
theorem dX12_gradesTeam_57 : decode cX12_gradesTeam 57 = .ok (.invokestatic 155, 3) := by decide +kernel
theorem dX12_gradesTeam_60 : decode cX12_gradesTeam 60 = .ok (.goto 9, 3) := by decide +kernel
theorem dX12_gradesTeam_63 : decode cX12_gradesTeam 63 = .ok (.aload_n 0, 1) := by decide +kernel
theorem dX12_gradesTeam_64 : decode cX12_gradesTeam 64 = .ok (.getfield 31, 3) := by decide +kernel
theorem dX12_gradesTeam_67 : decode cX12_gradesTeam 67 = .ok (.iload_n 2, 1) := by decide +kernel
theorem dX12_gradesTeam_68 : decode cX12_gradesTeam 68 = .ok (.iaload, 1) := by decide +kernel
theorem dX12_gradesTeam_69 : decode cX12_gradesTeam 69 = .ok (.iastore, 1) := by decide +kernel
theorem dX12_gradesTeam_70 : decode cX12_gradesTeam 70 = .ok (.iinc 2 1, 3) := by decide +kernel
theorem dX12_gradesTeam_73 : decode cX12_gradesTeam 73 = .ok (.goto (-71), 3) := by decide +kernel
theorem dX12_gradesTeam_76 : decode cX12_gradesTeam 76 = .ok (.aload_n 0, 1) := by decide +kernel
theorem dX12_gradesTeam_77 : decode cX12_gradesTeam 77 = .ok (.aload_n 0, 1) := by decide +kernel
theorem dX12_gradesTeam_78 : decode cX12_gradesTeam 78 = .ok (.getfield 31, 3) := by decide +kernel
theorem dX12_gradesTeam_81 : decode cX12_gradesTeam 81 = .ok (.aload_n 0, 1) := by decide +kernel
theorem dX12_gradesTeam_82 : decode cX12_gradesTeam 82 = .ok (.aload_n 0, 1) := by decide +kernel
theorem dX12_gradesTeam_83 : decode cX12_gradesTeam 83 = .ok (.iconst 0, 1) := by decide +kernel
theorem dX12_gradesTeam_84 : decode cX12_gradesTeam 84 = .ok (.invokevirtual 169, 3) := by decide +kernel
theorem dX12_gradesTeam_87 : decode cX12_gradesTeam 87 = .ok (.invokevirtual 172, 3) := by decide +kernel
theorem dX12_gradesTeam_90 : decode cX12_gradesTeam 90 = .ok (.invokevirtual 175, 3) := by decide +kernel
theorem dX12_gradesTeam_93 : decode cX12_gradesTeam 93 = .ok (.aload_n 0, 1) := by decide +kernel
theorem dX12_gradesTeam_94 : decode cX12_gradesTeam 94 = .ok (.iload_n 1, 1) := by decide +kernel
theorem dX12_gradesTeam_95 : decode cX12_gradesTeam 95 = .ok (.aload_n 0, 1) := by decide +kernel
theorem dX12_gradesTeam_96 : decode cX12_gradesTeam 96 = .ok (.aload_n 0, 1) := by decide +kernel
theorem dX12_gradesTeam_97 : decode cX12_gradesTeam 97 = .ok (.iconst 1, 1) := by decide +kernel
theorem dX12_gradesTeam_98 : decode cX12_gradesTeam 98 = .ok (.invokevirtual 169, 3) := by decide +kernel
theorem dX12_gradesTeam_101 : decode cX12_gradesTeam 101 = .ok (.invokevirtual 172, 3) := by decide +kernel
theorem dX12_gradesTeam_104 : decode cX12_gradesTeam 104 = .ok (.invokevirtual 178, 3) := by decide +kernel
theorem dX12_gradesTeam_107 : decode cX12_gradesTeam 107 = .ok (.return_, 1) := by decide +kernel
theorem dX12_gradesAll_0 : decode cX12_gradesAll 0 = .ok (.iconst 0, 1) := by decide +kernel
theorem dX12_gradesAll_1 : decode cX12_gradesAll 1 = .ok (.istore_n 1, 1) := by decide +kernel
theorem dX12_gradesAll_2 : decode cX12_gradesAll 2 = .ok (.iload_n 1, 1) := by decide +kernel
theorem dX12_gradesAll_3 : decode cX12_gradesAll 3 = .ok (.aload_n 0, 1) := by decide +kernel
theorem dX12_gradesAll_4 : decode cX12_gradesAll 4 = .ok (.getfield 9, 3) := by decide +kernel
theorem dX12_gradesAll_7 : decode cX12_gradesAll 7 = .ok (.bipush 51, 2) := by decide +kernel
theorem dX12_gradesAll_9 : decode cX12_gradesAll 9 = .ok (.iaload, 1) := by decide +kernel
theorem dX12_gradesAll_10 : decode cX12_gradesAll 10 = .ok (.if_icmp .ge 29, 3) := by decide +kernel
theorem dX12_gradesAll_13 : decode cX12_gradesAll 13 = .ok (.aload_n 0, 1) := by decide +kernel
theorem dX12_gradesAll_14 : decode cX12_gradesAll 14 = .ok (.getfield 28, 3) := by decide +kernel
theorem dX12_gradesAll_17 : decode cX12_gradesAll 17 = .ok (.iload_n 1, 1) := by decide +kernel
theorem dX12_gradesAll_18 : decode cX12_gradesAll 18 = .ok (.aload_n 0, 1) := by decide +kernel
theorem dX12_gradesAll_19 : decode cX12_gradesAll 19 = .ok (.iload_n 1, 1) := by decide +kernel
theorem dX12_gradesAll_20 : decode cX12_gradesAll 20 = .ok (.aload_n 0, 1) := by decide +kernel
theorem dX12_gradesAll_21 : decode cX12_gradesAll 21 = .ok (.getfield 9, 3) := by decide +kernel
theorem dX12_gradesAll_24 : decode cX12_gradesAll 24 = .ok (.bipush 31, 2) := by decide +kernel
theorem dX12_gradesAll_26 : decode cX12_gradesAll 26 = .ok (.iload_n 1, 1) := by decide +kernel
theorem dX12_gradesAll_27 : decode cX12_gradesAll 27 = .ok (.iadd, 1) := by decide +kernel
theorem dX12_gradesAll_28 : decode cX12_gradesAll 28 = .ok (.iaload, 1) := by decide +kernel
theorem dX12_gradesAll_29 : decode cX12_gradesAll 29 = .ok (.invokevirtual 182, 3) := by decide +kernel
theorem dX12_gradesAll_32 : decode cX12_gradesAll 32 = .ok (.iastore, 1) := by decide +kernel
theorem dX12_gradesAll_33 : decode cX12_gradesAll 33 = .ok (.iinc 1 1, 3) := by decide +kernel
theorem dX12_gradesAll_36 : decode cX12_gradesAll 36 = .ok (.goto (-34), 3) := by decide +kernel
theorem dX12_gradesAll_39 : decode cX12_gradesAll 39 = .ok (.iconst 0, 1) := by decide +kernel
theorem dX12_gradesAll_40 : decode cX12_gradesAll 40 = .ok (.istore_n 1, 1) := by decide +kernel
theorem dX12_gradesAll_41 : decode cX12_gradesAll 41 = .ok (.iload_n 1, 1) := by decide +kernel
theorem dX12_gradesAll_42 : decode cX12_gradesAll 42 = .ok (.aload_n 0, 1) := by decide +kernel
theorem dX12_gradesAll_43 : decode cX12_gradesAll 43 = .ok (.getfield 9, 3) := by decide +kernel
theorem dX12_gradesAll_46 : decode cX12_gradesAll 46 = .ok (.bipush 52, 2) := by decide +kernel
theorem dX12_gradesAll_48 : decode cX12_gradesAll 48 = .ok (.iaload, 1) := by decide +kernel
theorem dX12_gradesAll_49 : decode cX12_gradesAll 49 = .ok (.if_icmp .ge 14, 3) := by decide +kernel
theorem dX12_gradesAll_52 : decode cX12_gradesAll 52 = .ok (.aload_n 0, 1) := by decide +kernel
theorem dX12_gradesAll_53 : decode cX12_gradesAll 53 = .ok (.iload_n 1, 1) := by decide +kernel
theorem dX12_gradesAll_54 : decode cX12_gradesAll 54 = .ok (.invokevirtual 185, 3) := by decide +kernel
theorem dX12_gradesAll_57 : decode cX12_gradesAll 57 = .ok (.iinc 1 1, 3) := by decide +kernel
theorem dX12_gradesAll_60 : decode cX12_gradesAll 60 = .ok (.goto (-19), 3) := by decide +kernel
theorem dX12_gradesAll_63 : decode cX12_gradesAll 63 = .ok (.return_, 1) := by decide +kernel
theorem dX12_meanOf_0 : decode cX12_meanOf 0 = .ok (.iconst 0, 1) := by decide +kernel
theorem dX12_meanOf_1 : decode cX12_meanOf 1 = .ok (.istore_n 2, 1) := by decide +kernel
theorem dX12_meanOf_2 : decode cX12_meanOf 2 = .ok (.iconst 0, 1) := by decide +kernel
theorem dX12_meanOf_3 : decode cX12_meanOf 3 = .ok (.istore_n 3, 1) := by decide +kernel
theorem dX12_meanOf_4 : decode cX12_meanOf 4 = .ok (.iconst 0, 1) := by decide +kernel
theorem dX12_meanOf_5 : decode cX12_meanOf 5 = .ok (.istore 4, 2) := by decide +kernel
theorem dX12_meanOf_7 : decode cX12_meanOf 7 = .ok (.iload 4, 2) := by decide +kernel
theorem dX12_meanOf_9 : decode cX12_meanOf 9 = .ok (.aload_n 0, 1) := by decide +kernel
theorem dX12_meanOf_10 : decode cX12_meanOf 10 = .ok (.getfield 9, 3) := by decide +kernel
theorem dX12_meanOf_13 : decode cX12_meanOf 13 = .ok (.bipush 51, 2) := by decide +kernel
theorem dX12_meanOf_15 : decode cX12_meanOf 15 = .ok (.iaload, 1) := by decide +kernel
theorem dX12_meanOf_16 : decode cX12_meanOf 16 = .ok (.if_icmp .ge 67, 3) := by decide +kernel
theorem dX12_meanOf_19 : decode cX12_meanOf 19 = .ok (.iload_n 1, 1) := by decide +kernel
theorem dX12_meanOf_20 : decode cX12_meanOf 20 = .ok (.iconst (-1), 1) := by decide +kernel
theorem dX12_meanOf_21 : decode cX12_meanOf 21 = .ok (.if_icmp .eq 17, 3) := by decide +kernel
theorem dX12_meanOf_24 : decode cX12_meanOf 24 = .ok (.aload_n 0, 1) := by decide +kernel
theorem dX12_meanOf_25 : decode cX12_meanOf 25 = .ok (.getfield 9, 3) := by decide +kernel
theorem dX12_meanOf_28 : decode cX12_meanOf 28 = .ok (.bipush 31, 2) := by decide +kernel
theorem dX12_meanOf_30 : decode cX12_meanOf 30 = .ok (.iload 4, 2) := by decide +kernel
theorem dX12_meanOf_32 : decode cX12_meanOf 32 = .ok (.iadd, 1) := by decide +kernel
theorem dX12_meanOf_33 : decode cX12_meanOf 33 = .ok (.iaload, 1) := by decide +kernel
theorem dX12_meanOf_34 : decode cX12_meanOf 34 = .ok (.iload_n 1, 1) := by decide +kernel
theorem dX12_meanOf_35 : decode cX12_meanOf 35 = .ok (.if_icmp .ne 7, 3) := by decide +kernel
theorem dX12_meanOf_38 : decode cX12_meanOf 38 = .ok (.iconst 1, 1) := by decide +kernel
theorem dX12_meanOf_39 : decode cX12_meanOf 39 = .ok (.goto 4, 3) := by decide +kernel
theorem dX12_meanOf_42 : decode cX12_meanOf 42 = .ok (.iconst 0, 1) := by decide +kernel
theorem dX12_meanOf_43 : decode cX12_meanOf 43 = .ok (.istore 5, 2) := by decide +kernel
theorem dX12_meanOf_45 : decode cX12_meanOf 45 = .ok (.iload_n 2, 1) := by decide +kernel
theorem dX12_meanOf_46 : decode cX12_meanOf 46 = .ok (.iload 5, 2) := by decide +kernel
theorem dX12_meanOf_48 : decode cX12_meanOf 48 = .ok (.ifCond .eq 13, 3) := by decide +kernel
theorem dX12_meanOf_51 : decode cX12_meanOf 51 = .ok (.aload_n 0, 1) := by decide +kernel
theorem dX12_meanOf_52 : decode cX12_meanOf 52 = .ok (.getfield 28, 3) := by decide +kernel
theorem dX12_meanOf_55 : decode cX12_meanOf 55 = .ok (.iload 4, 2) := by decide +kernel
theorem dX12_meanOf_57 : decode cX12_meanOf 57 = .ok (.iaload, 1) := by decide +kernel
theorem dX12_meanOf_58 : decode cX12_meanOf 58 = .ok (.goto 4, 3) := by decide +kernel
theorem dX12_meanOf_61 : decode cX12_meanOf 61 = .ok (.iconst 0, 1) := by decide +kernel
theorem dX12_meanOf_62 : decode cX12_meanOf 62 = .ok (.iadd, 1) := by decide +kernel
theorem dX12_meanOf_63 : decode cX12_meanOf 63 = .ok (.istore_n 2, 1) := by decide +kernel
theorem dX12_meanOf_64 : decode cX12_meanOf 64 = .ok (.iload_n 3, 1) := by decide +kernel
theorem dX12_meanOf_65 : decode cX12_meanOf 65 = .ok (.iload 5, 2) := by decide +kernel
theorem dX12_meanOf_67 : decode cX12_meanOf 67 = .ok (.ifCond .eq 7, 3) := by decide +kernel
theorem dX12_meanOf_70 : decode cX12_meanOf 70 = .ok (.iconst 1, 1) := by decide +kernel
theorem dX12_meanOf_71 : decode cX12_meanOf 71 = .ok (.goto 4, 3) := by decide +kernel
theorem dX12_meanOf_74 : decode cX12_meanOf 74 = .ok (.iconst 0, 1) := by decide +kernel
theorem dX12_meanOf_75 : decode cX12_meanOf 75 = .ok (.iadd, 1) := by decide +kernel
theorem dX12_meanOf_76 : decode cX12_meanOf 76 = .ok (.istore_n 3, 1) := by decide +kernel
theorem dX12_meanOf_77 : decode cX12_meanOf 77 = .ok (.iinc 4 1, 3) := by decide +kernel
theorem dX12_meanOf_80 : decode cX12_meanOf 80 = .ok (.goto (-73), 3) := by decide +kernel
theorem dX12_meanOf_83 : decode cX12_meanOf 83 = .ok (.iload_n 3, 1) := by decide +kernel
theorem dX12_meanOf_84 : decode cX12_meanOf 84 = .ok (.ifCond .ne 7, 3) := by decide +kernel
theorem dX12_meanOf_87 : decode cX12_meanOf 87 = .ok (.iconst 0, 1) := by decide +kernel
theorem dX12_meanOf_88 : decode cX12_meanOf 88 = .ok (.goto 6, 3) := by decide +kernel
theorem dX12_meanOf_91 : decode cX12_meanOf 91 = .ok (.iload_n 2, 1) := by decide +kernel
theorem dX12_meanOf_92 : decode cX12_meanOf 92 = .ok (.iload_n 3, 1) := by decide +kernel
theorem dX12_meanOf_93 : decode cX12_meanOf 93 = .ok (.idiv, 1) := by decide +kernel
theorem dX12_meanOf_94 : decode cX12_meanOf 94 = .ok (.ireturn, 1) := by decide +kernel
theorem dX12_levelsAll_0 : decode cX12_levelsAll 0 = .ok (.iconst 0, 1) := by decide +kernel
theorem dX12_levelsAll_1 : decode cX12_levelsAll 1 = .ok (.istore_n 1, 1) := by decide +kernel
theorem dX12_levelsAll_2 : decode cX12_levelsAll 2 = .ok (.iload_n 1, 1) := by decide +kernel
theorem dX12_levelsAll_3 : decode cX12_levelsAll 3 = .ok (.aload_n 0, 1) := by decide +kernel
theorem dX12_levelsAll_4 : decode cX12_levelsAll 4 = .ok (.getfield 9, 3) := by decide +kernel
theorem dX12_levelsAll_7 : decode cX12_levelsAll 7 = .ok (.bipush 51, 2) := by decide +kernel
theorem dX12_levelsAll_9 : decode cX12_levelsAll 9 = .ok (.iaload, 1) := by decide +kernel
theorem dX12_levelsAll_10 : decode cX12_levelsAll 10 = .ok (.if_icmp .ge 29, 3) := by decide +kernel
theorem dX12_levelsAll_13 : decode cX12_levelsAll 13 = .ok (.aload_n 0, 1) := by decide +kernel
theorem dX12_levelsAll_14 : decode cX12_levelsAll 14 = .ok (.getfield 28, 3) := by decide +kernel
theorem dX12_levelsAll_17 : decode cX12_levelsAll 17 = .ok (.iload_n 1, 1) := by decide +kernel
theorem dX12_levelsAll_18 : decode cX12_levelsAll 18 = .ok (.aload_n 0, 1) := by decide +kernel
theorem dX12_levelsAll_19 : decode cX12_levelsAll 19 = .ok (.iload_n 1, 1) := by decide +kernel
theorem dX12_levelsAll_20 : decode cX12_levelsAll 20 = .ok (.aload_n 0, 1) := by decide +kernel
theorem dX12_levelsAll_21 : decode cX12_levelsAll 21 = .ok (.getfield 9, 3) := by decide +kernel
theorem dX12_levelsAll_24 : decode cX12_levelsAll 24 = .ok (.bipush 31, 2) := by decide +kernel
theorem dX12_levelsAll_26 : decode cX12_levelsAll 26 = .ok (.iload_n 1, 1) := by decide +kernel
theorem dX12_levelsAll_27 : decode cX12_levelsAll 27 = .ok (.iadd, 1) := by decide +kernel
theorem dX12_levelsAll_28 : decode cX12_levelsAll 28 = .ok (.iaload, 1) := by decide +kernel
theorem dX12_levelsAll_29 : decode cX12_levelsAll 29 = .ok (.invokevirtual 182, 3) := by decide +kernel
theorem dX12_levelsAll_32 : decode cX12_levelsAll 32 = .ok (.iastore, 1) := by decide +kernel
theorem dX12_levelsAll_33 : decode cX12_levelsAll 33 = .ok (.iinc 1 1, 3) := by decide +kernel
theorem dX12_levelsAll_36 : decode cX12_levelsAll 36 = .ok (.goto (-34), 3) := by decide +kernel
theorem dX12_levelsAll_39 : decode cX12_levelsAll 39 = .ok (.aload_n 0, 1) := by decide +kernel
theorem dX12_levelsAll_40 : decode cX12_levelsAll 40 = .ok (.iconst (-1), 1) := by decide +kernel
theorem dX12_levelsAll_41 : decode cX12_levelsAll 41 = .ok (.invokevirtual 188, 3) := by decide +kernel
theorem dX12_levelsAll_44 : decode cX12_levelsAll 44 = .ok (.istore_n 1, 1) := by decide +kernel
theorem dX12_levelsAll_45 : decode cX12_levelsAll 45 = .ok (.iconst 0, 1) := by decide +kernel
theorem dX12_levelsAll_46 : decode cX12_levelsAll 46 = .ok (.istore_n 2, 1) := by decide +kernel
theorem dX12_levelsAll_47 : decode cX12_levelsAll 47 = .ok (.iload_n 2, 1) := by decide +kernel
theorem dX12_levelsAll_48 : decode cX12_levelsAll 48 = .ok (.aload_n 0, 1) := by decide +kernel
theorem dX12_levelsAll_49 : decode cX12_levelsAll 49 = .ok (.getfield 9, 3) := by decide +kernel
theorem dX12_levelsAll_52 : decode cX12_levelsAll 52 = .ok (.bipush 52, 2) := by decide +kernel
theorem dX12_levelsAll_54 : decode cX12_levelsAll 54 = .ok (.iaload, 1) := by decide +kernel
theorem dX12_levelsAll_55 : decode cX12_levelsAll 55 = .ok (.if_icmp .ge 20, 3) := by decide +kernel
theorem dX12_levelsAll_58 : decode cX12_levelsAll 58 = .ok (.aload_n 0, 1) := by decide +kernel
theorem dX12_levelsAll_59 : decode cX12_levelsAll 59 = .ok (.getfield 40, 3) := by decide +kernel
theorem dX12_levelsAll_62 : decode cX12_levelsAll 62 = .ok (.iload_n 2, 1) := by decide +kernel
theorem dX12_levelsAll_63 : decode cX12_levelsAll 63 = .ok (.aload_n 0, 1) := by decide +kernel
theorem dX12_levelsAll_64 : decode cX12_levelsAll 64 = .ok (.iload_n 2, 1) := by decide +kernel
theorem dX12_levelsAll_65 : decode cX12_levelsAll 65 = .ok (.invokevirtual 188, 3) := by decide +kernel
theorem dX12_levelsAll_68 : decode cX12_levelsAll 68 = .ok (.iastore, 1) := by decide +kernel
theorem dX12_levelsAll_69 : decode cX12_levelsAll 69 = .ok (.iinc 2 1, 3) := by decide +kernel
theorem dX12_levelsAll_72 : decode cX12_levelsAll 72 = .ok (.goto (-25), 3) := by decide +kernel
theorem dX12_levelsAll_75 : decode cX12_levelsAll 75 = .ok (.iconst 0, 1) := by decide +kernel
theorem dX12_levelsAll_76 : decode cX12_levelsAll 76 = .ok (.istore_n 2, 1) := by decide +kernel
theorem dX12_levelsAll_77 : decode cX12_levelsAll 77 = .ok (.iload_n 2, 1) := by decide +kernel
theorem dX12_levelsAll_78 : decode cX12_levelsAll 78 = .ok (.aload_n 0, 1) := by decide +kernel
theorem dX12_levelsAll_79 : decode cX12_levelsAll 79 = .ok (.getfield 9, 3) := by decide +kernel
theorem dX12_levelsAll_82 : decode cX12_levelsAll 82 = .ok (.bipush 51, 2) := by decide +kernel
theorem dX12_levelsAll_84 : decode cX12_levelsAll 84 = .ok (.iaload, 1) := by decide +kernel
theorem dX12_levelsAll_85 : decode cX12_levelsAll 85 = .ok (.if_icmp .ge 34, 3) := by decide +kernel
theorem dX12_levelsAll_88 : decode cX12_levelsAll 88 = .ok (.aload_n 0, 1) := by decide +kernel
theorem dX12_levelsAll_89 : decode cX12_levelsAll 89 = .ok (.getfield 28, 3) := by decide +kernel
theorem dX12_levelsAll_92 : decode cX12_levelsAll 92 = .ok (.iload_n 2, 1) := by decide +kernel
theorem dX12_levelsAll_93 : decode cX12_levelsAll 93 = .ok (.dup2, 1) := by decide +kernel
theorem dX12_levelsAll_94 : decode cX12_levelsAll 94 = .ok (.iaload, 1) := by decide +kernel
theorem dX12_levelsAll_95 : decode cX12_levelsAll 95 = .ok (.iload_n 1, 1) := by decide +kernel
theorem dX12_levelsAll_96 : decode cX12_levelsAll 96 = .ok (.aload_n 0, 1) := by decide +kernel
theorem dX12_levelsAll_97 : decode cX12_levelsAll 97 = .ok (.getfield 40, 3) := by decide +kernel
theorem dX12_levelsAll_100 : decode cX12_levelsAll 100 = .ok (.aload_n 0, 1) := by decide +kernel
theorem dX12_levelsAll_101 : decode cX12_levelsAll 101 = .ok (.getfield 9, 3) := by decide +kernel
theorem dX12_levelsAll_104 : decode cX12_levelsAll 104 = .ok (.bipush 31, 2) := by decide +kernel
theorem dX12_levelsAll_106 : decode cX12_levelsAll 106 = .ok (.iload_n 2, 1) := by decide +kernel
theorem dX12_levelsAll_107 : decode cX12_levelsAll 107 = .ok (.iadd, 1) := by decide +kernel
theorem dX12_levelsAll_108 : decode cX12_levelsAll 108 = .ok (.iaload, 1) := by decide +kernel
theorem dX12_levelsAll_109 : decode cX12_levelsAll 109 = .ok (.iaload, 1) := by decide +kernel
theorem dX12_levelsAll_110 : decode cX12_levelsAll 110 = .ok (.isub, 1) := by decide +kernel
theorem dX12_levelsAll_111 : decode cX12_levelsAll 111 = .ok (.iadd, 1) := by decide +kernel
theorem dX12_levelsAll_112 : decode cX12_levelsAll 112 = .ok (.iastore, 1) := by decide +kernel
theorem dX12_levelsAll_113 : decode cX12_levelsAll 113 = .ok (.iinc 2 1, 3) := by decide +kernel
theorem dX12_levelsAll_116 : decode cX12_levelsAll 116 = .ok (.goto (-39), 3) := by decide +kernel
theorem dX12_levelsAll_119 : decode cX12_levelsAll 119 = .ok (.iconst 0, 1) := by decide +kernel
theorem dX12_levelsAll_120 : decode cX12_levelsAll 120 = .ok (.istore_n 2, 1) := by decide +kernel
theorem dX12_levelsAll_121 : decode cX12_levelsAll 121 = .ok (.iload_n 2, 1) := by decide +kernel
theorem dX12_levelsAll_122 : decode cX12_levelsAll 122 = .ok (.aload_n 0, 1) := by decide +kernel
theorem dX12_levelsAll_123 : decode cX12_levelsAll 123 = .ok (.getfield 9, 3) := by decide +kernel
theorem dX12_levelsAll_126 : decode cX12_levelsAll 126 = .ok (.bipush 52, 2) := by decide +kernel
theorem dX12_levelsAll_128 : decode cX12_levelsAll 128 = .ok (.iaload, 1) := by decide +kernel
theorem dX12_levelsAll_129 : decode cX12_levelsAll 129 = .ok (.if_icmp .ge 14, 3) := by decide +kernel
theorem dX12_levelsAll_132 : decode cX12_levelsAll 132 = .ok (.aload_n 0, 1) := by decide +kernel
theorem dX12_levelsAll_133 : decode cX12_levelsAll 133 = .ok (.iload_n 2, 1) := by decide +kernel
theorem dX12_levelsAll_134 : decode cX12_levelsAll 134 = .ok (.invokevirtual 185, 3) := by decide +kernel
theorem dX12_levelsAll_137 : decode cX12_levelsAll 137 = .ok (.iinc 2 1, 3) := by decide +kernel
theorem dX12_levelsAll_140 : decode cX12_levelsAll 140 = .ok (.goto (-19), 3) := by decide +kernel
theorem dX12_levelsAll_143 : decode cX12_levelsAll 143 = .ok (.return_, 1) := by decide +kernel
theorem dX12_duesAll_0 : decode cX12_duesAll 0 = .ok (.iconst 0, 1) := by decide +kernel
theorem dX12_duesAll_1 : decode cX12_duesAll 1 = .ok (.istore_n 1, 1) := by decide +kernel
theorem dX12_duesAll_2 : decode cX12_duesAll 2 = .ok (.iload_n 1, 1) := by decide +kernel
theorem dX12_duesAll_3 : decode cX12_duesAll 3 = .ok (.aload_n 0, 1) := by decide +kernel
theorem dX12_duesAll_4 : decode cX12_duesAll 4 = .ok (.getfield 9, 3) := by decide +kernel
theorem dX12_duesAll_7 : decode cX12_duesAll 7 = .ok (.bipush 51, 2) := by decide +kernel
theorem dX12_duesAll_9 : decode cX12_duesAll 9 = .ok (.iaload, 1) := by decide +kernel
theorem dX12_duesAll_10 : decode cX12_duesAll 10 = .ok (.if_icmp .ge 45, 3) := by decide +kernel
theorem dX12_duesAll_13 : decode cX12_duesAll 13 = .ok (.aload_n 0, 1) := by decide +kernel
theorem dX12_duesAll_14 : decode cX12_duesAll 14 = .ok (.getfield 37, 3) := by decide +kernel
theorem dX12_duesAll_17 : decode cX12_duesAll 17 = .ok (.iload_n 1, 1) := by decide +kernel
theorem dX12_duesAll_18 : decode cX12_duesAll 18 = .ok (.iconst 1, 1) := by decide +kernel
theorem dX12_duesAll_19 : decode cX12_duesAll 19 = .ok (.bastore, 1) := by decide +kernel
theorem dX12_duesAll_20 : decode cX12_duesAll 20 = .ok (.aload_n 0, 1) := by decide +kernel
theorem dX12_duesAll_21 : decode cX12_duesAll 21 = .ok (.getfield 28, 3) := by decide +kernel
theorem dX12_duesAll_24 : decode cX12_duesAll 24 = .ok (.iload_n 1, 1) := by decide +kernel
theorem dX12_duesAll_25 : decode cX12_duesAll 25 = .ok (.aload_n 0, 1) := by decide +kernel
theorem dX12_duesAll_26 : decode cX12_duesAll 26 = .ok (.getfield 9, 3) := by decide +kernel
theorem dX12_duesAll_29 : decode cX12_duesAll 29 = .ok (.iconst 1, 1) := by decide +kernel
theorem dX12_duesAll_30 : decode cX12_duesAll 30 = .ok (.iload_n 1, 1) := by decide +kernel
theorem dX12_duesAll_31 : decode cX12_duesAll 31 = .ok (.iadd, 1) := by decide +kernel
theorem dX12_duesAll_32 : decode cX12_duesAll 32 = .ok (.iaload, 1) := by decide +kernel
theorem dX12_duesAll_33 : decode cX12_duesAll 33 = .ok (.iastore, 1) := by decide +kernel
theorem dX12_duesAll_34 : decode cX12_duesAll 34 = .ok (.aload_n 0, 1) := by decide +kernel
theorem dX12_duesAll_35 : decode cX12_duesAll 35 = .ok (.getfield 34, 3) := by decide +kernel
theorem dX12_duesAll_38 : decode cX12_duesAll 38 = .ok (.iload_n 1, 1) := by decide +kernel
theorem dX12_duesAll_39 : decode cX12_duesAll 39 = .ok (.aload_n 0, 1) := by decide +kernel
theorem dX12_duesAll_40 : decode cX12_duesAll 40 = .ok (.getfield 28, 3) := by decide +kernel
theorem dX12_duesAll_43 : decode cX12_duesAll 43 = .ok (.iload_n 1, 1) := by decide +kernel
theorem dX12_duesAll_44 : decode cX12_duesAll 44 = .ok (.iaload, 1) := by decide +kernel
theorem dX12_duesAll_45 : decode cX12_duesAll 45 = .ok (.invokestatic 155, 3) := by decide +kernel
theorem dX12_duesAll_48 : decode cX12_duesAll 48 = .ok (.iastore, 1) := by decide +kernel
theorem dX12_duesAll_49 : decode cX12_duesAll 49 = .ok (.iinc 1 1, 3) := by decide +kernel
theorem dX12_duesAll_52 : decode cX12_duesAll 52 = .ok (.goto (-50), 3) := by decide +kernel
theorem dX12_duesAll_55 : decode cX12_duesAll 55 = .ok (.aload_n 0, 1) := by decide +kernel
theorem dX12_duesAll_56 : decode cX12_duesAll 56 = .ok (.aload_n 0, 1) := by decide +kernel
theorem dX12_duesAll_57 : decode cX12_duesAll 57 = .ok (.getfield 34, 3) := by decide +kernel
theorem dX12_duesAll_60 : decode cX12_duesAll 60 = .ok (.aload_n 0, 1) := by decide +kernel
theorem dX12_duesAll_61 : decode cX12_duesAll 61 = .ok (.aload_n 0, 1) := by decide +kernel
theorem dX12_duesAll_62 : decode cX12_duesAll 62 = .ok (.iconst 0, 1) := by decide +kernel
theorem dX12_duesAll_63 : decode cX12_duesAll 63 = .ok (.invokevirtual 169, 3) := by decide +kernel
theorem dX12_duesAll_66 : decode cX12_duesAll 66 = .ok (.invokevirtual 172, 3) := by decide +kernel
theorem dX12_duesAll_69 : decode cX12_duesAll 69 = .ok (.invokevirtual 175, 3) := by decide +kernel
theorem dX12_duesAll_72 : decode cX12_duesAll 72 = .ok (.aload_n 0, 1) := by decide +kernel
theorem dX12_duesAll_73 : decode cX12_duesAll 73 = .ok (.aload_n 0, 1) := by decide +kernel
theorem dX12_duesAll_74 : decode cX12_duesAll 74 = .ok (.getfield 34, 3) := by decide +kernel
theorem dX12_duesAll_77 : decode cX12_duesAll 77 = .ok (.aload_n 0, 1) := by decide +kernel
theorem dX12_duesAll_78 : decode cX12_duesAll 78 = .ok (.aload_n 0, 1) := by decide +kernel
theorem dX12_duesAll_79 : decode cX12_duesAll 79 = .ok (.iconst 1, 1) := by decide +kernel
theorem dX12_duesAll_80 : decode cX12_duesAll 80 = .ok (.invokevirtual 169, 3) := by decide +kernel
theorem dX12_duesAll_83 : decode cX12_duesAll 83 = .ok (.invokevirtual 172, 3) := by decide +kernel
theorem dX12_duesAll_86 : decode cX12_duesAll 86 = .ok (.invokevirtual 165, 3) := by decide +kernel
theorem dX12_duesAll_89 : decode cX12_duesAll 89 = .ok (.return_, 1) := by decide +kernel
theorem dX12_of_0 : decode cX12_of 0 = .ok (.aload_n 0, 1) := by decide +kernel
theorem dX12_of_1 : decode cX12_of 1 = .ok (.iload_n 1, 1) := by decide +kernel
theorem dX12_of_2 : decode cX12_of 2 = .ok (.invokevirtual 146, 3) := by decide +kernel
theorem dX12_of_5 : decode cX12_of 5 = .ok (.ifCond .ne 7, 3) := by decide +kernel
theorem dX12_of_8 : decode cX12_of 8 = .ok (.sipush (-1001), 3) := by decide +kernel
theorem dX12_of_11 : decode cX12_of 11 = .ok (.ireturn, 1) := by decide +kernel
theorem dX12_of_12 : decode cX12_of 12 = .ok (.iload_n 2, 1) := by decide +kernel
theorem dX12_of_13 : decode cX12_of 13 = .ok (.tableswitch 148 0 8 #[51, 60, 70, 80, 90, 100, 115, 126, 137], 51) := by decide +kernel
theorem dX12_of_64 : decode cX12_of 64 = .ok (.aload_n 0, 1) := by decide +kernel
theorem dX12_of_65 : decode cX12_of 65 = .ok (.getfield 9, 3) := by decide +kernel
theorem dX12_of_68 : decode cX12_of 68 = .ok (.iconst 1, 1) := by decide +kernel
theorem dX12_of_69 : decode cX12_of 69 = .ok (.iload_n 1, 1) := by decide +kernel
theorem dX12_of_70 : decode cX12_of 70 = .ok (.iadd, 1) := by decide +kernel
theorem dX12_of_71 : decode cX12_of 71 = .ok (.iaload, 1) := by decide +kernel
theorem dX12_of_72 : decode cX12_of 72 = .ok (.ireturn, 1) := by decide +kernel
theorem dX12_of_73 : decode cX12_of 73 = .ok (.aload_n 0, 1) := by decide +kernel
theorem dX12_of_74 : decode cX12_of 74 = .ok (.getfield 9, 3) := by decide +kernel
theorem dX12_of_77 : decode cX12_of 77 = .ok (.bipush 11, 2) := by decide +kernel
theorem dX12_of_79 : decode cX12_of 79 = .ok (.iload_n 1, 1) := by decide +kernel
theorem dX12_of_80 : decode cX12_of 80 = .ok (.iadd, 1) := by decide +kernel
theorem dX12_of_81 : decode cX12_of 81 = .ok (.iaload, 1) := by decide +kernel
theorem dX12_of_82 : decode cX12_of 82 = .ok (.ireturn, 1) := by decide +kernel
theorem dX12_of_83 : decode cX12_of 83 = .ok (.aload_n 0, 1) := by decide +kernel
theorem dX12_of_84 : decode cX12_of 84 = .ok (.getfield 9, 3) := by decide +kernel
theorem dX12_of_87 : decode cX12_of 87 = .ok (.bipush 31, 2) := by decide +kernel
theorem dX12_of_89 : decode cX12_of 89 = .ok (.iload_n 1, 1) := by decide +kernel
theorem dX12_of_90 : decode cX12_of 90 = .ok (.iadd, 1) := by decide +kernel
theorem dX12_of_91 : decode cX12_of 91 = .ok (.iaload, 1) := by decide +kernel
theorem dX12_of_92 : decode cX12_of 92 = .ok (.ireturn, 1) := by decide +kernel
theorem dX12_of_93 : decode cX12_of 93 = .ok (.aload_n 0, 1) := by decide +kernel
theorem dX12_of_94 : decode cX12_of 94 = .ok (.getfield 9, 3) := by decide +kernel
theorem dX12_of_97 : decode cX12_of 97 = .ok (.bipush 41, 2) := by decide +kernel
theorem dX12_of_99 : decode cX12_of 99 = .ok (.iload_n 1, 1) := by decide +kernel
theorem dX12_of_100 : decode cX12_of 100 = .ok (.iadd, 1) := by decide +kernel
theorem dX12_of_101 : decode cX12_of 101 = .ok (.iaload, 1) := by decide +kernel
theorem dX12_of_102 : decode cX12_of 102 = .ok (.ireturn, 1) := by decide +kernel
theorem dX12_of_103 : decode cX12_of 103 = .ok (.aload_n 0, 1) := by decide +kernel
theorem dX12_of_104 : decode cX12_of 104 = .ok (.getfield 9, 3) := by decide +kernel
theorem dX12_of_107 : decode cX12_of 107 = .ok (.bipush 21, 2) := by decide +kernel
theorem dX12_of_109 : decode cX12_of 109 = .ok (.iload_n 1, 1) := by decide +kernel
theorem dX12_of_110 : decode cX12_of 110 = .ok (.iadd, 1) := by decide +kernel
theorem dX12_of_111 : decode cX12_of 111 = .ok (.iaload, 1) := by decide +kernel
theorem dX12_of_112 : decode cX12_of 112 = .ok (.ireturn, 1) := by decide +kernel
theorem dX12_of_113 : decode cX12_of 113 = .ok (.aload_n 0, 1) := by decide +kernel
theorem dX12_of_114 : decode cX12_of 114 = .ok (.iload_n 1, 1) := by decide +kernel
theorem dX12_of_115 : decode cX12_of 115 = .ok (.aload_n 0, 1) := by decide +kernel
theorem dX12_of_116 : decode cX12_of 116 = .ok (.getfield 9, 3) := by decide +kernel
theorem dX12_of_119 : decode cX12_of 119 = .ok (.bipush 31, 2) := by decide +kernel
theorem dX12_of_121 : decode cX12_of 121 = .ok (.iload_n 1, 1) := by decide +kernel
theorem dX12_of_122 : decode cX12_of 122 = .ok (.iadd, 1) := by decide +kernel
theorem dX12_of_123 : decode cX12_of 123 = .ok (.iaload, 1) := by decide +kernel
theorem dX12_of_124 : decode cX12_of 124 = .ok (.invokevirtual 182, 3) := by decide +kernel
theorem dX12_of_127 : decode cX12_of 127 = .ok (.ireturn, 1) := by decide +kernel
theorem dX12_of_128 : decode cX12_of 128 = .ok (.aload_n 0, 1) := by decide +kernel
theorem dX12_of_129 : decode cX12_of 129 = .ok (.invokevirtual 191, 3) := by decide +kernel
theorem dX12_of_132 : decode cX12_of 132 = .ok (.aload_n 0, 1) := by decide +kernel
theorem dX12_of_133 : decode cX12_of 133 = .ok (.getfield 31, 3) := by decide +kernel
theorem dX12_of_136 : decode cX12_of 136 = .ok (.iload_n 1, 1) := by decide +kernel
theorem dX12_of_137 : decode cX12_of 137 = .ok (.iaload, 1) := by decide +kernel
theorem dX12_of_138 : decode cX12_of 138 = .ok (.ireturn, 1) := by decide +kernel
theorem dX12_of_139 : decode cX12_of 139 = .ok (.aload_n 0, 1) := by decide +kernel
theorem dX12_of_140 : decode cX12_of 140 = .ok (.invokevirtual 194, 3) := by decide +kernel
theorem dX12_of_143 : decode cX12_of 143 = .ok (.aload_n 0, 1) := by decide +kernel
theorem dX12_of_144 : decode cX12_of 144 = .ok (.getfield 34, 3) := by decide +kernel
theorem dX12_of_147 : decode cX12_of 147 = .ok (.iload_n 1, 1) := by decide +kernel
theorem dX12_of_148 : decode cX12_of 148 = .ok (.iaload, 1) := by decide +kernel
theorem dX12_of_149 : decode cX12_of 149 = .ok (.ireturn, 1) := by decide +kernel
theorem dX12_of_150 : decode cX12_of 150 = .ok (.aload_n 0, 1) := by decide +kernel
theorem dX12_of_151 : decode cX12_of 151 = .ok (.invokevirtual 197, 3) := by decide +kernel
theorem dX12_of_154 : decode cX12_of 154 = .ok (.aload_n 0, 1) := by decide +kernel
theorem dX12_of_155 : decode cX12_of 155 = .ok (.getfield 31, 3) := by decide +kernel
theorem dX12_of_158 : decode cX12_of 158 = .ok (.iload_n 1, 1) := by decide +kernel
theorem dX12_of_159 : decode cX12_of 159 = .ok (.iaload, 1) := by decide +kernel
theorem dX12_of_160 : decode cX12_of 160 = .ok (.ireturn, 1) := by decide +kernel
theorem dX12_of_161 : decode cX12_of 161 = .ok (.sipush (-1001), 3) := by decide +kernel
theorem dX12_of_164 : decode cX12_of 164 = .ok (.ireturn, 1) := by decide +kernel
theorem dX12_mark_0 : decode cX12_mark 0 = .ok (.aload_n 0, 1) := by decide +kernel
theorem dX12_mark_1 : decode cX12_mark 1 = .ok (.iload_n 1, 1) := by decide +kernel
theorem dX12_mark_2 : decode cX12_mark 2 = .ok (.invokevirtual 146, 3) := by decide +kernel
theorem dX12_mark_5 : decode cX12_mark 5 = .ok (.ifCond .eq 20, 3) := by decide +kernel
theorem dX12_mark_8 : decode cX12_mark 8 = .ok (.aload_n 0, 1) := by decide +kernel
theorem dX12_mark_9 : decode cX12_mark 9 = .ok (.iload_n 2, 1) := by decide +kernel
theorem dX12_mark_10 : decode cX12_mark 10 = .ok (.invokevirtual 138, 3) := by decide +kernel
theorem dX12_mark_13 : decode cX12_mark 13 = .ok (.ifCond .eq 12, 3) := by decide +kernel
theorem dX12_mark_16 : decode cX12_mark 16 = .ok (.aload_n 0, 1) := by decide +kernel
theorem dX12_mark_17 : decode cX12_mark 17 = .ok (.iload_n 1, 1) := by decide +kernel
theorem dX12_mark_18 : decode cX12_mark 18 = .ok (.iload_n 2, 1) := by decide +kernel
theorem dX12_mark_19 : decode cX12_mark 19 = .ok (.invokevirtual 182, 3) := by decide +kernel
theorem dX12_mark_22 : decode cX12_mark 22 = .ok (.goto 6, 3) := by decide +kernel
theorem dX12_mark_25 : decode cX12_mark 25 = .ok (.sipush (-1001), 3) := by decide +kernel
theorem dX12_mark_28 : decode cX12_mark 28 = .ok (.ireturn, 1) := by decide +kernel
theorem dX12_wrong_0 : decode cX12_wrong 0 = .ok (.iload_n 1, 1) := by decide +kernel
theorem dX12_wrong_1 : decode cX12_wrong 1 = .ok (.iconst 0, 1) := by decide +kernel
theorem dX12_wrong_2 : decode cX12_wrong 2 = .ok (.iconst 2, 1) := by decide +kernel
theorem dX12_wrong_3 : decode cX12_wrong 3 = .ok (.invokestatic 50, 3) := by decide +kernel
theorem dX12_wrong_6 : decode cX12_wrong 6 = .ok (.ifCond .ne 5, 3) := by decide +kernel
theorem dX12_wrong_9 : decode cX12_wrong 9 = .ok (.iconst (-1), 1) := by decide +kernel
theorem dX12_wrong_10 : decode cX12_wrong 10 = .ok (.ireturn, 1) := by decide +kernel
theorem dX12_wrong_11 : decode cX12_wrong 11 = .ok (.aload_n 0, 1) := by decide +kernel
theorem dX12_wrong_12 : decode cX12_wrong 12 = .ok (.invokevirtual 194, 3) := by decide +kernel
theorem dX12_wrong_15 : decode cX12_wrong 15 = .ok (.aload_n 0, 1) := by decide +kernel
theorem dX12_wrong_16 : decode cX12_wrong 16 = .ok (.invokevirtual 191, 3) := by decide +kernel
theorem dX12_wrong_19 : decode cX12_wrong 19 = .ok (.iconst 0, 1) := by decide +kernel
theorem dX12_wrong_20 : decode cX12_wrong 20 = .ok (.istore_n 2, 1) := by decide +kernel
theorem dX12_wrong_21 : decode cX12_wrong 21 = .ok (.iconst 0, 1) := by decide +kernel
theorem dX12_wrong_22 : decode cX12_wrong 22 = .ok (.istore_n 3, 1) := by decide +kernel
theorem dX12_wrong_23 : decode cX12_wrong 23 = .ok (.iconst 0, 1) := by decide +kernel
theorem dX12_wrong_24 : decode cX12_wrong 24 = .ok (.istore 4, 2) := by decide +kernel
theorem dX12_wrong_26 : decode cX12_wrong 26 = .ok (.iload 4, 2) := by decide +kernel
theorem dX12_wrong_28 : decode cX12_wrong 28 = .ok (.aload_n 0, 1) := by decide +kernel
theorem dX12_wrong_29 : decode cX12_wrong 29 = .ok (.getfield 9, 3) := by decide +kernel
theorem dX12_wrong_32 : decode cX12_wrong 32 = .ok (.bipush 51, 2) := by decide +kernel
theorem dX12_wrong_34 : decode cX12_wrong 34 = .ok (.iaload, 1) := by decide +kernel
theorem dX12_wrong_35 : decode cX12_wrong 35 = .ok (.if_icmp .ge 88, 3) := by decide +kernel
theorem dX12_wrong_38 : decode cX12_wrong 38 = .ok (.iload_n 1, 1) := by decide +kernel
theorem dX12_wrong_39 : decode cX12_wrong 39 = .ok (.ifCond .ne 28, 3) := by decide +kernel
theorem dX12_wrong_42 : decode cX12_wrong 42 = .ok (.aload_n 0, 1) := by decide +kernel
theorem dX12_wrong_43 : decode cX12_wrong 43 = .ok (.getfield 31, 3) := by decide +kernel
theorem dX12_wrong_46 : decode cX12_wrong 46 = .ok (.iload 4, 2) := by decide +kernel
theorem dX12_wrong_48 : decode cX12_wrong 48 = .ok (.iaload, 1) := by decide +kernel
theorem dX12_wrong_49 : decode cX12_wrong 49 = .ok (.aload_n 0, 1) := by decide +kernel
theorem dX12_wrong_50 : decode cX12_wrong 50 = .ok (.getfield 34, 3) := by decide +kernel
theorem dX12_wrong_53 : decode cX12_wrong 53 = .ok (.iload 4, 2) := by decide +kernel
theorem dX12_wrong_55 : decode cX12_wrong 55 = .ok (.iaload, 1) := by decide +kernel
theorem dX12_wrong_56 : decode cX12_wrong 56 = .ok (.if_icmp .eq 7, 3) := by decide +kernel
theorem dX12_wrong_59 : decode cX12_wrong 59 = .ok (.iconst 1, 1) := by decide +kernel
theorem dX12_wrong_60 : decode cX12_wrong 60 = .ok (.goto 29, 3) := by decide +kernel
theorem dX12_wrong_63 : decode cX12_wrong 63 = .ok (.iconst 0, 1) := by decide +kernel
theorem dX12_wrong_64 : decode cX12_wrong 64 = .ok (.goto 25, 3) := by decide +kernel
theorem dX12_wrong_67 : decode cX12_wrong 67 = .ok (.aload_n 0, 1) := by decide +kernel
theorem dX12_wrong_68 : decode cX12_wrong 68 = .ok (.getfield 31, 3) := by decide +kernel
theorem dX12_wrong_71 : decode cX12_wrong 71 = .ok (.iload 4, 2) := by decide +kernel
theorem dX12_wrong_73 : decode cX12_wrong 73 = .ok (.iaload, 1) := by decide +kernel
theorem dX12_wrong_74 : decode cX12_wrong 74 = .ok (.aload_n 0, 1) := by decide +kernel
theorem dX12_wrong_75 : decode cX12_wrong 75 = .ok (.getfield 34, 3) := by decide +kernel
theorem dX12_wrong_78 : decode cX12_wrong 78 = .ok (.iload 4, 2) := by decide +kernel
theorem dX12_wrong_80 : decode cX12_wrong 80 = .ok (.iaload, 1) := by decide +kernel
theorem dX12_wrong_81 : decode cX12_wrong 81 = .ok (.if_icmp .ge 7, 3) := by decide +kernel
theorem dX12_wrong_84 : decode cX12_wrong 84 = .ok (.iconst 1, 1) := by decide +kernel
theorem dX12_wrong_85 : decode cX12_wrong 85 = .ok (.goto 4, 3) := by decide +kernel
theorem dX12_wrong_88 : decode cX12_wrong 88 = .ok (.iconst 0, 1) := by decide +kernel
theorem dX12_wrong_89 : decode cX12_wrong 89 = .ok (.istore 5, 2) := by decide +kernel
theorem dX12_wrong_91 : decode cX12_wrong 91 = .ok (.iload_n 2, 1) := by decide +kernel
theorem dX12_wrong_92 : decode cX12_wrong 92 = .ok (.iload 5, 2) := by decide +kernel
theorem dX12_wrong_94 : decode cX12_wrong 94 = .ok (.ifCond .eq 10, 3) := by decide +kernel
theorem dX12_wrong_97 : decode cX12_wrong 97 = .ok (.iconst 1, 1) := by decide +kernel
theorem dX12_wrong_98 : decode cX12_wrong 98 = .ok (.iload 4, 2) := by decide +kernel
theorem dX12_wrong_100 : decode cX12_wrong 100 = .ok (.ishl, 1) := by decide +kernel
theorem dX12_wrong_101 : decode cX12_wrong 101 = .ok (.goto 4, 3) := by decide +kernel
theorem dX12_wrong_104 : decode cX12_wrong 104 = .ok (.iconst 0, 1) := by decide +kernel
theorem dX12_wrong_105 : decode cX12_wrong 105 = .ok (.ior, 1) := by decide +kernel
theorem dX12_wrong_106 : decode cX12_wrong 106 = .ok (.istore_n 2, 1) := by decide +kernel
theorem dX12_wrong_107 : decode cX12_wrong 107 = .ok (.iload_n 3, 1) := by decide +kernel
theorem dX12_wrong_108 : decode cX12_wrong 108 = .ok (.aload_n 0, 1) := by decide +kernel
theorem dX12_wrong_109 : decode cX12_wrong 109 = .ok (.getfield 31, 3) := by decide +kernel
theorem dX12_wrong_112 : decode cX12_wrong 112 = .ok (.iload 4, 2) := by decide +kernel
theorem dX12_wrong_114 : decode cX12_wrong 114 = .ok (.iaload, 1) := by decide +kernel
theorem dX12_wrong_115 : decode cX12_wrong 115 = .ok (.iadd, 1) := by decide +kernel
theorem dX12_wrong_116 : decode cX12_wrong 116 = .ok (.istore_n 3, 1) := by decide +kernel
theorem dX12_wrong_117 : decode cX12_wrong 117 = .ok (.iinc 4 1, 3) := by decide +kernel
theorem dX12_wrong_120 : decode cX12_wrong 120 = .ok (.goto (-94), 3) := by decide +kernel
theorem dX12_wrong_123 : decode cX12_wrong 123 = .ok (.iload_n 1, 1) := by decide +kernel
theorem dX12_wrong_124 : decode cX12_wrong 124 = .ok (.iconst 2, 1) := by decide +kernel
theorem dX12_wrong_125 : decode cX12_wrong 125 = .ok (.if_icmp .ne 7, 3) := by decide +kernel
theorem dX12_wrong_128 : decode cX12_wrong 128 = .ok (.iload_n 3, 1) := by decide +kernel
theorem dX12_wrong_129 : decode cX12_wrong 129 = .ok (.goto 4, 3) := by decide +kernel
theorem dX12_wrong_132 : decode cX12_wrong 132 = .ok (.iload_n 2, 1) := by decide +kernel
theorem dX12_wrong_133 : decode cX12_wrong 133 = .ok (.ireturn, 1) := by decide +kernel
theorem dX12_movedOf_0 : decode cX12_movedOf 0 = .ok (.aload_n 0, 1) := by decide +kernel
theorem dX12_movedOf_1 : decode cX12_movedOf 1 = .ok (.getfield 9, 3) := by decide +kernel
theorem dX12_movedOf_4 : decode cX12_movedOf 4 = .ok (.bipush 31, 2) := by decide +kernel
theorem dX12_movedOf_6 : decode cX12_movedOf 6 = .ok (.iload_n 1, 1) := by decide +kernel
theorem dX12_movedOf_7 : decode cX12_movedOf 7 = .ok (.iadd, 1) := by decide +kernel
theorem dX12_movedOf_8 : decode cX12_movedOf 8 = .ok (.iaload, 1) := by decide +kernel
theorem dX12_movedOf_9 : decode cX12_movedOf 9 = .ok (.istore_n 3, 1) := by decide +kernel
theorem dX12_movedOf_10 : decode cX12_movedOf 10 = .ok (.aload_n 0, 1) := by decide +kernel
theorem dX12_movedOf_11 : decode cX12_movedOf 11 = .ok (.getfield 9, 3) := by decide +kernel
theorem dX12_movedOf_14 : decode cX12_movedOf 14 = .ok (.bipush 31, 2) := by decide +kernel
theorem dX12_movedOf_16 : decode cX12_movedOf 16 = .ok (.iload_n 1, 1) := by decide +kernel
theorem dX12_movedOf_17 : decode cX12_movedOf 17 = .ok (.iadd, 1) := by decide +kernel
theorem dX12_movedOf_18 : decode cX12_movedOf 18 = .ok (.iload_n 2, 1) := by decide +kernel
theorem dX12_movedOf_19 : decode cX12_movedOf 19 = .ok (.iastore, 1) := by decide +kernel
theorem dX12_movedOf_20 : decode cX12_movedOf 20 = .ok (.aload_n 0, 1) := by decide +kernel
theorem dX12_movedOf_21 : decode cX12_movedOf 21 = .ok (.invokevirtual 191, 3) := by decide +kernel
theorem dX12_movedOf_24 : decode cX12_movedOf 24 = .ok (.aload_n 0, 1) := by decide +kernel
theorem dX12_movedOf_25 : decode cX12_movedOf 25 = .ok (.getfield 9, 3) := by decide +kernel
theorem dX12_movedOf_28 : decode cX12_movedOf 28 = .ok (.bipush 31, 2) := by decide +kernel
theorem dX12_movedOf_30 : decode cX12_movedOf 30 = .ok (.iload_n 1, 1) := by decide +kernel
theorem dX12_movedOf_31 : decode cX12_movedOf 31 = .ok (.iadd, 1) := by decide +kernel
theorem dX12_movedOf_32 : decode cX12_movedOf 32 = .ok (.iload_n 3, 1) := by decide +kernel
theorem dX12_movedOf_33 : decode cX12_movedOf 33 = .ok (.iastore, 1) := by decide +kernel
theorem dX12_movedOf_34 : decode cX12_movedOf 34 = .ok (.aload_n 0, 1) := by decide +kernel
theorem dX12_movedOf_35 : decode cX12_movedOf 35 = .ok (.getfield 31, 3) := by decide +kernel
theorem dX12_movedOf_38 : decode cX12_movedOf 38 = .ok (.iload_n 1, 1) := by decide +kernel
theorem dX12_movedOf_39 : decode cX12_movedOf 39 = .ok (.iaload, 1) := by decide +kernel
theorem dX12_movedOf_40 : decode cX12_movedOf 40 = .ok (.ireturn, 1) := by decide +kernel
theorem dX12_moved_0 : decode cX12_moved 0 = .ok (.aload_n 0, 1) := by decide +kernel
theorem dX12_moved_1 : decode cX12_moved 1 = .ok (.iload_n 1, 1) := by decide +kernel
theorem dX12_moved_2 : decode cX12_moved 2 = .ok (.invokevirtual 146, 3) := by decide +kernel
theorem dX12_moved_5 : decode cX12_moved 5 = .ok (.ifCond .eq 20, 3) := by decide +kernel
theorem dX12_moved_8 : decode cX12_moved 8 = .ok (.aload_n 0, 1) := by decide +kernel
theorem dX12_moved_9 : decode cX12_moved 9 = .ok (.iload_n 2, 1) := by decide +kernel
theorem dX12_moved_10 : decode cX12_moved 10 = .ok (.invokevirtual 138, 3) := by decide +kernel
theorem dX12_moved_13 : decode cX12_moved 13 = .ok (.ifCond .eq 12, 3) := by decide +kernel
theorem dX12_moved_16 : decode cX12_moved 16 = .ok (.aload_n 0, 1) := by decide +kernel
theorem dX12_moved_17 : decode cX12_moved 17 = .ok (.iload_n 1, 1) := by decide +kernel
theorem dX12_moved_18 : decode cX12_moved 18 = .ok (.iload_n 2, 1) := by decide +kernel
theorem dX12_moved_19 : decode cX12_moved 19 = .ok (.invokevirtual 200, 3) := by decide +kernel
theorem dX12_moved_22 : decode cX12_moved 22 = .ok (.goto 4, 3) := by decide +kernel
theorem dX12_moved_25 : decode cX12_moved 25 = .ok (.iconst (-1), 1) := by decide +kernel
theorem dX12_moved_26 : decode cX12_moved 26 = .ok (.ireturn, 1) := by decide +kernel
theorem dX12_best_0 : decode cX12_best 0 = .ok (.aload_n 0, 1) := by decide +kernel
theorem dX12_best_1 : decode cX12_best 1 = .ok (.iload_n 1, 1) := by decide +kernel
theorem dX12_best_2 : decode cX12_best 2 = .ok (.invokevirtual 146, 3) := by decide +kernel
theorem dX12_best_5 : decode cX12_best 5 = .ok (.ifCond .eq 12, 3) := by decide +kernel
theorem dX12_best_8 : decode cX12_best 8 = .ok (.iload_n 2, 1) := by decide +kernel
theorem dX12_best_9 : decode cX12_best 9 = .ok (.iconst 0, 1) := by decide +kernel
theorem dX12_best_10 : decode cX12_best 10 = .ok (.iconst 1, 1) := by decide +kernel
theorem dX12_best_11 : decode cX12_best 11 = .ok (.invokestatic 50, 3) := by decide +kernel
theorem dX12_best_14 : decode cX12_best 14 = .ok (.ifCond .ne 5, 3) := by decide +kernel
theorem dX12_best_17 : decode cX12_best 17 = .ok (.iconst (-1), 1) := by decide +kernel
theorem dX12_best_18 : decode cX12_best 18 = .ok (.ireturn, 1) := by decide +kernel
theorem dX12_best_19 : decode cX12_best 19 = .ok (.iconst 0, 1) := by decide +kernel
theorem dX12_best_20 : decode cX12_best 20 = .ok (.istore_n 3, 1) := by decide +kernel
theorem dX12_best_21 : decode cX12_best 21 = .ok (.iconst 0, 1) := by decide +kernel
theorem dX12_best_22 : decode cX12_best 22 = .ok (.istore 4, 2) := by decide +kernel
theorem dX12_best_24 : decode cX12_best 24 = .ok (.iconst 0, 1) := by decide +kernel
theorem dX12_best_25 : decode cX12_best 25 = .ok (.istore 5, 2) := by decide +kernel
theorem dX12_best_27 : decode cX12_best 27 = .ok (.iload 5, 2) := by decide +kernel
theorem dX12_best_29 : decode cX12_best 29 = .ok (.aload_n 0, 1) := by decide +kernel
theorem dX12_best_30 : decode cX12_best 30 = .ok (.getfield 9, 3) := by decide +kernel
theorem dX12_best_33 : decode cX12_best 33 = .ok (.bipush 52, 2) := by decide +kernel
theorem dX12_best_35 : decode cX12_best 35 = .ok (.iaload, 1) := by decide +kernel
theorem dX12_best_36 : decode cX12_best 36 = .ok (.if_icmp .ge 48, 3) := by decide +kernel
theorem dX12_best_39 : decode cX12_best 39 = .ok (.aload_n 0, 1) := by decide +kernel
theorem dX12_best_40 : decode cX12_best 40 = .ok (.iload_n 1, 1) := by decide +kernel
theorem dX12_best_41 : decode cX12_best 41 = .ok (.iload 5, 2) := by decide +kernel
theorem dX12_best_43 : decode cX12_best 43 = .ok (.invokevirtual 200, 3) := by decide +kernel
theorem dX12_best_46 : decode cX12_best 46 = .ok (.istore 6, 2) := by decide +kernel
theorem dX12_best_48 : decode cX12_best 48 = .ok (.iload 6, 2) := by decide +kernel
theorem dX12_best_50 : decode cX12_best 50 = .ok (.iload 4, 2) := by decide +kernel
theorem dX12_best_52 : decode cX12_best 52 = .ok (.if_icmp .le 8, 3) := by decide +kernel
theorem dX12_best_55 : decode cX12_best 55 = .ok (.iload 5, 2) := by decide +kernel
theorem dX12_best_57 : decode cX12_best 57 = .ok (.goto 4, 3) := by decide +kernel
theorem dX12_best_60 : decode cX12_best 60 = .ok (.iload_n 3, 1) := by decide +kernel
theorem dX12_best_61 : decode cX12_best 61 = .ok (.istore_n 3, 1) := by decide +kernel
theorem dX12_best_62 : decode cX12_best 62 = .ok (.iload 6, 2) := by decide +kernel
theorem dX12_best_64 : decode cX12_best 64 = .ok (.iload 4, 2) := by decide +kernel
theorem dX12_best_66 : decode cX12_best 66 = .ok (.if_icmp .le 8, 3) := by decide +kernel
theorem dX12_best_69 : decode cX12_best 69 = .ok (.iload 6, 2) := by decide +kernel
theorem dX12_best_71 : decode cX12_best 71 = .ok (.goto 5, 3) := by decide +kernel
theorem dX12_best_74 : decode cX12_best 74 = .ok (.iload 4, 2) := by decide +kernel
theorem dX12_best_76 : decode cX12_best 76 = .ok (.istore 4, 2) := by decide +kernel
theorem dX12_best_78 : decode cX12_best 78 = .ok (.iinc 5 1, 3) := by decide +kernel
theorem dX12_best_81 : decode cX12_best 81 = .ok (.goto (-54), 3) := by decide +kernel
theorem dX12_best_84 : decode cX12_best 84 = .ok (.iload_n 2, 1) := by decide +kernel
theorem dX12_best_85 : decode cX12_best 85 = .ok (.ifCond .ne 7, 3) := by decide +kernel
theorem dX12_best_88 : decode cX12_best 88 = .ok (.iload_n 3, 1) := by decide +kernel
theorem dX12_best_89 : decode cX12_best 89 = .ok (.goto 5, 3) := by decide +kernel
theorem dX12_best_92 : decode cX12_best 92 = .ok (.iload 4, 2) := by decide +kernel
theorem dX12_best_94 : decode cX12_best 94 = .ok (.ireturn, 1) := by decide +kernel
theorem dX12_asked_0 : decode cX12_asked 0 = .ok (.aload_n 0, 1) := by decide +kernel
theorem dX12_asked_1 : decode cX12_asked 1 = .ok (.iload_n 1, 1) := by decide +kernel
theorem dX12_asked_2 : decode cX12_asked 2 = .ok (.invokevirtual 138, 3) := by decide +kernel
theorem dX12_asked_5 : decode cX12_asked 5 = .ok (.ifCond .ne 5, 3) := by decide +kernel
theorem dX12_asked_8 : decode cX12_asked 8 = .ok (.iconst (-1), 1) := by decide +kernel
theorem dX12_asked_9 : decode cX12_asked 9 = .ok (.ireturn, 1) := by decide +kernel
theorem dX12_asked_10 : decode cX12_asked 10 = .ok (.iload_n 2, 1) := by decide +kernel
theorem dX12_asked_11 : decode cX12_asked 11 = .ok (.iconst 0, 1) := by decide +kernel
theorem dX12_asked_12 : decode cX12_asked 12 = .ok (.bipush 50, 2) := by decide +kernel
theorem dX12_asked_14 : decode cX12_asked 14 = .ok (.invokestatic 50, 3) := by decide +kernel
theorem dX12_asked_17 : decode cX12_asked 17 = .ok (.ifCond .ne 6, 3) := by decide +kernel
theorem dX12_asked_20 : decode cX12_asked 20 = .ok (.bipush (-2), 2) := by decide +kernel
theorem dX12_asked_22 : decode cX12_asked 22 = .ok (.ireturn, 1) := by decide +kernel
theorem dX12_asked_23 : decode cX12_asked 23 = .ok (.aload_n 0, 1) := by decide +kernel
theorem dX12_asked_24 : decode cX12_asked 24 = .ok (.getfield 9, 3) := by decide +kernel
theorem dX12_asked_27 : decode cX12_asked 27 = .ok (.bipush 64, 2) := by decide +kernel
theorem dX12_asked_29 : decode cX12_asked 29 = .ok (.iload_n 1, 1) := by decide +kernel
theorem dX12_asked_30 : decode cX12_asked 30 = .ok (.iadd, 1) := by decide +kernel
theorem dX12_asked_31 : decode cX12_asked 31 = .ok (.iaload, 1) := by decide +kernel
theorem dX12_asked_32 : decode cX12_asked 32 = .ok (.istore_n 3, 1) := by decide +kernel
theorem dX12_asked_33 : decode cX12_asked 33 = .ok (.bipush (-5), 2) := by decide +kernel
theorem dX12_asked_35 : decode cX12_asked 35 = .ok (.istore 4, 2) := by decide +kernel
theorem dX12_asked_37 : decode cX12_asked 37 = .ok (.iconst 0, 1) := by decide +kernel
theorem dX12_asked_38 : decode cX12_asked 38 = .ok (.istore 5, 2) := by decide +kernel
theorem dX12_asked_40 : decode cX12_asked 40 = .ok (.iload 5, 2) := by decide +kernel
theorem dX12_asked_42 : decode cX12_asked 42 = .ok (.bipush 9, 2) := by decide +kernel
theorem dX12_asked_44 : decode cX12_asked 44 = .ok (.iload_n 3, 1) := by decide +kernel
theorem dX12_asked_45 : decode cX12_asked 45 = .ok (.isub, 1) := by decide +kernel
theorem dX12_asked_46 : decode cX12_asked 46 = .ok (.if_icmp .gt 102, 3) := by decide +kernel
theorem dX12_asked_49 : decode cX12_asked 49 = .ok (.iload 4, 2) := by decide +kernel
theorem dX12_asked_51 : decode cX12_asked 51 = .ok (.bipush (-5), 2) := by decide +kernel
theorem dX12_asked_53 : decode cX12_asked 53 = .ok (.if_icmp .ne 95, 3) := by decide +kernel
theorem dX12_asked_56 : decode cX12_asked 56 = .ok (.aload_n 0, 1) := by decide +kernel
theorem dX12_asked_57 : decode cX12_asked 57 = .ok (.getfield 9, 3) := by decide +kernel
theorem dX12_asked_60 : decode cX12_asked 60 = .ok (.bipush 64, 2) := by decide +kernel
theorem dX12_asked_62 : decode cX12_asked 62 = .ok (.iload_n 1, 1) := by decide +kernel
theorem dX12_asked_63 : decode cX12_asked 63 = .ok (.iadd, 1) := by decide +kernel
theorem dX12_asked_64 : decode cX12_asked 64 = .ok (.iload_n 3, 1) := by decide +kernel
theorem dX12_asked_65 : decode cX12_asked 65 = .ok (.iload 5, 2) := by decide +kernel
theorem dX12_asked_67 : decode cX12_asked 67 = .ok (.iadd, 1) := by decide +kernel
theorem dX12_asked_68 : decode cX12_asked 68 = .ok (.iastore, 1) := by decide +kernel
theorem dX12_asked_69 : decode cX12_asked 69 = .ok (.aload_n 0, 1) := by decide +kernel
theorem dX12_asked_70 : decode cX12_asked 70 = .ok (.invokevirtual 191, 3) := by decide +kernel
theorem dX12_asked_73 : decode cX12_asked 73 = .ok (.iconst 0, 1) := by decide +kernel
theorem dX12_asked_74 : decode cX12_asked 74 = .ok (.istore 6, 2) := by decide +kernel
theorem dX12_asked_76 : decode cX12_asked 76 = .ok (.iconst 0, 1) := by decide +kernel
theorem dX12_asked_77 : decode cX12_asked 77 = .ok (.istore 7, 2) := by decide +kernel
theorem dX12_asked_79 : decode cX12_asked 79 = .ok (.iload 7, 2) := by decide +kernel
theorem dX12_asked_81 : decode cX12_asked 81 = .ok (.aload_n 0, 1) := by decide +kernel
theorem dX12_asked_82 : decode cX12_asked 82 = .ok (.getfield 9, 3) := by decide +kernel
theorem dX12_asked_85 : decode cX12_asked 85 = .ok (.bipush 51, 2) := by decide +kernel
theorem dX12_asked_87 : decode cX12_asked 87 = .ok (.iaload, 1) := by decide +kernel
theorem dX12_asked_88 : decode cX12_asked 88 = .ok (.if_icmp .ge 39, 3) := by decide +kernel
theorem dX12_asked_91 : decode cX12_asked 91 = .ok (.iload 6, 2) := by decide +kernel
theorem dX12_asked_93 : decode cX12_asked 93 = .ok (.aload_n 0, 1) := by decide +kernel
theorem dX12_asked_94 : decode cX12_asked 94 = .ok (.getfield 9, 3) := by decide +kernel
theorem dX12_asked_97 : decode cX12_asked 97 = .ok (.bipush 31, 2) := by decide +kernel
theorem dX12_asked_99 : decode cX12_asked 99 = .ok (.iload 7, 2) := by decide +kernel
theorem dX12_asked_101 : decode cX12_asked 101 = .ok (.iadd, 1) := by decide +kernel
theorem dX12_asked_102 : decode cX12_asked 102 = .ok (.iaload, 1) := by decide +kernel
theorem dX12_asked_103 : decode cX12_asked 103 = .ok (.iload_n 1, 1) := by decide +kernel
theorem dX12_asked_104 : decode cX12_asked 104 = .ok (.if_icmp .ne 13, 3) := by decide +kernel
theorem dX12_asked_107 : decode cX12_asked 107 = .ok (.aload_n 0, 1) := by decide +kernel
theorem dX12_asked_108 : decode cX12_asked 108 = .ok (.getfield 31, 3) := by decide +kernel
theorem dX12_asked_111 : decode cX12_asked 111 = .ok (.iload 7, 2) := by decide +kernel
theorem dX12_asked_113 : decode cX12_asked 113 = .ok (.iaload, 1) := by decide +kernel
theorem dX12_asked_114 : decode cX12_asked 114 = .ok (.goto 4, 3) := by decide +kernel
theorem dX12_asked_117 : decode cX12_asked 117 = .ok (.iconst 0, 1) := by decide +kernel
theorem dX12_asked_118 : decode cX12_asked 118 = .ok (.iadd, 1) := by decide +kernel
theorem dX12_asked_119 : decode cX12_asked 119 = .ok (.istore 6, 2) := by decide +kernel
theorem dX12_asked_121 : decode cX12_asked 121 = .ok (.iinc 7 1, 3) := by decide +kernel
theorem dX12_asked_124 : decode cX12_asked 124 = .ok (.goto (-45), 3) := by decide +kernel
theorem dX12_asked_127 : decode cX12_asked 127 = .ok (.iload 6, 2) := by decide +kernel
theorem dX12_asked_129 : decode cX12_asked 129 = .ok (.iload_n 2, 1) := by decide +kernel
theorem dX12_asked_130 : decode cX12_asked 130 = .ok (.if_icmp .lt 8, 3) := by decide +kernel
theorem dX12_asked_133 : decode cX12_asked 133 = .ok (.iload 5, 2) := by decide +kernel
theorem dX12_asked_135 : decode cX12_asked 135 = .ok (.goto 5, 3) := by decide +kernel
theorem dX12_asked_138 : decode cX12_asked 138 = .ok (.iload 4, 2) := by decide +kernel
theorem dX12_asked_140 : decode cX12_asked 140 = .ok (.istore 4, 2) := by decide +kernel
theorem dX12_asked_142 : decode cX12_asked 142 = .ok (.iinc 5 1, 3) := by decide +kernel
theorem dX12_asked_145 : decode cX12_asked 145 = .ok (.goto (-105), 3) := by decide +kernel
theorem dX12_asked_148 : decode cX12_asked 148 = .ok (.aload_n 0, 1) := by decide +kernel
theorem dX12_asked_149 : decode cX12_asked 149 = .ok (.getfield 9, 3) := by decide +kernel
theorem dX12_asked_152 : decode cX12_asked 152 = .ok (.bipush 64, 2) := by decide +kernel
theorem dX12_asked_154 : decode cX12_asked 154 = .ok (.iload_n 1, 1) := by decide +kernel
theorem dX12_asked_155 : decode cX12_asked 155 = .ok (.iadd, 1) := by decide +kernel
theorem dX12_asked_156 : decode cX12_asked 156 = .ok (.iload_n 3, 1) := by decide +kernel
theorem dX12_asked_157 : decode cX12_asked 157 = .ok (.iastore, 1) := by decide +kernel
theorem dX12_asked_158 : decode cX12_asked 158 = .ok (.iload 4, 2) := by decide +kernel
theorem dX12_asked_160 : decode cX12_asked 160 = .ok (.ireturn, 1) := by decide +kernel
theorem dX12_changes_0 : decode cX12_changes 0 = .ok (.aload_n 0, 1) := by decide +kernel
theorem dX12_changes_1 : decode cX12_changes 1 = .ok (.getfield 9, 3) := by decide +kernel
theorem dX12_changes_4 : decode cX12_changes 4 = .ok (.bipush 31, 2) := by decide +kernel
theorem dX12_changes_6 : decode cX12_changes 6 = .ok (.iload_n 1, 1) := by decide +kernel
theorem dX12_changes_7 : decode cX12_changes 7 = .ok (.iadd, 1) := by decide +kernel
theorem dX12_changes_8 : decode cX12_changes 8 = .ok (.iaload, 1) := by decide +kernel
theorem dX12_changes_9 : decode cX12_changes 9 = .ok (.istore_n 3, 1) := by decide +kernel
theorem dX12_changes_10 : decode cX12_changes 10 = .ok (.aload_n 0, 1) := by decide +kernel
theorem dX12_changes_11 : decode cX12_changes 11 = .ok (.getfield 9, 3) := by decide +kernel
theorem dX12_changes_14 : decode cX12_changes 14 = .ok (.bipush 41, 2) := by decide +kernel
theorem dX12_changes_16 : decode cX12_changes 16 = .ok (.iload_n 1, 1) := by decide +kernel
theorem dX12_changes_17 : decode cX12_changes 17 = .ok (.iadd, 1) := by decide +kernel
theorem dX12_changes_18 : decode cX12_changes 18 = .ok (.iaload, 1) := by decide +kernel
theorem dX12_changes_19 : decode cX12_changes 19 = .ok (.istore 4, 2) := by decide +kernel
theorem dX12_changes_21 : decode cX12_changes 21 = .ok (.aload_n 0, 1) := by decide +kernel
theorem dX12_changes_22 : decode cX12_changes 22 = .ok (.getfield 9, 3) := by decide +kernel
theorem dX12_changes_25 : decode cX12_changes 25 = .ok (.bipush 31, 2) := by decide +kernel
theorem dX12_changes_27 : decode cX12_changes 27 = .ok (.iload_n 1, 1) := by decide +kernel
theorem dX12_changes_28 : decode cX12_changes 28 = .ok (.iadd, 1) := by decide +kernel
theorem dX12_changes_29 : decode cX12_changes 29 = .ok (.aload_n 0, 1) := by decide +kernel
theorem dX12_changes_30 : decode cX12_changes 30 = .ok (.getfield 9, 3) := by decide +kernel
theorem dX12_changes_33 : decode cX12_changes 33 = .ok (.bipush 31, 2) := by decide +kernel
theorem dX12_changes_35 : decode cX12_changes 35 = .ok (.iload_n 2, 1) := by decide +kernel
theorem dX12_changes_36 : decode cX12_changes 36 = .ok (.iadd, 1) := by decide +kernel
theorem dX12_changes_37 : decode cX12_changes 37 = .ok (.iaload, 1) := by decide +kernel
theorem dX12_changes_38 : decode cX12_changes 38 = .ok (.iastore, 1) := by decide +kernel
theorem dX12_changes_39 : decode cX12_changes 39 = .ok (.aload_n 0, 1) := by decide +kernel
theorem dX12_changes_40 : decode cX12_changes 40 = .ok (.getfield 9, 3) := by decide +kernel
theorem dX12_changes_43 : decode cX12_changes 43 = .ok (.bipush 41, 2) := by decide +kernel
theorem dX12_changes_45 : decode cX12_changes 45 = .ok (.iload_n 1, 1) := by decide +kernel
theorem dX12_changes_46 : decode cX12_changes 46 = .ok (.iadd, 1) := by decide +kernel
theorem dX12_changes_47 : decode cX12_changes 47 = .ok (.aload_n 0, 1) := by decide +kernel
theorem dX12_changes_48 : decode cX12_changes 48 = .ok (.getfield 9, 3) := by decide +kernel
theorem dX12_changes_51 : decode cX12_changes 51 = .ok (.bipush 41, 2) := by decide +kernel
theorem dX12_changes_53 : decode cX12_changes 53 = .ok (.iload_n 2, 1) := by decide +kernel
theorem dX12_changes_54 : decode cX12_changes 54 = .ok (.iadd, 1) := by decide +kernel
theorem dX12_changes_55 : decode cX12_changes 55 = .ok (.iaload, 1) := by decide +kernel
theorem dX12_changes_56 : decode cX12_changes 56 = .ok (.iastore, 1) := by decide +kernel
theorem dX12_changes_57 : decode cX12_changes 57 = .ok (.aload_n 0, 1) := by decide +kernel
theorem dX12_changes_58 : decode cX12_changes 58 = .ok (.getfield 9, 3) := by decide +kernel
theorem dX12_changes_61 : decode cX12_changes 61 = .ok (.bipush 31, 2) := by decide +kernel
theorem dX12_changes_63 : decode cX12_changes 63 = .ok (.iload_n 2, 1) := by decide +kernel
theorem dX12_changes_64 : decode cX12_changes 64 = .ok (.iadd, 1) := by decide +kernel
theorem dX12_changes_65 : decode cX12_changes 65 = .ok (.iload_n 3, 1) := by decide +kernel
theorem dX12_changes_66 : decode cX12_changes 66 = .ok (.iastore, 1) := by decide +kernel
theorem dX12_changes_67 : decode cX12_changes 67 = .ok (.aload_n 0, 1) := by decide +kernel
theorem dX12_changes_68 : decode cX12_changes 68 = .ok (.getfield 9, 3) := by decide +kernel
theorem dX12_changes_71 : decode cX12_changes 71 = .ok (.bipush 41, 2) := by decide +kernel
theorem dX12_changes_73 : decode cX12_changes 73 = .ok (.iload_n 2, 1) := by decide +kernel
theorem dX12_changes_74 : decode cX12_changes 74 = .ok (.iadd, 1) := by decide +kernel
theorem dX12_changes_75 : decode cX12_changes 75 = .ok (.iload 4, 2) := by decide +kernel
theorem dX12_changes_77 : decode cX12_changes 77 = .ok (.iastore, 1) := by decide +kernel
theorem dX12_changes_78 : decode cX12_changes 78 = .ok (.return_, 1) := by decide +kernel
theorem dX12_swap_0 : decode cX12_swap 0 = .ok (.iload_n 1, 1) := by decide +kernel
theorem dX12_swap_1 : decode cX12_swap 1 = .ok (.iconst 0, 1) := by decide +kernel
theorem dX12_swap_2 : decode cX12_swap 2 = .ok (.iconst 1, 1) := by decide +kernel
theorem dX12_swap_3 : decode cX12_swap 3 = .ok (.invokestatic 50, 3) := by decide +kernel
theorem dX12_swap_6 : decode cX12_swap 6 = .ok (.ifCond .ne 5, 3) := by decide +kernel
theorem dX12_swap_9 : decode cX12_swap 9 = .ok (.iconst (-1), 1) := by decide +kernel
theorem dX12_swap_10 : decode cX12_swap 10 = .ok (.ireturn, 1) := by decide +kernel
theorem dX12_swap_11 : decode cX12_swap 11 = .ok (.iconst 0, 1) := by decide +kernel
theorem dX12_swap_12 : decode cX12_swap 12 = .ok (.istore_n 2, 1) := by decide +kernel
theorem dX12_swap_13 : decode cX12_swap 13 = .ok (.bipush (-5), 2) := by decide +kernel
theorem dX12_swap_15 : decode cX12_swap 15 = .ok (.istore_n 3, 1) := by decide +kernel
theorem dX12_swap_16 : decode cX12_swap 16 = .ok (.iconst 0, 1) := by decide +kernel
theorem dX12_swap_17 : decode cX12_swap 17 = .ok (.istore 4, 2) := by decide +kernel
theorem dX12_swap_19 : decode cX12_swap 19 = .ok (.iload 4, 2) := by decide +kernel
theorem dX12_swap_21 : decode cX12_swap 21 = .ok (.aload_n 0, 1) := by decide +kernel
theorem dX12_swap_22 : decode cX12_swap 22 = .ok (.getfield 9, 3) := by decide +kernel
theorem dX12_swap_25 : decode cX12_swap 25 = .ok (.bipush 51, 2) := by decide +kernel
theorem dX12_swap_27 : decode cX12_swap 27 = .ok (.iaload, 1) := by decide +kernel
theorem dX12_swap_28 : decode cX12_swap 28 = .ok (.if_icmp .ge 166, 3) := by decide +kernel
theorem dX12_swap_31 : decode cX12_swap 31 = .ok (.iload 4, 2) := by decide +kernel
theorem dX12_swap_33 : decode cX12_swap 33 = .ok (.iconst 1, 1) := by decide +kernel
theorem dX12_swap_34 : decode cX12_swap 34 = .ok (.iadd, 1) := by decide +kernel
theorem dX12_swap_35 : decode cX12_swap 35 = .ok (.istore 5, 2) := by decide +kernel
theorem dX12_swap_37 : decode cX12_swap 37 = .ok (.iload 5, 2) := by decide +kernel
theorem dX12_swap_39 : decode cX12_swap 39 = .ok (.aload_n 0, 1) := by decide +kernel
theorem dX12_swap_40 : decode cX12_swap 40 = .ok (.getfield 9, 3) := by decide +kernel
theorem dX12_swap_43 : decode cX12_swap 43 = .ok (.bipush 51, 2) := by decide +kernel
theorem dX12_swap_45 : decode cX12_swap 45 = .ok (.iaload, 1) := by decide +kernel
theorem dX12_swap_46 : decode cX12_swap 46 = .ok (.if_icmp .ge 142, 3) := by decide +kernel
theorem dX12_swap_49 : decode cX12_swap 49 = .ok (.aload_n 0, 1) := by decide +kernel
theorem dX12_swap_50 : decode cX12_swap 50 = .ok (.getfield 9, 3) := by decide +kernel
theorem dX12_swap_53 : decode cX12_swap 53 = .ok (.bipush 31, 2) := by decide +kernel
theorem dX12_swap_55 : decode cX12_swap 55 = .ok (.iload 4, 2) := by decide +kernel
theorem dX12_swap_57 : decode cX12_swap 57 = .ok (.iadd, 1) := by decide +kernel
theorem dX12_swap_58 : decode cX12_swap 58 = .ok (.iaload, 1) := by decide +kernel
theorem dX12_swap_59 : decode cX12_swap 59 = .ok (.aload_n 0, 1) := by decide +kernel
theorem dX12_swap_60 : decode cX12_swap 60 = .ok (.getfield 9, 3) := by decide +kernel
theorem dX12_swap_63 : decode cX12_swap 63 = .ok (.bipush 31, 2) := by decide +kernel
theorem dX12_swap_65 : decode cX12_swap 65 = .ok (.iload 5, 2) := by decide +kernel
theorem dX12_swap_67 : decode cX12_swap 67 = .ok (.iadd, 1) := by decide +kernel
theorem dX12_swap_68 : decode cX12_swap 68 = .ok (.iaload, 1) := by decide +kernel
theorem dX12_swap_69 : decode cX12_swap 69 = .ok (.if_icmp .eq 113, 3) := by decide +kernel
theorem dX12_swap_72 : decode cX12_swap 72 = .ok (.aload_n 0, 1) := by decide +kernel
theorem dX12_swap_73 : decode cX12_swap 73 = .ok (.invokevirtual 191, 3) := by decide +kernel
theorem dX12_swap_76 : decode cX12_swap 76 = .ok (.aload_n 0, 1) := by decide +kernel
theorem dX12_swap_77 : decode cX12_swap 77 = .ok (.getfield 31, 3) := by decide +kernel
theorem dX12_swap_80 : decode cX12_swap 80 = .ok (.iload 4, 2) := by decide +kernel
theorem dX12_swap_82 : decode cX12_swap 82 = .ok (.iaload, 1) := by decide +kernel
theorem dX12_swap_83 : decode cX12_swap 83 = .ok (.istore 6, 2) := by decide +kernel
theorem dX12_swap_85 : decode cX12_swap 85 = .ok (.aload_n 0, 1) := by decide +kernel
theorem dX12_swap_86 : decode cX12_swap 86 = .ok (.getfield 31, 3) := by decide +kernel
theorem dX12_swap_89 : decode cX12_swap 89 = .ok (.iload 5, 2) := by decide +kernel
theorem dX12_swap_91 : decode cX12_swap 91 = .ok (.iaload, 1) := by decide +kernel
theorem dX12_swap_92 : decode cX12_swap 92 = .ok (.istore 7, 2) := by decide +kernel
theorem dX12_swap_94 : decode cX12_swap 94 = .ok (.aload_n 0, 1) := by decide +kernel
theorem dX12_swap_95 : decode cX12_swap 95 = .ok (.iload 4, 2) := by decide +kernel
theorem dX12_swap_97 : decode cX12_swap 97 = .ok (.iload 5, 2) := by decide +kernel
theorem dX12_swap_99 : decode cX12_swap 99 = .ok (.invokevirtual 203, 3) := by decide +kernel
theorem dX12_swap_102 : decode cX12_swap 102 = .ok (.aload_n 0, 1) := by decide +kernel
theorem dX12_swap_103 : decode cX12_swap 103 = .ok (.invokevirtual 191, 3) := by decide +kernel
theorem dX12_swap_106 : decode cX12_swap 106 = .ok (.aload_n 0, 1) := by decide +kernel
theorem dX12_swap_107 : decode cX12_swap 107 = .ok (.getfield 31, 3) := by decide +kernel
theorem dX12_swap_110 : decode cX12_swap 110 = .ok (.iload 4, 2) := by decide +kernel
theorem dX12_swap_112 : decode cX12_swap 112 = .ok (.iaload, 1) := by decide +kernel
theorem dX12_swap_113 : decode cX12_swap 113 = .ok (.iload 6, 2) := by decide +kernel
theorem dX12_swap_115 : decode cX12_swap 115 = .ok (.if_icmp .le 19, 3) := by decide +kernel
theorem dX12_swap_118 : decode cX12_swap 118 = .ok (.aload_n 0, 1) := by decide +kernel
theorem dX12_swap_119 : decode cX12_swap 119 = .ok (.getfield 31, 3) := by decide +kernel
theorem dX12_swap_122 : decode cX12_swap 122 = .ok (.iload 5, 2) := by decide +kernel
theorem dX12_swap_124 : decode cX12_swap 124 = .ok (.iaload, 1) := by decide +kernel
theorem dX12_swap_125 : decode cX12_swap 125 = .ok (.iload 7, 2) := by decide +kernel
theorem dX12_swap_127 : decode cX12_swap 127 = .ok (.if_icmp .le 7, 3) := by decide +kernel
theorem dX12_swap_130 : decode cX12_swap 130 = .ok (.iconst 1, 1) := by decide +kernel
theorem dX12_swap_131 : decode cX12_swap 131 = .ok (.goto 4, 3) := by decide +kernel
theorem dX12_swap_134 : decode cX12_swap 134 = .ok (.iconst 0, 1) := by decide +kernel
theorem dX12_swap_135 : decode cX12_swap 135 = .ok (.istore 8, 2) := by decide +kernel
theorem dX12_swap_137 : decode cX12_swap 137 = .ok (.aload_n 0, 1) := by decide +kernel
theorem dX12_swap_138 : decode cX12_swap 138 = .ok (.iload 4, 2) := by decide +kernel
theorem dX12_swap_140 : decode cX12_swap 140 = .ok (.iload 5, 2) := by decide +kernel
theorem dX12_swap_142 : decode cX12_swap 142 = .ok (.invokevirtual 203, 3) := by decide +kernel
theorem dX12_swap_145 : decode cX12_swap 145 = .ok (.iload_n 2, 1) := by decide +kernel
theorem dX12_swap_146 : decode cX12_swap 146 = .ok (.iload 8, 2) := by decide +kernel
theorem dX12_swap_148 : decode cX12_swap 148 = .ok (.ifCond .eq 7, 3) := by decide +kernel
theorem dX12_swap_151 : decode cX12_swap 151 = .ok (.iconst 1, 1) := by decide +kernel
theorem dX12_swap_152 : decode cX12_swap 152 = .ok (.goto 4, 3) := by decide +kernel
theorem dX12_swap_155 : decode cX12_swap 155 = .ok (.iconst 0, 1) := by decide +kernel
theorem dX12_swap_156 : decode cX12_swap 156 = .ok (.iadd, 1) := by decide +kernel
theorem dX12_swap_157 : decode cX12_swap 157 = .ok (.istore_n 2, 1) := by decide +kernel
theorem dX12_swap_158 : decode cX12_swap 158 = .ok (.iload 8, 2) := by decide +kernel
theorem dX12_swap_160 : decode cX12_swap 160 = .ok (.ifCond .eq 20, 3) := by decide +kernel
theorem dX12_swap_163 : decode cX12_swap 163 = .ok (.iload_n 3, 1) := by decide +kernel
theorem dX12_swap_164 : decode cX12_swap 164 = .ok (.bipush (-5), 2) := by decide +kernel
theorem dX12_swap_166 : decode cX12_swap 166 = .ok (.if_icmp .ne 14, 3) := by decide +kernel
theorem dX12_swap_169 : decode cX12_swap 169 = .ok (.bipush 10, 2) := by decide +kernel
theorem dX12_swap_171 : decode cX12_swap 171 = .ok (.iload 4, 2) := by decide +kernel
theorem dX12_swap_173 : decode cX12_swap 173 = .ok (.imul, 1) := by decide +kernel
theorem dX12_swap_174 : decode cX12_swap 174 = .ok (.iload 5, 2) := by decide +kernel
theorem dX12_swap_176 : decode cX12_swap 176 = .ok (.iadd, 1) := by decide +kernel
theorem dX12_swap_177 : decode cX12_swap 177 = .ok (.goto 4, 3) := by decide +kernel
theorem dX12_swap_180 : decode cX12_swap 180 = .ok (.iload_n 3, 1) := by decide +kernel
theorem dX12_swap_181 : decode cX12_swap 181 = .ok (.istore_n 3, 1) := by decide +kernel
theorem dX12_swap_182 : decode cX12_swap 182 = .ok (.iinc 5 1, 3) := by decide +kernel
theorem dX12_swap_185 : decode cX12_swap 185 = .ok (.goto (-148), 3) := by decide +kernel
theorem dX12_swap_188 : decode cX12_swap 188 = .ok (.iinc 4 1, 3) := by decide +kernel
theorem dX12_swap_191 : decode cX12_swap 191 = .ok (.goto (-172), 3) := by decide +kernel
theorem dX12_swap_194 : decode cX12_swap 194 = .ok (.iload_n 1, 1) := by decide +kernel
theorem dX12_swap_195 : decode cX12_swap 195 = .ok (.ifCond .ne 7, 3) := by decide +kernel
theorem dX12_swap_198 : decode cX12_swap 198 = .ok (.iload_n 2, 1) := by decide +kernel
theorem dX12_swap_199 : decode cX12_swap 199 = .ok (.goto 4, 3) := by decide +kernel
theorem dX12_swap_202 : decode cX12_swap 202 = .ok (.iload_n 3, 1) := by decide +kernel
theorem dX12_swap_203 : decode cX12_swap 203 = .ok (.ireturn, 1) := by decide +kernel
theorem dX12_newOne_0 : decode cX12_newOne 0 = .ok (.aload_n 0, 1) := by decide +kernel
theorem dX12_newOne_1 : decode cX12_newOne 1 = .ok (.getfield 9, 3) := by decide +kernel
theorem dX12_newOne_4 : decode cX12_newOne 4 = .ok (.iconst 1, 1) := by decide +kernel
theorem dX12_newOne_5 : decode cX12_newOne 5 = .ok (.iload_n 1, 1) := by decide +kernel
theorem dX12_newOne_6 : decode cX12_newOne 6 = .ok (.iadd, 1) := by decide +kernel
theorem dX12_newOne_7 : decode cX12_newOne 7 = .ok (.aload_n 0, 1) := by decide +kernel
theorem dX12_newOne_8 : decode cX12_newOne 8 = .ok (.getfield 9, 3) := by decide +kernel
theorem dX12_newOne_11 : decode cX12_newOne 11 = .ok (.bipush 57, 2) := by decide +kernel
theorem dX12_newOne_13 : decode cX12_newOne 13 = .ok (.iaload, 1) := by decide +kernel
theorem dX12_newOne_14 : decode cX12_newOne 14 = .ok (.iastore, 1) := by decide +kernel
theorem dX12_newOne_15 : decode cX12_newOne 15 = .ok (.aload_n 0, 1) := by decide +kernel
theorem dX12_newOne_16 : decode cX12_newOne 16 = .ok (.getfield 9, 3) := by decide +kernel
theorem dX12_newOne_19 : decode cX12_newOne 19 = .ok (.bipush 11, 2) := by decide +kernel
theorem dX12_newOne_21 : decode cX12_newOne 21 = .ok (.iload_n 1, 1) := by decide +kernel
theorem dX12_newOne_22 : decode cX12_newOne 22 = .ok (.iadd, 1) := by decide +kernel
theorem dX12_newOne_23 : decode cX12_newOne 23 = .ok (.aload_n 0, 1) := by decide +kernel
theorem dX12_newOne_24 : decode cX12_newOne 24 = .ok (.getfield 9, 3) := by decide +kernel
theorem dX12_newOne_27 : decode cX12_newOne 27 = .ok (.bipush 58, 2) := by decide +kernel
theorem dX12_newOne_29 : decode cX12_newOne 29 = .ok (.iaload, 1) := by decide +kernel
theorem dX12_newOne_30 : decode cX12_newOne 30 = .ok (.iastore, 1) := by decide +kernel
theorem dX12_newOne_31 : decode cX12_newOne 31 = .ok (.aload_n 0, 1) := by decide +kernel
theorem dX12_newOne_32 : decode cX12_newOne 32 = .ok (.getfield 9, 3) := by decide +kernel
theorem dX12_newOne_35 : decode cX12_newOne 35 = .ok (.bipush 21, 2) := by decide +kernel
theorem dX12_newOne_37 : decode cX12_newOne 37 = .ok (.iload_n 1, 1) := by decide +kernel
theorem dX12_newOne_38 : decode cX12_newOne 38 = .ok (.iadd, 1) := by decide +kernel
theorem dX12_newOne_39 : decode cX12_newOne 39 = .ok (.iconst 0, 1) := by decide +kernel
theorem dX12_newOne_40 : decode cX12_newOne 40 = .ok (.iastore, 1) := by decide +kernel
theorem dX12_newOne_41 : decode cX12_newOne 41 = .ok (.return_, 1) := by decide +kernel
theorem dX12_yearGoes_0 : decode cX12_yearGoes 0 = .ok (.aload_n 0, 1) := by decide +kernel
theorem dX12_yearGoes_1 : decode cX12_yearGoes 1 = .ok (.invokevirtual 194, 3) := by decide +kernel
theorem dX12_yearGoes_4 : decode cX12_yearGoes 4 = .ok (.aload_n 0, 1) := by decide +kernel
theorem dX12_yearGoes_5 : decode cX12_yearGoes 5 = .ok (.invokevirtual 191, 3) := by decide +kernel
theorem dX12_yearGoes_8 : decode cX12_yearGoes 8 = .ok (.aload_n 0, 1) := by decide +kernel
theorem dX12_yearGoes_9 : decode cX12_yearGoes 9 = .ok (.getfield 9, 3) := by decide +kernel
theorem dX12_yearGoes_12 : decode cX12_yearGoes 12 = .ok (.bipush 51, 2) := by decide +kernel
theorem dX12_yearGoes_14 : decode cX12_yearGoes 14 = .ok (.iaload, 1) := by decide +kernel
theorem dX12_yearGoes_15 : decode cX12_yearGoes 15 = .ok (.istore_n 2, 1) := by decide +kernel
theorem dX12_yearGoes_16 : decode cX12_yearGoes 16 = .ok (.iconst 0, 1) := by decide +kernel
theorem dX12_yearGoes_17 : decode cX12_yearGoes 17 = .ok (.istore_n 3, 1) := by decide +kernel
theorem dX12_yearGoes_18 : decode cX12_yearGoes 18 = .ok (.iconst 0, 1) := by decide +kernel
theorem dX12_yearGoes_19 : decode cX12_yearGoes 19 = .ok (.istore 4, 2) := by decide +kernel
theorem dX12_yearGoes_21 : decode cX12_yearGoes 21 = .ok (.iload 4, 2) := by decide +kernel
theorem dX12_yearGoes_23 : decode cX12_yearGoes 23 = .ok (.iload_n 2, 1) := by decide +kernel
theorem dX12_yearGoes_24 : decode cX12_yearGoes 24 = .ok (.if_icmp .ge 94, 3) := by decide +kernel
theorem dX12_yearGoes_27 : decode cX12_yearGoes 27 = .ok (.iload_n 1, 1) := by decide +kernel
theorem dX12_yearGoes_28 : decode cX12_yearGoes 28 = .ok (.iconst 3, 1) := by decide +kernel
theorem dX12_yearGoes_29 : decode cX12_yearGoes 29 = .ok (.if_icmp .ne 13, 3) := by decide +kernel
theorem dX12_yearGoes_32 : decode cX12_yearGoes 32 = .ok (.aload_n 0, 1) := by decide +kernel
theorem dX12_yearGoes_33 : decode cX12_yearGoes 33 = .ok (.getfield 34, 3) := by decide +kernel
theorem dX12_yearGoes_36 : decode cX12_yearGoes 36 = .ok (.iload 4, 2) := by decide +kernel
theorem dX12_yearGoes_38 : decode cX12_yearGoes 38 = .ok (.iaload, 1) := by decide +kernel
theorem dX12_yearGoes_39 : decode cX12_yearGoes 39 = .ok (.goto 10, 3) := by decide +kernel
theorem dX12_yearGoes_42 : decode cX12_yearGoes 42 = .ok (.aload_n 0, 1) := by decide +kernel
theorem dX12_yearGoes_43 : decode cX12_yearGoes 43 = .ok (.getfield 31, 3) := by decide +kernel
theorem dX12_yearGoes_46 : decode cX12_yearGoes 46 = .ok (.iload 4, 2) := by decide +kernel
theorem dX12_yearGoes_48 : decode cX12_yearGoes 48 = .ok (.iaload, 1) := by decide +kernel
theorem dX12_yearGoes_49 : decode cX12_yearGoes 49 = .ok (.istore 5, 2) := by decide +kernel
theorem dX12_yearGoes_51 : decode cX12_yearGoes 51 = .ok (.aload_n 0, 1) := by decide +kernel
theorem dX12_yearGoes_52 : decode cX12_yearGoes 52 = .ok (.getfield 9, 3) := by decide +kernel
theorem dX12_yearGoes_55 : decode cX12_yearGoes 55 = .ok (.bipush 21, 2) := by decide +kernel
theorem dX12_yearGoes_57 : decode cX12_yearGoes 57 = .ok (.iload 4, 2) := by decide +kernel
theorem dX12_yearGoes_59 : decode cX12_yearGoes 59 = .ok (.iadd, 1) := by decide +kernel
theorem dX12_yearGoes_60 : decode cX12_yearGoes 60 = .ok (.iaload, 1) := by decide +kernel
theorem dX12_yearGoes_61 : decode cX12_yearGoes 61 = .ok (.aload_n 0, 1) := by decide +kernel
theorem dX12_yearGoes_62 : decode cX12_yearGoes 62 = .ok (.iconst 2, 1) := by decide +kernel
theorem dX12_yearGoes_63 : decode cX12_yearGoes 63 = .ok (.invokevirtual 169, 3) := by decide +kernel
theorem dX12_yearGoes_66 : decode cX12_yearGoes 66 = .ok (.iload 5, 2) := by decide +kernel
theorem dX12_yearGoes_68 : decode cX12_yearGoes 68 = .ok (.imul, 1) := by decide +kernel
theorem dX12_yearGoes_69 : decode cX12_yearGoes 69 = .ok (.iadd, 1) := by decide +kernel
theorem dX12_yearGoes_70 : decode cX12_yearGoes 70 = .ok (.istore 6, 2) := by decide +kernel
theorem dX12_yearGoes_72 : decode cX12_yearGoes 72 = .ok (.aload_n 0, 1) := by decide +kernel
theorem dX12_yearGoes_73 : decode cX12_yearGoes 73 = .ok (.getfield 9, 3) := by decide +kernel
theorem dX12_yearGoes_76 : decode cX12_yearGoes 76 = .ok (.bipush 21, 2) := by decide +kernel
theorem dX12_yearGoes_78 : decode cX12_yearGoes 78 = .ok (.iload 4, 2) := by decide +kernel
theorem dX12_yearGoes_80 : decode cX12_yearGoes 80 = .ok (.iadd, 1) := by decide +kernel
theorem dX12_yearGoes_81 : decode cX12_yearGoes 81 = .ok (.iload 6, 2) := by decide +kernel
theorem dX12_yearGoes_83 : decode cX12_yearGoes 83 = .ok (.sipush 9999, 3) := by decide +kernel
theorem dX12_yearGoes_86 : decode cX12_yearGoes 86 = .ok (.if_icmp .le 9, 3) := by decide +kernel
theorem dX12_yearGoes_89 : decode cX12_yearGoes 89 = .ok (.sipush 9999, 3) := by decide +kernel
theorem dX12_yearGoes_92 : decode cX12_yearGoes 92 = .ok (.goto 5, 3) := by decide +kernel
theorem dX12_yearGoes_95 : decode cX12_yearGoes 95 = .ok (.iload 6, 2) := by decide +kernel
theorem dX12_yearGoes_97 : decode cX12_yearGoes 97 = .ok (.iastore, 1) := by decide +kernel
theorem dX12_yearGoes_98 : decode cX12_yearGoes 98 = .ok (.iload_n 3, 1) := by decide +kernel
theorem dX12_yearGoes_99 : decode cX12_yearGoes 99 = .ok (.iload 5, 2) := by decide +kernel
theorem dX12_yearGoes_101 : decode cX12_yearGoes 101 = .ok (.iconst 1, 1) := by decide +kernel
theorem dX12_yearGoes_102 : decode cX12_yearGoes 102 = .ok (.if_icmp .ne 7, 3) := by decide +kernel
theorem dX12_yearGoes_105 : decode cX12_yearGoes 105 = .ok (.iconst 1, 1) := by decide +kernel
theorem dX12_yearGoes_106 : decode cX12_yearGoes 106 = .ok (.goto 4, 3) := by decide +kernel
theorem dX12_yearGoes_109 : decode cX12_yearGoes 109 = .ok (.iconst 0, 1) := by decide +kernel
theorem dX12_yearGoes_110 : decode cX12_yearGoes 110 = .ok (.iadd, 1) := by decide +kernel
theorem dX12_yearGoes_111 : decode cX12_yearGoes 111 = .ok (.istore_n 3, 1) := by decide +kernel
theorem dX12_yearGoes_112 : decode cX12_yearGoes 112 = .ok (.iinc 4 1, 3) := by decide +kernel
theorem dX12_yearGoes_115 : decode cX12_yearGoes 115 = .ok (.goto (-94), 3) := by decide +kernel
theorem dX12_yearGoes_118 : decode cX12_yearGoes 118 = .ok (.iload_n 1, 1) := by decide +kernel
theorem dX12_yearGoes_119 : decode cX12_yearGoes 119 = .ok (.iconst 1, 1) := by decide +kernel
theorem dX12_yearGoes_120 : decode cX12_yearGoes 120 = .ok (.if_icmp .ne 7, 3) := by decide +kernel
theorem dX12_yearGoes_123 : decode cX12_yearGoes 123 = .ok (.iconst 0, 1) := by decide +kernel
theorem dX12_yearGoes_124 : decode cX12_yearGoes 124 = .ok (.goto 4, 3) := by decide +kernel
theorem dX12_yearGoes_127 : decode cX12_yearGoes 127 = .ok (.iload_n 3, 1) := by decide +kernel
theorem dX12_yearGoes_128 : decode cX12_yearGoes 128 = .ok (.istore_n 3, 1) := by decide +kernel
theorem dX12_yearGoes_129 : decode cX12_yearGoes 129 = .ok (.iconst 0, 1) := by decide +kernel
theorem dX12_yearGoes_130 : decode cX12_yearGoes 130 = .ok (.istore 4, 2) := by decide +kernel
theorem dX12_yearGoes_132 : decode cX12_yearGoes 132 = .ok (.iload 4, 2) := by decide +kernel
theorem dX12_yearGoes_134 : decode cX12_yearGoes 134 = .ok (.iload_n 2, 1) := by decide +kernel
theorem dX12_yearGoes_135 : decode cX12_yearGoes 135 = .ok (.if_icmp .ge 118, 3) := by decide +kernel
theorem dX12_yearGoes_138 : decode cX12_yearGoes 138 = .ok (.iload_n 1, 1) := by decide +kernel
theorem dX12_yearGoes_139 : decode cX12_yearGoes 139 = .ok (.iconst 3, 1) := by decide +kernel
theorem dX12_yearGoes_140 : decode cX12_yearGoes 140 = .ok (.if_icmp .ne 22, 3) := by decide +kernel
theorem dX12_yearGoes_143 : decode cX12_yearGoes 143 = .ok (.aload_n 0, 1) := by decide +kernel
theorem dX12_yearGoes_144 : decode cX12_yearGoes 144 = .ok (.getfield 34, 3) := by decide +kernel
theorem dX12_yearGoes_147 : decode cX12_yearGoes 147 = .ok (.iload 4, 2) := by decide +kernel
theorem dX12_yearGoes_149 : decode cX12_yearGoes 149 = .ok (.iaload, 1) := by decide +kernel
theorem dX12_yearGoes_150 : decode cX12_yearGoes 150 = .ok (.iconst 1, 1) := by decide +kernel
theorem dX12_yearGoes_151 : decode cX12_yearGoes 151 = .ok (.if_icmp .ne 7, 3) := by decide +kernel
theorem dX12_yearGoes_154 : decode cX12_yearGoes 154 = .ok (.iconst 1, 1) := by decide +kernel
theorem dX12_yearGoes_155 : decode cX12_yearGoes 155 = .ok (.goto 23, 3) := by decide +kernel
theorem dX12_yearGoes_158 : decode cX12_yearGoes 158 = .ok (.iconst 0, 1) := by decide +kernel
theorem dX12_yearGoes_159 : decode cX12_yearGoes 159 = .ok (.goto 19, 3) := by decide +kernel
theorem dX12_yearGoes_162 : decode cX12_yearGoes 162 = .ok (.aload_n 0, 1) := by decide +kernel
theorem dX12_yearGoes_163 : decode cX12_yearGoes 163 = .ok (.getfield 31, 3) := by decide +kernel
theorem dX12_yearGoes_166 : decode cX12_yearGoes 166 = .ok (.iload 4, 2) := by decide +kernel
theorem dX12_yearGoes_168 : decode cX12_yearGoes 168 = .ok (.iaload, 1) := by decide +kernel
theorem dX12_yearGoes_169 : decode cX12_yearGoes 169 = .ok (.iconst 1, 1) := by decide +kernel
theorem dX12_yearGoes_170 : decode cX12_yearGoes 170 = .ok (.if_icmp .ne 7, 3) := by decide +kernel
theorem dX12_yearGoes_173 : decode cX12_yearGoes 173 = .ok (.iconst 1, 1) := by decide +kernel
theorem dX12_yearGoes_174 : decode cX12_yearGoes 174 = .ok (.goto 4, 3) := by decide +kernel
theorem dX12_yearGoes_177 : decode cX12_yearGoes 177 = .ok (.iconst 0, 1) := by decide +kernel
theorem dX12_yearGoes_178 : decode cX12_yearGoes 178 = .ok (.istore 5, 2) := by decide +kernel
theorem dX12_yearGoes_180 : decode cX12_yearGoes 180 = .ok (.iload 4, 2) := by decide +kernel
theorem dX12_yearGoes_182 : decode cX12_yearGoes 182 = .ok (.bipush 7, 2) := by decide +kernel
theorem dX12_yearGoes_184 : decode cX12_yearGoes 184 = .ok (.aload_n 0, 1) := by decide +kernel
theorem dX12_yearGoes_185 : decode cX12_yearGoes 185 = .ok (.getfield 9, 3) := by decide +kernel
theorem dX12_yearGoes_188 : decode cX12_yearGoes 188 = .ok (.iconst 0, 1) := by decide +kernel
theorem dX12_yearGoes_189 : decode cX12_yearGoes 189 = .ok (.iaload, 1) := by decide +kernel
theorem dX12_yearGoes_190 : decode cX12_yearGoes 190 = .ok (.imul, 1) := by decide +kernel
theorem dX12_yearGoes_191 : decode cX12_yearGoes 191 = .ok (.iload_n 2, 1) := by decide +kernel
theorem dX12_yearGoes_192 : decode cX12_yearGoes 192 = .ok (.irem, 1) := by decide +kernel
theorem dX12_yearGoes_193 : decode cX12_yearGoes 193 = .ok (.isub, 1) := by decide +kernel
theorem dX12_yearGoes_194 : decode cX12_yearGoes 194 = .ok (.iload_n 2, 1) := by decide +kernel
theorem dX12_yearGoes_195 : decode cX12_yearGoes 195 = .ok (.iadd, 1) := by decide +kernel
theorem dX12_yearGoes_196 : decode cX12_yearGoes 196 = .ok (.iload_n 2, 1) := by decide +kernel
theorem dX12_yearGoes_197 : decode cX12_yearGoes 197 = .ok (.irem, 1) := by decide +kernel
theorem dX12_yearGoes_198 : decode cX12_yearGoes 198 = .ok (.istore 6, 2) := by decide +kernel
theorem dX12_yearGoes_200 : decode cX12_yearGoes 200 = .ok (.iload_n 1, 1) := by decide +kernel
theorem dX12_yearGoes_201 : decode cX12_yearGoes 201 = .ok (.iconst 2, 1) := by decide +kernel
theorem dX12_yearGoes_202 : decode cX12_yearGoes 202 = .ok (.if_icmp .ne 17, 3) := by decide +kernel
theorem dX12_yearGoes_205 : decode cX12_yearGoes 205 = .ok (.iload 6, 2) := by decide +kernel
theorem dX12_yearGoes_207 : decode cX12_yearGoes 207 = .ok (.iload_n 3, 1) := by decide +kernel
theorem dX12_yearGoes_208 : decode cX12_yearGoes 208 = .ok (.if_icmp .ge 7, 3) := by decide +kernel
theorem dX12_yearGoes_211 : decode cX12_yearGoes 211 = .ok (.iconst 1, 1) := by decide +kernel
theorem dX12_yearGoes_212 : decode cX12_yearGoes 212 = .ok (.goto 22, 3) := by decide +kernel
theorem dX12_yearGoes_215 : decode cX12_yearGoes 215 = .ok (.iconst 0, 1) := by decide +kernel
theorem dX12_yearGoes_216 : decode cX12_yearGoes 216 = .ok (.goto 18, 3) := by decide +kernel
theorem dX12_yearGoes_219 : decode cX12_yearGoes 219 = .ok (.iload 5, 2) := by decide +kernel
theorem dX12_yearGoes_221 : decode cX12_yearGoes 221 = .ok (.ifCond .eq 12, 3) := by decide +kernel
theorem dX12_yearGoes_224 : decode cX12_yearGoes 224 = .ok (.iload_n 1, 1) := by decide +kernel
theorem dX12_yearGoes_225 : decode cX12_yearGoes 225 = .ok (.iconst 1, 1) := by decide +kernel
theorem dX12_yearGoes_226 : decode cX12_yearGoes 226 = .ok (.if_icmp .eq 7, 3) := by decide +kernel
theorem dX12_yearGoes_229 : decode cX12_yearGoes 229 = .ok (.iconst 1, 1) := by decide +kernel
theorem dX12_yearGoes_230 : decode cX12_yearGoes 230 = .ok (.goto 4, 3) := by decide +kernel
theorem dX12_yearGoes_233 : decode cX12_yearGoes 233 = .ok (.iconst 0, 1) := by decide +kernel
theorem dX12_yearGoes_234 : decode cX12_yearGoes 234 = .ok (.istore 5, 2) := by decide +kernel
theorem dX12_yearGoes_236 : decode cX12_yearGoes 236 = .ok (.iload 5, 2) := by decide +kernel
theorem dX12_yearGoes_238 : decode cX12_yearGoes 238 = .ok (.ifCond .eq 9, 3) := by decide +kernel
theorem dX12_yearGoes_241 : decode cX12_yearGoes 241 = .ok (.aload_n 0, 1) := by decide +kernel
theorem dX12_yearGoes_242 : decode cX12_yearGoes 242 = .ok (.iload 4, 2) := by decide +kernel
theorem dX12_yearGoes_244 : decode cX12_yearGoes 244 = .ok (.invokevirtual 206, 3) := by decide +kernel
theorem dX12_yearGoes_247 : decode cX12_yearGoes 247 = .ok (.iinc 4 1, 3) := by decide +kernel
theorem dX12_yearGoes_250 : decode cX12_yearGoes 250 = .ok (.goto (-118), 3) := by decide +kernel
theorem dX12_yearGoes_253 : decode cX12_yearGoes 253 = .ok (.aload_n 0, 1) := by decide +kernel
theorem dX12_yearGoes_254 : decode cX12_yearGoes 254 = .ok (.getfield 9, 3) := by decide +kernel
theorem dX12_yearGoes_257 : decode cX12_yearGoes 257 = .ok (.iconst 0, 1) := by decide +kernel
theorem dX12_yearGoes_258 : decode cX12_yearGoes 258 = .ok (.dup2, 1) := by decide +kernel
theorem dX12_yearGoes_259 : decode cX12_yearGoes 259 = .ok (.iaload, 1) := by decide +kernel
theorem dX12_yearGoes_260 : decode cX12_yearGoes 260 = .ok (.iconst 1, 1) := by decide +kernel
theorem dX12_yearGoes_261 : decode cX12_yearGoes 261 = .ok (.iadd, 1) := by decide +kernel
theorem dX12_yearGoes_262 : decode cX12_yearGoes 262 = .ok (.iastore, 1) := by decide +kernel
theorem dX12_yearGoes_263 : decode cX12_yearGoes 263 = .ok (.iload_n 3, 1) := by decide +kernel
theorem dX12_yearGoes_264 : decode cX12_yearGoes 264 = .ok (.ireturn, 1) := by decide +kernel
theorem dX12_year_0 : decode cX12_year 0 = .ok (.aload_n 0, 1) := by decide +kernel
theorem dX12_year_1 : decode cX12_year 1 = .ok (.getfield 9, 3) := by decide +kernel
theorem dX12_year_4 : decode cX12_year 4 = .ok (.iconst 0, 1) := by decide +kernel
theorem dX12_year_5 : decode cX12_year 5 = .ok (.iaload, 1) := by decide +kernel
theorem dX12_year_6 : decode cX12_year 6 = .ok (.bipush 99, 2) := by decide +kernel
theorem dX12_year_8 : decode cX12_year 8 = .ok (.if_icmp .ne 8, 3) := by decide +kernel
theorem dX12_year_11 : decode cX12_year 11 = .ok (.bipush (-3), 2) := by decide +kernel
theorem dX12_year_13 : decode cX12_year 13 = .ok (.goto 8, 3) := by decide +kernel
theorem dX12_year_16 : decode cX12_year 16 = .ok (.aload_n 0, 1) := by decide +kernel
theorem dX12_year_17 : decode cX12_year 17 = .ok (.iconst 0, 1) := by decide +kernel
theorem dX12_year_18 : decode cX12_year 18 = .ok (.invokevirtual 209, 3) := by decide +kernel
theorem dX12_year_21 : decode cX12_year 21 = .ok (.ireturn, 1) := by decide +kernel
theorem dX12_years_0 : decode cX12_years 0 = .ok (.iload_n 2, 1) := by decide +kernel
theorem dX12_years_1 : decode cX12_years 1 = .ok (.iconst 0, 1) := by decide +kernel
theorem dX12_years_2 : decode cX12_years 2 = .ok (.iconst 3, 1) := by decide +kernel
theorem dX12_years_3 : decode cX12_years 3 = .ok (.invokestatic 50, 3) := by decide +kernel
theorem dX12_years_6 : decode cX12_years 6 = .ok (.ifCond .eq 29, 3) := by decide +kernel
theorem dX12_years_9 : decode cX12_years 9 = .ok (.iload_n 3, 1) := by decide +kernel
theorem dX12_years_10 : decode cX12_years 10 = .ok (.iconst 0, 1) := by decide +kernel
theorem dX12_years_11 : decode cX12_years 11 = .ok (.iconst 1, 1) := by decide +kernel
theorem dX12_years_12 : decode cX12_years 12 = .ok (.invokestatic 50, 3) := by decide +kernel
theorem dX12_years_15 : decode cX12_years 15 = .ok (.ifCond .ne 24, 3) := by decide +kernel
theorem dX12_years_18 : decode cX12_years 18 = .ok (.iload_n 3, 1) := by decide +kernel
theorem dX12_years_19 : decode cX12_years 19 = .ok (.bipush 10, 2) := by decide +kernel
theorem dX12_years_21 : decode cX12_years 21 = .ok (.if_icmp .lt 14, 3) := by decide +kernel
theorem dX12_years_24 : decode cX12_years 24 = .ok (.aload_n 0, 1) := by decide +kernel
theorem dX12_years_25 : decode cX12_years 25 = .ok (.iload_n 3, 1) := by decide +kernel
theorem dX12_years_26 : decode cX12_years 26 = .ok (.bipush 10, 2) := by decide +kernel
theorem dX12_years_28 : decode cX12_years 28 = .ok (.isub, 1) := by decide +kernel
theorem dX12_years_29 : decode cX12_years 29 = .ok (.invokevirtual 146, 3) := by decide +kernel
theorem dX12_years_32 : decode cX12_years 32 = .ok (.ifCond .ne 7, 3) := by decide +kernel
theorem dX12_years_35 : decode cX12_years 35 = .ok (.sipush (-1001), 3) := by decide +kernel
theorem dX12_years_38 : decode cX12_years 38 = .ok (.ireturn, 1) := by decide +kernel
theorem dX12_years_39 : decode cX12_years 39 = .ok (.iload_n 1, 1) := by decide +kernel
theorem dX12_years_40 : decode cX12_years 40 = .ok (.iconst 0, 1) := by decide +kernel
theorem dX12_years_41 : decode cX12_years 41 = .ok (.bipush 20, 2) := by decide +kernel
theorem dX12_years_43 : decode cX12_years 43 = .ok (.invokestatic 50, 3) := by decide +kernel
theorem dX12_years_46 : decode cX12_years 46 = .ok (.ifCond .ne 7, 3) := by decide +kernel
theorem dX12_years_49 : decode cX12_years 49 = .ok (.sipush (-1002), 3) := by decide +kernel
theorem dX12_years_52 : decode cX12_years 52 = .ok (.ireturn, 1) := by decide +kernel
theorem dX12_years_53 : decode cX12_years 53 = .ok (.aload_n 0, 1) := by decide +kernel
theorem dX12_years_54 : decode cX12_years 54 = .ok (.invokevirtual 212, 3) := by decide +kernel
theorem dX12_years_57 : decode cX12_years 57 = .ok (.iconst 0, 1) := by decide +kernel
theorem dX12_years_58 : decode cX12_years 58 = .ok (.istore 4, 2) := by decide +kernel
theorem dX12_years_60 : decode cX12_years 60 = .ok (.iconst 0, 1) := by decide +kernel
theorem dX12_years_61 : decode cX12_years 61 = .ok (.istore 5, 2) := by decide +kernel
theorem dX12_years_63 : decode cX12_years 63 = .ok (.iload 5, 2) := by decide +kernel
theorem dX12_years_65 : decode cX12_years 65 = .ok (.iload_n 1, 1) := by decide +kernel
theorem dX12_years_66 : decode cX12_years 66 = .ok (.if_icmp .ge 19, 3) := by decide +kernel
theorem dX12_years_69 : decode cX12_years 69 = .ok (.iload 4, 2) := by decide +kernel
theorem dX12_years_71 : decode cX12_years 71 = .ok (.aload_n 0, 1) := by decide +kernel
theorem dX12_years_72 : decode cX12_years 72 = .ok (.iload_n 2, 1) := by decide +kernel
theorem dX12_years_73 : decode cX12_years 73 = .ok (.invokevirtual 209, 3) := by decide +kernel
theorem dX12_years_76 : decode cX12_years 76 = .ok (.iadd, 1) := by decide +kernel
theorem dX12_years_77 : decode cX12_years 77 = .ok (.istore 4, 2) := by decide +kernel
theorem dX12_years_79 : decode cX12_years 79 = .ok (.iinc 5 1, 3) := by decide +kernel
theorem dX12_years_82 : decode cX12_years 82 = .ok (.goto (-19), 3) := by decide +kernel
theorem dX12_years_85 : decode cX12_years 85 = .ok (.iconst 0, 1) := by decide +kernel
theorem dX12_years_86 : decode cX12_years 86 = .ok (.istore 5, 2) := by decide +kernel
theorem dX12_years_88 : decode cX12_years 88 = .ok (.iconst 0, 1) := by decide +kernel
theorem dX12_years_89 : decode cX12_years 89 = .ok (.istore 6, 2) := by decide +kernel
theorem dX12_years_91 : decode cX12_years 91 = .ok (.iload 6, 2) := by decide +kernel
theorem dX12_years_93 : decode cX12_years 93 = .ok (.aload_n 0, 1) := by decide +kernel
theorem dX12_years_94 : decode cX12_years 94 = .ok (.getfield 9, 3) := by decide +kernel
theorem dX12_years_97 : decode cX12_years 97 = .ok (.bipush 51, 2) := by decide +kernel
theorem dX12_years_99 : decode cX12_years 99 = .ok (.iaload, 1) := by decide +kernel
theorem dX12_years_100 : decode cX12_years 100 = .ok (.if_icmp .ge 23, 3) := by decide +kernel
theorem dX12_years_103 : decode cX12_years 103 = .ok (.iload 5, 2) := by decide +kernel
theorem dX12_years_105 : decode cX12_years 105 = .ok (.aload_n 0, 1) := by decide +kernel
theorem dX12_years_106 : decode cX12_years 106 = .ok (.getfield 9, 3) := by decide +kernel
theorem dX12_years_109 : decode cX12_years 109 = .ok (.iconst 1, 1) := by decide +kernel
theorem dX12_years_110 : decode cX12_years 110 = .ok (.iload 6, 2) := by decide +kernel
theorem dX12_years_112 : decode cX12_years 112 = .ok (.iadd, 1) := by decide +kernel
theorem dX12_years_113 : decode cX12_years 113 = .ok (.iaload, 1) := by decide +kernel
theorem dX12_years_114 : decode cX12_years 114 = .ok (.iadd, 1) := by decide +kernel
theorem dX12_years_115 : decode cX12_years 115 = .ok (.istore 5, 2) := by decide +kernel
theorem dX12_years_117 : decode cX12_years 117 = .ok (.iinc 6 1, 3) := by decide +kernel
theorem dX12_years_120 : decode cX12_years 120 = .ok (.goto (-29), 3) := by decide +kernel
theorem dX12_years_123 : decode cX12_years 123 = .ok (.iload_n 3, 1) := by decide +kernel
theorem dX12_years_124 : decode cX12_years 124 = .ok (.ifCond .ne 8, 3) := by decide +kernel
theorem dX12_years_127 : decode cX12_years 127 = .ok (.iload 5, 2) := by decide +kernel
theorem dX12_years_129 : decode cX12_years 129 = .ok (.goto 25, 3) := by decide +kernel
theorem dX12_years_132 : decode cX12_years 132 = .ok (.iload_n 3, 1) := by decide +kernel
theorem dX12_years_133 : decode cX12_years 133 = .ok (.iconst 1, 1) := by decide +kernel
theorem dX12_years_134 : decode cX12_years 134 = .ok (.if_icmp .ne 8, 3) := by decide +kernel
theorem dX12_years_137 : decode cX12_years 137 = .ok (.iload 4, 2) := by decide +kernel
theorem dX12_years_139 : decode cX12_years 139 = .ok (.goto 15, 3) := by decide +kernel
theorem dX12_years_142 : decode cX12_years 142 = .ok (.aload_n 0, 1) := by decide +kernel
theorem dX12_years_143 : decode cX12_years 143 = .ok (.getfield 9, 3) := by decide +kernel
theorem dX12_years_146 : decode cX12_years 146 = .ok (.bipush 21, 2) := by decide +kernel
theorem dX12_years_148 : decode cX12_years 148 = .ok (.iload_n 3, 1) := by decide +kernel
theorem dX12_years_149 : decode cX12_years 149 = .ok (.iadd, 1) := by decide +kernel
theorem dX12_years_150 : decode cX12_years 150 = .ok (.bipush 10, 2) := by decide +kernel
theorem dX12_years_152 : decode cX12_years 152 = .ok (.isub, 1) := by decide +kernel
theorem dX12_years_153 : decode cX12_years 153 = .ok (.iaload, 1) := by decide +kernel
theorem dX12_years_154 : decode cX12_years 154 = .ok (.istore 6, 2) := by decide +kernel
theorem dX12_years_156 : decode cX12_years 156 = .ok (.aload_n 0, 1) := by decide +kernel
theorem dX12_years_157 : decode cX12_years 157 = .ok (.invokevirtual 215, 3) := by decide +kernel
theorem dX12_years_160 : decode cX12_years 160 = .ok (.iload 6, 2) := by decide +kernel
theorem dX12_years_162 : decode cX12_years 162 = .ok (.ireturn, 1) := by decide +kernel
theorem dX12_chooses_0 : decode cX12_chooses 0 = .ok (.iload_n 1, 1) := by decide +kernel
theorem dX12_chooses_1 : decode cX12_chooses 1 = .ok (.ifCond .lt 8, 3) := by decide +kernel
theorem dX12_chooses_4 : decode cX12_chooses 4 = .ok (.iload_n 1, 1) := by decide +kernel
theorem dX12_chooses_5 : decode cX12_chooses 5 = .ok (.iload_n 0, 1) := by decide +kernel
theorem dX12_chooses_6 : decode cX12_chooses 6 = .ok (.if_icmp .le 5, 3) := by decide +kernel
theorem dX12_chooses_9 : decode cX12_chooses 9 = .ok (.lconst 0, 1) := by decide +kernel
theorem dX12_chooses_10 : decode cX12_chooses 10 = .ok (.lreturn, 1) := by decide +kernel
