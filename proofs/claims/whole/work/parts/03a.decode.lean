theorem dX0_init_0 : decode cX0_init 0 = .ok (.aload_n 0, 1) := by decide +kernel
theorem dX0_init_1 : decode cX0_init 1 = .ok (.invokespecial 1, 3) := by decide +kernel
theorem dX0_init_4 : decode cX0_init 4 = .ok (.aload_n 0, 1) := by decide +kernel
theorem dX0_init_5 : decode cX0_init 5 = .ok (.iload_n 1, 1) := by decide +kernel
theorem dX0_init_6 : decode cX0_init 6 = .ok (.putfield 7, 3) := by decide +kernel
theorem dX0_init_9 : decode cX0_init 9 = .ok (.aload_n 0, 1) := by decide +kernel
theorem dX0_init_10 : decode cX0_init 10 = .ok (.iload_n 2, 1) := by decide +kernel
theorem dX0_init_11 : decode cX0_init 11 = .ok (.putfield 13, 3) := by decide +kernel
theorem dX0_init_14 : decode cX0_init 14 = .ok (.aload_n 0, 1) := by decide +kernel
theorem dX0_init_15 : decode cX0_init 15 = .ok (.iload_n 3, 1) := by decide +kernel
theorem dX0_init_16 : decode cX0_init 16 = .ok (.putfield 16, 3) := by decide +kernel
theorem dX0_init_19 : decode cX0_init 19 = .ok (.aload_n 0, 1) := by decide +kernel
theorem dX0_init_20 : decode cX0_init 20 = .ok (.iload 4, 2) := by decide +kernel
theorem dX0_init_22 : decode cX0_init 22 = .ok (.putfield 19, 3) := by decide +kernel
theorem dX0_init_25 : decode cX0_init 25 = .ok (.return_, 1) := by decide +kernel
theorem dX0_make_0 : decode cX0_make 0 = .ok (.iload_n 0, 1) := by decide +kernel
theorem dX0_make_1 : decode cX0_make 1 = .ok (.tableswitch 111 1 6 #[39, 51, 63, 75, 87, 99], 39) := by decide +kernel
theorem dX0_make_40 : decode cX0_make 40 = .ok (.new 22, 3) := by decide +kernel
theorem dX0_make_43 : decode cX0_make 43 = .ok (.dup, 1) := by decide +kernel
theorem dX0_make_44 : decode cX0_make 44 = .ok (.iload_n 0, 1) := by decide +kernel
theorem dX0_make_45 : decode cX0_make 45 = .ok (.iload_n 1, 1) := by decide +kernel
theorem dX0_make_46 : decode cX0_make 46 = .ok (.iload_n 2, 1) := by decide +kernel
theorem dX0_make_47 : decode cX0_make 47 = .ok (.iload_n 3, 1) := by decide +kernel
theorem dX0_make_48 : decode cX0_make 48 = .ok (.invokespecial 24, 3) := by decide +kernel
theorem dX0_make_51 : decode cX0_make 51 = .ok (.areturn, 1) := by decide +kernel
theorem dX0_make_52 : decode cX0_make 52 = .ok (.new 27, 3) := by decide +kernel
theorem dX0_make_55 : decode cX0_make 55 = .ok (.dup, 1) := by decide +kernel
theorem dX0_make_56 : decode cX0_make 56 = .ok (.iload_n 0, 1) := by decide +kernel
theorem dX0_make_57 : decode cX0_make 57 = .ok (.iload_n 1, 1) := by decide +kernel
theorem dX0_make_58 : decode cX0_make 58 = .ok (.iload_n 2, 1) := by decide +kernel
theorem dX0_make_59 : decode cX0_make 59 = .ok (.iload_n 3, 1) := by decide +kernel
theorem dX0_make_60 : decode cX0_make 60 = .ok (.invokespecial 29, 3) := by decide +kernel
theorem dX0_make_63 : decode cX0_make 63 = .ok (.areturn, 1) := by decide +kernel
theorem dX0_make_64 : decode cX0_make 64 = .ok (.new 30, 3) := by decide +kernel
theorem dX0_make_67 : decode cX0_make 67 = .ok (.dup, 1) := by decide +kernel
theorem dX0_make_68 : decode cX0_make 68 = .ok (.iload_n 0, 1) := by decide +kernel
theorem dX0_make_69 : decode cX0_make 69 = .ok (.iload_n 1, 1) := by decide +kernel
theorem dX0_make_70 : decode cX0_make 70 = .ok (.iload_n 2, 1) := by decide +kernel
theorem dX0_make_71 : decode cX0_make 71 = .ok (.iload_n 3, 1) := by decide +kernel
theorem dX0_make_72 : decode cX0_make 72 = .ok (.invokespecial 32, 3) := by decide +kernel
theorem dX0_make_75 : decode cX0_make 75 = .ok (.areturn, 1) := by decide +kernel
theorem dX0_make_76 : decode cX0_make 76 = .ok (.new 33, 3) := by decide +kernel
theorem dX0_make_79 : decode cX0_make 79 = .ok (.dup, 1) := by decide +kernel
theorem dX0_make_80 : decode cX0_make 80 = .ok (.iload_n 0, 1) := by decide +kernel
theorem dX0_make_81 : decode cX0_make 81 = .ok (.iload_n 1, 1) := by decide +kernel
theorem dX0_make_82 : decode cX0_make 82 = .ok (.iload_n 2, 1) := by decide +kernel
theorem dX0_make_83 : decode cX0_make 83 = .ok (.iload_n 3, 1) := by decide +kernel
theorem dX0_make_84 : decode cX0_make 84 = .ok (.invokespecial 35, 3) := by decide +kernel
theorem dX0_make_87 : decode cX0_make 87 = .ok (.areturn, 1) := by decide +kernel
theorem dX0_make_88 : decode cX0_make 88 = .ok (.new 36, 3) := by decide +kernel
theorem dX0_make_91 : decode cX0_make 91 = .ok (.dup, 1) := by decide +kernel
theorem dX0_make_92 : decode cX0_make 92 = .ok (.iload_n 0, 1) := by decide +kernel
theorem dX0_make_93 : decode cX0_make 93 = .ok (.iload_n 1, 1) := by decide +kernel
theorem dX0_make_94 : decode cX0_make 94 = .ok (.iload_n 2, 1) := by decide +kernel
theorem dX0_make_95 : decode cX0_make 95 = .ok (.iload_n 3, 1) := by decide +kernel
theorem dX0_make_96 : decode cX0_make 96 = .ok (.invokespecial 38, 3) := by decide +kernel
theorem dX0_make_99 : decode cX0_make 99 = .ok (.areturn, 1) := by decide +kernel
theorem dX0_make_100 : decode cX0_make 100 = .ok (.new 39, 3) := by decide +kernel
theorem dX0_make_103 : decode cX0_make 103 = .ok (.dup, 1) := by decide +kernel
theorem dX0_make_104 : decode cX0_make 104 = .ok (.iload_n 0, 1) := by decide +kernel
theorem dX0_make_105 : decode cX0_make 105 = .ok (.iload_n 1, 1) := by decide +kernel
theorem dX0_make_106 : decode cX0_make 106 = .ok (.iload_n 2, 1) := by decide +kernel
theorem dX0_make_107 : decode cX0_make 107 = .ok (.iload_n 3, 1) := by decide +kernel
theorem dX0_make_108 : decode cX0_make 108 = .ok (.invokespecial 41, 3) := by decide +kernel
theorem dX0_make_111 : decode cX0_make 111 = .ok (.areturn, 1) := by decide +kernel
theorem dX0_make_112 : decode cX0_make 112 = .ok (.new 8, 3) := by decide +kernel
theorem dX0_make_115 : decode cX0_make 115 = .ok (.dup, 1) := by decide +kernel
theorem dX0_make_116 : decode cX0_make 116 = .ok (.iload_n 0, 1) := by decide +kernel
theorem dX0_make_117 : decode cX0_make 117 = .ok (.iload_n 1, 1) := by decide +kernel
theorem dX0_make_118 : decode cX0_make 118 = .ok (.iload_n 2, 1) := by decide +kernel
theorem dX0_make_119 : decode cX0_make 119 = .ok (.iload_n 3, 1) := by decide +kernel
theorem dX0_make_120 : decode cX0_make 120 = .ok (.invokespecial 42, 3) := by decide +kernel
theorem dX0_make_123 : decode cX0_make 123 = .ok (.areturn, 1) := by decide +kernel
theorem dX0_isOfKind_0 : decode cX0_isOfKind 0 = .ok (.iload_n 1, 1) := by decide +kernel
theorem dX0_isOfKind_1 : decode cX0_isOfKind 1 = .ok (.tableswitch 75 0 6 #[43, 45, 50, 55, 60, 65, 70], 43) := by decide +kernel
theorem dX0_isOfKind_44 : decode cX0_isOfKind 44 = .ok (.iconst 1, 1) := by decide +kernel
theorem dX0_isOfKind_45 : decode cX0_isOfKind 45 = .ok (.ireturn, 1) := by decide +kernel
theorem dX0_isOfKind_46 : decode cX0_isOfKind 46 = .ok (.aload_n 0, 1) := by decide +kernel
theorem dX0_isOfKind_47 : decode cX0_isOfKind 47 = .ok (.instanceof 22, 3) := by decide +kernel
theorem dX0_isOfKind_50 : decode cX0_isOfKind 50 = .ok (.ireturn, 1) := by decide +kernel
theorem dX0_isOfKind_51 : decode cX0_isOfKind 51 = .ok (.aload_n 0, 1) := by decide +kernel
theorem dX0_isOfKind_52 : decode cX0_isOfKind 52 = .ok (.instanceof 27, 3) := by decide +kernel
theorem dX0_isOfKind_55 : decode cX0_isOfKind 55 = .ok (.ireturn, 1) := by decide +kernel
theorem dX0_isOfKind_56 : decode cX0_isOfKind 56 = .ok (.aload_n 0, 1) := by decide +kernel
theorem dX0_isOfKind_57 : decode cX0_isOfKind 57 = .ok (.instanceof 30, 3) := by decide +kernel
theorem dX0_isOfKind_60 : decode cX0_isOfKind 60 = .ok (.ireturn, 1) := by decide +kernel
theorem dX0_isOfKind_61 : decode cX0_isOfKind 61 = .ok (.aload_n 0, 1) := by decide +kernel
theorem dX0_isOfKind_62 : decode cX0_isOfKind 62 = .ok (.instanceof 33, 3) := by decide +kernel
theorem dX0_isOfKind_65 : decode cX0_isOfKind 65 = .ok (.ireturn, 1) := by decide +kernel
theorem dX0_isOfKind_66 : decode cX0_isOfKind 66 = .ok (.aload_n 0, 1) := by decide +kernel
theorem dX0_isOfKind_67 : decode cX0_isOfKind 67 = .ok (.instanceof 36, 3) := by decide +kernel
theorem dX0_isOfKind_70 : decode cX0_isOfKind 70 = .ok (.ireturn, 1) := by decide +kernel
theorem dX0_isOfKind_71 : decode cX0_isOfKind 71 = .ok (.aload_n 0, 1) := by decide +kernel
theorem dX0_isOfKind_72 : decode cX0_isOfKind 72 = .ok (.instanceof 39, 3) := by decide +kernel
theorem dX0_isOfKind_75 : decode cX0_isOfKind 75 = .ok (.ireturn, 1) := by decide +kernel
theorem dX0_isOfKind_76 : decode cX0_isOfKind 76 = .ok (.iconst 0, 1) := by decide +kernel
theorem dX0_isOfKind_77 : decode cX0_isOfKind 77 = .ok (.ireturn, 1) := by decide +kernel
theorem dX0_seen_0 : decode cX0_seen 0 = .ok (.iload_n 1, 1) := by decide +kernel
theorem dX0_seen_1 : decode cX0_seen 1 = .ok (.ireturn, 1) := by decide +kernel
theorem dX0_favour_0 : decode cX0_favour 0 = .ok (.iconst 0, 1) := by decide +kernel
theorem dX0_favour_1 : decode cX0_favour 1 = .ok (.ireturn, 1) := by decide +kernel
theorem dX0_lineUp_0 : decode cX0_lineUp 0 = .ok (.return_, 1) := by decide +kernel
theorem dX0_works_0 : decode cX0_works 0 = .ok (.aload_n 2, 1) := by decide +kernel
theorem dX0_works_1 : decode cX0_works 1 = .ok (.iconst 1, 1) := by decide +kernel
theorem dX0_works_2 : decode cX0_works 2 = .ok (.invokevirtual 43, 3) := by decide +kernel
theorem dX0_works_5 : decode cX0_works 5 = .ok (.iload_n 1, 1) := by decide +kernel
theorem dX0_works_6 : decode cX0_works 6 = .ok (.aload_n 0, 1) := by decide +kernel
theorem dX0_works_7 : decode cX0_works 7 = .ok (.getfield 13, 3) := by decide +kernel
theorem dX0_works_10 : decode cX0_works 10 = .ok (.iadd, 1) := by decide +kernel
theorem dX0_works_11 : decode cX0_works 11 = .ok (.ireturn, 1) := by decide +kernel
theorem dX0_grades_0 : decode cX0_grades 0 = .ok (.aload_n 2, 1) := by decide +kernel
theorem dX0_grades_1 : decode cX0_grades 1 = .ok (.iconst 2, 1) := by decide +kernel
theorem dX0_grades_2 : decode cX0_grades 2 = .ok (.invokevirtual 43, 3) := by decide +kernel
theorem dX0_grades_5 : decode cX0_grades 5 = .ok (.aload_n 0, 1) := by decide +kernel
theorem dX0_grades_6 : decode cX0_grades 6 = .ok (.iload_n 1, 1) := by decide +kernel
theorem dX0_grades_7 : decode cX0_grades 7 = .ok (.aload_n 2, 1) := by decide +kernel
theorem dX0_grades_8 : decode cX0_grades 8 = .ok (.invokevirtual 49, 3) := by decide +kernel
theorem dX0_grades_11 : decode cX0_grades 11 = .ok (.aload_n 0, 1) := by decide +kernel
theorem dX0_grades_12 : decode cX0_grades 12 = .ok (.getfield 16, 3) := by decide +kernel
theorem dX0_grades_15 : decode cX0_grades 15 = .ok (.isub, 1) := by decide +kernel
theorem dX0_grades_16 : decode cX0_grades 16 = .ok (.ireturn, 1) := by decide +kernel
theorem dX0_levels_0 : decode cX0_levels 0 = .ok (.aload_n 2, 1) := by decide +kernel
theorem dX0_levels_1 : decode cX0_levels 1 = .ok (.iconst 3, 1) := by decide +kernel
theorem dX0_levels_2 : decode cX0_levels 2 = .ok (.invokevirtual 43, 3) := by decide +kernel
theorem dX0_levels_5 : decode cX0_levels 5 = .ok (.aload_n 0, 1) := by decide +kernel
theorem dX0_levels_6 : decode cX0_levels 6 = .ok (.iload_n 1, 1) := by decide +kernel
theorem dX0_levels_7 : decode cX0_levels 7 = .ok (.aload_n 2, 1) := by decide +kernel
theorem dX0_levels_8 : decode cX0_levels 8 = .ok (.invokevirtual 53, 3) := by decide +kernel
theorem dX0_levels_11 : decode cX0_levels 11 = .ok (.iconst 2, 1) := by decide +kernel
theorem dX0_levels_12 : decode cX0_levels 12 = .ok (.imul, 1) := by decide +kernel
theorem dX0_levels_13 : decode cX0_levels 13 = .ok (.ireturn, 1) := by decide +kernel
theorem dX1_init_0 : decode cX1_init 0 = .ok (.aload_n 0, 1) := by decide +kernel
theorem dX1_init_1 : decode cX1_init 1 = .ok (.invokespecial 3, 3) := by decide +kernel
theorem dX1_init_4 : decode cX1_init 4 = .ok (.aload_n 0, 1) := by decide +kernel
theorem dX1_init_5 : decode cX1_init 5 = .ok (.bipush 10, 2) := by decide +kernel
theorem dX1_init_7 : decode cX1_init 7 = .ok (.newarray .int, 2) := by decide +kernel
theorem dX1_init_9 : decode cX1_init 9 = .ok (.putfield 9, 3) := by decide +kernel
theorem dX1_init_12 : decode cX1_init 12 = .ok (.aload_n 0, 1) := by decide +kernel
theorem dX1_init_13 : decode cX1_init 13 = .ok (.bipush 10, 2) := by decide +kernel
theorem dX1_init_15 : decode cX1_init 15 = .ok (.newarray .int, 2) := by decide +kernel
theorem dX1_init_17 : decode cX1_init 17 = .ok (.putfield 15, 3) := by decide +kernel
theorem dX1_init_20 : decode cX1_init 20 = .ok (.aload_n 0, 1) := by decide +kernel
theorem dX1_init_21 : decode cX1_init 21 = .ok (.bipush 10, 2) := by decide +kernel
theorem dX1_init_23 : decode cX1_init 23 = .ok (.newarray .int, 2) := by decide +kernel
theorem dX1_init_25 : decode cX1_init 25 = .ok (.putfield 18, 3) := by decide +kernel
theorem dX1_init_28 : decode cX1_init 28 = .ok (.aload_n 0, 1) := by decide +kernel
theorem dX1_init_29 : decode cX1_init 29 = .ok (.bipush 10, 2) := by decide +kernel
theorem dX1_init_31 : decode cX1_init 31 = .ok (.newarray .int, 2) := by decide +kernel
theorem dX1_init_33 : decode cX1_init 33 = .ok (.putfield 21, 3) := by decide +kernel
theorem dX1_init_36 : decode cX1_init 36 = .ok (.aload_n 0, 1) := by decide +kernel
theorem dX1_init_37 : decode cX1_init 37 = .ok (.bipush 6, 2) := by decide +kernel
theorem dX1_init_39 : decode cX1_init 39 = .ok (.newarray .int, 2) := by decide +kernel
theorem dX1_init_41 : decode cX1_init 41 = .ok (.putfield 24, 3) := by decide +kernel
theorem dX1_init_44 : decode cX1_init 44 = .ok (.aload_n 0, 1) := by decide +kernel
theorem dX1_init_45 : decode cX1_init 45 = .ok (.new 27, 3) := by decide +kernel
theorem dX1_init_48 : decode cX1_init 48 = .ok (.dup, 1) := by decide +kernel
theorem dX1_init_49 : decode cX1_init 49 = .ok (.iconst 0, 1) := by decide +kernel
theorem dX1_init_50 : decode cX1_init 50 = .ok (.iconst 0, 1) := by decide +kernel
theorem dX1_init_51 : decode cX1_init 51 = .ok (.iconst 0, 1) := by decide +kernel
theorem dX1_init_52 : decode cX1_init 52 = .ok (.iconst 0, 1) := by decide +kernel
theorem dX1_init_53 : decode cX1_init 53 = .ok (.invokespecial 29, 3) := by decide +kernel
theorem dX1_init_56 : decode cX1_init 56 = .ok (.putfield 32, 3) := by decide +kernel
theorem dX1_init_59 : decode cX1_init 59 = .ok (.return_, 1) := by decide +kernel
theorem dX1_markBy_0 : decode cX1_markBy 0 = .ok (.aload_n 1, 1) := by decide +kernel
theorem dX1_markBy_1 : decode cX1_markBy 1 = .ok (.iload_n 2, 1) := by decide +kernel
theorem dX1_markBy_2 : decode cX1_markBy 2 = .ok (.invokevirtual 36, 3) := by decide +kernel
theorem dX1_markBy_5 : decode cX1_markBy 5 = .ok (.ifCond .ne 5, 3) := by decide +kernel
theorem dX1_markBy_8 : decode cX1_markBy 8 = .ok (.iconst 0, 1) := by decide +kernel
theorem dX1_markBy_9 : decode cX1_markBy 9 = .ok (.ireturn, 1) := by decide +kernel
theorem dX1_markBy_10 : decode cX1_markBy 10 = .ok (.aload_n 0, 1) := by decide +kernel
theorem dX1_markBy_11 : decode cX1_markBy 11 = .ok (.getfield 24, 3) := by decide +kernel
theorem dX1_markBy_14 : decode cX1_markBy 14 = .ok (.iconst 0, 1) := by decide +kernel
theorem dX1_markBy_15 : decode cX1_markBy 15 = .ok (.iload_n 2, 1) := by decide +kernel
theorem dX1_markBy_16 : decode cX1_markBy 16 = .ok (.iastore, 1) := by decide +kernel
theorem dX1_markBy_17 : decode cX1_markBy 17 = .ok (.aload_n 0, 1) := by decide +kernel
theorem dX1_markBy_18 : decode cX1_markBy 18 = .ok (.getfield 24, 3) := by decide +kernel
theorem dX1_markBy_21 : decode cX1_markBy 21 = .ok (.iconst 1, 1) := by decide +kernel
theorem dX1_markBy_22 : decode cX1_markBy 22 = .ok (.aload_n 3, 1) := by decide +kernel
theorem dX1_markBy_23 : decode cX1_markBy 23 = .ok (.getfield 42, 3) := by decide +kernel
theorem dX1_markBy_26 : decode cX1_markBy 26 = .ok (.iastore, 1) := by decide +kernel
theorem dX1_markBy_27 : decode cX1_markBy 27 = .ok (.aload_n 0, 1) := by decide +kernel
theorem dX1_markBy_28 : decode cX1_markBy 28 = .ok (.getfield 24, 3) := by decide +kernel
theorem dX1_markBy_31 : decode cX1_markBy 31 = .ok (.iconst 2, 1) := by decide +kernel
theorem dX1_markBy_32 : decode cX1_markBy 32 = .ok (.aload_n 3, 1) := by decide +kernel
theorem dX1_markBy_33 : decode cX1_markBy 33 = .ok (.getfield 46, 3) := by decide +kernel
theorem dX1_markBy_36 : decode cX1_markBy 36 = .ok (.iastore, 1) := by decide +kernel
theorem dX1_markBy_37 : decode cX1_markBy 37 = .ok (.aload_n 0, 1) := by decide +kernel
theorem dX1_markBy_38 : decode cX1_markBy 38 = .ok (.getfield 24, 3) := by decide +kernel
theorem dX1_markBy_41 : decode cX1_markBy 41 = .ok (.iconst 3, 1) := by decide +kernel
theorem dX1_markBy_42 : decode cX1_markBy 42 = .ok (.aload_n 1, 1) := by decide +kernel
theorem dX1_markBy_43 : decode cX1_markBy 43 = .ok (.getfield 49, 3) := by decide +kernel
theorem dX1_markBy_46 : decode cX1_markBy 46 = .ok (.iload_n 2, 1) := by decide +kernel
theorem dX1_markBy_47 : decode cX1_markBy 47 = .ok (.iaload, 1) := by decide +kernel
theorem dX1_markBy_48 : decode cX1_markBy 48 = .ok (.bipush 10, 2) := by decide +kernel
theorem dX1_markBy_50 : decode cX1_markBy 50 = .ok (.idiv, 1) := by decide +kernel
theorem dX1_markBy_51 : decode cX1_markBy 51 = .ok (.iastore, 1) := by decide +kernel
theorem dX1_markBy_52 : decode cX1_markBy 52 = .ok (.aload_n 0, 1) := by decide +kernel
theorem dX1_markBy_53 : decode cX1_markBy 53 = .ok (.getfield 24, 3) := by decide +kernel
theorem dX1_markBy_56 : decode cX1_markBy 56 = .ok (.iconst 4, 1) := by decide +kernel
theorem dX1_markBy_57 : decode cX1_markBy 57 = .ok (.aload_n 1, 1) := by decide +kernel
theorem dX1_markBy_58 : decode cX1_markBy 58 = .ok (.getfield 52, 3) := by decide +kernel
theorem dX1_markBy_61 : decode cX1_markBy 61 = .ok (.bipush 10, 2) := by decide +kernel
theorem dX1_markBy_63 : decode cX1_markBy 63 = .ok (.irem, 1) := by decide +kernel
theorem dX1_markBy_64 : decode cX1_markBy 64 = .ok (.iastore, 1) := by decide +kernel
theorem dX1_markBy_65 : decode cX1_markBy 65 = .ok (.aload_n 0, 1) := by decide +kernel
theorem dX1_markBy_66 : decode cX1_markBy 66 = .ok (.getfield 24, 3) := by decide +kernel
theorem dX1_markBy_69 : decode cX1_markBy 69 = .ok (.iconst 5, 1) := by decide +kernel
theorem dX1_markBy_70 : decode cX1_markBy 70 = .ok (.aload_n 1, 1) := by decide +kernel
theorem dX1_markBy_71 : decode cX1_markBy 71 = .ok (.aload_n 3, 1) := by decide +kernel
theorem dX1_markBy_72 : decode cX1_markBy 72 = .ok (.getfield 42, 3) := by decide +kernel
theorem dX1_markBy_75 : decode cX1_markBy 75 = .ok (.invokevirtual 55, 3) := by decide +kernel
theorem dX1_markBy_78 : decode cX1_markBy 78 = .ok (.invokestatic 59, 3) := by decide +kernel
theorem dX1_markBy_81 : decode cX1_markBy 81 = .ok (.iastore, 1) := by decide +kernel
theorem dX1_markBy_82 : decode cX1_markBy 82 = .ok (.aload_n 3, 1) := by decide +kernel
theorem dX1_markBy_83 : decode cX1_markBy 83 = .ok (.aload_n 1, 1) := by decide +kernel
theorem dX1_markBy_84 : decode cX1_markBy 84 = .ok (.getfield 49, 3) := by decide +kernel
theorem dX1_markBy_87 : decode cX1_markBy 87 = .ok (.iload_n 2, 1) := by decide +kernel
theorem dX1_markBy_88 : decode cX1_markBy 88 = .ok (.iaload, 1) := by decide +kernel
theorem dX1_markBy_89 : decode cX1_markBy 89 = .ok (.aload_n 1, 1) := by decide +kernel
theorem dX1_markBy_90 : decode cX1_markBy 90 = .ok (.getfield 64, 3) := by decide +kernel
theorem dX1_markBy_93 : decode cX1_markBy 93 = .ok (.iload_n 2, 1) := by decide +kernel
theorem dX1_markBy_94 : decode cX1_markBy 94 = .ok (.iaload, 1) := by decide +kernel
theorem dX1_markBy_95 : decode cX1_markBy 95 = .ok (.invokevirtual 67, 3) := by decide +kernel
theorem dX1_markBy_98 : decode cX1_markBy 98 = .ok (.aload_n 3, 1) := by decide +kernel
theorem dX1_markBy_99 : decode cX1_markBy 99 = .ok (.aload_n 1, 1) := by decide +kernel
theorem dX1_markBy_100 : decode cX1_markBy 100 = .ok (.getfield 71, 3) := by decide +kernel
theorem dX1_markBy_103 : decode cX1_markBy 103 = .ok (.iload_n 2, 1) := by decide +kernel
theorem dX1_markBy_104 : decode cX1_markBy 104 = .ok (.iaload, 1) := by decide +kernel
theorem dX1_markBy_105 : decode cX1_markBy 105 = .ok (.invokevirtual 74, 3) := by decide +kernel
theorem dX1_markBy_108 : decode cX1_markBy 108 = .ok (.iadd, 1) := by decide +kernel
theorem dX1_markBy_109 : decode cX1_markBy 109 = .ok (.aload_n 1, 1) := by decide +kernel
theorem dX1_markBy_110 : decode cX1_markBy 110 = .ok (.getfield 77, 3) := by decide +kernel
theorem dX1_markBy_113 : decode cX1_markBy 113 = .ok (.aload_n 0, 1) := by decide +kernel
theorem dX1_markBy_114 : decode cX1_markBy 114 = .ok (.getfield 24, 3) := by decide +kernel
theorem dX1_markBy_117 : decode cX1_markBy 117 = .ok (.invokevirtual 81, 3) := by decide +kernel
theorem dX1_markBy_120 : decode cX1_markBy 120 = .ok (.iadd, 1) := by decide +kernel
theorem dX1_markBy_121 : decode cX1_markBy 121 = .ok (.ireturn, 1) := by decide +kernel
theorem dX1_gradeAll_0 : decode cX1_gradeAll 0 = .ok (.iconst 0, 1) := by decide +kernel
theorem dX1_gradeAll_1 : decode cX1_gradeAll 1 = .ok (.istore_n 2, 1) := by decide +kernel
theorem dX1_gradeAll_2 : decode cX1_gradeAll 2 = .ok (.iload_n 2, 1) := by decide +kernel
theorem dX1_gradeAll_3 : decode cX1_gradeAll 3 = .ok (.aload_n 1, 1) := by decide +kernel
theorem dX1_gradeAll_4 : decode cX1_gradeAll 4 = .ok (.getfield 87, 3) := by decide +kernel
theorem dX1_gradeAll_7 : decode cX1_gradeAll 7 = .ok (.if_icmp .ge 26, 3) := by decide +kernel
theorem dX1_gradeAll_10 : decode cX1_gradeAll 10 = .ok (.aload_n 1, 1) := by decide +kernel
theorem dX1_gradeAll_11 : decode cX1_gradeAll 11 = .ok (.iload_n 2, 1) := by decide +kernel
theorem dX1_gradeAll_12 : decode cX1_gradeAll 12 = .ok (.invokevirtual 90, 3) := by decide +kernel
theorem dX1_gradeAll_15 : decode cX1_gradeAll 15 = .ok (.astore_n 3, 1) := by decide +kernel
theorem dX1_gradeAll_16 : decode cX1_gradeAll 16 = .ok (.aload_n 3, 1) := by decide +kernel
theorem dX1_gradeAll_17 : decode cX1_gradeAll 17 = .ok (.ifnull 10, 3) := by decide +kernel
theorem dX1_gradeAll_20 : decode cX1_gradeAll 20 = .ok (.aload_n 0, 1) := by decide +kernel
theorem dX1_gradeAll_21 : decode cX1_gradeAll 21 = .ok (.aload_n 1, 1) := by decide +kernel
theorem dX1_gradeAll_22 : decode cX1_gradeAll 22 = .ok (.aload_n 3, 1) := by decide +kernel
theorem dX1_gradeAll_23 : decode cX1_gradeAll 23 = .ok (.invokevirtual 94, 3) := by decide +kernel
theorem dX1_gradeAll_26 : decode cX1_gradeAll 26 = .ok (.pop, 1) := by decide +kernel
theorem dX1_gradeAll_27 : decode cX1_gradeAll 27 = .ok (.iinc 2 1, 3) := by decide +kernel
theorem dX1_gradeAll_30 : decode cX1_gradeAll 30 = .ok (.goto (-28), 3) := by decide +kernel
theorem dX1_gradeAll_33 : decode cX1_gradeAll 33 = .ok (.return_, 1) := by decide +kernel
theorem dX1_gradeHad_0 : decode cX1_gradeHad 0 = .ok (.aload_n 1, 1) := by decide +kernel
theorem dX1_gradeHad_1 : decode cX1_gradeHad 1 = .ok (.iload_n 2, 1) := by decide +kernel
theorem dX1_gradeHad_2 : decode cX1_gradeHad 2 = .ok (.invokevirtual 36, 3) := by decide +kernel
theorem dX1_gradeHad_5 : decode cX1_gradeHad 5 = .ok (.ifCond .ne 5, 3) := by decide +kernel
theorem dX1_gradeHad_8 : decode cX1_gradeHad 8 = .ok (.iconst 0, 1) := by decide +kernel
theorem dX1_gradeHad_9 : decode cX1_gradeHad 9 = .ok (.ireturn, 1) := by decide +kernel
theorem dX1_gradeHad_10 : decode cX1_gradeHad 10 = .ok (.aload_n 1, 1) := by decide +kernel
theorem dX1_gradeHad_11 : decode cX1_gradeHad 11 = .ok (.aload_n 1, 1) := by decide +kernel
theorem dX1_gradeHad_12 : decode cX1_gradeHad 12 = .ok (.getfield 98, 3) := by decide +kernel
theorem dX1_gradeHad_15 : decode cX1_gradeHad 15 = .ok (.iload_n 2, 1) := by decide +kernel
theorem dX1_gradeHad_16 : decode cX1_gradeHad 16 = .ok (.iaload, 1) := by decide +kernel
theorem dX1_gradeHad_17 : decode cX1_gradeHad 17 = .ok (.invokevirtual 90, 3) := by decide +kernel
theorem dX1_gradeHad_20 : decode cX1_gradeHad 20 = .ok (.astore_n 3, 1) := by decide +kernel
theorem dX1_gradeHad_21 : decode cX1_gradeHad 21 = .ok (.aload_n 3, 1) := by decide +kernel
theorem dX1_gradeHad_22 : decode cX1_gradeHad 22 = .ok (.ifnonnull 5, 3) := by decide +kernel
theorem dX1_gradeHad_25 : decode cX1_gradeHad 25 = .ok (.iconst 0, 1) := by decide +kernel
theorem dX1_gradeHad_26 : decode cX1_gradeHad 26 = .ok (.ireturn, 1) := by decide +kernel
theorem dX1_gradeHad_27 : decode cX1_gradeHad 27 = .ok (.aload_n 0, 1) := by decide +kernel
theorem dX1_gradeHad_28 : decode cX1_gradeHad 28 = .ok (.aload_n 1, 1) := by decide +kernel
theorem dX1_gradeHad_29 : decode cX1_gradeHad 29 = .ok (.aload_n 3, 1) := by decide +kernel
theorem dX1_gradeHad_30 : decode cX1_gradeHad 30 = .ok (.invokevirtual 94, 3) := by decide +kernel
theorem dX1_gradeHad_33 : decode cX1_gradeHad 33 = .ok (.pop, 1) := by decide +kernel
theorem dX1_gradeHad_34 : decode cX1_gradeHad 34 = .ok (.aload_n 0, 1) := by decide +kernel
theorem dX1_gradeHad_35 : decode cX1_gradeHad 35 = .ok (.getfield 9, 3) := by decide +kernel
theorem dX1_gradeHad_38 : decode cX1_gradeHad 38 = .ok (.iload_n 2, 1) := by decide +kernel
theorem dX1_gradeHad_39 : decode cX1_gradeHad 39 = .ok (.iaload, 1) := by decide +kernel
theorem dX1_gradeHad_40 : decode cX1_gradeHad 40 = .ok (.ireturn, 1) := by decide +kernel
theorem dX1_gradeTeam_0 : decode cX1_gradeTeam 0 = .ok (.aload_n 0, 1) := by decide +kernel
theorem dX1_gradeTeam_1 : decode cX1_gradeTeam 1 = .ok (.aload_n 1, 1) := by decide +kernel
theorem dX1_gradeTeam_2 : decode cX1_gradeTeam 2 = .ok (.aload_n 2, 1) := by decide +kernel
theorem dX1_gradeTeam_3 : decode cX1_gradeTeam 3 = .ok (.getfield 42, 3) := by decide +kernel
theorem dX1_gradeTeam_6 : decode cX1_gradeTeam 6 = .ok (.invokevirtual 55, 3) := by decide +kernel
theorem dX1_gradeTeam_9 : decode cX1_gradeTeam 9 = .ok (.invokevirtual 101, 3) := by decide +kernel
theorem dX1_gradeTeam_12 : decode cX1_gradeTeam 12 = .ok (.aload_n 0, 1) := by decide +kernel
theorem dX1_gradeTeam_13 : decode cX1_gradeTeam 13 = .ok (.aload_n 1, 1) := by decide +kernel
theorem dX1_gradeTeam_14 : decode cX1_gradeTeam 14 = .ok (.aload_n 2, 1) := by decide +kernel
theorem dX1_gradeTeam_15 : decode cX1_gradeTeam 15 = .ok (.invokevirtual 105, 3) := by decide +kernel
theorem dX1_gradeTeam_18 : decode cX1_gradeTeam 18 = .ok (.aload_n 0, 1) := by decide +kernel
theorem dX1_gradeTeam_19 : decode cX1_gradeTeam 19 = .ok (.aload_n 1, 1) := by decide +kernel
theorem dX1_gradeTeam_20 : decode cX1_gradeTeam 20 = .ok (.aload_n 2, 1) := by decide +kernel
theorem dX1_gradeTeam_21 : decode cX1_gradeTeam 21 = .ok (.invokevirtual 109, 3) := by decide +kernel
theorem dX1_gradeTeam_24 : decode cX1_gradeTeam 24 = .ok (.ireturn, 1) := by decide +kernel
theorem dX1_gradeDue_0 : decode cX1_gradeDue 0 = .ok (.aload_n 0, 1) := by decide +kernel
theorem dX1_gradeDue_1 : decode cX1_gradeDue 1 = .ok (.iconst 1, 1) := by decide +kernel
theorem dX1_gradeDue_2 : decode cX1_gradeDue 2 = .ok (.aload_n 1, 1) := by decide +kernel
theorem dX1_gradeDue_3 : decode cX1_gradeDue 3 = .ok (.getfield 112, 3) := by decide +kernel
theorem dX1_gradeDue_6 : decode cX1_gradeDue 6 = .ok (.ishl, 1) := by decide +kernel
theorem dX1_gradeDue_7 : decode cX1_gradeDue 7 = .ok (.iconst 1, 1) := by decide +kernel
theorem dX1_gradeDue_8 : decode cX1_gradeDue 8 = .ok (.isub, 1) := by decide +kernel
theorem dX1_gradeDue_9 : decode cX1_gradeDue 9 = .ok (.invokevirtual 101, 3) := by decide +kernel
theorem dX1_gradeDue_12 : decode cX1_gradeDue 12 = .ok (.iconst 0, 1) := by decide +kernel
theorem dX1_gradeDue_13 : decode cX1_gradeDue 13 = .ok (.istore_n 2, 1) := by decide +kernel
theorem dX1_gradeDue_14 : decode cX1_gradeDue 14 = .ok (.iload_n 2, 1) := by decide +kernel
theorem dX1_gradeDue_15 : decode cX1_gradeDue 15 = .ok (.aload_n 0, 1) := by decide +kernel
theorem dX1_gradeDue_16 : decode cX1_gradeDue 16 = .ok (.getfield 115, 3) := by decide +kernel
theorem dX1_gradeDue_19 : decode cX1_gradeDue 19 = .ok (.if_icmp .ge 31, 3) := by decide +kernel
theorem dX1_gradeDue_22 : decode cX1_gradeDue 22 = .ok (.aload_n 0, 1) := by decide +kernel
theorem dX1_gradeDue_23 : decode cX1_gradeDue 23 = .ok (.getfield 15, 3) := by decide +kernel
theorem dX1_gradeDue_26 : decode cX1_gradeDue 26 = .ok (.aload_n 0, 1) := by decide +kernel
theorem dX1_gradeDue_27 : decode cX1_gradeDue 27 = .ok (.getfield 18, 3) := by decide +kernel
theorem dX1_gradeDue_30 : decode cX1_gradeDue 30 = .ok (.iload_n 2, 1) := by decide +kernel
theorem dX1_gradeDue_31 : decode cX1_gradeDue 31 = .ok (.iaload, 1) := by decide +kernel
theorem dX1_gradeDue_32 : decode cX1_gradeDue 32 = .ok (.aload_n 1, 1) := by decide +kernel
theorem dX1_gradeDue_33 : decode cX1_gradeDue 33 = .ok (.getfield 49, 3) := by decide +kernel
theorem dX1_gradeDue_36 : decode cX1_gradeDue 36 = .ok (.aload_n 0, 1) := by decide +kernel
theorem dX1_gradeDue_37 : decode cX1_gradeDue 37 = .ok (.getfield 18, 3) := by decide +kernel
theorem dX1_gradeDue_40 : decode cX1_gradeDue 40 = .ok (.iload_n 2, 1) := by decide +kernel
theorem dX1_gradeDue_41 : decode cX1_gradeDue 41 = .ok (.iaload, 1) := by decide +kernel
theorem dX1_gradeDue_42 : decode cX1_gradeDue 42 = .ok (.iaload, 1) := by decide +kernel
theorem dX1_gradeDue_43 : decode cX1_gradeDue 43 = .ok (.iastore, 1) := by decide +kernel
theorem dX1_gradeDue_44 : decode cX1_gradeDue 44 = .ok (.iinc 2 1, 3) := by decide +kernel
theorem dX1_gradeDue_47 : decode cX1_gradeDue 47 = .ok (.goto (-33), 3) := by decide +kernel
theorem dX1_gradeDue_50 : decode cX1_gradeDue 50 = .ok (.aload_n 0, 1) := by decide +kernel
theorem dX1_gradeDue_51 : decode cX1_gradeDue 51 = .ok (.aload_n 1, 1) := by decide +kernel
theorem dX1_gradeDue_52 : decode cX1_gradeDue 52 = .ok (.aload_n 0, 1) := by decide +kernel
theorem dX1_gradeDue_53 : decode cX1_gradeDue 53 = .ok (.getfield 32, 3) := by decide +kernel
theorem dX1_gradeDue_56 : decode cX1_gradeDue 56 = .ok (.invokevirtual 109, 3) := by decide +kernel
theorem dX1_gradeDue_59 : decode cX1_gradeDue 59 = .ok (.pop, 1) := by decide +kernel
theorem dX1_gradeDue_60 : decode cX1_gradeDue 60 = .ok (.return_, 1) := by decide +kernel
theorem dX1_gradeLevelled_0 : decode cX1_gradeLevelled 0 = .ok (.iconst 0, 1) := by decide +kernel
theorem dX1_gradeLevelled_1 : decode cX1_gradeLevelled 1 = .ok (.istore_n 2, 1) := by decide +kernel
theorem dX1_gradeLevelled_2 : decode cX1_gradeLevelled 2 = .ok (.iload_n 2, 1) := by decide +kernel
theorem dX1_gradeLevelled_3 : decode cX1_gradeLevelled 3 = .ok (.aload_n 1, 1) := by decide +kernel
theorem dX1_gradeLevelled_4 : decode cX1_gradeLevelled 4 = .ok (.getfield 87, 3) := by decide +kernel
theorem dX1_gradeLevelled_7 : decode cX1_gradeLevelled 7 = .ok (.if_icmp .ge 37, 3) := by decide +kernel
theorem dX1_gradeLevelled_10 : decode cX1_gradeLevelled 10 = .ok (.aload_n 1, 1) := by decide +kernel
theorem dX1_gradeLevelled_11 : decode cX1_gradeLevelled 11 = .ok (.iload_n 2, 1) := by decide +kernel
theorem dX1_gradeLevelled_12 : decode cX1_gradeLevelled 12 = .ok (.invokevirtual 90, 3) := by decide +kernel
theorem dX1_gradeLevelled_15 : decode cX1_gradeLevelled 15 = .ok (.astore_n 3, 1) := by decide +kernel
theorem dX1_gradeLevelled_16 : decode cX1_gradeLevelled 16 = .ok (.aload_n 3, 1) := by decide +kernel
theorem dX1_gradeLevelled_17 : decode cX1_gradeLevelled 17 = .ok (.ifnonnull 6, 3) := by decide +kernel
theorem dX1_gradeLevelled_20 : decode cX1_gradeLevelled 20 = .ok (.goto 18, 3) := by decide +kernel
theorem dX1_gradeLevelled_23 : decode cX1_gradeLevelled 23 = .ok (.aload_n 0, 1) := by decide +kernel
theorem dX1_gradeLevelled_24 : decode cX1_gradeLevelled 24 = .ok (.aload_n 1, 1) := by decide +kernel
theorem dX1_gradeLevelled_25 : decode cX1_gradeLevelled 25 = .ok (.iload_n 2, 1) := by decide +kernel
theorem dX1_gradeLevelled_26 : decode cX1_gradeLevelled 26 = .ok (.invokevirtual 55, 3) := by decide +kernel
theorem dX1_gradeLevelled_29 : decode cX1_gradeLevelled 29 = .ok (.invokevirtual 101, 3) := by decide +kernel
theorem dX1_gradeLevelled_32 : decode cX1_gradeLevelled 32 = .ok (.aload_n 0, 1) := by decide +kernel
theorem dX1_gradeLevelled_33 : decode cX1_gradeLevelled 33 = .ok (.aload_n 1, 1) := by decide +kernel
theorem dX1_gradeLevelled_34 : decode cX1_gradeLevelled 34 = .ok (.aload_n 3, 1) := by decide +kernel
theorem dX1_gradeLevelled_35 : decode cX1_gradeLevelled 35 = .ok (.invokevirtual 105, 3) := by decide +kernel
theorem dX1_gradeLevelled_38 : decode cX1_gradeLevelled 38 = .ok (.iinc 2 1, 3) := by decide +kernel
theorem dX1_gradeLevelled_41 : decode cX1_gradeLevelled 41 = .ok (.goto (-39), 3) := by decide +kernel
theorem dX1_gradeLevelled_44 : decode cX1_gradeLevelled 44 = .ok (.aload_n 0, 1) := by decide +kernel
theorem dX1_gradeLevelled_45 : decode cX1_gradeLevelled 45 = .ok (.iconst 1, 1) := by decide +kernel
theorem dX1_gradeLevelled_46 : decode cX1_gradeLevelled 46 = .ok (.aload_n 1, 1) := by decide +kernel
theorem dX1_gradeLevelled_47 : decode cX1_gradeLevelled 47 = .ok (.getfield 112, 3) := by decide +kernel
theorem dX1_gradeLevelled_50 : decode cX1_gradeLevelled 50 = .ok (.ishl, 1) := by decide +kernel
theorem dX1_gradeLevelled_51 : decode cX1_gradeLevelled 51 = .ok (.iconst 1, 1) := by decide +kernel
theorem dX1_gradeLevelled_52 : decode cX1_gradeLevelled 52 = .ok (.isub, 1) := by decide +kernel
theorem dX1_gradeLevelled_53 : decode cX1_gradeLevelled 53 = .ok (.invokevirtual 101, 3) := by decide +kernel
theorem dX1_gradeLevelled_56 : decode cX1_gradeLevelled 56 = .ok (.aload_n 0, 1) := by decide +kernel
theorem dX1_gradeLevelled_57 : decode cX1_gradeLevelled 57 = .ok (.invokevirtual 118, 3) := by decide +kernel
theorem dX1_gradeLevelled_60 : decode cX1_gradeLevelled 60 = .ok (.istore_n 2, 1) := by decide +kernel
theorem dX1_gradeLevelled_61 : decode cX1_gradeLevelled 61 = .ok (.iconst 0, 1) := by decide +kernel
theorem dX1_gradeLevelled_62 : decode cX1_gradeLevelled 62 = .ok (.istore_n 3, 1) := by decide +kernel
theorem dX1_gradeLevelled_63 : decode cX1_gradeLevelled 63 = .ok (.iload_n 3, 1) := by decide +kernel
theorem dX1_gradeLevelled_64 : decode cX1_gradeLevelled 64 = .ok (.aload_n 1, 1) := by decide +kernel
theorem dX1_gradeLevelled_65 : decode cX1_gradeLevelled 65 = .ok (.getfield 87, 3) := by decide +kernel
theorem dX1_gradeLevelled_68 : decode cX1_gradeLevelled 68 = .ok (.if_icmp .ge 84, 3) := by decide +kernel
theorem dX1_gradeLevelled_71 : decode cX1_gradeLevelled 71 = .ok (.aload_n 1, 1) := by decide +kernel
theorem dX1_gradeLevelled_72 : decode cX1_gradeLevelled 72 = .ok (.iload_n 3, 1) := by decide +kernel
theorem dX1_gradeLevelled_73 : decode cX1_gradeLevelled 73 = .ok (.invokevirtual 90, 3) := by decide +kernel
theorem dX1_gradeLevelled_76 : decode cX1_gradeLevelled 76 = .ok (.astore 4, 2) := by decide +kernel
theorem dX1_gradeLevelled_78 : decode cX1_gradeLevelled 78 = .ok (.aload 4, 2) := by decide +kernel
theorem dX1_gradeLevelled_80 : decode cX1_gradeLevelled 80 = .ok (.ifnonnull 6, 3) := by decide +kernel
theorem dX1_gradeLevelled_83 : decode cX1_gradeLevelled 83 = .ok (.goto 63, 3) := by decide +kernel
theorem dX1_gradeLevelled_86 : decode cX1_gradeLevelled 86 = .ok (.aload_n 0, 1) := by decide +kernel
theorem dX1_gradeLevelled_87 : decode cX1_gradeLevelled 87 = .ok (.aload_n 1, 1) := by decide +kernel
theorem dX1_gradeLevelled_88 : decode cX1_gradeLevelled 88 = .ok (.iload_n 3, 1) := by decide +kernel
theorem dX1_gradeLevelled_89 : decode cX1_gradeLevelled 89 = .ok (.invokevirtual 55, 3) := by decide +kernel
theorem dX1_gradeLevelled_92 : decode cX1_gradeLevelled 92 = .ok (.invokevirtual 101, 3) := by decide +kernel
theorem dX1_gradeLevelled_95 : decode cX1_gradeLevelled 95 = .ok (.iload_n 2, 1) := by decide +kernel
theorem dX1_gradeLevelled_96 : decode cX1_gradeLevelled 96 = .ok (.aload_n 0, 1) := by decide +kernel
theorem dX1_gradeLevelled_97 : decode cX1_gradeLevelled 97 = .ok (.invokevirtual 118, 3) := by decide +kernel
theorem dX1_gradeLevelled_100 : decode cX1_gradeLevelled 100 = .ok (.isub, 1) := by decide +kernel
theorem dX1_gradeLevelled_101 : decode cX1_gradeLevelled 101 = .ok (.istore 5, 2) := by decide +kernel
theorem dX1_gradeLevelled_103 : decode cX1_gradeLevelled 103 = .ok (.iconst 0, 1) := by decide +kernel
theorem dX1_gradeLevelled_104 : decode cX1_gradeLevelled 104 = .ok (.istore 6, 2) := by decide +kernel
theorem dX1_gradeLevelled_106 : decode cX1_gradeLevelled 106 = .ok (.iload 6, 2) := by decide +kernel
theorem dX1_gradeLevelled_108 : decode cX1_gradeLevelled 108 = .ok (.aload_n 0, 1) := by decide +kernel
theorem dX1_gradeLevelled_109 : decode cX1_gradeLevelled 109 = .ok (.getfield 115, 3) := by decide +kernel
theorem dX1_gradeLevelled_112 : decode cX1_gradeLevelled 112 = .ok (.if_icmp .ge 26, 3) := by decide +kernel
theorem dX1_gradeLevelled_115 : decode cX1_gradeLevelled 115 = .ok (.aload_n 0, 1) := by decide +kernel
theorem dX1_gradeLevelled_116 : decode cX1_gradeLevelled 116 = .ok (.getfield 15, 3) := by decide +kernel
theorem dX1_gradeLevelled_119 : decode cX1_gradeLevelled 119 = .ok (.aload_n 0, 1) := by decide +kernel
theorem dX1_gradeLevelled_120 : decode cX1_gradeLevelled 120 = .ok (.getfield 18, 3) := by decide +kernel
theorem dX1_gradeLevelled_123 : decode cX1_gradeLevelled 123 = .ok (.iload 6, 2) := by decide +kernel
theorem dX1_gradeLevelled_125 : decode cX1_gradeLevelled 125 = .ok (.iaload, 1) := by decide +kernel
theorem dX1_gradeLevelled_126 : decode cX1_gradeLevelled 126 = .ok (.dup2, 1) := by decide +kernel
theorem dX1_gradeLevelled_127 : decode cX1_gradeLevelled 127 = .ok (.iaload, 1) := by decide +kernel
theorem dX1_gradeLevelled_128 : decode cX1_gradeLevelled 128 = .ok (.iload 5, 2) := by decide +kernel
theorem dX1_gradeLevelled_130 : decode cX1_gradeLevelled 130 = .ok (.iadd, 1) := by decide +kernel
theorem dX1_gradeLevelled_131 : decode cX1_gradeLevelled 131 = .ok (.iastore, 1) := by decide +kernel
theorem dX1_gradeLevelled_132 : decode cX1_gradeLevelled 132 = .ok (.iinc 6 1, 3) := by decide +kernel
theorem dX1_gradeLevelled_135 : decode cX1_gradeLevelled 135 = .ok (.goto (-29), 3) := by decide +kernel
theorem dX1_gradeLevelled_138 : decode cX1_gradeLevelled 138 = .ok (.aload_n 0, 1) := by decide +kernel
theorem dX1_gradeLevelled_139 : decode cX1_gradeLevelled 139 = .ok (.aload_n 1, 1) := by decide +kernel
theorem dX1_gradeLevelled_140 : decode cX1_gradeLevelled 140 = .ok (.aload 4, 2) := by decide +kernel
theorem dX1_gradeLevelled_142 : decode cX1_gradeLevelled 142 = .ok (.invokevirtual 109, 3) := by decide +kernel
theorem dX1_gradeLevelled_145 : decode cX1_gradeLevelled 145 = .ok (.pop, 1) := by decide +kernel
theorem dX1_gradeLevelled_146 : decode cX1_gradeLevelled 146 = .ok (.iinc 3 1, 3) := by decide +kernel
theorem dX1_gradeLevelled_149 : decode cX1_gradeLevelled 149 = .ok (.goto (-86), 3) := by decide +kernel
theorem dX1_gradeLevelled_152 : decode cX1_gradeLevelled 152 = .ok (.return_, 1) := by decide +kernel
theorem dX1_meanOfTeam_0 : decode cX1_meanOfTeam 0 = .ok (.aload_n 0, 1) := by decide +kernel
theorem dX1_meanOfTeam_1 : decode cX1_meanOfTeam 1 = .ok (.getfield 115, 3) := by decide +kernel
theorem dX1_meanOfTeam_4 : decode cX1_meanOfTeam 4 = .ok (.ifCond .ne 5, 3) := by decide +kernel
theorem dX1_meanOfTeam_7 : decode cX1_meanOfTeam 7 = .ok (.iconst 0, 1) := by decide +kernel
theorem dX1_meanOfTeam_8 : decode cX1_meanOfTeam 8 = .ok (.ireturn, 1) := by decide +kernel
theorem dX1_meanOfTeam_9 : decode cX1_meanOfTeam 9 = .ok (.iconst 0, 1) := by decide +kernel
theorem dX1_meanOfTeam_10 : decode cX1_meanOfTeam 10 = .ok (.istore_n 1, 1) := by decide +kernel
theorem dX1_meanOfTeam_11 : decode cX1_meanOfTeam 11 = .ok (.iconst 0, 1) := by decide +kernel
theorem dX1_meanOfTeam_12 : decode cX1_meanOfTeam 12 = .ok (.istore_n 2, 1) := by decide +kernel
theorem dX1_meanOfTeam_13 : decode cX1_meanOfTeam 13 = .ok (.iload_n 2, 1) := by decide +kernel
theorem dX1_meanOfTeam_14 : decode cX1_meanOfTeam 14 = .ok (.aload_n 0, 1) := by decide +kernel
theorem dX1_meanOfTeam_15 : decode cX1_meanOfTeam 15 = .ok (.getfield 115, 3) := by decide +kernel
theorem dX1_meanOfTeam_18 : decode cX1_meanOfTeam 18 = .ok (.if_icmp .ge 23, 3) := by decide +kernel
theorem dX1_meanOfTeam_21 : decode cX1_meanOfTeam 21 = .ok (.iload_n 1, 1) := by decide +kernel
theorem dX1_meanOfTeam_22 : decode cX1_meanOfTeam 22 = .ok (.aload_n 0, 1) := by decide +kernel
theorem dX1_meanOfTeam_23 : decode cX1_meanOfTeam 23 = .ok (.getfield 15, 3) := by decide +kernel
theorem dX1_meanOfTeam_26 : decode cX1_meanOfTeam 26 = .ok (.aload_n 0, 1) := by decide +kernel
theorem dX1_meanOfTeam_27 : decode cX1_meanOfTeam 27 = .ok (.getfield 18, 3) := by decide +kernel
theorem dX1_meanOfTeam_30 : decode cX1_meanOfTeam 30 = .ok (.iload_n 2, 1) := by decide +kernel
theorem dX1_meanOfTeam_31 : decode cX1_meanOfTeam 31 = .ok (.iaload, 1) := by decide +kernel
theorem dX1_meanOfTeam_32 : decode cX1_meanOfTeam 32 = .ok (.iaload, 1) := by decide +kernel
theorem dX1_meanOfTeam_33 : decode cX1_meanOfTeam 33 = .ok (.iadd, 1) := by decide +kernel
theorem dX1_meanOfTeam_34 : decode cX1_meanOfTeam 34 = .ok (.istore_n 1, 1) := by decide +kernel
theorem dX1_meanOfTeam_35 : decode cX1_meanOfTeam 35 = .ok (.iinc 2 1, 3) := by decide +kernel
theorem dX1_meanOfTeam_38 : decode cX1_meanOfTeam 38 = .ok (.goto (-25), 3) := by decide +kernel
theorem dX1_meanOfTeam_41 : decode cX1_meanOfTeam 41 = .ok (.iload_n 1, 1) := by decide +kernel
theorem dX1_meanOfTeam_42 : decode cX1_meanOfTeam 42 = .ok (.aload_n 0, 1) := by decide +kernel
theorem dX1_meanOfTeam_43 : decode cX1_meanOfTeam 43 = .ok (.getfield 115, 3) := by decide +kernel
theorem dX1_meanOfTeam_46 : decode cX1_meanOfTeam 46 = .ok (.idiv, 1) := by decide +kernel
theorem dX1_meanOfTeam_47 : decode cX1_meanOfTeam 47 = .ok (.ireturn, 1) := by decide +kernel
theorem dX1_gather_0 : decode cX1_gather 0 = .ok (.aload_n 0, 1) := by decide +kernel
theorem dX1_gather_1 : decode cX1_gather 1 = .ok (.iconst 0, 1) := by decide +kernel
theorem dX1_gather_2 : decode cX1_gather 2 = .ok (.putfield 115, 3) := by decide +kernel
theorem dX1_gather_5 : decode cX1_gather 5 = .ok (.iconst 0, 1) := by decide +kernel
theorem dX1_gather_6 : decode cX1_gather 6 = .ok (.istore_n 2, 1) := by decide +kernel
theorem dX1_gather_7 : decode cX1_gather 7 = .ok (.iload_n 2, 1) := by decide +kernel
theorem dX1_gather_8 : decode cX1_gather 8 = .ok (.bipush 10, 2) := by decide +kernel
theorem dX1_gather_10 : decode cX1_gather 10 = .ok (.if_icmp .ge 34, 3) := by decide +kernel
theorem dX1_gather_13 : decode cX1_gather 13 = .ok (.iload_n 1, 1) := by decide +kernel
theorem dX1_gather_14 : decode cX1_gather 14 = .ok (.iconst 1, 1) := by decide +kernel
theorem dX1_gather_15 : decode cX1_gather 15 = .ok (.iload_n 2, 1) := by decide +kernel
theorem dX1_gather_16 : decode cX1_gather 16 = .ok (.ishl, 1) := by decide +kernel
theorem dX1_gather_17 : decode cX1_gather 17 = .ok (.iand, 1) := by decide +kernel
theorem dX1_gather_18 : decode cX1_gather 18 = .ok (.ifCond .eq 20, 3) := by decide +kernel
theorem dX1_gather_21 : decode cX1_gather 21 = .ok (.aload_n 0, 1) := by decide +kernel
theorem dX1_gather_22 : decode cX1_gather 22 = .ok (.getfield 18, 3) := by decide +kernel
theorem dX1_gather_25 : decode cX1_gather 25 = .ok (.aload_n 0, 1) := by decide +kernel
theorem dX1_gather_26 : decode cX1_gather 26 = .ok (.dup, 1) := by decide +kernel
theorem dX1_gather_27 : decode cX1_gather 27 = .ok (.getfield 115, 3) := by decide +kernel
theorem dX1_gather_30 : decode cX1_gather 30 = .ok (.dup_x1, 1) := by decide +kernel
theorem dX1_gather_31 : decode cX1_gather 31 = .ok (.iconst 1, 1) := by decide +kernel
theorem dX1_gather_32 : decode cX1_gather 32 = .ok (.iadd, 1) := by decide +kernel
theorem dX1_gather_33 : decode cX1_gather 33 = .ok (.putfield 115, 3) := by decide +kernel
theorem dX1_gather_36 : decode cX1_gather 36 = .ok (.iload_n 2, 1) := by decide +kernel
theorem dX1_gather_37 : decode cX1_gather 37 = .ok (.iastore, 1) := by decide +kernel
theorem dX1_gather_38 : decode cX1_gather 38 = .ok (.iinc 2 1, 3) := by decide +kernel
theorem dX1_gather_41 : decode cX1_gather 41 = .ok (.goto (-34), 3) := by decide +kernel
theorem dX1_gather_44 : decode cX1_gather 44 = .ok (.return_, 1) := by decide +kernel
theorem dX1_markTeam_0 : decode cX1_markTeam 0 = .ok (.iconst 0, 1) := by decide +kernel
theorem dX1_markTeam_1 : decode cX1_markTeam 1 = .ok (.istore_n 3, 1) := by decide +kernel
theorem dX1_markTeam_2 : decode cX1_markTeam 2 = .ok (.iload_n 3, 1) := by decide +kernel
theorem dX1_markTeam_3 : decode cX1_markTeam 3 = .ok (.aload_n 0, 1) := by decide +kernel
theorem dX1_markTeam_4 : decode cX1_markTeam 4 = .ok (.getfield 115, 3) := by decide +kernel
theorem dX1_markTeam_7 : decode cX1_markTeam 7 = .ok (.if_icmp .ge 32, 3) := by decide +kernel
theorem dX1_markTeam_10 : decode cX1_markTeam 10 = .ok (.aload_n 0, 1) := by decide +kernel
theorem dX1_markTeam_11 : decode cX1_markTeam 11 = .ok (.getfield 15, 3) := by decide +kernel
theorem dX1_markTeam_14 : decode cX1_markTeam 14 = .ok (.aload_n 0, 1) := by decide +kernel
theorem dX1_markTeam_15 : decode cX1_markTeam 15 = .ok (.getfield 18, 3) := by decide +kernel
theorem dX1_markTeam_18 : decode cX1_markTeam 18 = .ok (.iload_n 3, 1) := by decide +kernel
theorem dX1_markTeam_19 : decode cX1_markTeam 19 = .ok (.iaload, 1) := by decide +kernel
theorem dX1_markTeam_20 : decode cX1_markTeam 20 = .ok (.aload_n 0, 1) := by decide +kernel
theorem dX1_markTeam_21 : decode cX1_markTeam 21 = .ok (.aload_n 1, 1) := by decide +kernel
theorem dX1_markTeam_22 : decode cX1_markTeam 22 = .ok (.aload_n 0, 1) := by decide +kernel
theorem dX1_markTeam_23 : decode cX1_markTeam 23 = .ok (.getfield 18, 3) := by decide +kernel
theorem dX1_markTeam_26 : decode cX1_markTeam 26 = .ok (.iload_n 3, 1) := by decide +kernel
theorem dX1_markTeam_27 : decode cX1_markTeam 27 = .ok (.iaload, 1) := by decide +kernel
theorem dX1_markTeam_28 : decode cX1_markTeam 28 = .ok (.aload_n 2, 1) := by decide +kernel
theorem dX1_markTeam_29 : decode cX1_markTeam 29 = .ok (.invokevirtual 122, 3) := by decide +kernel
theorem dX1_markTeam_32 : decode cX1_markTeam 32 = .ok (.iastore, 1) := by decide +kernel
theorem dX1_markTeam_33 : decode cX1_markTeam 33 = .ok (.iinc 3 1, 3) := by decide +kernel
theorem dX1_markTeam_36 : decode cX1_markTeam 36 = .ok (.goto (-34), 3) := by decide +kernel
theorem dX1_markTeam_39 : decode cX1_markTeam 39 = .ok (.return_, 1) := by decide +kernel
theorem dX1_share_0 : decode cX1_share 0 = .ok (.aload_n 1, 1) := by decide +kernel
theorem dX1_share_1 : decode cX1_share 1 = .ok (.getfield 77, 3) := by decide +kernel
theorem dX1_share_4 : decode cX1_share 4 = .ok (.getfield 126, 3) := by decide +kernel
theorem dX1_share_7 : decode cX1_share 7 = .ok (.aload_n 0, 1) := by decide +kernel
theorem dX1_share_8 : decode cX1_share 8 = .ok (.getfield 115, 3) := by decide +kernel
theorem dX1_share_11 : decode cX1_share 11 = .ok (.imul, 1) := by decide +kernel
theorem dX1_share_12 : decode cX1_share 12 = .ok (.bipush 10, 2) := by decide +kernel
theorem dX1_share_14 : decode cX1_share 14 = .ok (.idiv, 1) := by decide +kernel
theorem dX1_share_15 : decode cX1_share 15 = .ok (.istore_n 3, 1) := by decide +kernel
theorem dX1_share_16 : decode cX1_share 16 = .ok (.aload_n 0, 1) := by decide +kernel
theorem dX1_share_17 : decode cX1_share 17 = .ok (.getfield 115, 3) := by decide +kernel
theorem dX1_share_20 : decode cX1_share 20 = .ok (.aload_n 1, 1) := by decide +kernel
theorem dX1_share_21 : decode cX1_share 21 = .ok (.getfield 77, 3) := by decide +kernel
theorem dX1_share_24 : decode cX1_share 24 = .ok (.getfield 129, 3) := by decide +kernel
theorem dX1_share_27 : decode cX1_share 27 = .ok (.aload_n 0, 1) := by decide +kernel
theorem dX1_share_28 : decode cX1_share 28 = .ok (.getfield 115, 3) := by decide +kernel
theorem dX1_share_31 : decode cX1_share 31 = .ok (.imul, 1) := by decide +kernel
theorem dX1_share_32 : decode cX1_share 32 = .ok (.bipush 10, 2) := by decide +kernel
theorem dX1_share_34 : decode cX1_share 34 = .ok (.idiv, 1) := by decide +kernel
theorem dX1_share_35 : decode cX1_share 35 = .ok (.invokestatic 132, 3) := by decide +kernel
theorem dX1_share_38 : decode cX1_share 38 = .ok (.istore 4, 2) := by decide +kernel
theorem dX1_share_40 : decode cX1_share 40 = .ok (.aload_n 0, 1) := by decide +kernel
theorem dX1_share_41 : decode cX1_share 41 = .ok (.invokevirtual 137, 3) := by decide +kernel
theorem dX1_share_44 : decode cX1_share 44 = .ok (.iconst 0, 1) := by decide +kernel
theorem dX1_share_45 : decode cX1_share 45 = .ok (.istore 5, 2) := by decide +kernel
theorem dX1_share_47 : decode cX1_share 47 = .ok (.iload 5, 2) := by decide +kernel
theorem dX1_share_49 : decode cX1_share 49 = .ok (.aload_n 0, 1) := by decide +kernel
theorem dX1_share_50 : decode cX1_share 50 = .ok (.getfield 115, 3) := by decide +kernel
theorem dX1_share_53 : decode cX1_share 53 = .ok (.if_icmp .ge 73, 3) := by decide +kernel
theorem dX1_share_56 : decode cX1_share 56 = .ok (.aload_n 0, 1) := by decide +kernel
theorem dX1_share_57 : decode cX1_share 57 = .ok (.getfield 15, 3) := by decide +kernel
theorem dX1_share_60 : decode cX1_share 60 = .ok (.aload_n 0, 1) := by decide +kernel
theorem dX1_share_61 : decode cX1_share 61 = .ok (.getfield 21, 3) := by decide +kernel
theorem dX1_share_64 : decode cX1_share 64 = .ok (.iload 5, 2) := by decide +kernel
theorem dX1_share_66 : decode cX1_share 66 = .ok (.iaload, 1) := by decide +kernel
theorem dX1_share_67 : decode cX1_share 67 = .ok (.iaload, 1) := by decide +kernel
theorem dX1_share_68 : decode cX1_share 68 = .ok (.invokestatic 140, 3) := by decide +kernel
theorem dX1_share_71 : decode cX1_share 71 = .ok (.istore 6, 2) := by decide +kernel
theorem dX1_share_73 : decode cX1_share 73 = .ok (.iload 5, 2) := by decide +kernel
theorem dX1_share_75 : decode cX1_share 75 = .ok (.aload_n 0, 1) := by decide +kernel
theorem dX1_share_76 : decode cX1_share 76 = .ok (.getfield 115, 3) := by decide +kernel
theorem dX1_share_79 : decode cX1_share 79 = .ok (.iload_n 3, 1) := by decide +kernel
theorem dX1_share_80 : decode cX1_share 80 = .ok (.isub, 1) := by decide +kernel
theorem dX1_share_81 : decode cX1_share 81 = .ok (.if_icmp .lt 7, 3) := by decide +kernel
theorem dX1_share_84 : decode cX1_share 84 = .ok (.iconst 1, 1) := by decide +kernel
theorem dX1_share_85 : decode cX1_share 85 = .ok (.goto 4, 3) := by decide +kernel
theorem dX1_share_88 : decode cX1_share 88 = .ok (.iconst 0, 1) := by decide +kernel
theorem dX1_share_89 : decode cX1_share 89 = .ok (.istore 7, 2) := by decide +kernel
theorem dX1_share_91 : decode cX1_share 91 = .ok (.aload_n 0, 1) := by decide +kernel
theorem dX1_share_92 : decode cX1_share 92 = .ok (.getfield 9, 3) := by decide +kernel
theorem dX1_share_95 : decode cX1_share 95 = .ok (.aload_n 0, 1) := by decide +kernel
theorem dX1_share_96 : decode cX1_share 96 = .ok (.getfield 21, 3) := by decide +kernel
theorem dX1_share_99 : decode cX1_share 99 = .ok (.iload 5, 2) := by decide +kernel
theorem dX1_share_101 : decode cX1_share 101 = .ok (.iaload, 1) := by decide +kernel
theorem dX1_share_102 : decode cX1_share 102 = .ok (.iload 6, 2) := by decide +kernel
theorem dX1_share_104 : decode cX1_share 104 = .ok (.iconst 5, 1) := by decide +kernel
theorem dX1_share_105 : decode cX1_share 105 = .ok (.if_icmp .ne 12, 3) := by decide +kernel
theorem dX1_share_108 : decode cX1_share 108 = .ok (.iload 7, 2) := by decide +kernel
theorem dX1_share_110 : decode cX1_share 110 = .ok (.ifCond .ne 7, 3) := by decide +kernel
theorem dX1_share_113 : decode cX1_share 113 = .ok (.iconst 4, 1) := by decide +kernel
theorem dX1_share_114 : decode cX1_share 114 = .ok (.goto 5, 3) := by decide +kernel
theorem dX1_share_117 : decode cX1_share 117 = .ok (.iload 6, 2) := by decide +kernel
theorem dX1_share_119 : decode cX1_share 119 = .ok (.iastore, 1) := by decide +kernel
theorem dX1_share_120 : decode cX1_share 120 = .ok (.iinc 5 1, 3) := by decide +kernel
theorem dX1_share_123 : decode cX1_share 123 = .ok (.goto (-76), 3) := by decide +kernel
theorem dX1_share_126 : decode cX1_share 126 = .ok (.aload_n 2, 1) := by decide +kernel
theorem dX1_share_127 : decode cX1_share 127 = .ok (.aload_n 0, 1) := by decide +kernel
theorem dX1_share_128 : decode cX1_share 128 = .ok (.getfield 18, 3) := by decide +kernel
theorem dX1_share_131 : decode cX1_share 131 = .ok (.aload_n 0, 1) := by decide +kernel
theorem dX1_share_132 : decode cX1_share 132 = .ok (.getfield 115, 3) := by decide +kernel
theorem dX1_share_135 : decode cX1_share 135 = .ok (.aload_n 1, 1) := by decide +kernel
theorem dX1_share_136 : decode cX1_share 136 = .ok (.getfield 52, 3) := by decide +kernel
theorem dX1_share_139 : decode cX1_share 139 = .ok (.aload_n 0, 1) := by decide +kernel
theorem dX1_share_140 : decode cX1_share 140 = .ok (.getfield 21, 3) := by decide +kernel
theorem dX1_share_143 : decode cX1_share 143 = .ok (.invokevirtual 143, 3) := by decide +kernel
theorem dX1_share_146 : decode cX1_share 146 = .ok (.iconst 0, 1) := by decide +kernel
theorem dX1_share_147 : decode cX1_share 147 = .ok (.istore 5, 2) := by decide +kernel
theorem dX1_share_149 : decode cX1_share 149 = .ok (.iload 5, 2) := by decide +kernel
theorem dX1_share_151 : decode cX1_share 151 = .ok (.iload 4, 2) := by decide +kernel
theorem dX1_share_153 : decode cX1_share 153 = .ok (.if_icmp .ge 22, 3) := by decide +kernel
theorem dX1_share_156 : decode cX1_share 156 = .ok (.aload_n 0, 1) := by decide +kernel
theorem dX1_share_157 : decode cX1_share 157 = .ok (.getfield 9, 3) := by decide +kernel
theorem dX1_share_160 : decode cX1_share 160 = .ok (.aload_n 0, 1) := by decide +kernel
theorem dX1_share_161 : decode cX1_share 161 = .ok (.getfield 21, 3) := by decide +kernel
theorem dX1_share_164 : decode cX1_share 164 = .ok (.iload 5, 2) := by decide +kernel
theorem dX1_share_166 : decode cX1_share 166 = .ok (.iaload, 1) := by decide +kernel
theorem dX1_share_167 : decode cX1_share 167 = .ok (.iconst 1, 1) := by decide +kernel
theorem dX1_share_168 : decode cX1_share 168 = .ok (.iastore, 1) := by decide +kernel
theorem dX1_share_169 : decode cX1_share 169 = .ok (.iinc 5 1, 3) := by decide +kernel
theorem dX1_share_172 : decode cX1_share 172 = .ok (.goto (-23), 3) := by decide +kernel
theorem dX1_share_175 : decode cX1_share 175 = .ok (.iconst 0, 1) := by decide +kernel
theorem dX1_share_176 : decode cX1_share 176 = .ok (.istore 5, 2) := by decide +kernel
theorem dX1_share_178 : decode cX1_share 178 = .ok (.iconst 0, 1) := by decide +kernel
theorem dX1_share_179 : decode cX1_share 179 = .ok (.istore 6, 2) := by decide +kernel
theorem dX1_share_181 : decode cX1_share 181 = .ok (.iload 6, 2) := by decide +kernel
theorem dX1_share_183 : decode cX1_share 183 = .ok (.aload_n 0, 1) := by decide +kernel
theorem dX1_share_184 : decode cX1_share 184 = .ok (.getfield 115, 3) := by decide +kernel
theorem dX1_share_187 : decode cX1_share 187 = .ok (.if_icmp .ge 26, 3) := by decide +kernel
theorem dX1_share_190 : decode cX1_share 190 = .ok (.iload 5, 2) := by decide +kernel
theorem dX1_share_192 : decode cX1_share 192 = .ok (.aload_n 0, 1) := by decide +kernel
theorem dX1_share_193 : decode cX1_share 193 = .ok (.getfield 9, 3) := by decide +kernel
theorem dX1_share_196 : decode cX1_share 196 = .ok (.aload_n 0, 1) := by decide +kernel
theorem dX1_share_197 : decode cX1_share 197 = .ok (.getfield 18, 3) := by decide +kernel
theorem dX1_share_200 : decode cX1_share 200 = .ok (.iload 6, 2) := by decide +kernel
theorem dX1_share_202 : decode cX1_share 202 = .ok (.iaload, 1) := by decide +kernel
theorem dX1_share_203 : decode cX1_share 203 = .ok (.iaload, 1) := by decide +kernel
theorem dX1_share_204 : decode cX1_share 204 = .ok (.iadd, 1) := by decide +kernel
theorem dX1_share_205 : decode cX1_share 205 = .ok (.istore 5, 2) := by decide +kernel
theorem dX1_share_207 : decode cX1_share 207 = .ok (.iinc 6 1, 3) := by decide +kernel
theorem dX1_share_210 : decode cX1_share 210 = .ok (.goto (-29), 3) := by decide +kernel
theorem dX1_share_213 : decode cX1_share 213 = .ok (.iload 5, 2) := by decide +kernel
theorem dX1_share_215 : decode cX1_share 215 = .ok (.ireturn, 1) := by decide +kernel
theorem dX1_byMark_0 : decode cX1_byMark 0 = .ok (.iload_n 0, 1) := by decide +kernel
theorem dX1_byMark_1 : decode cX1_byMark 1 = .ok (.bipush 80, 2) := by decide +kernel
theorem dX1_byMark_3 : decode cX1_byMark 3 = .ok (.if_icmp .lt 7, 3) := by decide +kernel
theorem dX1_byMark_6 : decode cX1_byMark 6 = .ok (.iconst 5, 1) := by decide +kernel
theorem dX1_byMark_7 : decode cX1_byMark 7 = .ok (.goto 34, 3) := by decide +kernel
theorem dX1_byMark_10 : decode cX1_byMark 10 = .ok (.iload_n 0, 1) := by decide +kernel
theorem dX1_byMark_11 : decode cX1_byMark 11 = .ok (.bipush 60, 2) := by decide +kernel
theorem dX1_byMark_13 : decode cX1_byMark 13 = .ok (.if_icmp .lt 7, 3) := by decide +kernel
theorem dX1_byMark_16 : decode cX1_byMark 16 = .ok (.iconst 4, 1) := by decide +kernel
theorem dX1_byMark_17 : decode cX1_byMark 17 = .ok (.goto 24, 3) := by decide +kernel
theorem dX1_byMark_20 : decode cX1_byMark 20 = .ok (.iload_n 0, 1) := by decide +kernel
theorem dX1_byMark_21 : decode cX1_byMark 21 = .ok (.bipush 40, 2) := by decide +kernel
theorem dX1_byMark_23 : decode cX1_byMark 23 = .ok (.if_icmp .lt 7, 3) := by decide +kernel
theorem dX1_byMark_26 : decode cX1_byMark 26 = .ok (.iconst 3, 1) := by decide +kernel
theorem dX1_byMark_27 : decode cX1_byMark 27 = .ok (.goto 14, 3) := by decide +kernel
theorem dX1_byMark_30 : decode cX1_byMark 30 = .ok (.iload_n 0, 1) := by decide +kernel
theorem dX1_byMark_31 : decode cX1_byMark 31 = .ok (.bipush 20, 2) := by decide +kernel
theorem dX1_byMark_33 : decode cX1_byMark 33 = .ok (.if_icmp .lt 7, 3) := by decide +kernel
theorem dX1_byMark_36 : decode cX1_byMark 36 = .ok (.iconst 2, 1) := by decide +kernel
theorem dX1_byMark_37 : decode cX1_byMark 37 = .ok (.goto 4, 3) := by decide +kernel
theorem dX1_byMark_40 : decode cX1_byMark 40 = .ok (.iconst 1, 1) := by decide +kernel
theorem dX1_byMark_41 : decode cX1_byMark 41 = .ok (.ireturn, 1) := by decide +kernel
theorem dX1_rank_0 : decode cX1_rank 0 = .ok (.iconst 0, 1) := by decide +kernel
theorem dX1_rank_1 : decode cX1_rank 1 = .ok (.istore_n 1, 1) := by decide +kernel
theorem dX1_rank_2 : decode cX1_rank 2 = .ok (.iload_n 1, 1) := by decide +kernel
theorem dX1_rank_3 : decode cX1_rank 3 = .ok (.aload_n 0, 1) := by decide +kernel
theorem dX1_rank_4 : decode cX1_rank 4 = .ok (.getfield 115, 3) := by decide +kernel
theorem dX1_rank_7 : decode cX1_rank 7 = .ok (.if_icmp .ge 121, 3) := by decide +kernel
theorem dX1_rank_10 : decode cX1_rank 10 = .ok (.iconst 0, 1) := by decide +kernel
theorem dX1_rank_11 : decode cX1_rank 11 = .ok (.istore_n 2, 1) := by decide +kernel
theorem dX1_rank_12 : decode cX1_rank 12 = .ok (.iconst 0, 1) := by decide +kernel
theorem dX1_rank_13 : decode cX1_rank 13 = .ok (.istore_n 3, 1) := by decide +kernel
theorem dX1_rank_14 : decode cX1_rank 14 = .ok (.iload_n 3, 1) := by decide +kernel
theorem dX1_rank_15 : decode cX1_rank 15 = .ok (.aload_n 0, 1) := by decide +kernel
theorem dX1_rank_16 : decode cX1_rank 16 = .ok (.getfield 115, 3) := by decide +kernel
theorem dX1_rank_19 : decode cX1_rank 19 = .ok (.if_icmp .ge 91, 3) := by decide +kernel
theorem dX1_rank_22 : decode cX1_rank 22 = .ok (.aload_n 0, 1) := by decide +kernel
theorem dX1_rank_23 : decode cX1_rank 23 = .ok (.getfield 15, 3) := by decide +kernel
theorem dX1_rank_26 : decode cX1_rank 26 = .ok (.aload_n 0, 1) := by decide +kernel
theorem dX1_rank_27 : decode cX1_rank 27 = .ok (.getfield 18, 3) := by decide +kernel
theorem dX1_rank_30 : decode cX1_rank 30 = .ok (.iload_n 3, 1) := by decide +kernel
theorem dX1_rank_31 : decode cX1_rank 31 = .ok (.iaload, 1) := by decide +kernel
theorem dX1_rank_32 : decode cX1_rank 32 = .ok (.iaload, 1) := by decide +kernel
theorem dX1_rank_33 : decode cX1_rank 33 = .ok (.aload_n 0, 1) := by decide +kernel
theorem dX1_rank_34 : decode cX1_rank 34 = .ok (.getfield 15, 3) := by decide +kernel
theorem dX1_rank_37 : decode cX1_rank 37 = .ok (.aload_n 0, 1) := by decide +kernel
theorem dX1_rank_38 : decode cX1_rank 38 = .ok (.getfield 18, 3) := by decide +kernel
theorem dX1_rank_41 : decode cX1_rank 41 = .ok (.iload_n 1, 1) := by decide +kernel
theorem dX1_rank_42 : decode cX1_rank 42 = .ok (.iaload, 1) := by decide +kernel
theorem dX1_rank_43 : decode cX1_rank 43 = .ok (.iaload, 1) := by decide +kernel
theorem dX1_rank_44 : decode cX1_rank 44 = .ok (.if_icmp .ge 7, 3) := by decide +kernel
theorem dX1_rank_47 : decode cX1_rank 47 = .ok (.iconst 1, 1) := by decide +kernel
theorem dX1_rank_48 : decode cX1_rank 48 = .ok (.goto 4, 3) := by decide +kernel
theorem dX1_rank_51 : decode cX1_rank 51 = .ok (.iconst 0, 1) := by decide +kernel
theorem dX1_rank_52 : decode cX1_rank 52 = .ok (.istore 4, 2) := by decide +kernel
theorem dX1_rank_54 : decode cX1_rank 54 = .ok (.aload_n 0, 1) := by decide +kernel
theorem dX1_rank_55 : decode cX1_rank 55 = .ok (.getfield 15, 3) := by decide +kernel
theorem dX1_rank_58 : decode cX1_rank 58 = .ok (.aload_n 0, 1) := by decide +kernel
theorem dX1_rank_59 : decode cX1_rank 59 = .ok (.getfield 18, 3) := by decide +kernel
theorem dX1_rank_62 : decode cX1_rank 62 = .ok (.iload_n 3, 1) := by decide +kernel
theorem dX1_rank_63 : decode cX1_rank 63 = .ok (.iaload, 1) := by decide +kernel
theorem dX1_rank_64 : decode cX1_rank 64 = .ok (.iaload, 1) := by decide +kernel
theorem dX1_rank_65 : decode cX1_rank 65 = .ok (.aload_n 0, 1) := by decide +kernel
theorem dX1_rank_66 : decode cX1_rank 66 = .ok (.getfield 15, 3) := by decide +kernel
theorem dX1_rank_69 : decode cX1_rank 69 = .ok (.aload_n 0, 1) := by decide +kernel
theorem dX1_rank_70 : decode cX1_rank 70 = .ok (.getfield 18, 3) := by decide +kernel
theorem dX1_rank_73 : decode cX1_rank 73 = .ok (.iload_n 1, 1) := by decide +kernel
theorem dX1_rank_74 : decode cX1_rank 74 = .ok (.iaload, 1) := by decide +kernel
theorem dX1_rank_75 : decode cX1_rank 75 = .ok (.iaload, 1) := by decide +kernel
theorem dX1_rank_76 : decode cX1_rank 76 = .ok (.if_icmp .ne 7, 3) := by decide +kernel
theorem dX1_rank_79 : decode cX1_rank 79 = .ok (.iconst 1, 1) := by decide +kernel
theorem dX1_rank_80 : decode cX1_rank 80 = .ok (.goto 4, 3) := by decide +kernel
theorem dX1_rank_83 : decode cX1_rank 83 = .ok (.iconst 0, 1) := by decide +kernel
theorem dX1_rank_84 : decode cX1_rank 84 = .ok (.istore 5, 2) := by decide +kernel
theorem dX1_rank_86 : decode cX1_rank 86 = .ok (.iload 4, 2) := by decide +kernel
theorem dX1_rank_88 : decode cX1_rank 88 = .ok (.ifCond .ne 13, 3) := by decide +kernel
theorem dX1_rank_91 : decode cX1_rank 91 = .ok (.iload 5, 2) := by decide +kernel
theorem dX1_rank_93 : decode cX1_rank 93 = .ok (.ifCond .eq 11, 3) := by decide +kernel
theorem dX1_rank_96 : decode cX1_rank 96 = .ok (.iload_n 3, 1) := by decide +kernel
theorem dX1_rank_97 : decode cX1_rank 97 = .ok (.iload_n 1, 1) := by decide +kernel
theorem dX1_rank_98 : decode cX1_rank 98 = .ok (.if_icmp .le 6, 3) := by decide +kernel
theorem dX1_rank_101 : decode cX1_rank 101 = .ok (.iinc 2 1, 3) := by decide +kernel
theorem dX1_rank_104 : decode cX1_rank 104 = .ok (.iinc 3 1, 3) := by decide +kernel
theorem dX1_rank_107 : decode cX1_rank 107 = .ok (.goto (-93), 3) := by decide +kernel
theorem dX1_rank_110 : decode cX1_rank 110 = .ok (.aload_n 0, 1) := by decide +kernel
theorem dX1_rank_111 : decode cX1_rank 111 = .ok (.getfield 21, 3) := by decide +kernel
theorem dX1_rank_114 : decode cX1_rank 114 = .ok (.iload_n 2, 1) := by decide +kernel
theorem dX1_rank_115 : decode cX1_rank 115 = .ok (.aload_n 0, 1) := by decide +kernel
theorem dX1_rank_116 : decode cX1_rank 116 = .ok (.getfield 18, 3) := by decide +kernel
theorem dX1_rank_119 : decode cX1_rank 119 = .ok (.iload_n 1, 1) := by decide +kernel
theorem dX1_rank_120 : decode cX1_rank 120 = .ok (.iaload, 1) := by decide +kernel
theorem dX1_rank_121 : decode cX1_rank 121 = .ok (.iastore, 1) := by decide +kernel
theorem dX1_rank_122 : decode cX1_rank 122 = .ok (.iinc 1 1, 3) := by decide +kernel
theorem dX1_rank_125 : decode cX1_rank 125 = .ok (.goto (-123), 3) := by decide +kernel
theorem dX1_rank_128 : decode cX1_rank 128 = .ok (.return_, 1) := by decide +kernel
theorem dX2_init_0 : decode cX2_init 0 = .ok (.aload_n 0, 1) := by decide +kernel
theorem dX2_init_1 : decode cX2_init 1 = .ok (.invokespecial 1, 3) := by decide +kernel
theorem dX2_init_4 : decode cX2_init 4 = .ok (.aload_n 0, 1) := by decide +kernel
theorem dX2_init_5 : decode cX2_init 5 = .ok (.bipush 10, 2) := by decide +kernel
theorem dX2_init_7 : decode cX2_init 7 = .ok (.putfield 7, 3) := by decide +kernel
theorem dX2_init_10 : decode cX2_init 10 = .ok (.aload_n 0, 1) := by decide +kernel
theorem dX2_init_11 : decode cX2_init 11 = .ok (.iconst 0, 1) := by decide +kernel
theorem dX2_init_12 : decode cX2_init 12 = .ok (.putfield 13, 3) := by decide +kernel
theorem dX2_init_15 : decode cX2_init 15 = .ok (.aload_n 0, 1) := by decide +kernel
theorem dX2_init_16 : decode cX2_init 16 = .ok (.bipush 10, 2) := by decide +kernel
theorem dX2_init_18 : decode cX2_init 18 = .ok (.putfield 16, 3) := by decide +kernel
theorem dX2_init_21 : decode cX2_init 21 = .ok (.aload_n 0, 1) := by decide +kernel
theorem dX2_init_22 : decode cX2_init 22 = .ok (.aload_n 1, 1) := by decide +kernel
theorem dX2_init_23 : decode cX2_init 23 = .ok (.putfield 19, 3) := by decide +kernel
theorem dX2_init_26 : decode cX2_init 26 = .ok (.aload_n 0, 1) := by decide +kernel
theorem dX2_init_27 : decode cX2_init 27 = .ok (.iconst 0, 1) := by decide +kernel
theorem dX2_init_28 : decode cX2_init 28 = .ok (.iload_n 2, 1) := by decide +kernel
theorem dX2_init_29 : decode cX2_init 29 = .ok (.aload_n 1, 1) := by decide +kernel
theorem dX2_init_30 : decode cX2_init 30 = .ok (.arraylength, 1) := by decide +kernel
theorem dX2_init_31 : decode cX2_init 31 = .ok (.invokestatic 23, 3) := by decide +kernel
theorem dX2_init_34 : decode cX2_init 34 = .ok (.invokestatic 29, 3) := by decide +kernel
theorem dX2_init_37 : decode cX2_init 37 = .ok (.putfield 32, 3) := by decide +kernel
theorem dX2_init_40 : decode cX2_init 40 = .ok (.aload_n 0, 1) := by decide +kernel
theorem dX2_init_41 : decode cX2_init 41 = .ok (.aload_n 0, 1) := by decide +kernel
theorem dX2_init_42 : decode cX2_init 42 = .ok (.getfield 32, 3) := by decide +kernel
theorem dX2_init_45 : decode cX2_init 45 = .ok (.newarray .int, 2) := by decide +kernel
theorem dX2_init_47 : decode cX2_init 47 = .ok (.putfield 35, 3) := by decide +kernel
theorem dX2_init_50 : decode cX2_init 50 = .ok (.aload_n 0, 1) := by decide +kernel
theorem dX2_init_51 : decode cX2_init 51 = .ok (.aload_n 0, 1) := by decide +kernel
theorem dX2_init_52 : decode cX2_init 52 = .ok (.getfield 32, 3) := by decide +kernel
theorem dX2_init_55 : decode cX2_init 55 = .ok (.newarray .int, 2) := by decide +kernel
theorem dX2_init_57 : decode cX2_init 57 = .ok (.putfield 39, 3) := by decide +kernel
theorem dX2_init_60 : decode cX2_init 60 = .ok (.aload_n 0, 1) := by decide +kernel
theorem dX2_init_61 : decode cX2_init 61 = .ok (.aload_n 0, 1) := by decide +kernel
theorem dX2_init_62 : decode cX2_init 62 = .ok (.getfield 32, 3) := by decide +kernel
theorem dX2_init_65 : decode cX2_init 65 = .ok (.newarray .int, 2) := by decide +kernel
theorem dX2_init_67 : decode cX2_init 67 = .ok (.putfield 42, 3) := by decide +kernel
theorem dX2_init_70 : decode cX2_init 70 = .ok (.return_, 1) := by decide +kernel
theorem dX2_read_0 : decode cX2_read 0 = .ok (.iconst 1, 1) := by decide +kernel
theorem dX2_read_1 : decode cX2_read 1 = .ok (.istore_n 1, 1) := by decide +kernel
theorem dX2_read_2 : decode cX2_read 2 = .ok (.iconst 1, 1) := by decide +kernel
theorem dX2_read_3 : decode cX2_read 3 = .ok (.istore_n 2, 1) := by decide +kernel
theorem dX2_read_4 : decode cX2_read 4 = .ok (.iload_n 2, 1) := by decide +kernel
theorem dX2_read_5 : decode cX2_read 5 = .ok (.bipush 10, 2) := by decide +kernel
theorem dX2_read_7 : decode cX2_read 7 = .ok (.if_icmp .gt 171, 3) := by decide +kernel
theorem dX2_read_10 : decode cX2_read 10 = .ok (.iload_n 1, 1) := by decide +kernel
theorem dX2_read_11 : decode cX2_read 11 = .ok (.ifCond .eq 167, 3) := by decide +kernel
theorem dX2_read_14 : decode cX2_read 14 = .ok (.aload_n 0, 1) := by decide +kernel
theorem dX2_read_15 : decode cX2_read 15 = .ok (.invokevirtual 45, 3) := by decide +kernel
theorem dX2_read_18 : decode cX2_read 18 = .ok (.tableswitch 117 102 112 #[78, 117, 117, 117, 117, 117, 68, 58, 117, 91, 104], 58) := by decide +kernel
theorem dX2_read_76 : decode cX2_read 76 = .ok (.aload_n 0, 1) := by decide +kernel
theorem dX2_read_77 : decode cX2_read 77 = .ok (.ldc 49, 2) := by decide +kernel
theorem dX2_read_79 : decode cX2_read 79 = .ok (.iconst 1, 1) := by decide +kernel
theorem dX2_read_80 : decode cX2_read 80 = .ok (.invokevirtual 51, 3) := by decide +kernel
theorem dX2_read_83 : decode cX2_read 83 = .ok (.goto 57, 3) := by decide +kernel
theorem dX2_read_86 : decode cX2_read 86 = .ok (.aload_n 0, 1) := by decide +kernel
theorem dX2_read_87 : decode cX2_read 87 = .ok (.ldc 55, 2) := by decide +kernel
theorem dX2_read_89 : decode cX2_read 89 = .ok (.iconst (-1), 1) := by decide +kernel
theorem dX2_read_90 : decode cX2_read 90 = .ok (.invokevirtual 51, 3) := by decide +kernel
theorem dX2_read_93 : decode cX2_read 93 = .ok (.goto 47, 3) := by decide +kernel
theorem dX2_read_96 : decode cX2_read 96 = .ok (.aload_n 0, 1) := by decide +kernel
theorem dX2_read_97 : decode cX2_read 97 = .ok (.aload_n 0, 1) := by decide +kernel
theorem dX2_read_98 : decode cX2_read 98 = .ok (.ldc 57, 2) := by decide +kernel
theorem dX2_read_100 : decode cX2_read 100 = .ok (.invokevirtual 59, 3) := by decide +kernel
theorem dX2_read_103 : decode cX2_read 103 = .ok (.putfield 7, 3) := by decide +kernel
theorem dX2_read_106 : decode cX2_read 106 = .ok (.goto 34, 3) := by decide +kernel
theorem dX2_read_109 : decode cX2_read 109 = .ok (.aload_n 0, 1) := by decide +kernel
theorem dX2_read_110 : decode cX2_read 110 = .ok (.aload_n 0, 1) := by decide +kernel
theorem dX2_read_111 : decode cX2_read 111 = .ok (.ldc 63, 2) := by decide +kernel
theorem dX2_read_113 : decode cX2_read 113 = .ok (.invokevirtual 59, 3) := by decide +kernel
theorem dX2_read_116 : decode cX2_read 116 = .ok (.putfield 13, 3) := by decide +kernel
theorem dX2_read_119 : decode cX2_read 119 = .ok (.goto 21, 3) := by decide +kernel
theorem dX2_read_122 : decode cX2_read 122 = .ok (.aload_n 0, 1) := by decide +kernel
theorem dX2_read_123 : decode cX2_read 123 = .ok (.aload_n 0, 1) := by decide +kernel
theorem dX2_read_124 : decode cX2_read 124 = .ok (.ldc 65, 2) := by decide +kernel
theorem dX2_read_126 : decode cX2_read 126 = .ok (.invokevirtual 59, 3) := by decide +kernel
theorem dX2_read_129 : decode cX2_read 129 = .ok (.putfield 16, 3) := by decide +kernel
theorem dX2_read_132 : decode cX2_read 132 = .ok (.goto 8, 3) := by decide +kernel
theorem dX2_read_135 : decode cX2_read 135 = .ok (.aload_n 0, 1) := by decide +kernel
theorem dX2_read_136 : decode cX2_read 136 = .ok (.iconst 1, 1) := by decide +kernel
theorem dX2_read_137 : decode cX2_read 137 = .ok (.putfield 67, 3) := by decide +kernel
theorem dX2_read_140 : decode cX2_read 140 = .ok (.iload_n 2, 1) := by decide +kernel
theorem dX2_read_141 : decode cX2_read 141 = .ok (.bipush 10, 2) := by decide +kernel
theorem dX2_read_143 : decode cX2_read 143 = .ok (.if_icmp .ge 27, 3) := by decide +kernel
theorem dX2_read_146 : decode cX2_read 146 = .ok (.aload_n 0, 1) := by decide +kernel
theorem dX2_read_147 : decode cX2_read 147 = .ok (.getfield 71, 3) := by decide +kernel
theorem dX2_read_150 : decode cX2_read 150 = .ok (.aload_n 0, 1) := by decide +kernel
theorem dX2_read_151 : decode cX2_read 151 = .ok (.getfield 32, 3) := by decide +kernel
theorem dX2_read_154 : decode cX2_read 154 = .ok (.if_icmp .ge 16, 3) := by decide +kernel
theorem dX2_read_157 : decode cX2_read 157 = .ok (.aload_n 0, 1) := by decide +kernel
theorem dX2_read_158 : decode cX2_read 158 = .ok (.bipush 59, 2) := by decide +kernel
theorem dX2_read_160 : decode cX2_read 160 = .ok (.invokevirtual 74, 3) := by decide +kernel
theorem dX2_read_163 : decode cX2_read 163 = .ok (.ifCond .eq 7, 3) := by decide +kernel
theorem dX2_read_166 : decode cX2_read 166 = .ok (.iconst 1, 1) := by decide +kernel
theorem dX2_read_167 : decode cX2_read 167 = .ok (.goto 4, 3) := by decide +kernel
theorem dX2_read_170 : decode cX2_read 170 = .ok (.iconst 0, 1) := by decide +kernel
theorem dX2_read_171 : decode cX2_read 171 = .ok (.istore_n 1, 1) := by decide +kernel
theorem dX2_read_172 : decode cX2_read 172 = .ok (.iinc 2 1, 3) := by decide +kernel
theorem dX2_read_175 : decode cX2_read 175 = .ok (.goto (-171), 3) := by decide +kernel
theorem dX2_read_178 : decode cX2_read 178 = .ok (.aload_n 0, 1) := by decide +kernel
theorem dX2_read_179 : decode cX2_read 179 = .ok (.getfield 67, 3) := by decide +kernel
theorem dX2_read_182 : decode cX2_read 182 = .ok (.ifCond .ne 14, 3) := by decide +kernel
theorem dX2_read_185 : decode cX2_read 185 = .ok (.aload_n 0, 1) := by decide +kernel
theorem dX2_read_186 : decode cX2_read 186 = .ok (.getfield 71, 3) := by decide +kernel
theorem dX2_read_189 : decode cX2_read 189 = .ok (.aload_n 0, 1) := by decide +kernel
theorem dX2_read_190 : decode cX2_read 190 = .ok (.getfield 32, 3) := by decide +kernel
theorem dX2_read_193 : decode cX2_read 193 = .ok (.if_icmp .ge 10, 3) := by decide +kernel
theorem dX2_read_196 : decode cX2_read 196 = .ok (.aload_n 0, 1) := by decide +kernel
theorem dX2_read_197 : decode cX2_read 197 = .ok (.getfield 71, 3) := by decide +kernel
theorem dX2_read_200 : decode cX2_read 200 = .ok (.goto 4, 3) := by decide +kernel
theorem dX2_read_203 : decode cX2_read 203 = .ok (.iconst (-1), 1) := by decide +kernel
theorem dX2_read_204 : decode cX2_read 204 = .ok (.ireturn, 1) := by decide +kernel
theorem dX2_raise_0 : decode cX2_raise 0 = .ok (.iconst 0, 1) := by decide +kernel
theorem dX2_raise_1 : decode cX2_raise 1 = .ok (.istore_n 2, 1) := by decide +kernel
theorem dX2_raise_2 : decode cX2_raise 2 = .ok (.iconst 0, 1) := by decide +kernel
theorem dX2_raise_3 : decode cX2_raise 3 = .ok (.istore_n 3, 1) := by decide +kernel
theorem dX2_raise_4 : decode cX2_raise 4 = .ok (.iconst 0, 1) := by decide +kernel
theorem dX2_raise_5 : decode cX2_raise 5 = .ok (.istore 4, 2) := by decide +kernel
theorem dX2_raise_7 : decode cX2_raise 7 = .ok (.iload 4, 2) := by decide +kernel
theorem dX2_raise_9 : decode cX2_raise 9 = .ok (.aload_n 0, 1) := by decide +kernel
theorem dX2_raise_10 : decode cX2_raise 10 = .ok (.getfield 78, 3) := by decide +kernel
theorem dX2_raise_13 : decode cX2_raise 13 = .ok (.if_icmp .ge 174, 3) := by decide +kernel
theorem dX2_raise_16 : decode cX2_raise 16 = .ok (.aload_n 0, 1) := by decide +kernel
theorem dX2_raise_17 : decode cX2_raise 17 = .ok (.getfield 35, 3) := by decide +kernel
theorem dX2_raise_20 : decode cX2_raise 20 = .ok (.iload 4, 2) := by decide +kernel
theorem dX2_raise_22 : decode cX2_raise 22 = .ok (.iaload, 1) := by decide +kernel
theorem dX2_raise_23 : decode cX2_raise 23 = .ok (.istore 5, 2) := by decide +kernel
theorem dX2_raise_25 : decode cX2_raise 25 = .ok (.iload_n 2, 1) := by decide +kernel
theorem dX2_raise_26 : decode cX2_raise 26 = .ok (.iconst 1, 1) := by decide +kernel
theorem dX2_raise_27 : decode cX2_raise 27 = .ok (.iand, 1) := by decide +kernel
theorem dX2_raise_28 : decode cX2_raise 28 = .ok (.istore 6, 2) := by decide +kernel
theorem dX2_raise_30 : decode cX2_raise 30 = .ok (.iload_n 2, 1) := by decide +kernel
theorem dX2_raise_31 : decode cX2_raise 31 = .ok (.iconst 1, 1) := by decide +kernel
theorem dX2_raise_32 : decode cX2_raise 32 = .ok (.ishr, 1) := by decide +kernel
theorem dX2_raise_33 : decode cX2_raise 33 = .ok (.iconst 1, 1) := by decide +kernel
theorem dX2_raise_34 : decode cX2_raise 34 = .ok (.iand, 1) := by decide +kernel
theorem dX2_raise_35 : decode cX2_raise 35 = .ok (.istore 7, 2) := by decide +kernel
theorem dX2_raise_37 : decode cX2_raise 37 = .ok (.iload 5, 2) := by decide +kernel
theorem dX2_raise_39 : decode cX2_raise 39 = .ok (.bipush (-4), 2) := by decide +kernel
theorem dX2_raise_41 : decode cX2_raise 41 = .ok (.if_icmp .ne 21, 3) := by decide +kernel
theorem dX2_raise_44 : decode cX2_raise 44 = .ok (.iload_n 3, 1) := by decide +kernel
theorem dX2_raise_45 : decode cX2_raise 45 = .ok (.iload 6, 2) := by decide +kernel
theorem dX2_raise_47 : decode cX2_raise 47 = .ok (.aload_n 0, 1) := by decide +kernel
theorem dX2_raise_48 : decode cX2_raise 48 = .ok (.getfield 39, 3) := by decide +kernel
theorem dX2_raise_51 : decode cX2_raise 51 = .ok (.iload 4, 2) := by decide +kernel
theorem dX2_raise_53 : decode cX2_raise 53 = .ok (.iaload, 1) := by decide +kernel
theorem dX2_raise_54 : decode cX2_raise 54 = .ok (.imul, 1) := by decide +kernel
theorem dX2_raise_55 : decode cX2_raise 55 = .ok (.iadd, 1) := by decide +kernel
theorem dX2_raise_56 : decode cX2_raise 56 = .ok (.istore_n 3, 1) := by decide +kernel
theorem dX2_raise_57 : decode cX2_raise 57 = .ok (.iconst 0, 1) := by decide +kernel
theorem dX2_raise_58 : decode cX2_raise 58 = .ok (.istore_n 2, 1) := by decide +kernel
theorem dX2_raise_59 : decode cX2_raise 59 = .ok (.goto 122, 3) := by decide +kernel
theorem dX2_raise_62 : decode cX2_raise 62 = .ok (.iload 5, 2) := by decide +kernel
theorem dX2_raise_64 : decode cX2_raise 64 = .ok (.iconst (-1), 1) := by decide +kernel
theorem dX2_raise_65 : decode cX2_raise 65 = .ok (.if_icmp .ne 10, 3) := by decide +kernel
theorem dX2_raise_68 : decode cX2_raise 68 = .ok (.iload_n 2, 1) := by decide +kernel
theorem dX2_raise_69 : decode cX2_raise 69 = .ok (.iconst 1, 1) := by decide +kernel
theorem dX2_raise_70 : decode cX2_raise 70 = .ok (.ixor, 1) := by decide +kernel
theorem dX2_raise_71 : decode cX2_raise 71 = .ok (.istore_n 2, 1) := by decide +kernel
theorem dX2_raise_72 : decode cX2_raise 72 = .ok (.goto 109, 3) := by decide +kernel
theorem dX2_raise_75 : decode cX2_raise 75 = .ok (.iload 5, 2) := by decide +kernel
theorem dX2_raise_77 : decode cX2_raise 77 = .ok (.bipush (-2), 2) := by decide +kernel
theorem dX2_raise_79 : decode cX2_raise 79 = .ok (.if_icmp .ne 18, 3) := by decide +kernel
theorem dX2_raise_82 : decode cX2_raise 82 = .ok (.iload_n 2, 1) := by decide +kernel
theorem dX2_raise_83 : decode cX2_raise 83 = .ok (.iconst 2, 1) := by decide +kernel
theorem dX2_raise_84 : decode cX2_raise 84 = .ok (.ishr, 1) := by decide +kernel
theorem dX2_raise_85 : decode cX2_raise 85 = .ok (.iconst 1, 1) := by decide +kernel
theorem dX2_raise_86 : decode cX2_raise 86 = .ok (.ishl, 1) := by decide +kernel
theorem dX2_raise_87 : decode cX2_raise 87 = .ok (.iload 6, 2) := by decide +kernel
theorem dX2_raise_89 : decode cX2_raise 89 = .ok (.iload 7, 2) := by decide +kernel
theorem dX2_raise_91 : decode cX2_raise 91 = .ok (.iand, 1) := by decide +kernel
theorem dX2_raise_92 : decode cX2_raise 92 = .ok (.ior, 1) := by decide +kernel
theorem dX2_raise_93 : decode cX2_raise 93 = .ok (.istore_n 2, 1) := by decide +kernel
theorem dX2_raise_94 : decode cX2_raise 94 = .ok (.goto 87, 3) := by decide +kernel
theorem dX2_raise_97 : decode cX2_raise 97 = .ok (.iload 5, 2) := by decide +kernel
theorem dX2_raise_99 : decode cX2_raise 99 = .ok (.bipush (-3), 2) := by decide +kernel
theorem dX2_raise_101 : decode cX2_raise 101 = .ok (.if_icmp .ne 18, 3) := by decide +kernel
theorem dX2_raise_104 : decode cX2_raise 104 = .ok (.iload_n 2, 1) := by decide +kernel
theorem dX2_raise_105 : decode cX2_raise 105 = .ok (.iconst 2, 1) := by decide +kernel
theorem dX2_raise_106 : decode cX2_raise 106 = .ok (.ishr, 1) := by decide +kernel
theorem dX2_raise_107 : decode cX2_raise 107 = .ok (.iconst 1, 1) := by decide +kernel
theorem dX2_raise_108 : decode cX2_raise 108 = .ok (.ishl, 1) := by decide +kernel
theorem dX2_raise_109 : decode cX2_raise 109 = .ok (.iload 6, 2) := by decide +kernel
theorem dX2_raise_111 : decode cX2_raise 111 = .ok (.ior, 1) := by decide +kernel
theorem dX2_raise_112 : decode cX2_raise 112 = .ok (.iload 7, 2) := by decide +kernel
theorem dX2_raise_114 : decode cX2_raise 114 = .ok (.ior, 1) := by decide +kernel
theorem dX2_raise_115 : decode cX2_raise 115 = .ok (.istore_n 2, 1) := by decide +kernel
theorem dX2_raise_116 : decode cX2_raise 116 = .ok (.goto 65, 3) := by decide +kernel
theorem dX2_raise_119 : decode cX2_raise 119 = .ok (.iload 5, 2) := by decide +kernel
theorem dX2_raise_121 : decode cX2_raise 121 = .ok (.ifCond .lt 60, 3) := by decide +kernel
theorem dX2_raise_124 : decode cX2_raise 124 = .ok (.iload 5, 2) := by decide +kernel
theorem dX2_raise_126 : decode cX2_raise 126 = .ok (.aload_n 1, 1) := by decide +kernel
theorem dX2_raise_127 : decode cX2_raise 127 = .ok (.arraylength, 1) := by decide +kernel
theorem dX2_raise_128 : decode cX2_raise 128 = .ok (.if_icmp .ge 53, 3) := by decide +kernel
theorem dX2_raise_131 : decode cX2_raise 131 = .ok (.aload_n 1, 1) := by decide +kernel
theorem dX2_raise_132 : decode cX2_raise 132 = .ok (.iload 5, 2) := by decide +kernel
theorem dX2_raise_134 : decode cX2_raise 134 = .ok (.iaload, 1) := by decide +kernel
theorem dX2_raise_135 : decode cX2_raise 135 = .ok (.aload_n 0, 1) := by decide +kernel
theorem dX2_raise_136 : decode cX2_raise 136 = .ok (.getfield 39, 3) := by decide +kernel
theorem dX2_raise_139 : decode cX2_raise 139 = .ok (.iload 4, 2) := by decide +kernel
theorem dX2_raise_141 : decode cX2_raise 141 = .ok (.iaload, 1) := by decide +kernel
theorem dX2_raise_142 : decode cX2_raise 142 = .ok (.if_icmp .lt 21, 3) := by decide +kernel
theorem dX2_raise_145 : decode cX2_raise 145 = .ok (.aload_n 1, 1) := by decide +kernel
theorem dX2_raise_146 : decode cX2_raise 146 = .ok (.iload 5, 2) := by decide +kernel
theorem dX2_raise_148 : decode cX2_raise 148 = .ok (.iaload, 1) := by decide +kernel
theorem dX2_raise_149 : decode cX2_raise 149 = .ok (.aload_n 0, 1) := by decide +kernel
theorem dX2_raise_150 : decode cX2_raise 150 = .ok (.getfield 42, 3) := by decide +kernel
theorem dX2_raise_153 : decode cX2_raise 153 = .ok (.iload 4, 2) := by decide +kernel
theorem dX2_raise_155 : decode cX2_raise 155 = .ok (.iaload, 1) := by decide +kernel
theorem dX2_raise_156 : decode cX2_raise 156 = .ok (.if_icmp .gt 7, 3) := by decide +kernel
theorem dX2_raise_159 : decode cX2_raise 159 = .ok (.iconst 1, 1) := by decide +kernel
theorem dX2_raise_160 : decode cX2_raise 160 = .ok (.goto 4, 3) := by decide +kernel
theorem dX2_raise_163 : decode cX2_raise 163 = .ok (.iconst 0, 1) := by decide +kernel
theorem dX2_raise_164 : decode cX2_raise 164 = .ok (.istore 8, 2) := by decide +kernel
theorem dX2_raise_166 : decode cX2_raise 166 = .ok (.iload_n 2, 1) := by decide +kernel
theorem dX2_raise_167 : decode cX2_raise 167 = .ok (.iconst 1, 1) := by decide +kernel
theorem dX2_raise_168 : decode cX2_raise 168 = .ok (.ishl, 1) := by decide +kernel
theorem dX2_raise_169 : decode cX2_raise 169 = .ok (.iload 8, 2) := by decide +kernel
theorem dX2_raise_171 : decode cX2_raise 171 = .ok (.ifCond .eq 7, 3) := by decide +kernel
theorem dX2_raise_174 : decode cX2_raise 174 = .ok (.iconst 1, 1) := by decide +kernel
theorem dX2_raise_175 : decode cX2_raise 175 = .ok (.goto 4, 3) := by decide +kernel
theorem dX2_raise_178 : decode cX2_raise 178 = .ok (.iconst 0, 1) := by decide +kernel
theorem dX2_raise_179 : decode cX2_raise 179 = .ok (.ior, 1) := by decide +kernel
theorem dX2_raise_180 : decode cX2_raise 180 = .ok (.istore_n 2, 1) := by decide +kernel
theorem dX2_raise_181 : decode cX2_raise 181 = .ok (.iinc 4 1, 3) := by decide +kernel
theorem dX2_raise_184 : decode cX2_raise 184 = .ok (.goto (-177), 3) := by decide +kernel
theorem dX2_raise_187 : decode cX2_raise 187 = .ok (.iload_n 3, 1) := by decide +kernel
theorem dX2_raise_188 : decode cX2_raise 188 = .ok (.ireturn, 1) := by decide +kernel
theorem dX2_readShare_0 : decode cX2_readShare 0 = .ok (.aload_n 0, 1) := by decide +kernel
theorem dX2_readShare_1 : decode cX2_readShare 1 = .ok (.aload_n 1, 1) := by decide +kernel
theorem dX2_readShare_2 : decode cX2_readShare 2 = .ok (.invokevirtual 81, 3) := by decide +kernel
theorem dX2_readShare_5 : decode cX2_readShare 5 = .ok (.aload_n 0, 1) := by decide +kernel
theorem dX2_readShare_6 : decode cX2_readShare 6 = .ok (.invokevirtual 85, 3) := by decide +kernel
theorem dX2_readShare_9 : decode cX2_readShare 9 = .ok (.ireturn, 1) := by decide +kernel
theorem dX2_readGain_0 : decode cX2_readGain 0 = .ok (.aload_n 0, 1) := by decide +kernel
theorem dX2_readGain_1 : decode cX2_readGain 1 = .ok (.aload_n 1, 1) := by decide +kernel
theorem dX2_readGain_2 : decode cX2_readGain 2 = .ok (.invokevirtual 81, 3) := by decide +kernel
theorem dX2_readGain_5 : decode cX2_readGain 5 = .ok (.aload_n 0, 1) := by decide +kernel
theorem dX2_readGain_6 : decode cX2_readGain 6 = .ok (.invokevirtual 85, 3) := by decide +kernel
theorem dX2_readGain_9 : decode cX2_readGain 9 = .ok (.istore_n 3, 1) := by decide +kernel
theorem dX2_readGain_10 : decode cX2_readGain 10 = .ok (.aload_n 0, 1) := by decide +kernel
theorem dX2_readGain_11 : decode cX2_readGain 11 = .ok (.bipush 32, 2) := by decide +kernel
theorem dX2_readGain_13 : decode cX2_readGain 13 = .ok (.invokevirtual 74, 3) := by decide +kernel
theorem dX2_readGain_16 : decode cX2_readGain 16 = .ok (.pop, 1) := by decide +kernel
theorem dX2_readGain_17 : decode cX2_readGain 17 = .ok (.aload_n 0, 1) := by decide +kernel
theorem dX2_readGain_18 : decode cX2_readGain 18 = .ok (.iconst 0, 1) := by decide +kernel
theorem dX2_readGain_19 : decode cX2_readGain 19 = .ok (.invokevirtual 88, 3) := by decide +kernel
theorem dX2_readGain_22 : decode cX2_readGain 22 = .ok (.aload_n 0, 1) := by decide +kernel
theorem dX2_readGain_23 : decode cX2_readGain 23 = .ok (.bipush (-4), 2) := by decide +kernel
theorem dX2_readGain_25 : decode cX2_readGain 25 = .ok (.iload_n 2, 1) := by decide +kernel
theorem dX2_readGain_26 : decode cX2_readGain 26 = .ok (.iload_n 3, 1) := by decide +kernel
theorem dX2_readGain_27 : decode cX2_readGain 27 = .ok (.imul, 1) := by decide +kernel
theorem dX2_readGain_28 : decode cX2_readGain 28 = .ok (.iconst 0, 1) := by decide +kernel
theorem dX2_readGain_29 : decode cX2_readGain 29 = .ok (.invokevirtual 92, 3) := by decide +kernel
theorem dX2_readGain_32 : decode cX2_readGain 32 = .ok (.return_, 1) := by decide +kernel
theorem dX2_readEither_0 : decode cX2_readEither 0 = .ok (.aload_n 0, 1) := by decide +kernel
theorem dX2_readEither_1 : decode cX2_readEither 1 = .ok (.iload_n 1, 1) := by decide +kernel
theorem dX2_readEither_2 : decode cX2_readEither 2 = .ok (.invokevirtual 96, 3) := by decide +kernel
theorem dX2_readEither_5 : decode cX2_readEither 5 = .ok (.iconst 0, 1) := by decide +kernel
theorem dX2_readEither_6 : decode cX2_readEither 6 = .ok (.istore_n 2, 1) := by decide +kernel
theorem dX2_readEither_7 : decode cX2_readEither 7 = .ok (.iload_n 2, 1) := by decide +kernel
theorem dX2_readEither_8 : decode cX2_readEither 8 = .ok (.aload_n 0, 1) := by decide +kernel
theorem dX2_readEither_9 : decode cX2_readEither 9 = .ok (.getfield 32, 3) := by decide +kernel
theorem dX2_readEither_12 : decode cX2_readEither 12 = .ok (.if_icmp .ge 41, 3) := by decide +kernel
theorem dX2_readEither_15 : decode cX2_readEither 15 = .ok (.aload_n 0, 1) := by decide +kernel
theorem dX2_readEither_16 : decode cX2_readEither 16 = .ok (.invokevirtual 45, 3) := by decide +kernel
theorem dX2_readEither_19 : decode cX2_readEither 19 = .ok (.bipush 124, 2) := by decide +kernel
theorem dX2_readEither_21 : decode cX2_readEither 21 = .ok (.if_icmp .ne 32, 3) := by decide +kernel
theorem dX2_readEither_24 : decode cX2_readEither 24 = .ok (.aload_n 0, 1) := by decide +kernel
theorem dX2_readEither_25 : decode cX2_readEither 25 = .ok (.dup, 1) := by decide +kernel
theorem dX2_readEither_26 : decode cX2_readEither 26 = .ok (.getfield 71, 3) := by decide +kernel
theorem dX2_readEither_29 : decode cX2_readEither 29 = .ok (.iconst 1, 1) := by decide +kernel
theorem dX2_readEither_30 : decode cX2_readEither 30 = .ok (.iadd, 1) := by decide +kernel
theorem dX2_readEither_31 : decode cX2_readEither 31 = .ok (.putfield 71, 3) := by decide +kernel
theorem dX2_readEither_34 : decode cX2_readEither 34 = .ok (.aload_n 0, 1) := by decide +kernel
theorem dX2_readEither_35 : decode cX2_readEither 35 = .ok (.iload_n 1, 1) := by decide +kernel
theorem dX2_readEither_36 : decode cX2_readEither 36 = .ok (.invokevirtual 96, 3) := by decide +kernel
theorem dX2_readEither_39 : decode cX2_readEither 39 = .ok (.aload_n 0, 1) := by decide +kernel
theorem dX2_readEither_40 : decode cX2_readEither 40 = .ok (.bipush (-3), 2) := by decide +kernel
theorem dX2_readEither_42 : decode cX2_readEither 42 = .ok (.iconst 0, 1) := by decide +kernel
theorem dX2_readEither_43 : decode cX2_readEither 43 = .ok (.iconst 0, 1) := by decide +kernel
theorem dX2_readEither_44 : decode cX2_readEither 44 = .ok (.invokevirtual 92, 3) := by decide +kernel
theorem dX2_readEither_47 : decode cX2_readEither 47 = .ok (.iinc 2 1, 3) := by decide +kernel
theorem dX2_readEither_50 : decode cX2_readEither 50 = .ok (.goto (-43), 3) := by decide +kernel
theorem dX2_readEither_53 : decode cX2_readEither 53 = .ok (.return_, 1) := by decide +kernel
theorem dX2_readBoth_0 : decode cX2_readBoth 0 = .ok (.aload_n 0, 1) := by decide +kernel
theorem dX2_readBoth_1 : decode cX2_readBoth 1 = .ok (.iload_n 1, 1) := by decide +kernel
theorem dX2_readBoth_2 : decode cX2_readBoth 2 = .ok (.invokevirtual 99, 3) := by decide +kernel
theorem dX2_readBoth_5 : decode cX2_readBoth 5 = .ok (.iconst 0, 1) := by decide +kernel
theorem dX2_readBoth_6 : decode cX2_readBoth 6 = .ok (.istore_n 2, 1) := by decide +kernel
theorem dX2_readBoth_7 : decode cX2_readBoth 7 = .ok (.iload_n 2, 1) := by decide +kernel
theorem dX2_readBoth_8 : decode cX2_readBoth 8 = .ok (.aload_n 0, 1) := by decide +kernel
theorem dX2_readBoth_9 : decode cX2_readBoth 9 = .ok (.getfield 32, 3) := by decide +kernel
theorem dX2_readBoth_12 : decode cX2_readBoth 12 = .ok (.if_icmp .ge 41, 3) := by decide +kernel
theorem dX2_readBoth_15 : decode cX2_readBoth 15 = .ok (.aload_n 0, 1) := by decide +kernel
theorem dX2_readBoth_16 : decode cX2_readBoth 16 = .ok (.invokevirtual 45, 3) := by decide +kernel
theorem dX2_readBoth_19 : decode cX2_readBoth 19 = .ok (.bipush 38, 2) := by decide +kernel
theorem dX2_readBoth_21 : decode cX2_readBoth 21 = .ok (.if_icmp .ne 32, 3) := by decide +kernel
theorem dX2_readBoth_24 : decode cX2_readBoth 24 = .ok (.aload_n 0, 1) := by decide +kernel
theorem dX2_readBoth_25 : decode cX2_readBoth 25 = .ok (.dup, 1) := by decide +kernel
theorem dX2_readBoth_26 : decode cX2_readBoth 26 = .ok (.getfield 71, 3) := by decide +kernel
theorem dX2_readBoth_29 : decode cX2_readBoth 29 = .ok (.iconst 1, 1) := by decide +kernel
theorem dX2_readBoth_30 : decode cX2_readBoth 30 = .ok (.iadd, 1) := by decide +kernel
theorem dX2_readBoth_31 : decode cX2_readBoth 31 = .ok (.putfield 71, 3) := by decide +kernel
theorem dX2_readBoth_34 : decode cX2_readBoth 34 = .ok (.aload_n 0, 1) := by decide +kernel
theorem dX2_readBoth_35 : decode cX2_readBoth 35 = .ok (.iload_n 1, 1) := by decide +kernel
theorem dX2_readBoth_36 : decode cX2_readBoth 36 = .ok (.invokevirtual 99, 3) := by decide +kernel
theorem dX2_readBoth_39 : decode cX2_readBoth 39 = .ok (.aload_n 0, 1) := by decide +kernel
theorem dX2_readBoth_40 : decode cX2_readBoth 40 = .ok (.bipush (-2), 2) := by decide +kernel
theorem dX2_readBoth_42 : decode cX2_readBoth 42 = .ok (.iconst 0, 1) := by decide +kernel
theorem dX2_readBoth_43 : decode cX2_readBoth 43 = .ok (.iconst 0, 1) := by decide +kernel
theorem dX2_readBoth_44 : decode cX2_readBoth 44 = .ok (.invokevirtual 92, 3) := by decide +kernel
theorem dX2_readBoth_47 : decode cX2_readBoth 47 = .ok (.iinc 2 1, 3) := by decide +kernel
theorem dX2_readBoth_50 : decode cX2_readBoth 50 = .ok (.goto (-43), 3) := by decide +kernel
theorem dX2_readBoth_53 : decode cX2_readBoth 53 = .ok (.return_, 1) := by decide +kernel
theorem dX2_readPart_0 : decode cX2_readPart 0 = .ok (.aload_n 0, 1) := by decide +kernel
theorem dX2_readPart_1 : decode cX2_readPart 1 = .ok (.invokevirtual 45, 3) := by decide +kernel
theorem dX2_readPart_4 : decode cX2_readPart 4 = .ok (.istore_n 2, 1) := by decide +kernel
theorem dX2_readPart_5 : decode cX2_readPart 5 = .ok (.iload_n 2, 1) := by decide +kernel
theorem dX2_readPart_6 : decode cX2_readPart 6 = .ok (.ifCond .ge 7, 3) := by decide +kernel
theorem dX2_readPart_9 : decode cX2_readPart 9 = .ok (.iconst (-1), 1) := by decide +kernel
theorem dX2_readPart_10 : decode cX2_readPart 10 = .ok (.goto 10, 3) := by decide +kernel
theorem dX2_readPart_13 : decode cX2_readPart 13 = .ok (.ldc 102, 2) := by decide +kernel
theorem dX2_readPart_15 : decode cX2_readPart 15 = .ok (.iload_n 2, 1) := by decide +kernel
theorem dX2_readPart_16 : decode cX2_readPart 16 = .ok (.i2c, 1) := by decide +kernel
theorem dX2_readPart_17 : decode cX2_readPart 17 = .ok (.invokevirtual 104, 3) := by decide +kernel
theorem dX2_readPart_20 : decode cX2_readPart 20 = .ok (.istore_n 3, 1) := by decide +kernel
theorem dX2_readPart_21 : decode cX2_readPart 21 = .ok (.iload_n 2, 1) := by decide +kernel
theorem dX2_readPart_22 : decode cX2_readPart 22 = .ok (.bipush 33, 2) := by decide +kernel
theorem dX2_readPart_24 : decode cX2_readPart 24 = .ok (.if_icmp .ne 35, 3) := by decide +kernel
theorem dX2_readPart_27 : decode cX2_readPart 27 = .ok (.iload_n 1, 1) := by decide +kernel
theorem dX2_readPart_28 : decode cX2_readPart 28 = .ok (.iconst 5, 1) := by decide +kernel
theorem dX2_readPart_29 : decode cX2_readPart 29 = .ok (.if_icmp .ge 30, 3) := by decide +kernel
theorem dX2_readPart_32 : decode cX2_readPart 32 = .ok (.aload_n 0, 1) := by decide +kernel
theorem dX2_readPart_33 : decode cX2_readPart 33 = .ok (.dup, 1) := by decide +kernel
theorem dX2_readPart_34 : decode cX2_readPart 34 = .ok (.getfield 71, 3) := by decide +kernel
theorem dX2_readPart_37 : decode cX2_readPart 37 = .ok (.iconst 1, 1) := by decide +kernel
theorem dX2_readPart_38 : decode cX2_readPart 38 = .ok (.iadd, 1) := by decide +kernel
theorem dX2_readPart_39 : decode cX2_readPart 39 = .ok (.putfield 71, 3) := by decide +kernel
theorem dX2_readPart_42 : decode cX2_readPart 42 = .ok (.aload_n 0, 1) := by decide +kernel
theorem dX2_readPart_43 : decode cX2_readPart 43 = .ok (.iload_n 1, 1) := by decide +kernel
theorem dX2_readPart_44 : decode cX2_readPart 44 = .ok (.iconst 1, 1) := by decide +kernel
theorem dX2_readPart_45 : decode cX2_readPart 45 = .ok (.iadd, 1) := by decide +kernel
theorem dX2_readPart_46 : decode cX2_readPart 46 = .ok (.invokevirtual 99, 3) := by decide +kernel
theorem dX2_readPart_49 : decode cX2_readPart 49 = .ok (.aload_n 0, 1) := by decide +kernel
theorem dX2_readPart_50 : decode cX2_readPart 50 = .ok (.iconst (-1), 1) := by decide +kernel
theorem dX2_readPart_51 : decode cX2_readPart 51 = .ok (.iconst 0, 1) := by decide +kernel
theorem dX2_readPart_52 : decode cX2_readPart 52 = .ok (.iconst 0, 1) := by decide +kernel
theorem dX2_readPart_53 : decode cX2_readPart 53 = .ok (.invokevirtual 92, 3) := by decide +kernel
theorem dX2_readPart_56 : decode cX2_readPart 56 = .ok (.goto 165, 3) := by decide +kernel
theorem dX2_readPart_59 : decode cX2_readPart 59 = .ok (.iload_n 2, 1) := by decide +kernel
theorem dX2_readPart_60 : decode cX2_readPart 60 = .ok (.bipush 40, 2) := by decide +kernel
theorem dX2_readPart_62 : decode cX2_readPart 62 = .ok (.if_icmp .ne 35, 3) := by decide +kernel
theorem dX2_readPart_65 : decode cX2_readPart 65 = .ok (.iload_n 1, 1) := by decide +kernel
theorem dX2_readPart_66 : decode cX2_readPart 66 = .ok (.iconst 5, 1) := by decide +kernel
theorem dX2_readPart_67 : decode cX2_readPart 67 = .ok (.if_icmp .ge 30, 3) := by decide +kernel
theorem dX2_readPart_70 : decode cX2_readPart 70 = .ok (.aload_n 0, 1) := by decide +kernel
theorem dX2_readPart_71 : decode cX2_readPart 71 = .ok (.dup, 1) := by decide +kernel
theorem dX2_readPart_72 : decode cX2_readPart 72 = .ok (.getfield 71, 3) := by decide +kernel
theorem dX2_readPart_75 : decode cX2_readPart 75 = .ok (.iconst 1, 1) := by decide +kernel
theorem dX2_readPart_76 : decode cX2_readPart 76 = .ok (.iadd, 1) := by decide +kernel
theorem dX2_readPart_77 : decode cX2_readPart 77 = .ok (.putfield 71, 3) := by decide +kernel
theorem dX2_readPart_80 : decode cX2_readPart 80 = .ok (.aload_n 0, 1) := by decide +kernel
theorem dX2_readPart_81 : decode cX2_readPart 81 = .ok (.iload_n 1, 1) := by decide +kernel
theorem dX2_readPart_82 : decode cX2_readPart 82 = .ok (.iconst 1, 1) := by decide +kernel
theorem dX2_readPart_83 : decode cX2_readPart 83 = .ok (.iadd, 1) := by decide +kernel
theorem dX2_readPart_84 : decode cX2_readPart 84 = .ok (.invokevirtual 88, 3) := by decide +kernel
theorem dX2_readPart_87 : decode cX2_readPart 87 = .ok (.aload_n 0, 1) := by decide +kernel
theorem dX2_readPart_88 : decode cX2_readPart 88 = .ok (.bipush 41, 2) := by decide +kernel
theorem dX2_readPart_90 : decode cX2_readPart 90 = .ok (.invokevirtual 74, 3) := by decide +kernel
theorem dX2_readPart_93 : decode cX2_readPart 93 = .ok (.pop, 1) := by decide +kernel
theorem dX2_readPart_94 : decode cX2_readPart 94 = .ok (.goto 127, 3) := by decide +kernel
theorem dX2_readPart_97 : decode cX2_readPart 97 = .ok (.iload_n 3, 1) := by decide +kernel
theorem dX2_readPart_98 : decode cX2_readPart 98 = .ok (.ifCond .lt 118, 3) := by decide +kernel
theorem dX2_readPart_101 : decode cX2_readPart 101 = .ok (.aload_n 0, 1) := by decide +kernel
theorem dX2_readPart_102 : decode cX2_readPart 102 = .ok (.dup, 1) := by decide +kernel
theorem dX2_readPart_103 : decode cX2_readPart 103 = .ok (.getfield 71, 3) := by decide +kernel
theorem dX2_readPart_106 : decode cX2_readPart 106 = .ok (.iconst 1, 1) := by decide +kernel
theorem dX2_readPart_107 : decode cX2_readPart 107 = .ok (.iadd, 1) := by decide +kernel
theorem dX2_readPart_108 : decode cX2_readPart 108 = .ok (.putfield 71, 3) := by decide +kernel
theorem dX2_readPart_111 : decode cX2_readPart 111 = .ok (.aload_n 0, 1) := by decide +kernel
theorem dX2_readPart_112 : decode cX2_readPart 112 = .ok (.invokevirtual 45, 3) := by decide +kernel
theorem dX2_readPart_115 : decode cX2_readPart 115 = .ok (.istore 4, 2) := by decide +kernel
theorem dX2_readPart_117 : decode cX2_readPart 117 = .ok (.iload 4, 2) := by decide +kernel
theorem dX2_readPart_119 : decode cX2_readPart 119 = .ok (.bipush 60, 2) := by decide +kernel
theorem dX2_readPart_121 : decode cX2_readPart 121 = .ok (.if_icmp .eq 17, 3) := by decide +kernel
theorem dX2_readPart_124 : decode cX2_readPart 124 = .ok (.iload 4, 2) := by decide +kernel
theorem dX2_readPart_126 : decode cX2_readPart 126 = .ok (.bipush 61, 2) := by decide +kernel
theorem dX2_readPart_128 : decode cX2_readPart 128 = .ok (.if_icmp .eq 10, 3) := by decide +kernel
theorem dX2_readPart_131 : decode cX2_readPart 131 = .ok (.iload 4, 2) := by decide +kernel
theorem dX2_readPart_133 : decode cX2_readPart 133 = .ok (.bipush 62, 2) := by decide +kernel
theorem dX2_readPart_135 : decode cX2_readPart 135 = .ok (.if_icmp .ne 16, 3) := by decide +kernel
theorem dX2_readPart_138 : decode cX2_readPart 138 = .ok (.aload_n 0, 1) := by decide +kernel
theorem dX2_readPart_139 : decode cX2_readPart 139 = .ok (.dup, 1) := by decide +kernel
theorem dX2_readPart_140 : decode cX2_readPart 140 = .ok (.getfield 71, 3) := by decide +kernel
theorem dX2_readPart_143 : decode cX2_readPart 143 = .ok (.iconst 1, 1) := by decide +kernel
theorem dX2_readPart_144 : decode cX2_readPart 144 = .ok (.iadd, 1) := by decide +kernel
theorem dX2_readPart_145 : decode cX2_readPart 145 = .ok (.putfield 71, 3) := by decide +kernel
theorem dX2_readPart_148 : decode cX2_readPart 148 = .ok (.goto 8, 3) := by decide +kernel
theorem dX2_readPart_151 : decode cX2_readPart 151 = .ok (.aload_n 0, 1) := by decide +kernel
theorem dX2_readPart_152 : decode cX2_readPart 152 = .ok (.iconst 1, 1) := by decide +kernel
theorem dX2_readPart_153 : decode cX2_readPart 153 = .ok (.putfield 67, 3) := by decide +kernel
theorem dX2_readPart_156 : decode cX2_readPart 156 = .ok (.aload_n 0, 1) := by decide +kernel
theorem dX2_readPart_157 : decode cX2_readPart 157 = .ok (.invokevirtual 85, 3) := by decide +kernel
theorem dX2_readPart_160 : decode cX2_readPart 160 = .ok (.istore 5, 2) := by decide +kernel
theorem dX2_readPart_162 : decode cX2_readPart 162 = .ok (.iload 4, 2) := by decide +kernel
theorem dX2_readPart_164 : decode cX2_readPart 164 = .ok (.bipush 60, 2) := by decide +kernel
theorem dX2_readPart_166 : decode cX2_readPart 166 = .ok (.if_icmp .ne 16, 3) := by decide +kernel
theorem dX2_readPart_169 : decode cX2_readPart 169 = .ok (.aload_n 0, 1) := by decide +kernel
theorem dX2_readPart_170 : decode cX2_readPart 170 = .ok (.iload_n 3, 1) := by decide +kernel
theorem dX2_readPart_171 : decode cX2_readPart 171 = .ok (.iconst 0, 1) := by decide +kernel
theorem dX2_readPart_172 : decode cX2_readPart 172 = .ok (.iload 5, 2) := by decide +kernel
theorem dX2_readPart_174 : decode cX2_readPart 174 = .ok (.iconst 1, 1) := by decide +kernel
theorem dX2_readPart_175 : decode cX2_readPart 175 = .ok (.isub, 1) := by decide +kernel
theorem dX2_readPart_176 : decode cX2_readPart 176 = .ok (.invokevirtual 92, 3) := by decide +kernel
theorem dX2_readPart_179 : decode cX2_readPart 179 = .ok (.goto 34, 3) := by decide +kernel
theorem dX2_readPart_182 : decode cX2_readPart 182 = .ok (.iload 4, 2) := by decide +kernel
theorem dX2_readPart_184 : decode cX2_readPart 184 = .ok (.bipush 61, 2) := by decide +kernel
theorem dX2_readPart_186 : decode cX2_readPart 186 = .ok (.if_icmp .ne 15, 3) := by decide +kernel
theorem dX2_readPart_189 : decode cX2_readPart 189 = .ok (.aload_n 0, 1) := by decide +kernel
theorem dX2_readPart_190 : decode cX2_readPart 190 = .ok (.iload_n 3, 1) := by decide +kernel
theorem dX2_readPart_191 : decode cX2_readPart 191 = .ok (.iload 5, 2) := by decide +kernel
theorem dX2_readPart_193 : decode cX2_readPart 193 = .ok (.iload 5, 2) := by decide +kernel
theorem dX2_readPart_195 : decode cX2_readPart 195 = .ok (.invokevirtual 92, 3) := by decide +kernel
theorem dX2_readPart_198 : decode cX2_readPart 198 = .ok (.goto 15, 3) := by decide +kernel
theorem dX2_readPart_201 : decode cX2_readPart 201 = .ok (.aload_n 0, 1) := by decide +kernel
theorem dX2_readPart_202 : decode cX2_readPart 202 = .ok (.iload_n 3, 1) := by decide +kernel
theorem dX2_readPart_203 : decode cX2_readPart 203 = .ok (.iload 5, 2) := by decide +kernel
theorem dX2_readPart_205 : decode cX2_readPart 205 = .ok (.iconst 1, 1) := by decide +kernel
theorem dX2_readPart_206 : decode cX2_readPart 206 = .ok (.iadd, 1) := by decide +kernel
theorem dX2_readPart_207 : decode cX2_readPart 207 = .ok (.sipush 1000, 3) := by decide +kernel
theorem dX2_readPart_210 : decode cX2_readPart 210 = .ok (.invokevirtual 92, 3) := by decide +kernel
theorem dX2_readPart_213 : decode cX2_readPart 213 = .ok (.goto 8, 3) := by decide +kernel
theorem dX2_readPart_216 : decode cX2_readPart 216 = .ok (.aload_n 0, 1) := by decide +kernel
theorem dX2_readPart_217 : decode cX2_readPart 217 = .ok (.iconst 1, 1) := by decide +kernel
theorem dX2_readPart_218 : decode cX2_readPart 218 = .ok (.putfield 67, 3) := by decide +kernel
theorem dX2_readPart_221 : decode cX2_readPart 221 = .ok (.return_, 1) := by decide +kernel
theorem dX2_readNumber_0 : decode cX2_readNumber 0 = .ok (.aload_n 0, 1) := by decide +kernel
theorem dX2_readNumber_1 : decode cX2_readNumber 1 = .ok (.invokevirtual 45, 3) := by decide +kernel
theorem dX2_readNumber_4 : decode cX2_readNumber 4 = .ok (.istore_n 1, 1) := by decide +kernel
theorem dX2_readNumber_5 : decode cX2_readNumber 5 = .ok (.iload_n 1, 1) := by decide +kernel
theorem dX2_readNumber_6 : decode cX2_readNumber 6 = .ok (.bipush 48, 2) := by decide +kernel
theorem dX2_readNumber_8 : decode cX2_readNumber 8 = .ok (.if_icmp .lt 9, 3) := by decide +kernel
theorem dX2_readNumber_11 : decode cX2_readNumber 11 = .ok (.iload_n 1, 1) := by decide +kernel
theorem dX2_readNumber_12 : decode cX2_readNumber 12 = .ok (.bipush 57, 2) := by decide +kernel
theorem dX2_readNumber_14 : decode cX2_readNumber 14 = .ok (.if_icmp .le 10, 3) := by decide +kernel
theorem dX2_readNumber_17 : decode cX2_readNumber 17 = .ok (.aload_n 0, 1) := by decide +kernel
theorem dX2_readNumber_18 : decode cX2_readNumber 18 = .ok (.iconst 1, 1) := by decide +kernel
theorem dX2_readNumber_19 : decode cX2_readNumber 19 = .ok (.putfield 67, 3) := by decide +kernel
theorem dX2_readNumber_22 : decode cX2_readNumber 22 = .ok (.iconst 0, 1) := by decide +kernel
theorem dX2_readNumber_23 : decode cX2_readNumber 23 = .ok (.ireturn, 1) := by decide +kernel
theorem dX2_readNumber_24 : decode cX2_readNumber 24 = .ok (.aload_n 0, 1) := by decide +kernel
theorem dX2_readNumber_25 : decode cX2_readNumber 25 = .ok (.dup, 1) := by decide +kernel
theorem dX2_readNumber_26 : decode cX2_readNumber 26 = .ok (.getfield 71, 3) := by decide +kernel
theorem dX2_readNumber_29 : decode cX2_readNumber 29 = .ok (.iconst 1, 1) := by decide +kernel
theorem dX2_readNumber_30 : decode cX2_readNumber 30 = .ok (.iadd, 1) := by decide +kernel
theorem dX2_readNumber_31 : decode cX2_readNumber 31 = .ok (.putfield 71, 3) := by decide +kernel
theorem dX2_readNumber_34 : decode cX2_readNumber 34 = .ok (.aload_n 0, 1) := by decide +kernel
theorem dX2_readNumber_35 : decode cX2_readNumber 35 = .ok (.invokevirtual 45, 3) := by decide +kernel
theorem dX2_readNumber_38 : decode cX2_readNumber 38 = .ok (.istore_n 2, 1) := by decide +kernel
theorem dX2_readNumber_39 : decode cX2_readNumber 39 = .ok (.iload_n 1, 1) := by decide +kernel
theorem dX2_readNumber_40 : decode cX2_readNumber 40 = .ok (.bipush 48, 2) := by decide +kernel
theorem dX2_readNumber_42 : decode cX2_readNumber 42 = .ok (.if_icmp .eq 15, 3) := by decide +kernel
theorem dX2_readNumber_45 : decode cX2_readNumber 45 = .ok (.iload_n 2, 1) := by decide +kernel
theorem dX2_readNumber_46 : decode cX2_readNumber 46 = .ok (.bipush 48, 2) := by decide +kernel
theorem dX2_readNumber_48 : decode cX2_readNumber 48 = .ok (.if_icmp .lt 9, 3) := by decide +kernel
theorem dX2_readNumber_51 : decode cX2_readNumber 51 = .ok (.iload_n 2, 1) := by decide +kernel
theorem dX2_readNumber_52 : decode cX2_readNumber 52 = .ok (.bipush 57, 2) := by decide +kernel
theorem dX2_readNumber_54 : decode cX2_readNumber 54 = .ok (.if_icmp .le 8, 3) := by decide +kernel
theorem dX2_readNumber_57 : decode cX2_readNumber 57 = .ok (.iload_n 1, 1) := by decide +kernel
theorem dX2_readNumber_58 : decode cX2_readNumber 58 = .ok (.bipush 48, 2) := by decide +kernel
theorem dX2_readNumber_60 : decode cX2_readNumber 60 = .ok (.isub, 1) := by decide +kernel
theorem dX2_readNumber_61 : decode cX2_readNumber 61 = .ok (.ireturn, 1) := by decide +kernel
theorem dX2_readNumber_62 : decode cX2_readNumber 62 = .ok (.aload_n 0, 1) := by decide +kernel
theorem dX2_readNumber_63 : decode cX2_readNumber 63 = .ok (.dup, 1) := by decide +kernel
theorem dX2_readNumber_64 : decode cX2_readNumber 64 = .ok (.getfield 71, 3) := by decide +kernel
theorem dX2_readNumber_67 : decode cX2_readNumber 67 = .ok (.iconst 1, 1) := by decide +kernel
theorem dX2_readNumber_68 : decode cX2_readNumber 68 = .ok (.iadd, 1) := by decide +kernel
theorem dX2_readNumber_69 : decode cX2_readNumber 69 = .ok (.putfield 71, 3) := by decide +kernel
theorem dX2_readNumber_72 : decode cX2_readNumber 72 = .ok (.bipush 10, 2) := by decide +kernel
theorem dX2_readNumber_74 : decode cX2_readNumber 74 = .ok (.iload_n 1, 1) := by decide +kernel
theorem dX2_readNumber_75 : decode cX2_readNumber 75 = .ok (.bipush 48, 2) := by decide +kernel
theorem dX2_readNumber_77 : decode cX2_readNumber 77 = .ok (.isub, 1) := by decide +kernel
theorem dX2_readNumber_78 : decode cX2_readNumber 78 = .ok (.imul, 1) := by decide +kernel
theorem dX2_readNumber_79 : decode cX2_readNumber 79 = .ok (.iload_n 2, 1) := by decide +kernel
theorem dX2_readNumber_80 : decode cX2_readNumber 80 = .ok (.iadd, 1) := by decide +kernel
theorem dX2_readNumber_81 : decode cX2_readNumber 81 = .ok (.bipush 48, 2) := by decide +kernel
theorem dX2_readNumber_83 : decode cX2_readNumber 83 = .ok (.isub, 1) := by decide +kernel
theorem dX2_readNumber_84 : decode cX2_readNumber 84 = .ok (.ireturn, 1) := by decide +kernel
theorem dX2_sign_0 : decode cX2_sign 0 = .ok (.aload_n 0, 1) := by decide +kernel
theorem dX2_sign_1 : decode cX2_sign 1 = .ok (.getfield 67, 3) := by decide +kernel
theorem dX2_sign_4 : decode cX2_sign 4 = .ok (.ifCond .ne 21, 3) := by decide +kernel
theorem dX2_sign_7 : decode cX2_sign 7 = .ok (.aload_n 0, 1) := by decide +kernel
theorem dX2_sign_8 : decode cX2_sign 8 = .ok (.getfield 71, 3) := by decide +kernel
theorem dX2_sign_11 : decode cX2_sign 11 = .ok (.ifCond .lt 14, 3) := by decide +kernel
theorem dX2_sign_14 : decode cX2_sign 14 = .ok (.aload_n 0, 1) := by decide +kernel
theorem dX2_sign_15 : decode cX2_sign 15 = .ok (.getfield 71, 3) := by decide +kernel
theorem dX2_sign_18 : decode cX2_sign 18 = .ok (.aload_n 0, 1) := by decide +kernel
theorem dX2_sign_19 : decode cX2_sign 19 = .ok (.getfield 32, 3) := by decide +kernel
theorem dX2_sign_22 : decode cX2_sign 22 = .ok (.if_icmp .lt 7, 3) := by decide +kernel
theorem dX2_sign_25 : decode cX2_sign 25 = .ok (.iconst (-1), 1) := by decide +kernel
theorem dX2_sign_26 : decode cX2_sign 26 = .ok (.goto 12, 3) := by decide +kernel
theorem dX2_sign_29 : decode cX2_sign 29 = .ok (.aload_n 0, 1) := by decide +kernel
theorem dX2_sign_30 : decode cX2_sign 30 = .ok (.getfield 19, 3) := by decide +kernel
theorem dX2_sign_33 : decode cX2_sign 33 = .ok (.aload_n 0, 1) := by decide +kernel
theorem dX2_sign_34 : decode cX2_sign 34 = .ok (.getfield 71, 3) := by decide +kernel
theorem dX2_sign_37 : decode cX2_sign 37 = .ok (.caload, 1) := by decide +kernel
theorem dX2_sign_38 : decode cX2_sign 38 = .ok (.ireturn, 1) := by decide +kernel
theorem dX2_takeAll_0 : decode cX2_takeAll 0 = .ok (.iconst 0, 1) := by decide +kernel
theorem dX2_takeAll_1 : decode cX2_takeAll 1 = .ok (.istore_n 2, 1) := by decide +kernel
theorem dX2_takeAll_2 : decode cX2_takeAll 2 = .ok (.iload_n 2, 1) := by decide +kernel
theorem dX2_takeAll_3 : decode cX2_takeAll 3 = .ok (.aload_n 1, 1) := by decide +kernel
theorem dX2_takeAll_4 : decode cX2_takeAll 4 = .ok (.invokevirtual 110, 3) := by decide +kernel
theorem dX2_takeAll_7 : decode cX2_takeAll 7 = .ok (.if_icmp .ge 19, 3) := by decide +kernel
theorem dX2_takeAll_10 : decode cX2_takeAll 10 = .ok (.aload_n 0, 1) := by decide +kernel
theorem dX2_takeAll_11 : decode cX2_takeAll 11 = .ok (.aload_n 1, 1) := by decide +kernel
theorem dX2_takeAll_12 : decode cX2_takeAll 12 = .ok (.iload_n 2, 1) := by decide +kernel
theorem dX2_takeAll_13 : decode cX2_takeAll 13 = .ok (.invokevirtual 113, 3) := by decide +kernel
theorem dX2_takeAll_16 : decode cX2_takeAll 16 = .ok (.invokevirtual 74, 3) := by decide +kernel
theorem dX2_takeAll_19 : decode cX2_takeAll 19 = .ok (.pop, 1) := by decide +kernel
theorem dX2_takeAll_20 : decode cX2_takeAll 20 = .ok (.iinc 2 1, 3) := by decide +kernel
theorem dX2_takeAll_23 : decode cX2_takeAll 23 = .ok (.goto (-21), 3) := by decide +kernel
theorem dX2_takeAll_26 : decode cX2_takeAll 26 = .ok (.return_, 1) := by decide +kernel
theorem dX2_take_0 : decode cX2_take 0 = .ok (.aload_n 0, 1) := by decide +kernel
theorem dX2_take_1 : decode cX2_take 1 = .ok (.invokevirtual 45, 3) := by decide +kernel
theorem dX2_take_4 : decode cX2_take 4 = .ok (.iload_n 1, 1) := by decide +kernel
theorem dX2_take_5 : decode cX2_take 5 = .ok (.if_icmp .eq 11, 3) := by decide +kernel
theorem dX2_take_8 : decode cX2_take 8 = .ok (.aload_n 0, 1) := by decide +kernel
theorem dX2_take_9 : decode cX2_take 9 = .ok (.iconst 1, 1) := by decide +kernel
theorem dX2_take_10 : decode cX2_take 10 = .ok (.putfield 67, 3) := by decide +kernel
theorem dX2_take_13 : decode cX2_take 13 = .ok (.goto 13, 3) := by decide +kernel
theorem dX2_take_16 : decode cX2_take 16 = .ok (.aload_n 0, 1) := by decide +kernel
theorem dX2_take_17 : decode cX2_take 17 = .ok (.dup, 1) := by decide +kernel
theorem dX2_take_18 : decode cX2_take 18 = .ok (.getfield 71, 3) := by decide +kernel
theorem dX2_take_21 : decode cX2_take 21 = .ok (.iconst 1, 1) := by decide +kernel
theorem dX2_take_22 : decode cX2_take 22 = .ok (.iadd, 1) := by decide +kernel
theorem dX2_take_23 : decode cX2_take 23 = .ok (.putfield 71, 3) := by decide +kernel
theorem dX2_take_26 : decode cX2_take 26 = .ok (.aload_n 0, 1) := by decide +kernel
theorem dX2_take_27 : decode cX2_take 27 = .ok (.getfield 67, 3) := by decide +kernel
theorem dX2_take_30 : decode cX2_take 30 = .ok (.ifCond .ne 7, 3) := by decide +kernel
theorem dX2_take_33 : decode cX2_take 33 = .ok (.iconst 1, 1) := by decide +kernel
theorem dX2_take_34 : decode cX2_take 34 = .ok (.goto 4, 3) := by decide +kernel
theorem dX2_take_37 : decode cX2_take 37 = .ok (.iconst 0, 1) := by decide +kernel
theorem dX2_take_38 : decode cX2_take 38 = .ok (.ireturn, 1) := by decide +kernel
theorem dX2_add_0 : decode cX2_add 0 = .ok (.aload_n 0, 1) := by decide +kernel
theorem dX2_add_1 : decode cX2_add 1 = .ok (.getfield 67, 3) := by decide +kernel
theorem dX2_add_4 : decode cX2_add 4 = .ok (.ifCond .ne 14, 3) := by decide +kernel
theorem dX2_add_7 : decode cX2_add 7 = .ok (.aload_n 0, 1) := by decide +kernel
theorem dX2_add_8 : decode cX2_add 8 = .ok (.getfield 78, 3) := by decide +kernel
theorem dX2_add_11 : decode cX2_add 11 = .ok (.aload_n 0, 1) := by decide +kernel
theorem dX2_add_12 : decode cX2_add 12 = .ok (.getfield 32, 3) := by decide +kernel
theorem dX2_add_15 : decode cX2_add 15 = .ok (.if_icmp .lt 4, 3) := by decide +kernel
theorem dX2_add_18 : decode cX2_add 18 = .ok (.return_, 1) := by decide +kernel
theorem dX2_add_19 : decode cX2_add 19 = .ok (.aload_n 0, 1) := by decide +kernel
theorem dX2_add_20 : decode cX2_add 20 = .ok (.getfield 35, 3) := by decide +kernel
theorem dX2_add_23 : decode cX2_add 23 = .ok (.aload_n 0, 1) := by decide +kernel
theorem dX2_add_24 : decode cX2_add 24 = .ok (.getfield 78, 3) := by decide +kernel
theorem dX2_add_27 : decode cX2_add 27 = .ok (.iload_n 1, 1) := by decide +kernel
theorem dX2_add_28 : decode cX2_add 28 = .ok (.iastore, 1) := by decide +kernel
theorem dX2_add_29 : decode cX2_add 29 = .ok (.aload_n 0, 1) := by decide +kernel
theorem dX2_add_30 : decode cX2_add 30 = .ok (.getfield 39, 3) := by decide +kernel
theorem dX2_add_33 : decode cX2_add 33 = .ok (.aload_n 0, 1) := by decide +kernel
theorem dX2_add_34 : decode cX2_add 34 = .ok (.getfield 78, 3) := by decide +kernel
theorem dX2_add_37 : decode cX2_add 37 = .ok (.iload_n 2, 1) := by decide +kernel
theorem dX2_add_38 : decode cX2_add 38 = .ok (.iastore, 1) := by decide +kernel
theorem dX2_add_39 : decode cX2_add 39 = .ok (.aload_n 0, 1) := by decide +kernel
theorem dX2_add_40 : decode cX2_add 40 = .ok (.getfield 42, 3) := by decide +kernel
theorem dX2_add_43 : decode cX2_add 43 = .ok (.aload_n 0, 1) := by decide +kernel
theorem dX2_add_44 : decode cX2_add 44 = .ok (.getfield 78, 3) := by decide +kernel
theorem dX2_add_47 : decode cX2_add 47 = .ok (.iload_n 3, 1) := by decide +kernel
theorem dX2_add_48 : decode cX2_add 48 = .ok (.iastore, 1) := by decide +kernel
theorem dX2_add_49 : decode cX2_add 49 = .ok (.aload_n 0, 1) := by decide +kernel
theorem dX2_add_50 : decode cX2_add 50 = .ok (.dup, 1) := by decide +kernel
theorem dX2_add_51 : decode cX2_add 51 = .ok (.getfield 78, 3) := by decide +kernel
theorem dX2_add_54 : decode cX2_add 54 = .ok (.iconst 1, 1) := by decide +kernel
theorem dX2_add_55 : decode cX2_add 55 = .ok (.iadd, 1) := by decide +kernel
theorem dX2_add_56 : decode cX2_add 56 = .ok (.putfield 78, 3) := by decide +kernel
theorem dX2_add_59 : decode cX2_add 59 = .ok (.return_, 1) := by decide +kernel
theorem dX3_init_0 : decode cX3_init 0 = .ok (.aload_n 0, 1) := by decide +kernel
theorem dX3_init_1 : decode cX3_init 1 = .ok (.iload_n 1, 1) := by decide +kernel
theorem dX3_init_2 : decode cX3_init 2 = .ok (.iload_n 2, 1) := by decide +kernel
theorem dX3_init_3 : decode cX3_init 3 = .ok (.iload_n 3, 1) := by decide +kernel
theorem dX3_init_4 : decode cX3_init 4 = .ok (.iload 4, 2) := by decide +kernel
theorem dX3_init_6 : decode cX3_init 6 = .ok (.invokespecial 1, 3) := by decide +kernel
theorem dX3_init_9 : decode cX3_init 9 = .ok (.return_, 1) := by decide +kernel
theorem dX3_lineUp_0 : decode cX3_lineUp 0 = .ok (.iconst (-1), 1) := by decide +kernel
theorem dX3_lineUp_1 : decode cX3_lineUp 1 = .ok (.istore 5, 2) := by decide +kernel
theorem dX3_lineUp_3 : decode cX3_lineUp 3 = .ok (.iconst 0, 1) := by decide +kernel
theorem dX3_lineUp_4 : decode cX3_lineUp 4 = .ok (.istore 6, 2) := by decide +kernel
theorem dX3_lineUp_6 : decode cX3_lineUp 6 = .ok (.iload 6, 2) := by decide +kernel
theorem dX3_lineUp_8 : decode cX3_lineUp 8 = .ok (.iload_n 2, 1) := by decide +kernel
theorem dX3_lineUp_9 : decode cX3_lineUp 9 = .ok (.if_icmp .ge 24, 3) := by decide +kernel
theorem dX3_lineUp_12 : decode cX3_lineUp 12 = .ok (.aload_n 1, 1) := by decide +kernel
theorem dX3_lineUp_13 : decode cX3_lineUp 13 = .ok (.iload 6, 2) := by decide +kernel
theorem dX3_lineUp_15 : decode cX3_lineUp 15 = .ok (.iaload, 1) := by decide +kernel
theorem dX3_lineUp_16 : decode cX3_lineUp 16 = .ok (.aload_n 0, 1) := by decide +kernel
theorem dX3_lineUp_17 : decode cX3_lineUp 17 = .ok (.getfield 7, 3) := by decide +kernel
theorem dX3_lineUp_20 : decode cX3_lineUp 20 = .ok (.if_icmp .ne 7, 3) := by decide +kernel
theorem dX3_lineUp_23 : decode cX3_lineUp 23 = .ok (.iload 6, 2) := by decide +kernel
theorem dX3_lineUp_25 : decode cX3_lineUp 25 = .ok (.istore 5, 2) := by decide +kernel
theorem dX3_lineUp_27 : decode cX3_lineUp 27 = .ok (.iinc 6 1, 3) := by decide +kernel
theorem dX3_lineUp_30 : decode cX3_lineUp 30 = .ok (.goto (-24), 3) := by decide +kernel
theorem dX3_lineUp_33 : decode cX3_lineUp 33 = .ok (.iload 5, 2) := by decide +kernel
theorem dX3_lineUp_35 : decode cX3_lineUp 35 = .ok (.ifCond .ge 13, 3) := by decide +kernel
theorem dX3_lineUp_38 : decode cX3_lineUp 38 = .ok (.aload_n 0, 1) := by decide +kernel
theorem dX3_lineUp_39 : decode cX3_lineUp 39 = .ok (.aload_n 1, 1) := by decide +kernel
theorem dX3_lineUp_40 : decode cX3_lineUp 40 = .ok (.iload_n 2, 1) := by decide +kernel
theorem dX3_lineUp_41 : decode cX3_lineUp 41 = .ok (.iload_n 3, 1) := by decide +kernel
theorem dX3_lineUp_42 : decode cX3_lineUp 42 = .ok (.aload 4, 2) := by decide +kernel
theorem dX3_lineUp_44 : decode cX3_lineUp 44 = .ok (.invokespecial 13, 3) := by decide +kernel
theorem dX3_lineUp_47 : decode cX3_lineUp 47 = .ok (.return_, 1) := by decide +kernel
theorem dX3_lineUp_48 : decode cX3_lineUp 48 = .ok (.aload 4, 2) := by decide +kernel
theorem dX3_lineUp_50 : decode cX3_lineUp 50 = .ok (.iconst 0, 1) := by decide +kernel
theorem dX3_lineUp_51 : decode cX3_lineUp 51 = .ok (.aload_n 0, 1) := by decide +kernel
theorem dX3_lineUp_52 : decode cX3_lineUp 52 = .ok (.getfield 7, 3) := by decide +kernel
theorem dX3_lineUp_55 : decode cX3_lineUp 55 = .ok (.iastore, 1) := by decide +kernel
theorem dX3_lineUp_56 : decode cX3_lineUp 56 = .ok (.iload_n 2, 1) := by decide +kernel
theorem dX3_lineUp_57 : decode cX3_lineUp 57 = .ok (.iconst 1, 1) := by decide +kernel
theorem dX3_lineUp_58 : decode cX3_lineUp 58 = .ok (.isub, 1) := by decide +kernel
theorem dX3_lineUp_59 : decode cX3_lineUp 59 = .ok (.istore 6, 2) := by decide +kernel
theorem dX3_lineUp_61 : decode cX3_lineUp 61 = .ok (.iconst 0, 1) := by decide +kernel
theorem dX3_lineUp_62 : decode cX3_lineUp 62 = .ok (.istore 7, 2) := by decide +kernel
theorem dX3_lineUp_64 : decode cX3_lineUp 64 = .ok (.iload 7, 2) := by decide +kernel
theorem dX3_lineUp_66 : decode cX3_lineUp 66 = .ok (.iload 6, 2) := by decide +kernel
theorem dX3_lineUp_68 : decode cX3_lineUp 68 = .ok (.if_icmp .ge 43, 3) := by decide +kernel
theorem dX3_lineUp_71 : decode cX3_lineUp 71 = .ok (.iload_n 3, 1) := by decide +kernel
theorem dX3_lineUp_72 : decode cX3_lineUp 72 = .ok (.iload 7, 2) := by decide +kernel
theorem dX3_lineUp_74 : decode cX3_lineUp 74 = .ok (.iadd, 1) := by decide +kernel
theorem dX3_lineUp_75 : decode cX3_lineUp 75 = .ok (.iload 6, 2) := by decide +kernel
theorem dX3_lineUp_77 : decode cX3_lineUp 77 = .ok (.irem, 1) := by decide +kernel
theorem dX3_lineUp_78 : decode cX3_lineUp 78 = .ok (.istore 8, 2) := by decide +kernel
theorem dX3_lineUp_80 : decode cX3_lineUp 80 = .ok (.aload 4, 2) := by decide +kernel
theorem dX3_lineUp_82 : decode cX3_lineUp 82 = .ok (.iload 7, 2) := by decide +kernel
theorem dX3_lineUp_84 : decode cX3_lineUp 84 = .ok (.iconst 1, 1) := by decide +kernel
theorem dX3_lineUp_85 : decode cX3_lineUp 85 = .ok (.iadd, 1) := by decide +kernel
theorem dX3_lineUp_86 : decode cX3_lineUp 86 = .ok (.aload_n 1, 1) := by decide +kernel
theorem dX3_lineUp_87 : decode cX3_lineUp 87 = .ok (.iload 8, 2) := by decide +kernel
theorem dX3_lineUp_89 : decode cX3_lineUp 89 = .ok (.iload 5, 2) := by decide +kernel
theorem dX3_lineUp_91 : decode cX3_lineUp 91 = .ok (.if_icmp .ge 8, 3) := by decide +kernel
theorem dX3_lineUp_94 : decode cX3_lineUp 94 = .ok (.iload 8, 2) := by decide +kernel
theorem dX3_lineUp_96 : decode cX3_lineUp 96 = .ok (.goto 7, 3) := by decide +kernel
theorem dX3_lineUp_99 : decode cX3_lineUp 99 = .ok (.iload 8, 2) := by decide +kernel
theorem dX3_lineUp_101 : decode cX3_lineUp 101 = .ok (.iconst 1, 1) := by decide +kernel
theorem dX3_lineUp_102 : decode cX3_lineUp 102 = .ok (.iadd, 1) := by decide +kernel
theorem dX3_lineUp_103 : decode cX3_lineUp 103 = .ok (.iaload, 1) := by decide +kernel
theorem dX3_lineUp_104 : decode cX3_lineUp 104 = .ok (.iastore, 1) := by decide +kernel
theorem dX3_lineUp_105 : decode cX3_lineUp 105 = .ok (.iinc 7 1, 3) := by decide +kernel
theorem dX3_lineUp_108 : decode cX3_lineUp 108 = .ok (.goto (-44), 3) := by decide +kernel
theorem dX3_lineUp_111 : decode cX3_lineUp 111 = .ok (.return_, 1) := by decide +kernel
theorem dX3_works_0 : decode cX3_works 0 = .ok (.aload_n 2, 1) := by decide +kernel
theorem dX3_works_1 : decode cX3_works 1 = .ok (.bipush 51, 2) := by decide +kernel
theorem dX3_works_3 : decode cX3_works 3 = .ok (.invokevirtual 17, 3) := by decide +kernel
theorem dX3_works_6 : decode cX3_works 6 = .ok (.aload_n 0, 1) := by decide +kernel
theorem dX3_works_7 : decode cX3_works 7 = .ok (.iload_n 1, 1) := by decide +kernel
theorem dX3_works_8 : decode cX3_works 8 = .ok (.aload_n 2, 1) := by decide +kernel
theorem dX3_works_9 : decode cX3_works 9 = .ok (.invokespecial 23, 3) := by decide +kernel
theorem dX3_works_12 : decode cX3_works 12 = .ok (.aload_n 0, 1) := by decide +kernel
theorem dX3_works_13 : decode cX3_works 13 = .ok (.getfield 27, 3) := by decide +kernel
theorem dX3_works_16 : decode cX3_works 16 = .ok (.ixor, 1) := by decide +kernel
theorem dX3_works_17 : decode cX3_works 17 = .ok (.ireturn, 1) := by decide +kernel
theorem dX4_init_0 : decode cX4_init 0 = .ok (.aload_n 0, 1) := by decide +kernel
theorem dX4_init_1 : decode cX4_init 1 = .ok (.iload_n 1, 1) := by decide +kernel
theorem dX4_init_2 : decode cX4_init 2 = .ok (.iload_n 2, 1) := by decide +kernel
theorem dX4_init_3 : decode cX4_init 3 = .ok (.iload_n 3, 1) := by decide +kernel
theorem dX4_init_4 : decode cX4_init 4 = .ok (.iload 4, 2) := by decide +kernel
theorem dX4_init_6 : decode cX4_init 6 = .ok (.invokespecial 1, 3) := by decide +kernel
theorem dX4_init_9 : decode cX4_init 9 = .ok (.return_, 1) := by decide +kernel
theorem dX4_seen_0 : decode cX4_seen 0 = .ok (.iload_n 1, 1) := by decide +kernel
theorem dX4_seen_1 : decode cX4_seen 1 = .ok (.bipush 10, 2) := by decide +kernel
theorem dX4_seen_3 : decode cX4_seen 3 = .ok (.aload_n 0, 1) := by decide +kernel
theorem dX4_seen_4 : decode cX4_seen 4 = .ok (.getfield 7, 3) := by decide +kernel
theorem dX4_seen_7 : decode cX4_seen 7 = .ok (.isub, 1) := by decide +kernel
theorem dX4_seen_8 : decode cX4_seen 8 = .ok (.imul, 1) := by decide +kernel
theorem dX4_seen_9 : decode cX4_seen 9 = .ok (.iload_n 2, 1) := by decide +kernel
theorem dX4_seen_10 : decode cX4_seen 10 = .ok (.aload_n 0, 1) := by decide +kernel
theorem dX4_seen_11 : decode cX4_seen 11 = .ok (.getfield 7, 3) := by decide +kernel
theorem dX4_seen_14 : decode cX4_seen 14 = .ok (.imul, 1) := by decide +kernel
theorem dX4_seen_15 : decode cX4_seen 15 = .ok (.iadd, 1) := by decide +kernel
theorem dX4_seen_16 : decode cX4_seen 16 = .ok (.bipush 10, 2) := by decide +kernel
theorem dX4_seen_18 : decode cX4_seen 18 = .ok (.idiv, 1) := by decide +kernel
theorem dX4_seen_19 : decode cX4_seen 19 = .ok (.ireturn, 1) := by decide +kernel
theorem dX4_levels_0 : decode cX4_levels 0 = .ok (.aload_n 2, 1) := by decide +kernel
theorem dX4_levels_1 : decode cX4_levels 1 = .ok (.bipush 31, 2) := by decide +kernel
theorem dX4_levels_3 : decode cX4_levels 3 = .ok (.invokevirtual 13, 3) := by decide +kernel
theorem dX4_levels_6 : decode cX4_levels 6 = .ok (.aload_n 0, 1) := by decide +kernel
theorem dX4_levels_7 : decode cX4_levels 7 = .ok (.iload_n 1, 1) := by decide +kernel
theorem dX4_levels_8 : decode cX4_levels 8 = .ok (.aload_n 2, 1) := by decide +kernel
theorem dX4_levels_9 : decode cX4_levels 9 = .ok (.invokespecial 19, 3) := by decide +kernel
theorem dX4_levels_12 : decode cX4_levels 12 = .ok (.bipush 7, 2) := by decide +kernel
theorem dX4_levels_14 : decode cX4_levels 14 = .ok (.ixor, 1) := by decide +kernel
theorem dX4_levels_15 : decode cX4_levels 15 = .ok (.ireturn, 1) := by decide +kernel
theorem dX5_init_0 : decode cX5_init 0 = .ok (.aload_n 0, 1) := by decide +kernel
theorem dX5_init_1 : decode cX5_init 1 = .ok (.iload_n 1, 1) := by decide +kernel
theorem dX5_init_2 : decode cX5_init 2 = .ok (.iload_n 2, 1) := by decide +kernel
theorem dX5_init_3 : decode cX5_init 3 = .ok (.iload_n 3, 1) := by decide +kernel
theorem dX5_init_4 : decode cX5_init 4 = .ok (.iload 4, 2) := by decide +kernel
theorem dX5_init_6 : decode cX5_init 6 = .ok (.invokespecial 1, 3) := by decide +kernel
theorem dX5_init_9 : decode cX5_init 9 = .ok (.return_, 1) := by decide +kernel
theorem dX5_favour_0 : decode cX5_favour 0 = .ok (.aload_n 0, 1) := by decide +kernel
theorem dX5_favour_1 : decode cX5_favour 1 = .ok (.getfield 7, 3) := by decide +kernel
theorem dX5_favour_4 : decode cX5_favour 4 = .ok (.ireturn, 1) := by decide +kernel
theorem dX5_works_0 : decode cX5_works 0 = .ok (.aload_n 2, 1) := by decide +kernel
theorem dX5_works_1 : decode cX5_works 1 = .ok (.bipush 11, 2) := by decide +kernel
theorem dX5_works_3 : decode cX5_works 3 = .ok (.invokevirtual 13, 3) := by decide +kernel
theorem dX5_works_6 : decode cX5_works 6 = .ok (.aload_n 0, 1) := by decide +kernel
theorem dX5_works_7 : decode cX5_works 7 = .ok (.iload_n 1, 1) := by decide +kernel
theorem dX5_works_8 : decode cX5_works 8 = .ok (.iconst 3, 1) := by decide +kernel
theorem dX5_works_9 : decode cX5_works 9 = .ok (.imul, 1) := by decide +kernel
theorem dX5_works_10 : decode cX5_works 10 = .ok (.aload_n 2, 1) := by decide +kernel
theorem dX5_works_11 : decode cX5_works 11 = .ok (.invokespecial 19, 3) := by decide +kernel
theorem dX5_works_14 : decode cX5_works 14 = .ok (.ireturn, 1) := by decide +kernel
theorem dX6_init_0 : decode cX6_init 0 = .ok (.aload_n 0, 1) := by decide +kernel
theorem dX6_init_1 : decode cX6_init 1 = .ok (.iload_n 1, 1) := by decide +kernel
theorem dX6_init_2 : decode cX6_init 2 = .ok (.iload_n 2, 1) := by decide +kernel
theorem dX6_init_3 : decode cX6_init 3 = .ok (.iload_n 3, 1) := by decide +kernel
theorem dX6_init_4 : decode cX6_init 4 = .ok (.iload 4, 2) := by decide +kernel
theorem dX6_init_6 : decode cX6_init 6 = .ok (.invokespecial 1, 3) := by decide +kernel
theorem dX6_init_9 : decode cX6_init 9 = .ok (.return_, 1) := by decide +kernel
theorem dX6_favour_0 : decode cX6_favour 0 = .ok (.aload_n 0, 1) := by decide +kernel
theorem dX6_favour_1 : decode cX6_favour 1 = .ok (.iload_n 1, 1) := by decide +kernel
theorem dX6_favour_2 : decode cX6_favour 2 = .ok (.invokespecial 7, 3) := by decide +kernel
theorem dX6_favour_5 : decode cX6_favour 5 = .ok (.bipush 9, 2) := by decide +kernel
theorem dX6_favour_7 : decode cX6_favour 7 = .ok (.iadd, 1) := by decide +kernel
theorem dX6_favour_8 : decode cX6_favour 8 = .ok (.aload_n 0, 1) := by decide +kernel
theorem dX6_favour_9 : decode cX6_favour 9 = .ok (.getfield 11, 3) := by decide +kernel
theorem dX6_favour_12 : decode cX6_favour 12 = .ok (.iload_n 1, 1) := by decide +kernel
theorem dX6_favour_13 : decode cX6_favour 13 = .ok (.isub, 1) := by decide +kernel
theorem dX6_favour_14 : decode cX6_favour 14 = .ok (.invokestatic 17, 3) := by decide +kernel
theorem dX6_favour_17 : decode cX6_favour 17 = .ok (.isub, 1) := by decide +kernel
theorem dX6_favour_18 : decode cX6_favour 18 = .ok (.ireturn, 1) := by decide +kernel
theorem dX6_levels_0 : decode cX6_levels 0 = .ok (.aload_n 2, 1) := by decide +kernel
theorem dX6_levels_1 : decode cX6_levels 1 = .ok (.bipush 41, 2) := by decide +kernel
theorem dX6_levels_3 : decode cX6_levels 3 = .ok (.invokevirtual 22, 3) := by decide +kernel
theorem dX6_levels_6 : decode cX6_levels 6 = .ok (.aload_n 0, 1) := by decide +kernel
theorem dX6_levels_7 : decode cX6_levels 7 = .ok (.iload_n 1, 1) := by decide +kernel
theorem dX6_levels_8 : decode cX6_levels 8 = .ok (.iconst 1, 1) := by decide +kernel
theorem dX6_levels_9 : decode cX6_levels 9 = .ok (.isub, 1) := by decide +kernel
theorem dX6_levels_10 : decode cX6_levels 10 = .ok (.aload_n 2, 1) := by decide +kernel
theorem dX6_levels_11 : decode cX6_levels 11 = .ok (.invokespecial 28, 3) := by decide +kernel
theorem dX6_levels_14 : decode cX6_levels 14 = .ok (.aload_n 0, 1) := by decide +kernel
theorem dX6_levels_15 : decode cX6_levels 15 = .ok (.iconst 2, 1) := by decide +kernel
theorem dX6_levels_16 : decode cX6_levels 16 = .ok (.aload_n 2, 1) := by decide +kernel
theorem dX6_levels_17 : decode cX6_levels 17 = .ok (.invokevirtual 32, 3) := by decide +kernel
theorem dX6_levels_20 : decode cX6_levels 20 = .ok (.iadd, 1) := by decide +kernel
theorem dX6_levels_21 : decode cX6_levels 21 = .ok (.ireturn, 1) := by decide +kernel
theorem dX7_init_0 : decode cX7_init 0 = .ok (.aload_n 0, 1) := by decide +kernel
theorem dX7_init_1 : decode cX7_init 1 = .ok (.iload_n 1, 1) := by decide +kernel
theorem dX7_init_2 : decode cX7_init 2 = .ok (.iload_n 2, 1) := by decide +kernel
theorem dX7_init_3 : decode cX7_init 3 = .ok (.iload_n 3, 1) := by decide +kernel
theorem dX7_init_4 : decode cX7_init 4 = .ok (.iload 4, 2) := by decide +kernel
theorem dX7_init_6 : decode cX7_init 6 = .ok (.invokespecial 1, 3) := by decide +kernel
theorem dX7_init_9 : decode cX7_init 9 = .ok (.return_, 1) := by decide +kernel
theorem dX7_favour_0 : decode cX7_favour 0 = .ok (.iconst 2, 1) := by decide +kernel
theorem dX7_favour_1 : decode cX7_favour 1 = .ok (.aload_n 0, 1) := by decide +kernel
theorem dX7_favour_2 : decode cX7_favour 2 = .ok (.getfield 7, 3) := by decide +kernel
theorem dX7_favour_5 : decode cX7_favour 5 = .ok (.imul, 1) := by decide +kernel
theorem dX7_favour_6 : decode cX7_favour 6 = .ok (.ireturn, 1) := by decide +kernel
theorem dX7_grades_0 : decode cX7_grades 0 = .ok (.aload_n 2, 1) := by decide +kernel
theorem dX7_grades_1 : decode cX7_grades 1 = .ok (.bipush 61, 2) := by decide +kernel
theorem dX7_grades_3 : decode cX7_grades 3 = .ok (.invokevirtual 13, 3) := by decide +kernel
theorem dX7_grades_6 : decode cX7_grades 6 = .ok (.aload_n 0, 1) := by decide +kernel
theorem dX7_grades_7 : decode cX7_grades 7 = .ok (.iload_n 1, 1) := by decide +kernel
theorem dX7_grades_8 : decode cX7_grades 8 = .ok (.aload_n 2, 1) := by decide +kernel
theorem dX7_grades_9 : decode cX7_grades 9 = .ok (.invokespecial 19, 3) := by decide +kernel
theorem dX7_grades_12 : decode cX7_grades 12 = .ok (.aload_n 0, 1) := by decide +kernel
theorem dX7_grades_13 : decode cX7_grades 13 = .ok (.getfield 7, 3) := by decide +kernel
theorem dX7_grades_16 : decode cX7_grades 16 = .ok (.iadd, 1) := by decide +kernel
theorem dX7_grades_17 : decode cX7_grades 17 = .ok (.ireturn, 1) := by decide +kernel
theorem dX8_init_0 : decode cX8_init 0 = .ok (.aload_n 0, 1) := by decide +kernel
theorem dX8_init_1 : decode cX8_init 1 = .ok (.invokespecial 3, 3) := by decide +kernel
theorem dX8_init_4 : decode cX8_init 4 = .ok (.aload_n 0, 1) := by decide +kernel
theorem dX8_init_5 : decode cX8_init 5 = .ok (.bipush 20, 2) := by decide +kernel
theorem dX8_init_7 : decode cX8_init 7 = .ok (.newarray .int, 2) := by decide +kernel
theorem dX8_init_9 : decode cX8_init 9 = .ok (.putfield 9, 3) := by decide +kernel
theorem dX8_init_12 : decode cX8_init 12 = .ok (.return_, 1) := by decide +kernel
theorem dX8_begin_0 : decode cX8_begin 0 = .ok (.aload_n 0, 1) := by decide +kernel
theorem dX8_begin_1 : decode cX8_begin 1 = .ok (.getfield 15, 3) := by decide +kernel
theorem dX8_begin_4 : decode cX8_begin 4 = .ok (.ifCond .lt 22, 3) := by decide +kernel
theorem dX8_begin_7 : decode cX8_begin 7 = .ok (.aload_n 0, 1) := by decide +kernel
theorem dX8_begin_8 : decode cX8_begin 8 = .ok (.getfield 15, 3) := by decide +kernel
theorem dX8_begin_11 : decode cX8_begin 11 = .ok (.bipush 20, 2) := by decide +kernel
theorem dX8_begin_13 : decode cX8_begin 13 = .ok (.if_icmp .ge 13, 3) := by decide +kernel
theorem dX8_begin_16 : decode cX8_begin 16 = .ok (.aload_n 0, 1) := by decide +kernel
theorem dX8_begin_17 : decode cX8_begin 17 = .ok (.getfield 9, 3) := by decide +kernel
theorem dX8_begin_20 : decode cX8_begin 20 = .ok (.aload_n 0, 1) := by decide +kernel
theorem dX8_begin_21 : decode cX8_begin 21 = .ok (.getfield 15, 3) := by decide +kernel
theorem dX8_begin_24 : decode cX8_begin 24 = .ok (.iload_n 1, 1) := by decide +kernel
theorem dX8_begin_25 : decode cX8_begin 25 = .ok (.iastore, 1) := by decide +kernel
theorem dX8_begin_26 : decode cX8_begin 26 = .ok (.aload_n 0, 1) := by decide +kernel
theorem dX8_begin_27 : decode cX8_begin 27 = .ok (.dup, 1) := by decide +kernel
theorem dX8_begin_28 : decode cX8_begin 28 = .ok (.getfield 15, 3) := by decide +kernel
theorem dX8_begin_31 : decode cX8_begin 31 = .ok (.iconst 1, 1) := by decide +kernel
theorem dX8_begin_32 : decode cX8_begin 32 = .ok (.iadd, 1) := by decide +kernel
theorem dX8_begin_33 : decode cX8_begin 33 = .ok (.putfield 15, 3) := by decide +kernel
theorem dX8_begin_36 : decode cX8_begin 36 = .ok (.return_, 1) := by decide +kernel
theorem dX9_init_0 : decode cX9_init 0 = .ok (.aload_n 0, 1) := by decide +kernel
theorem dX9_init_1 : decode cX9_init 1 = .ok (.iload_n 1, 1) := by decide +kernel
theorem dX9_init_2 : decode cX9_init 2 = .ok (.iload_n 2, 1) := by decide +kernel
theorem dX9_init_3 : decode cX9_init 3 = .ok (.iload_n 3, 1) := by decide +kernel
theorem dX9_init_4 : decode cX9_init 4 = .ok (.iload 4, 2) := by decide +kernel
theorem dX9_init_6 : decode cX9_init 6 = .ok (.invokespecial 1, 3) := by decide +kernel
theorem dX9_init_9 : decode cX9_init 9 = .ok (.return_, 1) := by decide +kernel
theorem dX9_lineUp_0 : decode cX9_lineUp 0 = .ok (.iconst 0, 1) := by decide +kernel
theorem dX9_lineUp_1 : decode cX9_lineUp 1 = .ok (.istore 5, 2) := by decide +kernel
theorem dX9_lineUp_3 : decode cX9_lineUp 3 = .ok (.iload 5, 2) := by decide +kernel
theorem dX9_lineUp_5 : decode cX9_lineUp 5 = .ok (.iload_n 2, 1) := by decide +kernel
theorem dX9_lineUp_6 : decode cX9_lineUp 6 = .ok (.if_icmp .ge 22, 3) := by decide +kernel
theorem dX9_lineUp_9 : decode cX9_lineUp 9 = .ok (.aload 4, 2) := by decide +kernel
theorem dX9_lineUp_11 : decode cX9_lineUp 11 = .ok (.iload 5, 2) := by decide +kernel
theorem dX9_lineUp_13 : decode cX9_lineUp 13 = .ok (.aload_n 1, 1) := by decide +kernel
theorem dX9_lineUp_14 : decode cX9_lineUp 14 = .ok (.iload_n 3, 1) := by decide +kernel
theorem dX9_lineUp_15 : decode cX9_lineUp 15 = .ok (.iload 5, 2) := by decide +kernel
theorem dX9_lineUp_17 : decode cX9_lineUp 17 = .ok (.iadd, 1) := by decide +kernel
theorem dX9_lineUp_18 : decode cX9_lineUp 18 = .ok (.iload_n 2, 1) := by decide +kernel
theorem dX9_lineUp_19 : decode cX9_lineUp 19 = .ok (.irem, 1) := by decide +kernel
theorem dX9_lineUp_20 : decode cX9_lineUp 20 = .ok (.iaload, 1) := by decide +kernel
theorem dX9_lineUp_21 : decode cX9_lineUp 21 = .ok (.iastore, 1) := by decide +kernel
theorem dX9_lineUp_22 : decode cX9_lineUp 22 = .ok (.iinc 5 1, 3) := by decide +kernel
theorem dX9_lineUp_25 : decode cX9_lineUp 25 = .ok (.goto (-22), 3) := by decide +kernel
theorem dX9_lineUp_28 : decode cX9_lineUp 28 = .ok (.return_, 1) := by decide +kernel
theorem dX9_grades_0 : decode cX9_grades 0 = .ok (.aload_n 2, 1) := by decide +kernel
theorem dX9_grades_1 : decode cX9_grades 1 = .ok (.bipush 21, 2) := by decide +kernel
theorem dX9_grades_3 : decode cX9_grades 3 = .ok (.invokevirtual 7, 3) := by decide +kernel
theorem dX9_grades_6 : decode cX9_grades 6 = .ok (.aload_n 0, 1) := by decide +kernel
theorem dX9_grades_7 : decode cX9_grades 7 = .ok (.iload_n 1, 1) := by decide +kernel
theorem dX9_grades_8 : decode cX9_grades 8 = .ok (.aload_n 2, 1) := by decide +kernel
theorem dX9_grades_9 : decode cX9_grades 9 = .ok (.invokespecial 13, 3) := by decide +kernel
theorem dX9_grades_12 : decode cX9_grades 12 = .ok (.ineg, 1) := by decide +kernel
theorem dX9_grades_13 : decode cX9_grades 13 = .ok (.ireturn, 1) := by decide +kernel
theorem dX10_init_0 : decode cX10_init 0 = .ok (.aload_n 0, 1) := by decide +kernel
theorem dX10_init_1 : decode cX10_init 1 = .ok (.invokespecial 3, 3) := by decide +kernel
theorem dX10_init_4 : decode cX10_init 4 = .ok (.aload_n 0, 1) := by decide +kernel
theorem dX10_init_5 : decode cX10_init 5 = .ok (.bipush 50, 2) := by decide +kernel
theorem dX10_init_7 : decode cX10_init 7 = .ok (.putfield 9, 3) := by decide +kernel
theorem dX10_init_10 : decode cX10_init 10 = .ok (.aload_n 0, 1) := by decide +kernel
theorem dX10_init_11 : decode cX10_init 11 = .ok (.bipush 50, 2) := by decide +kernel
theorem dX10_init_13 : decode cX10_init 13 = .ok (.putfield 15, 3) := by decide +kernel
theorem dX10_init_16 : decode cX10_init 16 = .ok (.aload_n 0, 1) := by decide +kernel
theorem dX10_init_17 : decode cX10_init 17 = .ok (.bipush 10, 2) := by decide +kernel
theorem dX10_init_19 : decode cX10_init 19 = .ok (.newarray .int, 2) := by decide +kernel
theorem dX10_init_21 : decode cX10_init 21 = .ok (.putfield 18, 3) := by decide +kernel
theorem dX10_init_24 : decode cX10_init 24 = .ok (.aload_n 0, 1) := by decide +kernel
theorem dX10_init_25 : decode cX10_init 25 = .ok (.bipush 10, 2) := by decide +kernel
theorem dX10_init_27 : decode cX10_init 27 = .ok (.newarray .int, 2) := by decide +kernel
theorem dX10_init_29 : decode cX10_init 29 = .ok (.putfield 22, 3) := by decide +kernel
theorem dX10_init_32 : decode cX10_init 32 = .ok (.aload_n 0, 1) := by decide +kernel
theorem dX10_init_33 : decode cX10_init 33 = .ok (.bipush 10, 2) := by decide +kernel
theorem dX10_init_35 : decode cX10_init 35 = .ok (.newarray .int, 2) := by decide +kernel
theorem dX10_init_37 : decode cX10_init 37 = .ok (.putfield 25, 3) := by decide +kernel
theorem dX10_init_40 : decode cX10_init 40 = .ok (.aload_n 0, 1) := by decide +kernel
theorem dX10_init_41 : decode cX10_init 41 = .ok (.bipush 10, 2) := by decide +kernel
theorem dX10_init_43 : decode cX10_init 43 = .ok (.newarray .int, 2) := by decide +kernel
theorem dX10_init_45 : decode cX10_init 45 = .ok (.putfield 28, 3) := by decide +kernel
theorem dX10_init_48 : decode cX10_init 48 = .ok (.aload_n 0, 1) := by decide +kernel
theorem dX10_init_49 : decode cX10_init 49 = .ok (.bipush 10, 2) := by decide +kernel
theorem dX10_init_51 : decode cX10_init 51 = .ok (.newarray .int, 2) := by decide +kernel
theorem dX10_init_53 : decode cX10_init 53 = .ok (.putfield 31, 3) := by decide +kernel
theorem dX10_init_56 : decode cX10_init 56 = .ok (.aload_n 0, 1) := by decide +kernel
theorem dX10_init_57 : decode cX10_init 57 = .ok (.iconst 4, 1) := by decide +kernel
theorem dX10_init_58 : decode cX10_init 58 = .ok (.anewarray 34, 3) := by decide +kernel
theorem dX10_init_61 : decode cX10_init 61 = .ok (.putfield 36, 3) := by decide +kernel
theorem dX10_init_64 : decode cX10_init 64 = .ok (.aload_n 0, 1) := by decide +kernel
theorem dX10_init_65 : decode cX10_init 65 = .ok (.bipush 20, 2) := by decide +kernel
theorem dX10_init_67 : decode cX10_init 67 = .ok (.newarray .int, 2) := by decide +kernel
theorem dX10_init_69 : decode cX10_init 69 = .ok (.putfield 40, 3) := by decide +kernel
theorem dX10_init_72 : decode cX10_init 72 = .ok (.aload_n 0, 1) := by decide +kernel
theorem dX10_init_73 : decode cX10_init 73 = .ok (.bipush 20, 2) := by decide +kernel
theorem dX10_init_75 : decode cX10_init 75 = .ok (.newarray .int, 2) := by decide +kernel
theorem dX10_init_77 : decode cX10_init 77 = .ok (.putfield 43, 3) := by decide +kernel
theorem dX10_init_80 : decode cX10_init 80 = .ok (.aload_n 0, 1) := by decide +kernel
theorem dX10_init_81 : decode cX10_init 81 = .ok (.bipush 20, 2) := by decide +kernel
theorem dX10_init_83 : decode cX10_init 83 = .ok (.newarray .int, 2) := by decide +kernel
theorem dX10_init_85 : decode cX10_init 85 = .ok (.putfield 46, 3) := by decide +kernel
theorem dX10_init_88 : decode cX10_init 88 = .ok (.aload_n 0, 1) := by decide +kernel
theorem dX10_init_89 : decode cX10_init 89 = .ok (.bipush 100, 2) := by decide +kernel
theorem dX10_init_91 : decode cX10_init 91 = .ok (.newarray .char, 2) := by decide +kernel
theorem dX10_init_93 : decode cX10_init 93 = .ok (.putfield 49, 3) := by decide +kernel
theorem dX10_init_96 : decode cX10_init 96 = .ok (.aload_n 0, 1) := by decide +kernel
theorem dX10_init_97 : decode cX10_init 97 = .ok (.new 53, 3) := by decide +kernel
theorem dX10_init_100 : decode cX10_init 100 = .ok (.dup, 1) := by decide +kernel
theorem dX10_init_101 : decode cX10_init 101 = .ok (.iconst 0, 1) := by decide +kernel
theorem dX10_init_102 : decode cX10_init 102 = .ok (.newarray .char, 2) := by decide +kernel
theorem dX10_init_104 : decode cX10_init 104 = .ok (.iconst 0, 1) := by decide +kernel
theorem dX10_init_105 : decode cX10_init 105 = .ok (.invokespecial 55, 3) := by decide +kernel
theorem dX10_init_108 : decode cX10_init 108 = .ok (.putfield 58, 3) := by decide +kernel
theorem dX10_init_111 : decode cX10_init 111 = .ok (.return_, 1) := by decide +kernel
theorem dX10_become_0 : decode cX10_become 0 = .ok (.aload_n 0, 1) := by decide +kernel
theorem dX10_become_1 : decode cX10_become 1 = .ok (.aload_n 1, 1) := by decide +kernel
theorem dX10_become_2 : decode cX10_become 2 = .ok (.getfield 62, 3) := by decide +kernel
theorem dX10_become_5 : decode cX10_become 5 = .ok (.putfield 62, 3) := by decide +kernel
theorem dX10_become_8 : decode cX10_become 8 = .ok (.aload_n 0, 1) := by decide +kernel
theorem dX10_become_9 : decode cX10_become 9 = .ok (.aload_n 1, 1) := by decide +kernel
theorem dX10_become_10 : decode cX10_become 10 = .ok (.getfield 65, 3) := by decide +kernel
theorem dX10_become_13 : decode cX10_become 13 = .ok (.putfield 65, 3) := by decide +kernel
theorem dX10_become_16 : decode cX10_become 16 = .ok (.aload_n 0, 1) := by decide +kernel
theorem dX10_become_17 : decode cX10_become 17 = .ok (.aload_n 1, 1) := by decide +kernel
theorem dX10_become_18 : decode cX10_become 18 = .ok (.getfield 68, 3) := by decide +kernel
theorem dX10_become_21 : decode cX10_become 21 = .ok (.putfield 68, 3) := by decide +kernel
theorem dX10_become_24 : decode cX10_become 24 = .ok (.aload_n 0, 1) := by decide +kernel
theorem dX10_become_25 : decode cX10_become 25 = .ok (.aload_n 1, 1) := by decide +kernel
theorem dX10_become_26 : decode cX10_become 26 = .ok (.getfield 71, 3) := by decide +kernel
theorem dX10_become_29 : decode cX10_become 29 = .ok (.putfield 71, 3) := by decide +kernel
theorem dX10_become_32 : decode cX10_become 32 = .ok (.aload_n 0, 1) := by decide +kernel
theorem dX10_become_33 : decode cX10_become 33 = .ok (.aload_n 1, 1) := by decide +kernel
theorem dX10_become_34 : decode cX10_become 34 = .ok (.getfield 74, 3) := by decide +kernel
theorem dX10_become_37 : decode cX10_become 37 = .ok (.putfield 74, 3) := by decide +kernel
theorem dX10_become_40 : decode cX10_become 40 = .ok (.aload_n 0, 1) := by decide +kernel
theorem dX10_become_41 : decode cX10_become 41 = .ok (.aload_n 1, 1) := by decide +kernel
theorem dX10_become_42 : decode cX10_become 42 = .ok (.getfield 77, 3) := by decide +kernel
theorem dX10_become_45 : decode cX10_become 45 = .ok (.putfield 77, 3) := by decide +kernel
theorem dX10_become_48 : decode cX10_become 48 = .ok (.aload_n 0, 1) := by decide +kernel
theorem dX10_become_49 : decode cX10_become 49 = .ok (.aload_n 1, 1) := by decide +kernel
theorem dX10_become_50 : decode cX10_become 50 = .ok (.getfield 9, 3) := by decide +kernel
theorem dX10_become_53 : decode cX10_become 53 = .ok (.putfield 9, 3) := by decide +kernel
theorem dX10_become_56 : decode cX10_become 56 = .ok (.aload_n 0, 1) := by decide +kernel
theorem dX10_become_57 : decode cX10_become 57 = .ok (.aload_n 1, 1) := by decide +kernel
theorem dX10_become_58 : decode cX10_become 58 = .ok (.getfield 15, 3) := by decide +kernel
theorem dX10_become_61 : decode cX10_become 61 = .ok (.putfield 15, 3) := by decide +kernel
theorem dX10_become_64 : decode cX10_become 64 = .ok (.aload_n 0, 1) := by decide +kernel
theorem dX10_become_65 : decode cX10_become 65 = .ok (.aload_n 1, 1) := by decide +kernel
theorem dX10_become_66 : decode cX10_become 66 = .ok (.getfield 58, 3) := by decide +kernel
theorem dX10_become_69 : decode cX10_become 69 = .ok (.putfield 58, 3) := by decide +kernel
theorem dX10_become_72 : decode cX10_become 72 = .ok (.aload_n 1, 1) := by decide +kernel
theorem dX10_become_73 : decode cX10_become 73 = .ok (.getfield 18, 3) := by decide +kernel
theorem dX10_become_76 : decode cX10_become 76 = .ok (.iconst 0, 1) := by decide +kernel
theorem dX10_become_77 : decode cX10_become 77 = .ok (.aload_n 0, 1) := by decide +kernel
theorem dX10_become_78 : decode cX10_become 78 = .ok (.getfield 18, 3) := by decide +kernel
theorem dX10_become_81 : decode cX10_become 81 = .ok (.iconst 0, 1) := by decide +kernel
theorem dX10_become_82 : decode cX10_become 82 = .ok (.bipush 10, 2) := by decide +kernel
theorem dX10_become_84 : decode cX10_become 84 = .ok (.invokestatic 80, 3) := by decide +kernel
theorem dX10_become_87 : decode cX10_become 87 = .ok (.aload_n 1, 1) := by decide +kernel
theorem dX10_become_88 : decode cX10_become 88 = .ok (.getfield 22, 3) := by decide +kernel
theorem dX10_become_91 : decode cX10_become 91 = .ok (.iconst 0, 1) := by decide +kernel
theorem dX10_become_92 : decode cX10_become 92 = .ok (.aload_n 0, 1) := by decide +kernel
theorem dX10_become_93 : decode cX10_become 93 = .ok (.getfield 22, 3) := by decide +kernel
theorem dX10_become_96 : decode cX10_become 96 = .ok (.iconst 0, 1) := by decide +kernel
theorem dX10_become_97 : decode cX10_become 97 = .ok (.bipush 10, 2) := by decide +kernel
theorem dX10_become_99 : decode cX10_become 99 = .ok (.invokestatic 80, 3) := by decide +kernel
theorem dX10_become_102 : decode cX10_become 102 = .ok (.aload_n 1, 1) := by decide +kernel
theorem dX10_become_103 : decode cX10_become 103 = .ok (.getfield 25, 3) := by decide +kernel
theorem dX10_become_106 : decode cX10_become 106 = .ok (.iconst 0, 1) := by decide +kernel
theorem dX10_become_107 : decode cX10_become 107 = .ok (.aload_n 0, 1) := by decide +kernel
theorem dX10_become_108 : decode cX10_become 108 = .ok (.getfield 25, 3) := by decide +kernel
theorem dX10_become_111 : decode cX10_become 111 = .ok (.iconst 0, 1) := by decide +kernel
theorem dX10_become_112 : decode cX10_become 112 = .ok (.bipush 10, 2) := by decide +kernel
theorem dX10_become_114 : decode cX10_become 114 = .ok (.invokestatic 80, 3) := by decide +kernel
theorem dX10_become_117 : decode cX10_become 117 = .ok (.aload_n 1, 1) := by decide +kernel
theorem dX10_become_118 : decode cX10_become 118 = .ok (.getfield 28, 3) := by decide +kernel
theorem dX10_become_121 : decode cX10_become 121 = .ok (.iconst 0, 1) := by decide +kernel
theorem dX10_become_122 : decode cX10_become 122 = .ok (.aload_n 0, 1) := by decide +kernel
theorem dX10_become_123 : decode cX10_become 123 = .ok (.getfield 28, 3) := by decide +kernel
theorem dX10_become_126 : decode cX10_become 126 = .ok (.iconst 0, 1) := by decide +kernel
theorem dX10_become_127 : decode cX10_become 127 = .ok (.bipush 10, 2) := by decide +kernel
theorem dX10_become_129 : decode cX10_become 129 = .ok (.invokestatic 80, 3) := by decide +kernel
theorem dX10_become_132 : decode cX10_become 132 = .ok (.aload_n 1, 1) := by decide +kernel
theorem dX10_become_133 : decode cX10_become 133 = .ok (.getfield 31, 3) := by decide +kernel
theorem dX10_become_136 : decode cX10_become 136 = .ok (.iconst 0, 1) := by decide +kernel
theorem dX10_become_137 : decode cX10_become 137 = .ok (.aload_n 0, 1) := by decide +kernel
theorem dX10_become_138 : decode cX10_become 138 = .ok (.getfield 31, 3) := by decide +kernel
theorem dX10_become_141 : decode cX10_become 141 = .ok (.iconst 0, 1) := by decide +kernel
theorem dX10_become_142 : decode cX10_become 142 = .ok (.bipush 10, 2) := by decide +kernel
theorem dX10_become_144 : decode cX10_become 144 = .ok (.invokestatic 80, 3) := by decide +kernel
theorem dX10_become_147 : decode cX10_become 147 = .ok (.aload_n 1, 1) := by decide +kernel
theorem dX10_become_148 : decode cX10_become 148 = .ok (.getfield 40, 3) := by decide +kernel
theorem dX10_become_151 : decode cX10_become 151 = .ok (.iconst 0, 1) := by decide +kernel
theorem dX10_become_152 : decode cX10_become 152 = .ok (.aload_n 0, 1) := by decide +kernel
theorem dX10_become_153 : decode cX10_become 153 = .ok (.getfield 40, 3) := by decide +kernel
theorem dX10_become_156 : decode cX10_become 156 = .ok (.iconst 0, 1) := by decide +kernel
theorem dX10_become_157 : decode cX10_become 157 = .ok (.bipush 20, 2) := by decide +kernel
theorem dX10_become_159 : decode cX10_become 159 = .ok (.invokestatic 80, 3) := by decide +kernel
theorem dX10_become_162 : decode cX10_become 162 = .ok (.aload_n 1, 1) := by decide +kernel
theorem dX10_become_163 : decode cX10_become 163 = .ok (.getfield 43, 3) := by decide +kernel
theorem dX10_become_166 : decode cX10_become 166 = .ok (.iconst 0, 1) := by decide +kernel
theorem dX10_become_167 : decode cX10_become 167 = .ok (.aload_n 0, 1) := by decide +kernel
theorem dX10_become_168 : decode cX10_become 168 = .ok (.getfield 43, 3) := by decide +kernel
theorem dX10_become_171 : decode cX10_become 171 = .ok (.iconst 0, 1) := by decide +kernel
theorem dX10_become_172 : decode cX10_become 172 = .ok (.bipush 20, 2) := by decide +kernel
theorem dX10_become_174 : decode cX10_become 174 = .ok (.invokestatic 80, 3) := by decide +kernel
theorem dX10_become_177 : decode cX10_become 177 = .ok (.aload_n 1, 1) := by decide +kernel
theorem dX10_become_178 : decode cX10_become 178 = .ok (.getfield 46, 3) := by decide +kernel
theorem dX10_become_181 : decode cX10_become 181 = .ok (.iconst 0, 1) := by decide +kernel
theorem dX10_become_182 : decode cX10_become 182 = .ok (.aload_n 0, 1) := by decide +kernel
theorem dX10_become_183 : decode cX10_become 183 = .ok (.getfield 46, 3) := by decide +kernel
theorem dX10_become_186 : decode cX10_become 186 = .ok (.iconst 0, 1) := by decide +kernel
theorem dX10_become_187 : decode cX10_become 187 = .ok (.bipush 20, 2) := by decide +kernel
theorem dX10_become_189 : decode cX10_become 189 = .ok (.invokestatic 80, 3) := by decide +kernel
theorem dX10_become_192 : decode cX10_become 192 = .ok (.aload_n 1, 1) := by decide +kernel
theorem dX10_become_193 : decode cX10_become 193 = .ok (.getfield 49, 3) := by decide +kernel
theorem dX10_become_196 : decode cX10_become 196 = .ok (.iconst 0, 1) := by decide +kernel
theorem dX10_become_197 : decode cX10_become 197 = .ok (.aload_n 0, 1) := by decide +kernel
theorem dX10_become_198 : decode cX10_become 198 = .ok (.getfield 49, 3) := by decide +kernel
theorem dX10_become_201 : decode cX10_become 201 = .ok (.iconst 0, 1) := by decide +kernel
theorem dX10_become_202 : decode cX10_become 202 = .ok (.bipush 100, 2) := by decide +kernel
theorem dX10_become_204 : decode cX10_become 204 = .ok (.invokestatic 80, 3) := by decide +kernel
theorem dX10_become_207 : decode cX10_become 207 = .ok (.iconst 0, 1) := by decide +kernel
theorem dX10_become_208 : decode cX10_become 208 = .ok (.istore_n 2, 1) := by decide +kernel
theorem dX10_become_209 : decode cX10_become 209 = .ok (.iload_n 2, 1) := by decide +kernel
theorem dX10_become_210 : decode cX10_become 210 = .ok (.iconst 4, 1) := by decide +kernel
theorem dX10_become_211 : decode cX10_become 211 = .ok (.if_icmp .ge 21, 3) := by decide +kernel
theorem dX10_become_214 : decode cX10_become 214 = .ok (.aload_n 0, 1) := by decide +kernel
theorem dX10_become_215 : decode cX10_become 215 = .ok (.getfield 36, 3) := by decide +kernel
theorem dX10_become_218 : decode cX10_become 218 = .ok (.iload_n 2, 1) := by decide +kernel
theorem dX10_become_219 : decode cX10_become 219 = .ok (.aload_n 1, 1) := by decide +kernel
theorem dX10_become_220 : decode cX10_become 220 = .ok (.getfield 36, 3) := by decide +kernel
theorem dX10_become_223 : decode cX10_become 223 = .ok (.iload_n 2, 1) := by decide +kernel
theorem dX10_become_224 : decode cX10_become 224 = .ok (.aaload, 1) := by decide +kernel
theorem dX10_become_225 : decode cX10_become 225 = .ok (.aastore, 1) := by decide +kernel
theorem dX10_become_226 : decode cX10_become 226 = .ok (.iinc 2 1, 3) := by decide +kernel
theorem dX10_become_229 : decode cX10_become 229 = .ok (.goto (-20), 3) := by decide +kernel
theorem dX10_become_232 : decode cX10_become 232 = .ok (.return_, 1) := by decide +kernel
theorem dX10_hasWorker_0 : decode cX10_hasWorker 0 = .ok (.iload_n 1, 1) := by decide +kernel
theorem dX10_hasWorker_1 : decode cX10_hasWorker 1 = .ok (.ifCond .lt 21, 3) := by decide +kernel
theorem dX10_hasWorker_4 : decode cX10_hasWorker 4 = .ok (.iload_n 1, 1) := by decide +kernel
theorem dX10_hasWorker_5 : decode cX10_hasWorker 5 = .ok (.aload_n 0, 1) := by decide +kernel
theorem dX10_hasWorker_6 : decode cX10_hasWorker 6 = .ok (.getfield 62, 3) := by decide +kernel
theorem dX10_hasWorker_9 : decode cX10_hasWorker 9 = .ok (.if_icmp .ge 13, 3) := by decide +kernel
theorem dX10_hasWorker_12 : decode cX10_hasWorker 12 = .ok (.iload_n 1, 1) := by decide +kernel
theorem dX10_hasWorker_13 : decode cX10_hasWorker 13 = .ok (.bipush 10, 2) := by decide +kernel
theorem dX10_hasWorker_15 : decode cX10_hasWorker 15 = .ok (.if_icmp .ge 7, 3) := by decide +kernel
theorem dX10_hasWorker_18 : decode cX10_hasWorker 18 = .ok (.iconst 1, 1) := by decide +kernel
theorem dX10_hasWorker_19 : decode cX10_hasWorker 19 = .ok (.goto 4, 3) := by decide +kernel
theorem dX10_hasWorker_22 : decode cX10_hasWorker 22 = .ok (.iconst 0, 1) := by decide +kernel
theorem dX10_hasWorker_23 : decode cX10_hasWorker 23 = .ok (.ireturn, 1) := by decide +kernel
theorem dX10_chiefAt_0 : decode cX10_chiefAt 0 = .ok (.iload_n 1, 1) := by decide +kernel
theorem dX10_chiefAt_1 : decode cX10_chiefAt 1 = .ok (.ifCond .lt 25, 3) := by decide +kernel
theorem dX10_chiefAt_4 : decode cX10_chiefAt 4 = .ok (.iload_n 1, 1) := by decide +kernel
theorem dX10_chiefAt_5 : decode cX10_chiefAt 5 = .ok (.aload_n 0, 1) := by decide +kernel
theorem dX10_chiefAt_6 : decode cX10_chiefAt 6 = .ok (.getfield 65, 3) := by decide +kernel
theorem dX10_chiefAt_9 : decode cX10_chiefAt 9 = .ok (.if_icmp .ge 17, 3) := by decide +kernel
theorem dX10_chiefAt_12 : decode cX10_chiefAt 12 = .ok (.iload_n 1, 1) := by decide +kernel
theorem dX10_chiefAt_13 : decode cX10_chiefAt 13 = .ok (.iconst 4, 1) := by decide +kernel
theorem dX10_chiefAt_14 : decode cX10_chiefAt 14 = .ok (.if_icmp .ge 12, 3) := by decide +kernel
theorem dX10_chiefAt_17 : decode cX10_chiefAt 17 = .ok (.aload_n 0, 1) := by decide +kernel
theorem dX10_chiefAt_18 : decode cX10_chiefAt 18 = .ok (.getfield 36, 3) := by decide +kernel
theorem dX10_chiefAt_21 : decode cX10_chiefAt 21 = .ok (.iload_n 1, 1) := by decide +kernel
theorem dX10_chiefAt_22 : decode cX10_chiefAt 22 = .ok (.aaload, 1) := by decide +kernel
theorem dX10_chiefAt_23 : decode cX10_chiefAt 23 = .ok (.goto 4, 3) := by decide +kernel
theorem dX10_chiefAt_26 : decode cX10_chiefAt 26 = .ok (.aconst_null, 1) := by decide +kernel
theorem dX10_chiefAt_27 : decode cX10_chiefAt 27 = .ok (.areturn, 1) := by decide +kernel
theorem dX10_teamBits_0 : decode cX10_teamBits 0 = .ok (.iconst 0, 1) := by decide +kernel
theorem dX10_teamBits_1 : decode cX10_teamBits 1 = .ok (.istore_n 2, 1) := by decide +kernel
theorem dX10_teamBits_2 : decode cX10_teamBits 2 = .ok (.iconst 0, 1) := by decide +kernel
theorem dX10_teamBits_3 : decode cX10_teamBits 3 = .ok (.istore_n 3, 1) := by decide +kernel
theorem dX10_teamBits_4 : decode cX10_teamBits 4 = .ok (.iload_n 3, 1) := by decide +kernel
theorem dX10_teamBits_5 : decode cX10_teamBits 5 = .ok (.aload_n 0, 1) := by decide +kernel
theorem dX10_teamBits_6 : decode cX10_teamBits 6 = .ok (.getfield 62, 3) := by decide +kernel
theorem dX10_teamBits_9 : decode cX10_teamBits 9 = .ok (.if_icmp .ge 25, 3) := by decide +kernel
theorem dX10_teamBits_12 : decode cX10_teamBits 12 = .ok (.aload_n 0, 1) := by decide +kernel
theorem dX10_teamBits_13 : decode cX10_teamBits 13 = .ok (.getfield 25, 3) := by decide +kernel
theorem dX10_teamBits_16 : decode cX10_teamBits 16 = .ok (.iload_n 3, 1) := by decide +kernel
theorem dX10_teamBits_17 : decode cX10_teamBits 17 = .ok (.iaload, 1) := by decide +kernel
theorem dX10_teamBits_18 : decode cX10_teamBits 18 = .ok (.iload_n 1, 1) := by decide +kernel
theorem dX10_teamBits_19 : decode cX10_teamBits 19 = .ok (.if_icmp .ne 9, 3) := by decide +kernel
theorem dX10_teamBits_22 : decode cX10_teamBits 22 = .ok (.iload_n 2, 1) := by decide +kernel
theorem dX10_teamBits_23 : decode cX10_teamBits 23 = .ok (.iconst 1, 1) := by decide +kernel
theorem dX10_teamBits_24 : decode cX10_teamBits 24 = .ok (.iload_n 3, 1) := by decide +kernel
theorem dX10_teamBits_25 : decode cX10_teamBits 25 = .ok (.ishl, 1) := by decide +kernel
theorem dX10_teamBits_26 : decode cX10_teamBits 26 = .ok (.ior, 1) := by decide +kernel
theorem dX10_teamBits_27 : decode cX10_teamBits 27 = .ok (.istore_n 2, 1) := by decide +kernel
theorem dX10_teamBits_28 : decode cX10_teamBits 28 = .ok (.iinc 3 1, 3) := by decide +kernel
theorem dX10_teamBits_31 : decode cX10_teamBits 31 = .ok (.goto (-27), 3) := by decide +kernel
theorem dX10_teamBits_34 : decode cX10_teamBits 34 = .ok (.iload_n 2, 1) := by decide +kernel
theorem dX10_teamBits_35 : decode cX10_teamBits 35 = .ok (.ireturn, 1) := by decide +kernel
theorem dX10_worthTogether_0 : decode cX10_worthTogether 0 = .ok (.iconst 0, 1) := by decide +kernel
theorem dX10_worthTogether_1 : decode cX10_worthTogether 1 = .ok (.istore_n 1, 1) := by decide +kernel
theorem dX10_worthTogether_2 : decode cX10_worthTogether 2 = .ok (.iconst 0, 1) := by decide +kernel
theorem dX10_worthTogether_3 : decode cX10_worthTogether 3 = .ok (.istore_n 2, 1) := by decide +kernel
theorem dX10_worthTogether_4 : decode cX10_worthTogether 4 = .ok (.iload_n 2, 1) := by decide +kernel
theorem dX10_worthTogether_5 : decode cX10_worthTogether 5 = .ok (.aload_n 0, 1) := by decide +kernel
theorem dX10_worthTogether_6 : decode cX10_worthTogether 6 = .ok (.getfield 62, 3) := by decide +kernel
theorem dX10_worthTogether_9 : decode cX10_worthTogether 9 = .ok (.if_icmp .ge 18, 3) := by decide +kernel
theorem dX10_worthTogether_12 : decode cX10_worthTogether 12 = .ok (.iload_n 1, 1) := by decide +kernel
theorem dX10_worthTogether_13 : decode cX10_worthTogether 13 = .ok (.aload_n 0, 1) := by decide +kernel
theorem dX10_worthTogether_14 : decode cX10_worthTogether 14 = .ok (.getfield 18, 3) := by decide +kernel
theorem dX10_worthTogether_17 : decode cX10_worthTogether 17 = .ok (.iload_n 2, 1) := by decide +kernel
theorem dX10_worthTogether_18 : decode cX10_worthTogether 18 = .ok (.iaload, 1) := by decide +kernel
theorem dX10_worthTogether_19 : decode cX10_worthTogether 19 = .ok (.iadd, 1) := by decide +kernel
theorem dX10_worthTogether_20 : decode cX10_worthTogether 20 = .ok (.istore_n 1, 1) := by decide +kernel
theorem dX10_worthTogether_21 : decode cX10_worthTogether 21 = .ok (.iinc 2 1, 3) := by decide +kernel
theorem dX10_worthTogether_24 : decode cX10_worthTogether 24 = .ok (.goto (-20), 3) := by decide +kernel
theorem dX10_worthTogether_27 : decode cX10_worthTogether 27 = .ok (.iload_n 1, 1) := by decide +kernel
theorem dX10_worthTogether_28 : decode cX10_worthTogether 28 = .ok (.ireturn, 1) := by decide +kernel
theorem dX10_replace_0 : decode cX10_replace 0 = .ok (.aload_n 0, 1) := by decide +kernel
theorem dX10_replace_1 : decode cX10_replace 1 = .ok (.iload_n 1, 1) := by decide +kernel
theorem dX10_replace_2 : decode cX10_replace 2 = .ok (.invokevirtual 86, 3) := by decide +kernel
theorem dX10_replace_5 : decode cX10_replace 5 = .ok (.ifCond .ne 4, 3) := by decide +kernel
theorem dX10_replace_8 : decode cX10_replace 8 = .ok (.return_, 1) := by decide +kernel
theorem dX10_replace_9 : decode cX10_replace 9 = .ok (.aload_n 0, 1) := by decide +kernel
theorem dX10_replace_10 : decode cX10_replace 10 = .ok (.getfield 18, 3) := by decide +kernel
theorem dX10_replace_13 : decode cX10_replace 13 = .ok (.iload_n 1, 1) := by decide +kernel
theorem dX10_replace_14 : decode cX10_replace 14 = .ok (.aload_n 0, 1) := by decide +kernel
theorem dX10_replace_15 : decode cX10_replace 15 = .ok (.getfield 9, 3) := by decide +kernel
theorem dX10_replace_18 : decode cX10_replace 18 = .ok (.iastore, 1) := by decide +kernel
theorem dX10_replace_19 : decode cX10_replace 19 = .ok (.aload_n 0, 1) := by decide +kernel
theorem dX10_replace_20 : decode cX10_replace 20 = .ok (.getfield 22, 3) := by decide +kernel
theorem dX10_replace_23 : decode cX10_replace 23 = .ok (.iload_n 1, 1) := by decide +kernel
theorem dX10_replace_24 : decode cX10_replace 24 = .ok (.aload_n 0, 1) := by decide +kernel
theorem dX10_replace_25 : decode cX10_replace 25 = .ok (.getfield 15, 3) := by decide +kernel
theorem dX10_replace_28 : decode cX10_replace 28 = .ok (.iastore, 1) := by decide +kernel
theorem dX10_replace_29 : decode cX10_replace 29 = .ok (.aload_n 0, 1) := by decide +kernel
theorem dX10_replace_30 : decode cX10_replace 30 = .ok (.getfield 31, 3) := by decide +kernel
theorem dX10_replace_33 : decode cX10_replace 33 = .ok (.iload_n 1, 1) := by decide +kernel
theorem dX10_replace_34 : decode cX10_replace 34 = .ok (.iconst 0, 1) := by decide +kernel
theorem dX10_replace_35 : decode cX10_replace 35 = .ok (.iastore, 1) := by decide +kernel
theorem dX10_replace_36 : decode cX10_replace 36 = .ok (.return_, 1) := by decide +kernel
theorem dX10_exchange_0 : decode cX10_exchange 0 = .ok (.aload_n 0, 1) := by decide +kernel
theorem dX10_exchange_1 : decode cX10_exchange 1 = .ok (.getfield 25, 3) := by decide +kernel
theorem dX10_exchange_4 : decode cX10_exchange 4 = .ok (.iload_n 1, 1) := by decide +kernel
theorem dX10_exchange_5 : decode cX10_exchange 5 = .ok (.iaload, 1) := by decide +kernel
theorem dX10_exchange_6 : decode cX10_exchange 6 = .ok (.istore_n 3, 1) := by decide +kernel
theorem dX10_exchange_7 : decode cX10_exchange 7 = .ok (.aload_n 0, 1) := by decide +kernel
theorem dX10_exchange_8 : decode cX10_exchange 8 = .ok (.getfield 28, 3) := by decide +kernel
theorem dX10_exchange_11 : decode cX10_exchange 11 = .ok (.iload_n 1, 1) := by decide +kernel
theorem dX10_exchange_12 : decode cX10_exchange 12 = .ok (.iaload, 1) := by decide +kernel
theorem dX10_exchange_13 : decode cX10_exchange 13 = .ok (.istore 4, 2) := by decide +kernel
theorem dX10_exchange_15 : decode cX10_exchange 15 = .ok (.aload_n 0, 1) := by decide +kernel
theorem dX10_exchange_16 : decode cX10_exchange 16 = .ok (.getfield 25, 3) := by decide +kernel
theorem dX10_exchange_19 : decode cX10_exchange 19 = .ok (.iload_n 1, 1) := by decide +kernel
theorem dX10_exchange_20 : decode cX10_exchange 20 = .ok (.aload_n 0, 1) := by decide +kernel
theorem dX10_exchange_21 : decode cX10_exchange 21 = .ok (.getfield 25, 3) := by decide +kernel
theorem dX10_exchange_24 : decode cX10_exchange 24 = .ok (.iload_n 2, 1) := by decide +kernel
theorem dX10_exchange_25 : decode cX10_exchange 25 = .ok (.iaload, 1) := by decide +kernel
theorem dX10_exchange_26 : decode cX10_exchange 26 = .ok (.iastore, 1) := by decide +kernel
theorem dX10_exchange_27 : decode cX10_exchange 27 = .ok (.aload_n 0, 1) := by decide +kernel
theorem dX10_exchange_28 : decode cX10_exchange 28 = .ok (.getfield 28, 3) := by decide +kernel
theorem dX10_exchange_31 : decode cX10_exchange 31 = .ok (.iload_n 1, 1) := by decide +kernel
theorem dX10_exchange_32 : decode cX10_exchange 32 = .ok (.aload_n 0, 1) := by decide +kernel
theorem dX10_exchange_33 : decode cX10_exchange 33 = .ok (.getfield 28, 3) := by decide +kernel
theorem dX10_exchange_36 : decode cX10_exchange 36 = .ok (.iload_n 2, 1) := by decide +kernel
theorem dX10_exchange_37 : decode cX10_exchange 37 = .ok (.iaload, 1) := by decide +kernel
theorem dX10_exchange_38 : decode cX10_exchange 38 = .ok (.iastore, 1) := by decide +kernel
theorem dX10_exchange_39 : decode cX10_exchange 39 = .ok (.aload_n 0, 1) := by decide +kernel
theorem dX10_exchange_40 : decode cX10_exchange 40 = .ok (.getfield 25, 3) := by decide +kernel
theorem dX10_exchange_43 : decode cX10_exchange 43 = .ok (.iload_n 2, 1) := by decide +kernel
theorem dX10_exchange_44 : decode cX10_exchange 44 = .ok (.iload_n 3, 1) := by decide +kernel
theorem dX10_exchange_45 : decode cX10_exchange 45 = .ok (.iastore, 1) := by decide +kernel
theorem dX10_exchange_46 : decode cX10_exchange 46 = .ok (.aload_n 0, 1) := by decide +kernel
theorem dX10_exchange_47 : decode cX10_exchange 47 = .ok (.getfield 28, 3) := by decide +kernel
theorem dX10_exchange_50 : decode cX10_exchange 50 = .ok (.iload_n 2, 1) := by decide +kernel
theorem dX10_exchange_51 : decode cX10_exchange 51 = .ok (.iload 4, 2) := by decide +kernel
theorem dX10_exchange_53 : decode cX10_exchange 53 = .ok (.iastore, 1) := by decide +kernel
theorem dX10_exchange_54 : decode cX10_exchange 54 = .ok (.return_, 1) := by decide +kernel
theorem dX10_firstGrade_0 : decode cX10_firstGrade 0 = .ok (.iconst 0, 1) := by decide +kernel
theorem dX10_firstGrade_1 : decode cX10_firstGrade 1 = .ok (.istore_n 3, 1) := by decide +kernel
theorem dX10_firstGrade_2 : decode cX10_firstGrade 2 = .ok (.iload_n 3, 1) := by decide +kernel
theorem dX10_firstGrade_3 : decode cX10_firstGrade 3 = .ok (.aload_n 0, 1) := by decide +kernel
theorem dX10_firstGrade_4 : decode cX10_firstGrade 4 = .ok (.getfield 71, 3) := by decide +kernel
theorem dX10_firstGrade_7 : decode cX10_firstGrade 7 = .ok (.if_icmp .ge 36, 3) := by decide +kernel
theorem dX10_firstGrade_10 : decode cX10_firstGrade 10 = .ok (.aload_n 0, 1) := by decide +kernel
theorem dX10_firstGrade_11 : decode cX10_firstGrade 11 = .ok (.getfield 40, 3) := by decide +kernel
theorem dX10_firstGrade_14 : decode cX10_firstGrade 14 = .ok (.iload_n 3, 1) := by decide +kernel
theorem dX10_firstGrade_15 : decode cX10_firstGrade 15 = .ok (.iaload, 1) := by decide +kernel
theorem dX10_firstGrade_16 : decode cX10_firstGrade 16 = .ok (.iload_n 1, 1) := by decide +kernel
theorem dX10_firstGrade_17 : decode cX10_firstGrade 17 = .ok (.if_icmp .ne 20, 3) := by decide +kernel
theorem dX10_firstGrade_20 : decode cX10_firstGrade 20 = .ok (.aload_n 0, 1) := by decide +kernel
theorem dX10_firstGrade_21 : decode cX10_firstGrade 21 = .ok (.getfield 43, 3) := by decide +kernel
theorem dX10_firstGrade_24 : decode cX10_firstGrade 24 = .ok (.iload_n 3, 1) := by decide +kernel
theorem dX10_firstGrade_25 : decode cX10_firstGrade 25 = .ok (.iaload, 1) := by decide +kernel
theorem dX10_firstGrade_26 : decode cX10_firstGrade 26 = .ok (.iload_n 2, 1) := by decide +kernel
theorem dX10_firstGrade_27 : decode cX10_firstGrade 27 = .ok (.if_icmp .ne 10, 3) := by decide +kernel
theorem dX10_firstGrade_30 : decode cX10_firstGrade 30 = .ok (.aload_n 0, 1) := by decide +kernel
theorem dX10_firstGrade_31 : decode cX10_firstGrade 31 = .ok (.getfield 46, 3) := by decide +kernel
theorem dX10_firstGrade_34 : decode cX10_firstGrade 34 = .ok (.iload_n 3, 1) := by decide +kernel
theorem dX10_firstGrade_35 : decode cX10_firstGrade 35 = .ok (.iaload, 1) := by decide +kernel
theorem dX10_firstGrade_36 : decode cX10_firstGrade 36 = .ok (.ireturn, 1) := by decide +kernel
theorem dX10_firstGrade_37 : decode cX10_firstGrade 37 = .ok (.iinc 3 1, 3) := by decide +kernel
theorem dX10_firstGrade_40 : decode cX10_firstGrade 40 = .ok (.goto (-38), 3) := by decide +kernel
theorem dX10_firstGrade_43 : decode cX10_firstGrade 43 = .ok (.iconst 0, 1) := by decide +kernel
theorem dX10_firstGrade_44 : decode cX10_firstGrade 44 = .ok (.ireturn, 1) := by decide +kernel
theorem dX11_init_0 : decode cX11_init 0 = .ok (.aload_n 0, 1) := by decide +kernel
theorem dX11_init_1 : decode cX11_init 1 = .ok (.invokespecial 3, 3) := by decide +kernel
theorem dX11_init_4 : decode cX11_init 4 = .ok (.aload_n 0, 1) := by decide +kernel
theorem dX11_init_5 : decode cX11_init 5 = .ok (.new 9, 3) := by decide +kernel
theorem dX11_init_8 : decode cX11_init 8 = .ok (.dup, 1) := by decide +kernel
theorem dX11_init_9 : decode cX11_init 9 = .ok (.invokespecial 11, 3) := by decide +kernel
theorem dX11_init_12 : decode cX11_init 12 = .ok (.putfield 12, 3) := by decide +kernel
theorem dX11_init_15 : decode cX11_init 15 = .ok (.aload_n 0, 1) := by decide +kernel
theorem dX11_init_16 : decode cX11_init 16 = .ok (.new 9, 3) := by decide +kernel
theorem dX11_init_19 : decode cX11_init 19 = .ok (.dup, 1) := by decide +kernel
theorem dX11_init_20 : decode cX11_init 20 = .ok (.invokespecial 11, 3) := by decide +kernel
theorem dX11_init_23 : decode cX11_init 23 = .ok (.putfield 18, 3) := by decide +kernel
theorem dX11_init_26 : decode cX11_init 26 = .ok (.aload_n 0, 1) := by decide +kernel
theorem dX11_init_27 : decode cX11_init 27 = .ok (.new 9, 3) := by decide +kernel
theorem dX11_init_30 : decode cX11_init 30 = .ok (.dup, 1) := by decide +kernel
theorem dX11_init_31 : decode cX11_init 31 = .ok (.invokespecial 11, 3) := by decide +kernel
theorem dX11_init_34 : decode cX11_init 34 = .ok (.putfield 21, 3) := by decide +kernel
theorem dX11_init_37 : decode cX11_init 37 = .ok (.aload_n 0, 1) := by decide +kernel
theorem dX11_init_38 : decode cX11_init 38 = .ok (.new 24, 3) := by decide +kernel
theorem dX11_init_41 : decode cX11_init 41 = .ok (.dup, 1) := by decide +kernel
theorem dX11_init_42 : decode cX11_init 42 = .ok (.invokespecial 26, 3) := by decide +kernel
theorem dX11_init_45 : decode cX11_init 45 = .ok (.putfield 27, 3) := by decide +kernel
theorem dX11_init_48 : decode cX11_init 48 = .ok (.aload_n 0, 1) := by decide +kernel
theorem dX11_init_49 : decode cX11_init 49 = .ok (.new 31, 3) := by decide +kernel
theorem dX11_init_52 : decode cX11_init 52 = .ok (.dup, 1) := by decide +kernel
theorem dX11_init_53 : decode cX11_init 53 = .ok (.invokespecial 33, 3) := by decide +kernel
theorem dX11_init_56 : decode cX11_init 56 = .ok (.putfield 34, 3) := by decide +kernel
theorem dX11_init_59 : decode cX11_init 59 = .ok (.aload_n 0, 1) := by decide +kernel
theorem dX11_init_60 : decode cX11_init 60 = .ok (.bipush 10, 2) := by decide +kernel
theorem dX11_init_62 : decode cX11_init 62 = .ok (.newarray .int, 2) := by decide +kernel
theorem dX11_init_64 : decode cX11_init 64 = .ok (.putfield 38, 3) := by decide +kernel
theorem dX11_init_67 : decode cX11_init 67 = .ok (.return_, 1) := by decide +kernel
theorem dX11_feed_0 : decode cX11_feed 0 = .ok (.iload_n 1, 1) := by decide +kernel
theorem dX11_feed_1 : decode cX11_feed 1 = .ok (.ifCond .lt 9, 3) := by decide +kernel
theorem dX11_feed_4 : decode cX11_feed 4 = .ok (.iload_n 1, 1) := by decide +kernel
theorem dX11_feed_5 : decode cX11_feed 5 = .ok (.bipush 127, 2) := by decide +kernel
theorem dX11_feed_7 : decode cX11_feed 7 = .ok (.if_icmp .le 6, 3) := by decide +kernel
theorem dX11_feed_10 : decode cX11_feed 10 = .ok (.bipush (-2), 2) := by decide +kernel
theorem dX11_feed_12 : decode cX11_feed 12 = .ok (.ireturn, 1) := by decide +kernel
theorem dX11_feed_13 : decode cX11_feed 13 = .ok (.aload_n 0, 1) := by decide +kernel
theorem dX11_feed_14 : decode cX11_feed 14 = .ok (.getfield 12, 3) := by decide +kernel
theorem dX11_feed_17 : decode cX11_feed 17 = .ok (.getfield 42, 3) := by decide +kernel
theorem dX11_feed_20 : decode cX11_feed 20 = .ok (.bipush 100, 2) := by decide +kernel
theorem dX11_feed_22 : decode cX11_feed 22 = .ok (.if_icmp .lt 6, 3) := by decide +kernel
theorem dX11_feed_25 : decode cX11_feed 25 = .ok (.bipush (-4), 2) := by decide +kernel
theorem dX11_feed_27 : decode cX11_feed 27 = .ok (.ireturn, 1) := by decide +kernel
theorem dX11_feed_28 : decode cX11_feed 28 = .ok (.aload_n 0, 1) := by decide +kernel
theorem dX11_feed_29 : decode cX11_feed 29 = .ok (.getfield 12, 3) := by decide +kernel
theorem dX11_feed_32 : decode cX11_feed 32 = .ok (.getfield 46, 3) := by decide +kernel
theorem dX11_feed_35 : decode cX11_feed 35 = .ok (.aload_n 0, 1) := by decide +kernel
theorem dX11_feed_36 : decode cX11_feed 36 = .ok (.getfield 12, 3) := by decide +kernel
theorem dX11_feed_39 : decode cX11_feed 39 = .ok (.getfield 42, 3) := by decide +kernel
theorem dX11_feed_42 : decode cX11_feed 42 = .ok (.iload_n 1, 1) := by decide +kernel
theorem dX11_feed_43 : decode cX11_feed 43 = .ok (.i2c, 1) := by decide +kernel
theorem dX11_feed_44 : decode cX11_feed 44 = .ok (.castore, 1) := by decide +kernel
theorem dX11_feed_45 : decode cX11_feed 45 = .ok (.aload_n 0, 1) := by decide +kernel
theorem dX11_feed_46 : decode cX11_feed 46 = .ok (.getfield 12, 3) := by decide +kernel
theorem dX11_feed_49 : decode cX11_feed 49 = .ok (.dup, 1) := by decide +kernel
theorem dX11_feed_50 : decode cX11_feed 50 = .ok (.getfield 42, 3) := by decide +kernel
theorem dX11_feed_53 : decode cX11_feed 53 = .ok (.iconst 1, 1) := by decide +kernel
theorem dX11_feed_54 : decode cX11_feed 54 = .ok (.iadd, 1) := by decide +kernel
theorem dX11_feed_55 : decode cX11_feed 55 = .ok (.putfield 42, 3) := by decide +kernel
theorem dX11_feed_58 : decode cX11_feed 58 = .ok (.aload_n 0, 1) := by decide +kernel
theorem dX11_feed_59 : decode cX11_feed 59 = .ok (.getfield 12, 3) := by decide +kernel
theorem dX11_feed_62 : decode cX11_feed 62 = .ok (.getfield 42, 3) := by decide +kernel
theorem dX11_feed_65 : decode cX11_feed 65 = .ok (.ireturn, 1) := by decide +kernel
theorem dX11_house_0 : decode cX11_house 0 = .ok (.aload_n 0, 1) := by decide +kernel
theorem dX11_house_1 : decode cX11_house 1 = .ok (.getfield 12, 3) := by decide +kernel
theorem dX11_house_4 : decode cX11_house 4 = .ok (.getfield 50, 3) := by decide +kernel
theorem dX11_house_7 : decode cX11_house 7 = .ok (.iconst 5, 1) := by decide +kernel
theorem dX11_house_8 : decode cX11_house 8 = .ok (.if_icmp .lt 6, 3) := by decide +kernel
theorem dX11_house_11 : decode cX11_house 11 = .ok (.bipush (-4), 2) := by decide +kernel
theorem dX11_house_13 : decode cX11_house 13 = .ok (.ireturn, 1) := by decide +kernel
theorem dX11_house_14 : decode cX11_house 14 = .ok (.new 53, 3) := by decide +kernel
theorem dX11_house_17 : decode cX11_house 17 = .ok (.dup, 1) := by decide +kernel
theorem dX11_house_18 : decode cX11_house 18 = .ok (.aload_n 0, 1) := by decide +kernel
theorem dX11_house_19 : decode cX11_house 19 = .ok (.getfield 12, 3) := by decide +kernel
theorem dX11_house_22 : decode cX11_house 22 = .ok (.getfield 46, 3) := by decide +kernel
theorem dX11_house_25 : decode cX11_house 25 = .ok (.aload_n 0, 1) := by decide +kernel
theorem dX11_house_26 : decode cX11_house 26 = .ok (.getfield 12, 3) := by decide +kernel
theorem dX11_house_29 : decode cX11_house 29 = .ok (.getfield 42, 3) := by decide +kernel
theorem dX11_house_32 : decode cX11_house 32 = .ok (.invokespecial 55, 3) := by decide +kernel
theorem dX11_house_35 : decode cX11_house 35 = .ok (.astore_n 1, 1) := by decide +kernel
theorem dX11_house_36 : decode cX11_house 36 = .ok (.aload_n 1, 1) := by decide +kernel
theorem dX11_house_37 : decode cX11_house 37 = .ok (.invokevirtual 58, 3) := by decide +kernel
theorem dX11_house_40 : decode cX11_house 40 = .ok (.istore_n 2, 1) := by decide +kernel
theorem dX11_house_41 : decode cX11_house 41 = .ok (.aload_n 0, 1) := by decide +kernel
theorem dX11_house_42 : decode cX11_house 42 = .ok (.getfield 12, 3) := by decide +kernel
theorem dX11_house_45 : decode cX11_house 45 = .ok (.iconst 0, 1) := by decide +kernel
theorem dX11_house_46 : decode cX11_house 46 = .ok (.putfield 42, 3) := by decide +kernel
theorem dX11_house_49 : decode cX11_house 49 = .ok (.iload_n 2, 1) := by decide +kernel
theorem dX11_house_50 : decode cX11_house 50 = .ok (.ifCond .lt 8, 3) := by decide +kernel
theorem dX11_house_53 : decode cX11_house 53 = .ok (.bipush (-10), 2) := by decide +kernel
theorem dX11_house_55 : decode cX11_house 55 = .ok (.iload_n 2, 1) := by decide +kernel
theorem dX11_house_56 : decode cX11_house 56 = .ok (.isub, 1) := by decide +kernel
theorem dX11_house_57 : decode cX11_house 57 = .ok (.ireturn, 1) := by decide +kernel
theorem dX11_house_58 : decode cX11_house 58 = .ok (.aload_n 0, 1) := by decide +kernel
theorem dX11_house_59 : decode cX11_house 59 = .ok (.getfield 12, 3) := by decide +kernel
theorem dX11_house_62 : decode cX11_house 62 = .ok (.aload_n 1, 1) := by decide +kernel
theorem dX11_house_63 : decode cX11_house 63 = .ok (.putfield 62, 3) := by decide +kernel
theorem dX11_house_66 : decode cX11_house 66 = .ok (.aload_n 0, 1) := by decide +kernel
theorem dX11_house_67 : decode cX11_house 67 = .ok (.getfield 12, 3) := by decide +kernel
theorem dX11_house_70 : decode cX11_house 70 = .ok (.dup, 1) := by decide +kernel
theorem dX11_house_71 : decode cX11_house 71 = .ok (.getfield 50, 3) := by decide +kernel
theorem dX11_house_74 : decode cX11_house 74 = .ok (.iconst 1, 1) := by decide +kernel
theorem dX11_house_75 : decode cX11_house 75 = .ok (.iadd, 1) := by decide +kernel
theorem dX11_house_76 : decode cX11_house 76 = .ok (.putfield 50, 3) := by decide +kernel
theorem dX11_house_79 : decode cX11_house 79 = .ok (.aload_n 0, 1) := by decide +kernel
theorem dX11_house_80 : decode cX11_house 80 = .ok (.getfield 12, 3) := by decide +kernel
theorem dX11_house_83 : decode cX11_house 83 = .ok (.getfield 50, 3) := by decide +kernel
theorem dX11_house_86 : decode cX11_house 86 = .ok (.iconst 1, 1) := by decide +kernel
theorem dX11_house_87 : decode cX11_house 87 = .ok (.isub, 1) := by decide +kernel
theorem dX11_house_88 : decode cX11_house 88 = .ok (.ireturn, 1) := by decide +kernel
theorem dX11_told_0 : decode cX11_told 0 = .ok (.iload_n 1, 1) := by decide +kernel
theorem dX11_told_1 : decode cX11_told 1 = .ok (.tableswitch 96 0 5 #[39, 50, 61, 72, 80, 88], 39) := by decide +kernel
theorem dX11_told_40 : decode cX11_told 40 = .ok (.aload_n 0, 1) := by decide +kernel
theorem dX11_told_41 : decode cX11_told 41 = .ok (.getfield 12, 3) := by decide +kernel
theorem dX11_told_44 : decode cX11_told 44 = .ok (.getfield 62, 3) := by decide +kernel
theorem dX11_told_47 : decode cX11_told 47 = .ok (.getfield 66, 3) := by decide +kernel
theorem dX11_told_50 : decode cX11_told 50 = .ok (.ireturn, 1) := by decide +kernel
theorem dX11_told_51 : decode cX11_told 51 = .ok (.aload_n 0, 1) := by decide +kernel
theorem dX11_told_52 : decode cX11_told 52 = .ok (.getfield 12, 3) := by decide +kernel
theorem dX11_told_55 : decode cX11_told 55 = .ok (.getfield 62, 3) := by decide +kernel
theorem dX11_told_58 : decode cX11_told 58 = .ok (.getfield 69, 3) := by decide +kernel
theorem dX11_told_61 : decode cX11_told 61 = .ok (.ireturn, 1) := by decide +kernel
theorem dX11_told_62 : decode cX11_told 62 = .ok (.aload_n 0, 1) := by decide +kernel
theorem dX11_told_63 : decode cX11_told 63 = .ok (.getfield 12, 3) := by decide +kernel
theorem dX11_told_66 : decode cX11_told 66 = .ok (.getfield 62, 3) := by decide +kernel
theorem dX11_told_69 : decode cX11_told 69 = .ok (.getfield 72, 3) := by decide +kernel
theorem dX11_told_72 : decode cX11_told 72 = .ok (.ireturn, 1) := by decide +kernel
theorem dX11_told_73 : decode cX11_told 73 = .ok (.aload_n 0, 1) := by decide +kernel
theorem dX11_told_74 : decode cX11_told 74 = .ok (.getfield 12, 3) := by decide +kernel
theorem dX11_told_77 : decode cX11_told 77 = .ok (.getfield 75, 3) := by decide +kernel
theorem dX11_told_80 : decode cX11_told 80 = .ok (.ireturn, 1) := by decide +kernel
theorem dX11_told_81 : decode cX11_told 81 = .ok (.aload_n 0, 1) := by decide +kernel
theorem dX11_told_82 : decode cX11_told 82 = .ok (.getfield 12, 3) := by decide +kernel
theorem dX11_told_85 : decode cX11_told 85 = .ok (.getfield 78, 3) := by decide +kernel
theorem dX11_told_88 : decode cX11_told 88 = .ok (.ireturn, 1) := by decide +kernel
theorem dX11_told_89 : decode cX11_told 89 = .ok (.aload_n 0, 1) := by decide +kernel
theorem dX11_told_90 : decode cX11_told 90 = .ok (.getfield 12, 3) := by decide +kernel
theorem dX11_told_93 : decode cX11_told 93 = .ok (.getfield 81, 3) := by decide +kernel
theorem dX11_told_96 : decode cX11_told 96 = .ok (.ireturn, 1) := by decide +kernel
theorem dX11_told_97 : decode cX11_told 97 = .ok (.iconst (-1), 1) := by decide +kernel
theorem dX11_told_98 : decode cX11_told 98 = .ok (.ireturn, 1) := by decide +kernel
theorem dX11_chief_0 : decode cX11_chief 0 = .ok (.iload_n 1, 1) := by decide +kernel
theorem dX11_chief_1 : decode cX11_chief 1 = .ok (.ifCond .lt 9, 3) := by decide +kernel
theorem dX11_chief_4 : decode cX11_chief 4 = .ok (.iload_n 1, 1) := by decide +kernel
theorem dX11_chief_5 : decode cX11_chief 5 = .ok (.bipush 7, 2) := by decide +kernel
theorem dX11_chief_7 : decode cX11_chief 7 = .ok (.if_icmp .lt 5, 3) := by decide +kernel
theorem dX11_chief_10 : decode cX11_chief 10 = .ok (.iconst (-1), 1) := by decide +kernel
theorem dX11_chief_11 : decode cX11_chief 11 = .ok (.ireturn, 1) := by decide +kernel
theorem dX11_chief_12 : decode cX11_chief 12 = .ok (.iload_n 2, 1) := by decide +kernel
theorem dX11_chief_13 : decode cX11_chief 13 = .ok (.bipush 9, 2) := by decide +kernel
theorem dX11_chief_15 : decode cX11_chief 15 = .ok (.invokestatic 84, 3) := by decide +kernel
theorem dX11_chief_18 : decode cX11_chief 18 = .ok (.ifCond .eq 12, 3) := by decide +kernel
theorem dX11_chief_21 : decode cX11_chief 21 = .ok (.iload_n 3, 1) := by decide +kernel
theorem dX11_chief_22 : decode cX11_chief 22 = .ok (.bipush 9, 2) := by decide +kernel
theorem dX11_chief_24 : decode cX11_chief 24 = .ok (.invokestatic 84, 3) := by decide +kernel
theorem dX11_chief_27 : decode cX11_chief 27 = .ok (.ifCond .ne 6, 3) := by decide +kernel
theorem dX11_chief_30 : decode cX11_chief 30 = .ok (.bipush (-2), 2) := by decide +kernel
theorem dX11_chief_32 : decode cX11_chief 32 = .ok (.ireturn, 1) := by decide +kernel
theorem dX11_chief_33 : decode cX11_chief 33 = .ok (.aload_n 0, 1) := by decide +kernel
theorem dX11_chief_34 : decode cX11_chief 34 = .ok (.getfield 12, 3) := by decide +kernel
theorem dX11_chief_37 : decode cX11_chief 37 = .ok (.getfield 88, 3) := by decide +kernel
theorem dX11_chief_40 : decode cX11_chief 40 = .ok (.iconst 4, 1) := by decide +kernel
theorem dX11_chief_41 : decode cX11_chief 41 = .ok (.if_icmp .lt 6, 3) := by decide +kernel
theorem dX11_chief_44 : decode cX11_chief 44 = .ok (.bipush (-4), 2) := by decide +kernel
theorem dX11_chief_46 : decode cX11_chief 46 = .ok (.ireturn, 1) := by decide +kernel
theorem dX11_chief_47 : decode cX11_chief 47 = .ok (.aload_n 0, 1) := by decide +kernel
theorem dX11_chief_48 : decode cX11_chief 48 = .ok (.getfield 12, 3) := by decide +kernel
theorem dX11_chief_51 : decode cX11_chief 51 = .ok (.getfield 91, 3) := by decide +kernel
theorem dX11_chief_54 : decode cX11_chief 54 = .ok (.aload_n 0, 1) := by decide +kernel
theorem dX11_chief_55 : decode cX11_chief 55 = .ok (.getfield 12, 3) := by decide +kernel
theorem dX11_chief_58 : decode cX11_chief 58 = .ok (.getfield 88, 3) := by decide +kernel
theorem dX11_chief_61 : decode cX11_chief 61 = .ok (.iload_n 1, 1) := by decide +kernel
theorem dX11_chief_62 : decode cX11_chief 62 = .ok (.aload_n 0, 1) := by decide +kernel
theorem dX11_chief_63 : decode cX11_chief 63 = .ok (.getfield 12, 3) := by decide +kernel
theorem dX11_chief_66 : decode cX11_chief 66 = .ok (.getfield 88, 3) := by decide +kernel
theorem dX11_chief_69 : decode cX11_chief 69 = .ok (.iload_n 2, 1) := by decide +kernel
theorem dX11_chief_70 : decode cX11_chief 70 = .ok (.iload_n 3, 1) := by decide +kernel
theorem dX11_chief_71 : decode cX11_chief 71 = .ok (.invokestatic 95, 3) := by decide +kernel
theorem dX11_chief_74 : decode cX11_chief 74 = .ok (.aastore, 1) := by decide +kernel
theorem dX11_chief_75 : decode cX11_chief 75 = .ok (.aload_n 0, 1) := by decide +kernel
theorem dX11_chief_76 : decode cX11_chief 76 = .ok (.getfield 12, 3) := by decide +kernel
theorem dX11_chief_79 : decode cX11_chief 79 = .ok (.dup, 1) := by decide +kernel
theorem dX11_chief_80 : decode cX11_chief 80 = .ok (.getfield 88, 3) := by decide +kernel
theorem dX11_chief_83 : decode cX11_chief 83 = .ok (.iconst 1, 1) := by decide +kernel
theorem dX11_chief_84 : decode cX11_chief 84 = .ok (.iadd, 1) := by decide +kernel
theorem dX11_chief_85 : decode cX11_chief 85 = .ok (.putfield 88, 3) := by decide +kernel
theorem dX11_chief_88 : decode cX11_chief 88 = .ok (.aload_n 0, 1) := by decide +kernel
theorem dX11_chief_89 : decode cX11_chief 89 = .ok (.getfield 12, 3) := by decide +kernel
theorem dX11_chief_92 : decode cX11_chief 92 = .ok (.getfield 88, 3) := by decide +kernel
theorem dX11_chief_95 : decode cX11_chief 95 = .ok (.iconst 1, 1) := by decide +kernel
theorem dX11_chief_96 : decode cX11_chief 96 = .ok (.isub, 1) := by decide +kernel
theorem dX11_chief_97 : decode cX11_chief 97 = .ok (.ireturn, 1) := by decide +kernel
theorem dX11_worker_0 : decode cX11_worker 0 = .ok (.aload_n 0, 1) := by decide +kernel
theorem dX11_worker_1 : decode cX11_worker 1 = .ok (.getfield 12, 3) := by decide +kernel
theorem dX11_worker_4 : decode cX11_worker 4 = .ok (.iload_n 1, 1) := by decide +kernel
theorem dX11_worker_5 : decode cX11_worker 5 = .ok (.invokevirtual 101, 3) := by decide +kernel
theorem dX11_worker_8 : decode cX11_worker 8 = .ok (.ifnonnull 5, 3) := by decide +kernel
theorem dX11_worker_11 : decode cX11_worker 11 = .ok (.iconst (-1), 1) := by decide +kernel
theorem dX11_worker_12 : decode cX11_worker 12 = .ok (.ireturn, 1) := by decide +kernel
theorem dX11_worker_13 : decode cX11_worker 13 = .ok (.iload_n 2, 1) := by decide +kernel
theorem dX11_worker_14 : decode cX11_worker 14 = .ok (.bipush 99, 2) := by decide +kernel
theorem dX11_worker_16 : decode cX11_worker 16 = .ok (.invokestatic 84, 3) := by decide +kernel
theorem dX11_worker_19 : decode cX11_worker 19 = .ok (.ifCond .eq 12, 3) := by decide +kernel
theorem dX11_worker_22 : decode cX11_worker 22 = .ok (.iload_n 3, 1) := by decide +kernel
theorem dX11_worker_23 : decode cX11_worker 23 = .ok (.bipush 99, 2) := by decide +kernel
theorem dX11_worker_25 : decode cX11_worker 25 = .ok (.invokestatic 84, 3) := by decide +kernel
theorem dX11_worker_28 : decode cX11_worker 28 = .ok (.ifCond .ne 6, 3) := by decide +kernel
theorem dX11_worker_31 : decode cX11_worker 31 = .ok (.bipush (-2), 2) := by decide +kernel
theorem dX11_worker_33 : decode cX11_worker 33 = .ok (.ireturn, 1) := by decide +kernel
theorem dX11_worker_34 : decode cX11_worker 34 = .ok (.iload 4, 2) := by decide +kernel
theorem dX11_worker_36 : decode cX11_worker 36 = .ok (.bipush 9, 2) := by decide +kernel
theorem dX11_worker_38 : decode cX11_worker 38 = .ok (.invokestatic 84, 3) := by decide +kernel
theorem dX11_worker_41 : decode cX11_worker 41 = .ok (.ifCond .ne 6, 3) := by decide +kernel
theorem dX11_worker_44 : decode cX11_worker 44 = .ok (.bipush (-2), 2) := by decide +kernel
theorem dX11_worker_46 : decode cX11_worker 46 = .ok (.ireturn, 1) := by decide +kernel
theorem dX11_worker_47 : decode cX11_worker 47 = .ok (.aload_n 0, 1) := by decide +kernel
theorem dX11_worker_48 : decode cX11_worker 48 = .ok (.getfield 12, 3) := by decide +kernel
theorem dX11_worker_51 : decode cX11_worker 51 = .ok (.getfield 105, 3) := by decide +kernel
