theorem dX0_init_0 : decode cX0_init 0 = .ok (.aload_n 0, 1) := by decide +kernel
theorem dX0_init_1 : decode cX0_init 1 = .ok (.invokespecial 3, 3) := by decide +kernel
theorem dX0_init_4 : decode cX0_init 4 = .ok (.aload_n 0, 1) := by decide +kernel
theorem dX0_init_5 : decode cX0_init 5 = .ok (.bipush 60, 2) := by decide +kernel
theorem dX0_init_7 : decode cX0_init 7 = .ok (.newarray .boolean, 2) := by decide +kernel
theorem dX0_init_9 : decode cX0_init 9 = .ok (.putfield 9, 3) := by decide +kernel
theorem dX0_init_12 : decode cX0_init 12 = .ok (.aload_n 0, 1) := by decide +kernel
theorem dX0_init_13 : decode cX0_init 13 = .ok (.bipush 60, 2) := by decide +kernel
theorem dX0_init_15 : decode cX0_init 15 = .ok (.newarray .int, 2) := by decide +kernel
theorem dX0_init_17 : decode cX0_init 17 = .ok (.putfield 15, 3) := by decide +kernel
theorem dX0_init_20 : decode cX0_init 20 = .ok (.aload_n 0, 1) := by decide +kernel
theorem dX0_init_21 : decode cX0_init 21 = .ok (.bipush 60, 2) := by decide +kernel
theorem dX0_init_23 : decode cX0_init 23 = .ok (.newarray .int, 2) := by decide +kernel
theorem dX0_init_25 : decode cX0_init 25 = .ok (.putfield 19, 3) := by decide +kernel
theorem dX0_init_28 : decode cX0_init 28 = .ok (.aload_n 0, 1) := by decide +kernel
theorem dX0_init_29 : decode cX0_init 29 = .ok (.bipush 40, 2) := by decide +kernel
theorem dX0_init_31 : decode cX0_init 31 = .ok (.newarray .int, 2) := by decide +kernel
theorem dX0_init_33 : decode cX0_init 33 = .ok (.putfield 22, 3) := by decide +kernel
theorem dX0_init_36 : decode cX0_init 36 = .ok (.aload_n 0, 1) := by decide +kernel
theorem dX0_init_37 : decode cX0_init 37 = .ok (.iconst 4, 1) := by decide +kernel
theorem dX0_init_38 : decode cX0_init 38 = .ok (.sipush 400, 3) := by decide +kernel
theorem dX0_init_41 : decode cX0_init 41 = .ok (.multianewarray 25 2, 4) := by decide +kernel
theorem dX0_init_45 : decode cX0_init 45 = .ok (.putfield 27, 3) := by decide +kernel
theorem dX0_init_48 : decode cX0_init 48 = .ok (.aload_n 0, 1) := by decide +kernel
theorem dX0_init_49 : decode cX0_init 49 = .ok (.sipush 400, 3) := by decide +kernel
theorem dX0_init_52 : decode cX0_init 52 = .ok (.newarray .int, 2) := by decide +kernel
theorem dX0_init_54 : decode cX0_init 54 = .ok (.putfield 30, 3) := by decide +kernel
theorem dX0_init_57 : decode cX0_init 57 = .ok (.aload_n 0, 1) := by decide +kernel
theorem dX0_init_58 : decode cX0_init 58 = .ok (.aload_n 1, 1) := by decide +kernel
theorem dX0_init_59 : decode cX0_init 59 = .ok (.putfield 33, 3) := by decide +kernel
theorem dX0_init_62 : decode cX0_init 62 = .ok (.return_, 1) := by decide +kernel
theorem dX0_gatherAll_0 : decode cX0_gatherAll 0 = .ok (.aload_n 0, 1) := by decide +kernel
theorem dX0_gatherAll_1 : decode cX0_gatherAll 1 = .ok (.iconst (-1), 1) := by decide +kernel
theorem dX0_gatherAll_2 : decode cX0_gatherAll 2 = .ok (.lconst 0, 1) := by decide +kernel
theorem dX0_gatherAll_3 : decode cX0_gatherAll 3 = .ok (.bipush 60, 2) := by decide +kernel
theorem dX0_gatherAll_5 : decode cX0_gatherAll 5 = .ok (.invokevirtual 37, 3) := by decide +kernel
theorem dX0_gatherAll_8 : decode cX0_gatherAll 8 = .ok (.return_, 1) := by decide +kernel
theorem dX0_gather_0 : decode cX0_gather 0 = .ok (.aload_n 0, 1) := by decide +kernel
theorem dX0_gather_1 : decode cX0_gather 1 = .ok (.iconst 0, 1) := by decide +kernel
theorem dX0_gather_2 : decode cX0_gather 2 = .ok (.putfield 41, 3) := by decide +kernel
theorem dX0_gather_5 : decode cX0_gather 5 = .ok (.aload_n 0, 1) := by decide +kernel
theorem dX0_gather_6 : decode cX0_gather 6 = .ok (.iconst 0, 1) := by decide +kernel
theorem dX0_gather_7 : decode cX0_gather 7 = .ok (.putfield 45, 3) := by decide +kernel
theorem dX0_gather_10 : decode cX0_gather 10 = .ok (.iconst 0, 1) := by decide +kernel
theorem dX0_gather_11 : decode cX0_gather 11 = .ok (.istore 5, 2) := by decide +kernel
theorem dX0_gather_13 : decode cX0_gather 13 = .ok (.iload 5, 2) := by decide +kernel
theorem dX0_gather_15 : decode cX0_gather 15 = .ok (.aload_n 0, 1) := by decide +kernel
theorem dX0_gather_16 : decode cX0_gather 16 = .ok (.getfield 33, 3) := by decide +kernel
theorem dX0_gather_19 : decode cX0_gather 19 = .ok (.getfield 48, 3) := by decide +kernel
theorem dX0_gather_22 : decode cX0_gather 22 = .ok (.if_icmp .ge 130, 3) := by decide +kernel
theorem dX0_gather_25 : decode cX0_gather 25 = .ok (.aload_n 0, 1) := by decide +kernel
theorem dX0_gather_26 : decode cX0_gather 26 = .ok (.getfield 33, 3) := by decide +kernel
theorem dX0_gather_29 : decode cX0_gather 29 = .ok (.getfield 53, 3) := by decide +kernel
theorem dX0_gather_32 : decode cX0_gather 32 = .ok (.iload 5, 2) := by decide +kernel
theorem dX0_gather_34 : decode cX0_gather 34 = .ok (.aaload, 1) := by decide +kernel
theorem dX0_gather_35 : decode cX0_gather 35 = .ok (.astore 6, 2) := by decide +kernel
theorem dX0_gather_37 : decode cX0_gather 37 = .ok (.aload_n 0, 1) := by decide +kernel
theorem dX0_gather_38 : decode cX0_gather 38 = .ok (.getfield 9, 3) := by decide +kernel
theorem dX0_gather_41 : decode cX0_gather 41 = .ok (.iload 5, 2) := by decide +kernel
theorem dX0_gather_43 : decode cX0_gather 43 = .ok (.iload 5, 2) := by decide +kernel
theorem dX0_gather_45 : decode cX0_gather 45 = .ok (.iload_n 1, 1) := by decide +kernel
theorem dX0_gather_46 : decode cX0_gather 46 = .ok (.if_icmp .eq 31, 3) := by decide +kernel
theorem dX0_gather_49 : decode cX0_gather 49 = .ok (.aload 6, 2) := by decide +kernel
theorem dX0_gather_51 : decode cX0_gather 51 = .ok (.invokevirtual 57, 3) := by decide +kernel
theorem dX0_gather_54 : decode cX0_gather 54 = .ok (.ifCond .eq 23, 3) := by decide +kernel
theorem dX0_gather_57 : decode cX0_gather 57 = .ok (.aload 6, 2) := by decide +kernel
theorem dX0_gather_59 : decode cX0_gather 59 = .ok (.getfield 63, 3) := by decide +kernel
theorem dX0_gather_62 : decode cX0_gather 62 = .ok (.iconst 1, 1) := by decide +kernel
theorem dX0_gather_63 : decode cX0_gather 63 = .ok (.if_icmp .ne 10, 3) := by decide +kernel
theorem dX0_gather_66 : decode cX0_gather 66 = .ok (.iload 5, 2) := by decide +kernel
theorem dX0_gather_68 : decode cX0_gather 68 = .ok (.iload 4, 2) := by decide +kernel
theorem dX0_gather_70 : decode cX0_gather 70 = .ok (.if_icmp .ge 7, 3) := by decide +kernel
theorem dX0_gather_73 : decode cX0_gather 73 = .ok (.iconst 1, 1) := by decide +kernel
theorem dX0_gather_74 : decode cX0_gather 74 = .ok (.goto 4, 3) := by decide +kernel
theorem dX0_gather_77 : decode cX0_gather 77 = .ok (.iconst 0, 1) := by decide +kernel
theorem dX0_gather_78 : decode cX0_gather 78 = .ok (.bastore, 1) := by decide +kernel
theorem dX0_gather_79 : decode cX0_gather 79 = .ok (.aload_n 0, 1) := by decide +kernel
theorem dX0_gather_80 : decode cX0_gather 80 = .ok (.getfield 9, 3) := by decide +kernel
theorem dX0_gather_83 : decode cX0_gather 83 = .ok (.iload 5, 2) := by decide +kernel
theorem dX0_gather_85 : decode cX0_gather 85 = .ok (.baload, 1) := by decide +kernel
theorem dX0_gather_86 : decode cX0_gather 86 = .ok (.ifCond .ne 6, 3) := by decide +kernel
theorem dX0_gather_89 : decode cX0_gather 89 = .ok (.goto 57, 3) := by decide +kernel
theorem dX0_gather_92 : decode cX0_gather 92 = .ok (.aload_n 0, 1) := by decide +kernel
theorem dX0_gather_93 : decode cX0_gather 93 = .ok (.getfield 15, 3) := by decide +kernel
theorem dX0_gather_96 : decode cX0_gather 96 = .ok (.aload_n 0, 1) := by decide +kernel
theorem dX0_gather_97 : decode cX0_gather 97 = .ok (.getfield 41, 3) := by decide +kernel
theorem dX0_gather_100 : decode cX0_gather 100 = .ok (.iload 5, 2) := by decide +kernel
theorem dX0_gather_102 : decode cX0_gather 102 = .ok (.iastore, 1) := by decide +kernel
theorem dX0_gather_103 : decode cX0_gather 103 = .ok (.aload_n 0, 1) := by decide +kernel
theorem dX0_gather_104 : decode cX0_gather 104 = .ok (.dup, 1) := by decide +kernel
theorem dX0_gather_105 : decode cX0_gather 105 = .ok (.getfield 41, 3) := by decide +kernel
theorem dX0_gather_108 : decode cX0_gather 108 = .ok (.iconst 1, 1) := by decide +kernel
theorem dX0_gather_109 : decode cX0_gather 109 = .ok (.iadd, 1) := by decide +kernel
theorem dX0_gather_110 : decode cX0_gather 110 = .ok (.putfield 41, 3) := by decide +kernel
theorem dX0_gather_113 : decode cX0_gather 113 = .ok (.aload 6, 2) := by decide +kernel
theorem dX0_gather_115 : decode cX0_gather 115 = .ok (.getfield 66, 3) := by decide +kernel
theorem dX0_gather_118 : decode cX0_gather 118 = .ok (.lload_n 2, 1) := by decide +kernel
theorem dX0_gather_119 : decode cX0_gather 119 = .ok (.land, 1) := by decide +kernel
theorem dX0_gather_120 : decode cX0_gather 120 = .ok (.lconst 0, 1) := by decide +kernel
theorem dX0_gather_121 : decode cX0_gather 121 = .ok (.lcmp, 1) := by decide +kernel
theorem dX0_gather_122 : decode cX0_gather 122 = .ok (.ifCond .eq 24, 3) := by decide +kernel
theorem dX0_gather_125 : decode cX0_gather 125 = .ok (.aload_n 0, 1) := by decide +kernel
theorem dX0_gather_126 : decode cX0_gather 126 = .ok (.getfield 19, 3) := by decide +kernel
theorem dX0_gather_129 : decode cX0_gather 129 = .ok (.aload_n 0, 1) := by decide +kernel
theorem dX0_gather_130 : decode cX0_gather 130 = .ok (.getfield 45, 3) := by decide +kernel
theorem dX0_gather_133 : decode cX0_gather 133 = .ok (.iload 5, 2) := by decide +kernel
theorem dX0_gather_135 : decode cX0_gather 135 = .ok (.iastore, 1) := by decide +kernel
theorem dX0_gather_136 : decode cX0_gather 136 = .ok (.aload_n 0, 1) := by decide +kernel
theorem dX0_gather_137 : decode cX0_gather 137 = .ok (.dup, 1) := by decide +kernel
theorem dX0_gather_138 : decode cX0_gather 138 = .ok (.getfield 45, 3) := by decide +kernel
theorem dX0_gather_141 : decode cX0_gather 141 = .ok (.iconst 1, 1) := by decide +kernel
theorem dX0_gather_142 : decode cX0_gather 142 = .ok (.iadd, 1) := by decide +kernel
theorem dX0_gather_143 : decode cX0_gather 143 = .ok (.putfield 45, 3) := by decide +kernel
theorem dX0_gather_146 : decode cX0_gather 146 = .ok (.iinc 5 1, 3) := by decide +kernel
theorem dX0_gather_149 : decode cX0_gather 149 = .ok (.goto (-136), 3) := by decide +kernel
theorem dX0_gather_152 : decode cX0_gather 152 = .ok (.return_, 1) := by decide +kernel
theorem dX0_survey_0 : decode cX0_survey 0 = .ok (.iconst 0, 1) := by decide +kernel
theorem dX0_survey_1 : decode cX0_survey 1 = .ok (.istore_n 2, 1) := by decide +kernel
theorem dX0_survey_2 : decode cX0_survey 2 = .ok (.iload_n 2, 1) := by decide +kernel
theorem dX0_survey_3 : decode cX0_survey 3 = .ok (.aload_n 0, 1) := by decide +kernel
theorem dX0_survey_4 : decode cX0_survey 4 = .ok (.getfield 33, 3) := by decide +kernel
theorem dX0_survey_7 : decode cX0_survey 7 = .ok (.getfield 70, 3) := by decide +kernel
theorem dX0_survey_10 : decode cX0_survey 10 = .ok (.if_icmp .ge 16, 3) := by decide +kernel
theorem dX0_survey_13 : decode cX0_survey 13 = .ok (.aload_n 0, 1) := by decide +kernel
theorem dX0_survey_14 : decode cX0_survey 14 = .ok (.getfield 22, 3) := by decide +kernel
theorem dX0_survey_17 : decode cX0_survey 17 = .ok (.iload_n 2, 1) := by decide +kernel
theorem dX0_survey_18 : decode cX0_survey 18 = .ok (.iconst 0, 1) := by decide +kernel
theorem dX0_survey_19 : decode cX0_survey 19 = .ok (.iastore, 1) := by decide +kernel
theorem dX0_survey_20 : decode cX0_survey 20 = .ok (.iinc 2 1, 3) := by decide +kernel
theorem dX0_survey_23 : decode cX0_survey 23 = .ok (.goto (-21), 3) := by decide +kernel
theorem dX0_survey_26 : decode cX0_survey 26 = .ok (.iconst 0, 1) := by decide +kernel
theorem dX0_survey_27 : decode cX0_survey 27 = .ok (.istore_n 2, 1) := by decide +kernel
theorem dX0_survey_28 : decode cX0_survey 28 = .ok (.iload_n 2, 1) := by decide +kernel
theorem dX0_survey_29 : decode cX0_survey 29 = .ok (.aload_n 0, 1) := by decide +kernel
theorem dX0_survey_30 : decode cX0_survey 30 = .ok (.getfield 41, 3) := by decide +kernel
theorem dX0_survey_33 : decode cX0_survey 33 = .ok (.if_icmp .ge 67, 3) := by decide +kernel
theorem dX0_survey_36 : decode cX0_survey 36 = .ok (.aload_n 0, 1) := by decide +kernel
theorem dX0_survey_37 : decode cX0_survey 37 = .ok (.getfield 33, 3) := by decide +kernel
theorem dX0_survey_40 : decode cX0_survey 40 = .ok (.getfield 53, 3) := by decide +kernel
theorem dX0_survey_43 : decode cX0_survey 43 = .ok (.aload_n 0, 1) := by decide +kernel
theorem dX0_survey_44 : decode cX0_survey 44 = .ok (.getfield 15, 3) := by decide +kernel
theorem dX0_survey_47 : decode cX0_survey 47 = .ok (.iload_n 2, 1) := by decide +kernel
theorem dX0_survey_48 : decode cX0_survey 48 = .ok (.iaload, 1) := by decide +kernel
theorem dX0_survey_49 : decode cX0_survey 49 = .ok (.aaload, 1) := by decide +kernel
theorem dX0_survey_50 : decode cX0_survey 50 = .ok (.astore_n 3, 1) := by decide +kernel
theorem dX0_survey_51 : decode cX0_survey 51 = .ok (.aload_n 0, 1) := by decide +kernel
theorem dX0_survey_52 : decode cX0_survey 52 = .ok (.aload_n 3, 1) := by decide +kernel
theorem dX0_survey_53 : decode cX0_survey 53 = .ok (.iload_n 1, 1) := by decide +kernel
theorem dX0_survey_54 : decode cX0_survey 54 = .ok (.invokevirtual 73, 3) := by decide +kernel
theorem dX0_survey_57 : decode cX0_survey 57 = .ok (.istore 4, 2) := by decide +kernel
theorem dX0_survey_59 : decode cX0_survey 59 = .ok (.iconst 0, 1) := by decide +kernel
theorem dX0_survey_60 : decode cX0_survey 60 = .ok (.istore 5, 2) := by decide +kernel
theorem dX0_survey_62 : decode cX0_survey 62 = .ok (.iload 5, 2) := by decide +kernel
theorem dX0_survey_64 : decode cX0_survey 64 = .ok (.aload_n 3, 1) := by decide +kernel
theorem dX0_survey_65 : decode cX0_survey 65 = .ok (.getfield 77, 3) := by decide +kernel
theorem dX0_survey_68 : decode cX0_survey 68 = .ok (.if_icmp .ge 26, 3) := by decide +kernel
theorem dX0_survey_71 : decode cX0_survey 71 = .ok (.aload_n 0, 1) := by decide +kernel
theorem dX0_survey_72 : decode cX0_survey 72 = .ok (.getfield 22, 3) := by decide +kernel
theorem dX0_survey_75 : decode cX0_survey 75 = .ok (.aload_n 3, 1) := by decide +kernel
theorem dX0_survey_76 : decode cX0_survey 76 = .ok (.getfield 80, 3) := by decide +kernel
theorem dX0_survey_79 : decode cX0_survey 79 = .ok (.iload 5, 2) := by decide +kernel
theorem dX0_survey_81 : decode cX0_survey 81 = .ok (.iaload, 1) := by decide +kernel
theorem dX0_survey_82 : decode cX0_survey 82 = .ok (.dup2, 1) := by decide +kernel
theorem dX0_survey_83 : decode cX0_survey 83 = .ok (.iaload, 1) := by decide +kernel
theorem dX0_survey_84 : decode cX0_survey 84 = .ok (.iload 4, 2) := by decide +kernel
theorem dX0_survey_86 : decode cX0_survey 86 = .ok (.iadd, 1) := by decide +kernel
theorem dX0_survey_87 : decode cX0_survey 87 = .ok (.iastore, 1) := by decide +kernel
theorem dX0_survey_88 : decode cX0_survey 88 = .ok (.iinc 5 1, 3) := by decide +kernel
theorem dX0_survey_91 : decode cX0_survey 91 = .ok (.goto (-29), 3) := by decide +kernel
theorem dX0_survey_94 : decode cX0_survey 94 = .ok (.iinc 2 1, 3) := by decide +kernel
theorem dX0_survey_97 : decode cX0_survey 97 = .ok (.goto (-69), 3) := by decide +kernel
theorem dX0_survey_100 : decode cX0_survey 100 = .ok (.lconst 0, 1) := by decide +kernel
theorem dX0_survey_101 : decode cX0_survey 101 = .ok (.lstore_n 2, 1) := by decide +kernel
theorem dX0_survey_102 : decode cX0_survey 102 = .ok (.iconst 0, 1) := by decide +kernel
theorem dX0_survey_103 : decode cX0_survey 103 = .ok (.istore 4, 2) := by decide +kernel
theorem dX0_survey_105 : decode cX0_survey 105 = .ok (.iload 4, 2) := by decide +kernel
theorem dX0_survey_107 : decode cX0_survey 107 = .ok (.aload_n 0, 1) := by decide +kernel
theorem dX0_survey_108 : decode cX0_survey 108 = .ok (.getfield 33, 3) := by decide +kernel
theorem dX0_survey_111 : decode cX0_survey 111 = .ok (.getfield 70, 3) := by decide +kernel
theorem dX0_survey_114 : decode cX0_survey 114 = .ok (.if_icmp .ge 39, 3) := by decide +kernel
theorem dX0_survey_117 : decode cX0_survey 117 = .ok (.aload_n 0, 1) := by decide +kernel
theorem dX0_survey_118 : decode cX0_survey 118 = .ok (.getfield 22, 3) := by decide +kernel
theorem dX0_survey_121 : decode cX0_survey 121 = .ok (.iload 4, 2) := by decide +kernel
theorem dX0_survey_123 : decode cX0_survey 123 = .ok (.iaload, 1) := by decide +kernel
theorem dX0_survey_124 : decode cX0_survey 124 = .ok (.aload_n 0, 1) := by decide +kernel
theorem dX0_survey_125 : decode cX0_survey 125 = .ok (.getfield 33, 3) := by decide +kernel
theorem dX0_survey_128 : decode cX0_survey 128 = .ok (.getfield 83, 3) := by decide +kernel
theorem dX0_survey_131 : decode cX0_survey 131 = .ok (.iload 4, 2) := by decide +kernel
theorem dX0_survey_133 : decode cX0_survey 133 = .ok (.aaload, 1) := by decide +kernel
theorem dX0_survey_134 : decode cX0_survey 134 = .ok (.getfield 86, 3) := by decide +kernel
theorem dX0_survey_137 : decode cX0_survey 137 = .ok (.if_icmp .lt 10, 3) := by decide +kernel
theorem dX0_survey_140 : decode cX0_survey 140 = .ok (.lload_n 2, 1) := by decide +kernel
theorem dX0_survey_141 : decode cX0_survey 141 = .ok (.lconst 1, 1) := by decide +kernel
theorem dX0_survey_142 : decode cX0_survey 142 = .ok (.iload 4, 2) := by decide +kernel
theorem dX0_survey_144 : decode cX0_survey 144 = .ok (.lshl, 1) := by decide +kernel
theorem dX0_survey_145 : decode cX0_survey 145 = .ok (.lor, 1) := by decide +kernel
theorem dX0_survey_146 : decode cX0_survey 146 = .ok (.lstore_n 2, 1) := by decide +kernel
theorem dX0_survey_147 : decode cX0_survey 147 = .ok (.iinc 4 1, 3) := by decide +kernel
theorem dX0_survey_150 : decode cX0_survey 150 = .ok (.goto (-45), 3) := by decide +kernel
theorem dX0_survey_153 : decode cX0_survey 153 = .ok (.lload_n 2, 1) := by decide +kernel
theorem dX0_survey_154 : decode cX0_survey 154 = .ok (.lreturn, 1) := by decide +kernel
theorem dX0_surveyBeside_0 : decode cX0_surveyBeside 0 = .ok (.iload_n 2, 1) := by decide +kernel
theorem dX0_surveyBeside_1 : decode cX0_surveyBeside 1 = .ok (.istore 4, 2) := by decide +kernel
theorem dX0_surveyBeside_3 : decode cX0_surveyBeside 3 = .ok (.iload 4, 2) := by decide +kernel
theorem dX0_surveyBeside_5 : decode cX0_surveyBeside 5 = .ok (.iload_n 3, 1) := by decide +kernel
theorem dX0_surveyBeside_6 : decode cX0_surveyBeside 6 = .ok (.if_icmp .gt 52, 3) := by decide +kernel
theorem dX0_surveyBeside_9 : decode cX0_surveyBeside 9 = .ok (.aload_n 0, 1) := by decide +kernel
theorem dX0_surveyBeside_10 : decode cX0_surveyBeside 10 = .ok (.getfield 30, 3) := by decide +kernel
theorem dX0_surveyBeside_13 : decode cX0_surveyBeside 13 = .ok (.iload 4, 2) := by decide +kernel
theorem dX0_surveyBeside_15 : decode cX0_surveyBeside 15 = .ok (.aload_n 0, 1) := by decide +kernel
theorem dX0_surveyBeside_16 : decode cX0_surveyBeside 16 = .ok (.aload_n 1, 1) := by decide +kernel
theorem dX0_surveyBeside_17 : decode cX0_surveyBeside 17 = .ok (.iload 4, 2) := by decide +kernel
theorem dX0_surveyBeside_19 : decode cX0_surveyBeside 19 = .ok (.invokevirtual 91, 3) := by decide +kernel
theorem dX0_surveyBeside_22 : decode cX0_surveyBeside 22 = .ok (.iastore, 1) := by decide +kernel
theorem dX0_surveyBeside_23 : decode cX0_surveyBeside 23 = .ok (.iconst 0, 1) := by decide +kernel
theorem dX0_surveyBeside_24 : decode cX0_surveyBeside 24 = .ok (.istore 5, 2) := by decide +kernel
theorem dX0_surveyBeside_26 : decode cX0_surveyBeside 26 = .ok (.iload 5, 2) := by decide +kernel
theorem dX0_surveyBeside_28 : decode cX0_surveyBeside 28 = .ok (.aload_n 1, 1) := by decide +kernel
theorem dX0_surveyBeside_29 : decode cX0_surveyBeside 29 = .ok (.getfield 77, 3) := by decide +kernel
theorem dX0_surveyBeside_32 : decode cX0_surveyBeside 32 = .ok (.if_icmp .ge 20, 3) := by decide +kernel
theorem dX0_surveyBeside_35 : decode cX0_surveyBeside 35 = .ok (.aload_n 0, 1) := by decide +kernel
theorem dX0_surveyBeside_36 : decode cX0_surveyBeside 36 = .ok (.getfield 27, 3) := by decide +kernel
theorem dX0_surveyBeside_39 : decode cX0_surveyBeside 39 = .ok (.iload 5, 2) := by decide +kernel
theorem dX0_surveyBeside_41 : decode cX0_surveyBeside 41 = .ok (.aaload, 1) := by decide +kernel
theorem dX0_surveyBeside_42 : decode cX0_surveyBeside 42 = .ok (.iload 4, 2) := by decide +kernel
theorem dX0_surveyBeside_44 : decode cX0_surveyBeside 44 = .ok (.iconst 0, 1) := by decide +kernel
theorem dX0_surveyBeside_45 : decode cX0_surveyBeside 45 = .ok (.iastore, 1) := by decide +kernel
theorem dX0_surveyBeside_46 : decode cX0_surveyBeside 46 = .ok (.iinc 5 1, 3) := by decide +kernel
theorem dX0_surveyBeside_49 : decode cX0_surveyBeside 49 = .ok (.goto (-23), 3) := by decide +kernel
theorem dX0_surveyBeside_52 : decode cX0_surveyBeside 52 = .ok (.iinc 4 1, 3) := by decide +kernel
theorem dX0_surveyBeside_55 : decode cX0_surveyBeside 55 = .ok (.goto (-52), 3) := by decide +kernel
theorem dX0_surveyBeside_58 : decode cX0_surveyBeside 58 = .ok (.iconst 0, 1) := by decide +kernel
theorem dX0_surveyBeside_59 : decode cX0_surveyBeside 59 = .ok (.istore 4, 2) := by decide +kernel
theorem dX0_surveyBeside_61 : decode cX0_surveyBeside 61 = .ok (.iload 4, 2) := by decide +kernel
theorem dX0_surveyBeside_63 : decode cX0_surveyBeside 63 = .ok (.aload_n 0, 1) := by decide +kernel
theorem dX0_surveyBeside_64 : decode cX0_surveyBeside 64 = .ok (.getfield 45, 3) := by decide +kernel
theorem dX0_surveyBeside_67 : decode cX0_surveyBeside 67 = .ok (.if_icmp .ge 119, 3) := by decide +kernel
theorem dX0_surveyBeside_70 : decode cX0_surveyBeside 70 = .ok (.aload_n 0, 1) := by decide +kernel
theorem dX0_surveyBeside_71 : decode cX0_surveyBeside 71 = .ok (.getfield 33, 3) := by decide +kernel
theorem dX0_surveyBeside_74 : decode cX0_surveyBeside 74 = .ok (.getfield 53, 3) := by decide +kernel
theorem dX0_surveyBeside_77 : decode cX0_surveyBeside 77 = .ok (.aload_n 0, 1) := by decide +kernel
theorem dX0_surveyBeside_78 : decode cX0_surveyBeside 78 = .ok (.getfield 19, 3) := by decide +kernel
theorem dX0_surveyBeside_81 : decode cX0_surveyBeside 81 = .ok (.iload 4, 2) := by decide +kernel
theorem dX0_surveyBeside_83 : decode cX0_surveyBeside 83 = .ok (.iaload, 1) := by decide +kernel
theorem dX0_surveyBeside_84 : decode cX0_surveyBeside 84 = .ok (.aaload, 1) := by decide +kernel
theorem dX0_surveyBeside_85 : decode cX0_surveyBeside 85 = .ok (.astore 5, 2) := by decide +kernel
theorem dX0_surveyBeside_87 : decode cX0_surveyBeside 87 = .ok (.iload_n 3, 1) := by decide +kernel
theorem dX0_surveyBeside_88 : decode cX0_surveyBeside 88 = .ok (.aload 5, 2) := by decide +kernel
theorem dX0_surveyBeside_90 : decode cX0_surveyBeside 90 = .ok (.getfield 94, 3) := by decide +kernel
theorem dX0_surveyBeside_93 : decode cX0_surveyBeside 93 = .ok (.invokestatic 97, 3) := by decide +kernel
theorem dX0_surveyBeside_96 : decode cX0_surveyBeside 96 = .ok (.istore 6, 2) := by decide +kernel
theorem dX0_surveyBeside_98 : decode cX0_surveyBeside 98 = .ok (.iload_n 2, 1) := by decide +kernel
theorem dX0_surveyBeside_99 : decode cX0_surveyBeside 99 = .ok (.aload 5, 2) := by decide +kernel
theorem dX0_surveyBeside_101 : decode cX0_surveyBeside 101 = .ok (.getfield 103, 3) := by decide +kernel
theorem dX0_surveyBeside_104 : decode cX0_surveyBeside 104 = .ok (.invokestatic 106, 3) := by decide +kernel
theorem dX0_surveyBeside_107 : decode cX0_surveyBeside 107 = .ok (.istore 7, 2) := by decide +kernel
theorem dX0_surveyBeside_109 : decode cX0_surveyBeside 109 = .ok (.iload 7, 2) := by decide +kernel
theorem dX0_surveyBeside_111 : decode cX0_surveyBeside 111 = .ok (.iload 6, 2) := by decide +kernel
theorem dX0_surveyBeside_113 : decode cX0_surveyBeside 113 = .ok (.if_icmp .gt 67, 3) := by decide +kernel
theorem dX0_surveyBeside_116 : decode cX0_surveyBeside 116 = .ok (.aload_n 0, 1) := by decide +kernel
theorem dX0_surveyBeside_117 : decode cX0_surveyBeside 117 = .ok (.aload 5, 2) := by decide +kernel
theorem dX0_surveyBeside_119 : decode cX0_surveyBeside 119 = .ok (.iload 7, 2) := by decide +kernel
theorem dX0_surveyBeside_121 : decode cX0_surveyBeside 121 = .ok (.invokevirtual 73, 3) := by decide +kernel
theorem dX0_surveyBeside_124 : decode cX0_surveyBeside 124 = .ok (.istore 8, 2) := by decide +kernel
theorem dX0_surveyBeside_126 : decode cX0_surveyBeside 126 = .ok (.iconst 0, 1) := by decide +kernel
theorem dX0_surveyBeside_127 : decode cX0_surveyBeside 127 = .ok (.istore 9, 2) := by decide +kernel
theorem dX0_surveyBeside_129 : decode cX0_surveyBeside 129 = .ok (.iload 9, 2) := by decide +kernel
theorem dX0_surveyBeside_131 : decode cX0_surveyBeside 131 = .ok (.aload_n 1, 1) := by decide +kernel
theorem dX0_surveyBeside_132 : decode cX0_surveyBeside 132 = .ok (.getfield 77, 3) := by decide +kernel
theorem dX0_surveyBeside_135 : decode cX0_surveyBeside 135 = .ok (.if_icmp .ge 39, 3) := by decide +kernel
theorem dX0_surveyBeside_138 : decode cX0_surveyBeside 138 = .ok (.aload 5, 2) := by decide +kernel
theorem dX0_surveyBeside_140 : decode cX0_surveyBeside 140 = .ok (.aload_n 1, 1) := by decide +kernel
theorem dX0_surveyBeside_141 : decode cX0_surveyBeside 141 = .ok (.getfield 80, 3) := by decide +kernel
theorem dX0_surveyBeside_144 : decode cX0_surveyBeside 144 = .ok (.iload 9, 2) := by decide +kernel
theorem dX0_surveyBeside_146 : decode cX0_surveyBeside 146 = .ok (.iaload, 1) := by decide +kernel
theorem dX0_surveyBeside_147 : decode cX0_surveyBeside 147 = .ok (.invokevirtual 109, 3) := by decide +kernel
theorem dX0_surveyBeside_150 : decode cX0_surveyBeside 150 = .ok (.ifCond .eq 18, 3) := by decide +kernel
theorem dX0_surveyBeside_153 : decode cX0_surveyBeside 153 = .ok (.aload_n 0, 1) := by decide +kernel
theorem dX0_surveyBeside_154 : decode cX0_surveyBeside 154 = .ok (.getfield 27, 3) := by decide +kernel
theorem dX0_surveyBeside_157 : decode cX0_surveyBeside 157 = .ok (.iload 9, 2) := by decide +kernel
theorem dX0_surveyBeside_159 : decode cX0_surveyBeside 159 = .ok (.aaload, 1) := by decide +kernel
theorem dX0_surveyBeside_160 : decode cX0_surveyBeside 160 = .ok (.iload 7, 2) := by decide +kernel
theorem dX0_surveyBeside_162 : decode cX0_surveyBeside 162 = .ok (.dup2, 1) := by decide +kernel
theorem dX0_surveyBeside_163 : decode cX0_surveyBeside 163 = .ok (.iaload, 1) := by decide +kernel
theorem dX0_surveyBeside_164 : decode cX0_surveyBeside 164 = .ok (.iload 8, 2) := by decide +kernel
theorem dX0_surveyBeside_166 : decode cX0_surveyBeside 166 = .ok (.iadd, 1) := by decide +kernel
theorem dX0_surveyBeside_167 : decode cX0_surveyBeside 167 = .ok (.iastore, 1) := by decide +kernel
theorem dX0_surveyBeside_168 : decode cX0_surveyBeside 168 = .ok (.iinc 9 1, 3) := by decide +kernel
theorem dX0_surveyBeside_171 : decode cX0_surveyBeside 171 = .ok (.goto (-42), 3) := by decide +kernel
theorem dX0_surveyBeside_174 : decode cX0_surveyBeside 174 = .ok (.iinc 7 1, 3) := by decide +kernel
theorem dX0_surveyBeside_177 : decode cX0_surveyBeside 177 = .ok (.goto (-68), 3) := by decide +kernel
theorem dX0_surveyBeside_180 : decode cX0_surveyBeside 180 = .ok (.iinc 4 1, 3) := by decide +kernel
theorem dX0_surveyBeside_183 : decode cX0_surveyBeside 183 = .ok (.goto (-122), 3) := by decide +kernel
theorem dX0_surveyBeside_186 : decode cX0_surveyBeside 186 = .ok (.return_, 1) := by decide +kernel
theorem dX0_lanesOf_0 : decode cX0_lanesOf 0 = .ok (.iload_n 2, 1) := by decide +kernel
theorem dX0_lanesOf_1 : decode cX0_lanesOf 1 = .ok (.aload_n 1, 1) := by decide +kernel
theorem dX0_lanesOf_2 : decode cX0_lanesOf 2 = .ok (.getfield 103, 3) := by decide +kernel
theorem dX0_lanesOf_5 : decode cX0_lanesOf 5 = .ok (.if_icmp .lt 11, 3) := by decide +kernel
theorem dX0_lanesOf_8 : decode cX0_lanesOf 8 = .ok (.iload_n 2, 1) := by decide +kernel
theorem dX0_lanesOf_9 : decode cX0_lanesOf 9 = .ok (.aload_n 1, 1) := by decide +kernel
theorem dX0_lanesOf_10 : decode cX0_lanesOf 10 = .ok (.getfield 94, 3) := by decide +kernel
theorem dX0_lanesOf_13 : decode cX0_lanesOf 13 = .ok (.if_icmp .le 5, 3) := by decide +kernel
theorem dX0_lanesOf_16 : decode cX0_lanesOf 16 = .ok (.iconst 0, 1) := by decide +kernel
theorem dX0_lanesOf_17 : decode cX0_lanesOf 17 = .ok (.ireturn, 1) := by decide +kernel
theorem dX0_lanesOf_18 : decode cX0_lanesOf 18 = .ok (.aload_n 1, 1) := by decide +kernel
theorem dX0_lanesOf_19 : decode cX0_lanesOf 19 = .ok (.getfield 113, 3) := by decide +kernel
theorem dX0_lanesOf_22 : decode cX0_lanesOf 22 = .ok (.istore_n 3, 1) := by decide +kernel
theorem dX0_lanesOf_23 : decode cX0_lanesOf 23 = .ok (.iload_n 3, 1) := by decide +kernel
theorem dX0_lanesOf_24 : decode cX0_lanesOf 24 = .ok (.ifCond .lt 23, 3) := by decide +kernel
theorem dX0_lanesOf_27 : decode cX0_lanesOf 27 = .ok (.iload_n 3, 1) := by decide +kernel
theorem dX0_lanesOf_28 : decode cX0_lanesOf 28 = .ok (.aload_n 0, 1) := by decide +kernel
theorem dX0_lanesOf_29 : decode cX0_lanesOf 29 = .ok (.getfield 33, 3) := by decide +kernel
theorem dX0_lanesOf_32 : decode cX0_lanesOf 32 = .ok (.getfield 48, 3) := by decide +kernel
theorem dX0_lanesOf_35 : decode cX0_lanesOf 35 = .ok (.if_icmp .ge 12, 3) := by decide +kernel
theorem dX0_lanesOf_38 : decode cX0_lanesOf 38 = .ok (.aload_n 0, 1) := by decide +kernel
theorem dX0_lanesOf_39 : decode cX0_lanesOf 39 = .ok (.getfield 9, 3) := by decide +kernel
theorem dX0_lanesOf_42 : decode cX0_lanesOf 42 = .ok (.iload_n 3, 1) := by decide +kernel
theorem dX0_lanesOf_43 : decode cX0_lanesOf 43 = .ok (.baload, 1) := by decide +kernel
theorem dX0_lanesOf_44 : decode cX0_lanesOf 44 = .ok (.ifCond .ne 8, 3) := by decide +kernel
theorem dX0_lanesOf_47 : decode cX0_lanesOf 47 = .ok (.aload_n 1, 1) := by decide +kernel
theorem dX0_lanesOf_48 : decode cX0_lanesOf 48 = .ok (.getfield 116, 3) := by decide +kernel
theorem dX0_lanesOf_51 : decode cX0_lanesOf 51 = .ok (.ireturn, 1) := by decide +kernel
theorem dX0_lanesOf_52 : decode cX0_lanesOf 52 = .ok (.aload_n 0, 1) := by decide +kernel
theorem dX0_lanesOf_53 : decode cX0_lanesOf 53 = .ok (.getfield 33, 3) := by decide +kernel
theorem dX0_lanesOf_56 : decode cX0_lanesOf 56 = .ok (.getfield 53, 3) := by decide +kernel
theorem dX0_lanesOf_59 : decode cX0_lanesOf 59 = .ok (.iload_n 3, 1) := by decide +kernel
theorem dX0_lanesOf_60 : decode cX0_lanesOf 60 = .ok (.aaload, 1) := by decide +kernel
theorem dX0_lanesOf_61 : decode cX0_lanesOf 61 = .ok (.astore 4, 2) := by decide +kernel
theorem dX0_lanesOf_63 : decode cX0_lanesOf 63 = .ok (.iload_n 2, 1) := by decide +kernel
theorem dX0_lanesOf_64 : decode cX0_lanesOf 64 = .ok (.aload 4, 2) := by decide +kernel
theorem dX0_lanesOf_66 : decode cX0_lanesOf 66 = .ok (.getfield 103, 3) := by decide +kernel
theorem dX0_lanesOf_69 : decode cX0_lanesOf 69 = .ok (.if_icmp .lt 12, 3) := by decide +kernel
theorem dX0_lanesOf_72 : decode cX0_lanesOf 72 = .ok (.iload_n 2, 1) := by decide +kernel
theorem dX0_lanesOf_73 : decode cX0_lanesOf 73 = .ok (.aload 4, 2) := by decide +kernel
theorem dX0_lanesOf_75 : decode cX0_lanesOf 75 = .ok (.getfield 94, 3) := by decide +kernel
theorem dX0_lanesOf_78 : decode cX0_lanesOf 78 = .ok (.if_icmp .le 8, 3) := by decide +kernel
theorem dX0_lanesOf_81 : decode cX0_lanesOf 81 = .ok (.aload_n 1, 1) := by decide +kernel
theorem dX0_lanesOf_82 : decode cX0_lanesOf 82 = .ok (.getfield 116, 3) := by decide +kernel
theorem dX0_lanesOf_85 : decode cX0_lanesOf 85 = .ok (.ireturn, 1) := by decide +kernel
theorem dX0_lanesOf_86 : decode cX0_lanesOf 86 = .ok (.aload_n 1, 1) := by decide +kernel
theorem dX0_lanesOf_87 : decode cX0_lanesOf 87 = .ok (.getfield 116, 3) := by decide +kernel
theorem dX0_lanesOf_90 : decode cX0_lanesOf 90 = .ok (.aload 4, 2) := by decide +kernel
theorem dX0_lanesOf_92 : decode cX0_lanesOf 92 = .ok (.getfield 116, 3) := by decide +kernel
theorem dX0_lanesOf_95 : decode cX0_lanesOf 95 = .ok (.if_icmp .eq 24, 3) := by decide +kernel
theorem dX0_lanesOf_98 : decode cX0_lanesOf 98 = .ok (.aload_n 1, 1) := by decide +kernel
theorem dX0_lanesOf_99 : decode cX0_lanesOf 99 = .ok (.getfield 116, 3) := by decide +kernel
theorem dX0_lanesOf_102 : decode cX0_lanesOf 102 = .ok (.aload 4, 2) := by decide +kernel
theorem dX0_lanesOf_104 : decode cX0_lanesOf 104 = .ok (.getfield 116, 3) := by decide +kernel
theorem dX0_lanesOf_107 : decode cX0_lanesOf 107 = .ok (.if_icmp .le 10, 3) := by decide +kernel
theorem dX0_lanesOf_110 : decode cX0_lanesOf 110 = .ok (.aload_n 1, 1) := by decide +kernel
theorem dX0_lanesOf_111 : decode cX0_lanesOf 111 = .ok (.getfield 116, 3) := by decide +kernel
theorem dX0_lanesOf_114 : decode cX0_lanesOf 114 = .ok (.goto 4, 3) := by decide +kernel
theorem dX0_lanesOf_117 : decode cX0_lanesOf 117 = .ok (.iconst 0, 1) := by decide +kernel
theorem dX0_lanesOf_118 : decode cX0_lanesOf 118 = .ok (.ireturn, 1) := by decide +kernel
theorem dX0_lanesOf_119 : decode cX0_lanesOf 119 = .ok (.aload_n 1, 1) := by decide +kernel
theorem dX0_lanesOf_120 : decode cX0_lanesOf 120 = .ok (.getfield 117, 3) := by decide +kernel
theorem dX0_lanesOf_123 : decode cX0_lanesOf 123 = .ok (.iload_n 3, 1) := by decide +kernel
theorem dX0_lanesOf_124 : decode cX0_lanesOf 124 = .ok (.if_icmp .ge 10, 3) := by decide +kernel
theorem dX0_lanesOf_127 : decode cX0_lanesOf 127 = .ok (.aload_n 1, 1) := by decide +kernel
theorem dX0_lanesOf_128 : decode cX0_lanesOf 128 = .ok (.getfield 116, 3) := by decide +kernel
theorem dX0_lanesOf_131 : decode cX0_lanesOf 131 = .ok (.goto 4, 3) := by decide +kernel
theorem dX0_lanesOf_134 : decode cX0_lanesOf 134 = .ok (.iconst 0, 1) := by decide +kernel
theorem dX0_lanesOf_135 : decode cX0_lanesOf 135 = .ok (.ireturn, 1) := by decide +kernel
theorem dX0_lanesAddedBy_0 : decode cX0_lanesAddedBy 0 = .ok (.aload_n 1, 1) := by decide +kernel
theorem dX0_lanesAddedBy_1 : decode cX0_lanesAddedBy 1 = .ok (.getfield 113, 3) := by decide +kernel
theorem dX0_lanesAddedBy_4 : decode cX0_lanesAddedBy 4 = .ok (.istore_n 3, 1) := by decide +kernel
theorem dX0_lanesAddedBy_5 : decode cX0_lanesAddedBy 5 = .ok (.iload_n 3, 1) := by decide +kernel
theorem dX0_lanesAddedBy_6 : decode cX0_lanesAddedBy 6 = .ok (.ifCond .lt 23, 3) := by decide +kernel
theorem dX0_lanesAddedBy_9 : decode cX0_lanesAddedBy 9 = .ok (.iload_n 3, 1) := by decide +kernel
theorem dX0_lanesAddedBy_10 : decode cX0_lanesAddedBy 10 = .ok (.aload_n 0, 1) := by decide +kernel
theorem dX0_lanesAddedBy_11 : decode cX0_lanesAddedBy 11 = .ok (.getfield 33, 3) := by decide +kernel
theorem dX0_lanesAddedBy_14 : decode cX0_lanesAddedBy 14 = .ok (.getfield 48, 3) := by decide +kernel
theorem dX0_lanesAddedBy_17 : decode cX0_lanesAddedBy 17 = .ok (.if_icmp .ge 12, 3) := by decide +kernel
theorem dX0_lanesAddedBy_20 : decode cX0_lanesAddedBy 20 = .ok (.aload_n 0, 1) := by decide +kernel
theorem dX0_lanesAddedBy_21 : decode cX0_lanesAddedBy 21 = .ok (.getfield 9, 3) := by decide +kernel
theorem dX0_lanesAddedBy_24 : decode cX0_lanesAddedBy 24 = .ok (.iload_n 3, 1) := by decide +kernel
theorem dX0_lanesAddedBy_25 : decode cX0_lanesAddedBy 25 = .ok (.baload, 1) := by decide +kernel
theorem dX0_lanesAddedBy_26 : decode cX0_lanesAddedBy 26 = .ok (.ifCond .ne 8, 3) := by decide +kernel
theorem dX0_lanesAddedBy_29 : decode cX0_lanesAddedBy 29 = .ok (.aload_n 1, 1) := by decide +kernel
theorem dX0_lanesAddedBy_30 : decode cX0_lanesAddedBy 30 = .ok (.getfield 116, 3) := by decide +kernel
theorem dX0_lanesAddedBy_33 : decode cX0_lanesAddedBy 33 = .ok (.ireturn, 1) := by decide +kernel
theorem dX0_lanesAddedBy_34 : decode cX0_lanesAddedBy 34 = .ok (.aload_n 0, 1) := by decide +kernel
theorem dX0_lanesAddedBy_35 : decode cX0_lanesAddedBy 35 = .ok (.getfield 33, 3) := by decide +kernel
theorem dX0_lanesAddedBy_38 : decode cX0_lanesAddedBy 38 = .ok (.getfield 53, 3) := by decide +kernel
theorem dX0_lanesAddedBy_41 : decode cX0_lanesAddedBy 41 = .ok (.iload_n 3, 1) := by decide +kernel
theorem dX0_lanesAddedBy_42 : decode cX0_lanesAddedBy 42 = .ok (.aaload, 1) := by decide +kernel
theorem dX0_lanesAddedBy_43 : decode cX0_lanesAddedBy 43 = .ok (.astore 4, 2) := by decide +kernel
theorem dX0_lanesAddedBy_45 : decode cX0_lanesAddedBy 45 = .ok (.iload_n 2, 1) := by decide +kernel
theorem dX0_lanesAddedBy_46 : decode cX0_lanesAddedBy 46 = .ok (.aload 4, 2) := by decide +kernel
theorem dX0_lanesAddedBy_48 : decode cX0_lanesAddedBy 48 = .ok (.getfield 103, 3) := by decide +kernel
theorem dX0_lanesAddedBy_51 : decode cX0_lanesAddedBy 51 = .ok (.if_icmp .lt 12, 3) := by decide +kernel
theorem dX0_lanesAddedBy_54 : decode cX0_lanesAddedBy 54 = .ok (.iload_n 2, 1) := by decide +kernel
theorem dX0_lanesAddedBy_55 : decode cX0_lanesAddedBy 55 = .ok (.aload 4, 2) := by decide +kernel
theorem dX0_lanesAddedBy_57 : decode cX0_lanesAddedBy 57 = .ok (.getfield 94, 3) := by decide +kernel
theorem dX0_lanesAddedBy_60 : decode cX0_lanesAddedBy 60 = .ok (.if_icmp .le 8, 3) := by decide +kernel
theorem dX0_lanesAddedBy_63 : decode cX0_lanesAddedBy 63 = .ok (.aload_n 1, 1) := by decide +kernel
theorem dX0_lanesAddedBy_64 : decode cX0_lanesAddedBy 64 = .ok (.getfield 116, 3) := by decide +kernel
theorem dX0_lanesAddedBy_67 : decode cX0_lanesAddedBy 67 = .ok (.ireturn, 1) := by decide +kernel
theorem dX0_lanesAddedBy_68 : decode cX0_lanesAddedBy 68 = .ok (.aload_n 1, 1) := by decide +kernel
theorem dX0_lanesAddedBy_69 : decode cX0_lanesAddedBy 69 = .ok (.getfield 116, 3) := by decide +kernel
theorem dX0_lanesAddedBy_72 : decode cX0_lanesAddedBy 72 = .ok (.aload 4, 2) := by decide +kernel
theorem dX0_lanesAddedBy_74 : decode cX0_lanesAddedBy 74 = .ok (.getfield 116, 3) := by decide +kernel
theorem dX0_lanesAddedBy_77 : decode cX0_lanesAddedBy 77 = .ok (.if_icmp .le 16, 3) := by decide +kernel
theorem dX0_lanesAddedBy_80 : decode cX0_lanesAddedBy 80 = .ok (.aload_n 1, 1) := by decide +kernel
theorem dX0_lanesAddedBy_81 : decode cX0_lanesAddedBy 81 = .ok (.getfield 116, 3) := by decide +kernel
theorem dX0_lanesAddedBy_84 : decode cX0_lanesAddedBy 84 = .ok (.aload 4, 2) := by decide +kernel
theorem dX0_lanesAddedBy_86 : decode cX0_lanesAddedBy 86 = .ok (.getfield 116, 3) := by decide +kernel
theorem dX0_lanesAddedBy_89 : decode cX0_lanesAddedBy 89 = .ok (.isub, 1) := by decide +kernel
theorem dX0_lanesAddedBy_90 : decode cX0_lanesAddedBy 90 = .ok (.goto 4, 3) := by decide +kernel
theorem dX0_lanesAddedBy_93 : decode cX0_lanesAddedBy 93 = .ok (.iconst 0, 1) := by decide +kernel
theorem dX0_lanesAddedBy_94 : decode cX0_lanesAddedBy 94 = .ok (.ireturn, 1) := by decide +kernel
theorem dX1_init_0 : decode cX1_init 0 = .ok (.aload_n 0, 1) := by decide +kernel
theorem dX1_init_1 : decode cX1_init 1 = .ok (.invokespecial 1, 3) := by decide +kernel
theorem dX1_init_4 : decode cX1_init 4 = .ok (.return_, 1) := by decide +kernel
theorem dX2_init_0 : decode cX2_init 0 = .ok (.aload_n 0, 1) := by decide +kernel
theorem dX2_init_1 : decode cX2_init 1 = .ok (.invokespecial 1, 3) := by decide +kernel
theorem dX2_init_4 : decode cX2_init 4 = .ok (.return_, 1) := by decide +kernel
theorem dX3_init_0 : decode cX3_init 0 = .ok (.aload_n 0, 1) := by decide +kernel
theorem dX3_init_1 : decode cX3_init 1 = .ok (.invokespecial 3, 3) := by decide +kernel
theorem dX3_init_4 : decode cX3_init 4 = .ok (.aload_n 0, 1) := by decide +kernel
theorem dX3_init_5 : decode cX3_init 5 = .ok (.aload_n 1, 1) := by decide +kernel
theorem dX3_init_6 : decode cX3_init 6 = .ok (.putfield 9, 3) := by decide +kernel
theorem dX3_init_9 : decode cX3_init 9 = .ok (.aload_n 0, 1) := by decide +kernel
theorem dX3_init_10 : decode cX3_init 10 = .ok (.aload_n 2, 1) := by decide +kernel
theorem dX3_init_11 : decode cX3_init 11 = .ok (.putfield 15, 3) := by decide +kernel
theorem dX3_init_14 : decode cX3_init 14 = .ok (.aload_n 0, 1) := by decide +kernel
theorem dX3_init_15 : decode cX3_init 15 = .ok (.aload_n 3, 1) := by decide +kernel
theorem dX3_init_16 : decode cX3_init 16 = .ok (.putfield 19, 3) := by decide +kernel
theorem dX3_init_19 : decode cX3_init 19 = .ok (.return_, 1) := by decide +kernel
theorem dX3_lookAt_0 : decode cX3_lookAt 0 = .ok (.aload_n 0, 1) := by decide +kernel
theorem dX3_lookAt_1 : decode cX3_lookAt 1 = .ok (.getfield 15, 3) := by decide +kernel
theorem dX3_lookAt_4 : decode cX3_lookAt 4 = .ok (.aload_n 1, 1) := by decide +kernel
theorem dX3_lookAt_5 : decode cX3_lookAt 5 = .ok (.getfield 23, 3) := by decide +kernel
theorem dX3_lookAt_8 : decode cX3_lookAt 8 = .ok (.aload_n 1, 1) := by decide +kernel
theorem dX3_lookAt_9 : decode cX3_lookAt 9 = .ok (.getfield 29, 3) := by decide +kernel
theorem dX3_lookAt_12 : decode cX3_lookAt 12 = .ok (.iload_n 2, 1) := by decide +kernel
theorem dX3_lookAt_13 : decode cX3_lookAt 13 = .ok (.invokevirtual 33, 3) := by decide +kernel
theorem dX3_lookAt_16 : decode cX3_lookAt 16 = .ok (.return_, 1) := by decide +kernel
theorem dX3_broken_0 : decode cX3_broken 0 = .ok (.aload_n 1, 1) := by decide +kernel
theorem dX3_broken_1 : decode cX3_broken 1 = .ok (.iload_n 2, 1) := by decide +kernel
theorem dX3_broken_2 : decode cX3_broken 2 = .ok (.invokevirtual 39, 3) := by decide +kernel
theorem dX3_broken_5 : decode cX3_broken 5 = .ok (.istore 4, 2) := by decide +kernel
theorem dX3_broken_7 : decode cX3_broken 7 = .ok (.iload_n 3, 1) := by decide +kernel
theorem dX3_broken_8 : decode cX3_broken 8 = .ok (.iconst 1, 1) := by decide +kernel
theorem dX3_broken_9 : decode cX3_broken 9 = .ok (.if_icmp .gt 14, 3) := by decide +kernel
theorem dX3_broken_12 : decode cX3_broken 12 = .ok (.aload_n 0, 1) := by decide +kernel
theorem dX3_broken_13 : decode cX3_broken 13 = .ok (.aload_n 1, 1) := by decide +kernel
theorem dX3_broken_14 : decode cX3_broken 14 = .ok (.iload_n 2, 1) := by decide +kernel
theorem dX3_broken_15 : decode cX3_broken 15 = .ok (.invokevirtual 43, 3) := by decide +kernel
theorem dX3_broken_18 : decode cX3_broken 18 = .ok (.ifCond .eq 5, 3) := by decide +kernel
theorem dX3_broken_21 : decode cX3_broken 21 = .ok (.iconst 1, 1) := by decide +kernel
theorem dX3_broken_22 : decode cX3_broken 22 = .ok (.ireturn, 1) := by decide +kernel
theorem dX3_broken_23 : decode cX3_broken 23 = .ok (.iload_n 3, 1) := by decide +kernel
theorem dX3_broken_24 : decode cX3_broken 24 = .ok (.iconst 2, 1) := by decide +kernel
theorem dX3_broken_25 : decode cX3_broken 25 = .ok (.if_icmp .gt 14, 3) := by decide +kernel
theorem dX3_broken_28 : decode cX3_broken 28 = .ok (.aload_n 0, 1) := by decide +kernel
theorem dX3_broken_29 : decode cX3_broken 29 = .ok (.aload_n 1, 1) := by decide +kernel
theorem dX3_broken_30 : decode cX3_broken 30 = .ok (.iload_n 2, 1) := by decide +kernel
theorem dX3_broken_31 : decode cX3_broken 31 = .ok (.invokevirtual 47, 3) := by decide +kernel
theorem dX3_broken_34 : decode cX3_broken 34 = .ok (.ifCond .eq 5, 3) := by decide +kernel
theorem dX3_broken_37 : decode cX3_broken 37 = .ok (.iconst 2, 1) := by decide +kernel
theorem dX3_broken_38 : decode cX3_broken 38 = .ok (.ireturn, 1) := by decide +kernel
theorem dX3_broken_39 : decode cX3_broken 39 = .ok (.aload_n 0, 1) := by decide +kernel
theorem dX3_broken_40 : decode cX3_broken 40 = .ok (.aload_n 1, 1) := by decide +kernel
theorem dX3_broken_41 : decode cX3_broken 41 = .ok (.iload_n 2, 1) := by decide +kernel
theorem dX3_broken_42 : decode cX3_broken 42 = .ok (.iload 4, 2) := by decide +kernel
theorem dX3_broken_44 : decode cX3_broken 44 = .ok (.invokevirtual 50, 3) := by decide +kernel
theorem dX3_broken_47 : decode cX3_broken 47 = .ok (.ifCond .eq 5, 3) := by decide +kernel
theorem dX3_broken_50 : decode cX3_broken 50 = .ok (.iconst 3, 1) := by decide +kernel
theorem dX3_broken_51 : decode cX3_broken 51 = .ok (.ireturn, 1) := by decide +kernel
theorem dX3_broken_52 : decode cX3_broken 52 = .ok (.aload_n 0, 1) := by decide +kernel
theorem dX3_broken_53 : decode cX3_broken 53 = .ok (.getfield 15, 3) := by decide +kernel
theorem dX3_broken_56 : decode cX3_broken 56 = .ok (.aload_n 1, 1) := by decide +kernel
theorem dX3_broken_57 : decode cX3_broken 57 = .ok (.iload_n 2, 1) := by decide +kernel
theorem dX3_broken_58 : decode cX3_broken 58 = .ok (.iload 4, 2) := by decide +kernel
theorem dX3_broken_60 : decode cX3_broken 60 = .ok (.invokevirtual 54, 3) := by decide +kernel
theorem dX3_broken_63 : decode cX3_broken 63 = .ok (.aload_n 0, 1) := by decide +kernel
theorem dX3_broken_64 : decode cX3_broken 64 = .ok (.aload_n 1, 1) := by decide +kernel
theorem dX3_broken_65 : decode cX3_broken 65 = .ok (.iload_n 2, 1) := by decide +kernel
theorem dX3_broken_66 : decode cX3_broken 66 = .ok (.iload 4, 2) := by decide +kernel
theorem dX3_broken_68 : decode cX3_broken 68 = .ok (.invokevirtual 58, 3) := by decide +kernel
theorem dX3_broken_71 : decode cX3_broken 71 = .ok (.ifCond .eq 5, 3) := by decide +kernel
theorem dX3_broken_74 : decode cX3_broken 74 = .ok (.iconst 4, 1) := by decide +kernel
theorem dX3_broken_75 : decode cX3_broken 75 = .ok (.ireturn, 1) := by decide +kernel
theorem dX3_broken_76 : decode cX3_broken 76 = .ok (.aload_n 0, 1) := by decide +kernel
theorem dX3_broken_77 : decode cX3_broken 77 = .ok (.aload_n 1, 1) := by decide +kernel
theorem dX3_broken_78 : decode cX3_broken 78 = .ok (.iload_n 2, 1) := by decide +kernel
theorem dX3_broken_79 : decode cX3_broken 79 = .ok (.iload 4, 2) := by decide +kernel
theorem dX3_broken_81 : decode cX3_broken 81 = .ok (.invokevirtual 61, 3) := by decide +kernel
theorem dX3_broken_84 : decode cX3_broken 84 = .ok (.ifCond .eq 5, 3) := by decide +kernel
theorem dX3_broken_87 : decode cX3_broken 87 = .ok (.iconst 5, 1) := by decide +kernel
theorem dX3_broken_88 : decode cX3_broken 88 = .ok (.ireturn, 1) := by decide +kernel
theorem dX3_broken_89 : decode cX3_broken 89 = .ok (.aload_n 0, 1) := by decide +kernel
theorem dX3_broken_90 : decode cX3_broken 90 = .ok (.aload_n 1, 1) := by decide +kernel
theorem dX3_broken_91 : decode cX3_broken 91 = .ok (.iload_n 2, 1) := by decide +kernel
theorem dX3_broken_92 : decode cX3_broken 92 = .ok (.iload 4, 2) := by decide +kernel
theorem dX3_broken_94 : decode cX3_broken 94 = .ok (.invokevirtual 64, 3) := by decide +kernel
theorem dX3_broken_97 : decode cX3_broken 97 = .ok (.ifCond .eq 6, 3) := by decide +kernel
theorem dX3_broken_100 : decode cX3_broken 100 = .ok (.bipush 6, 2) := by decide +kernel
theorem dX3_broken_102 : decode cX3_broken 102 = .ok (.ireturn, 1) := by decide +kernel
theorem dX3_broken_103 : decode cX3_broken 103 = .ok (.aload_n 0, 1) := by decide +kernel
theorem dX3_broken_104 : decode cX3_broken 104 = .ok (.aload_n 1, 1) := by decide +kernel
theorem dX3_broken_105 : decode cX3_broken 105 = .ok (.iload_n 2, 1) := by decide +kernel
theorem dX3_broken_106 : decode cX3_broken 106 = .ok (.iload 4, 2) := by decide +kernel
theorem dX3_broken_108 : decode cX3_broken 108 = .ok (.invokevirtual 67, 3) := by decide +kernel
theorem dX3_broken_111 : decode cX3_broken 111 = .ok (.ifCond .eq 6, 3) := by decide +kernel
theorem dX3_broken_114 : decode cX3_broken 114 = .ok (.bipush 7, 2) := by decide +kernel
theorem dX3_broken_116 : decode cX3_broken 116 = .ok (.ireturn, 1) := by decide +kernel
theorem dX3_broken_117 : decode cX3_broken 117 = .ok (.iconst 0, 1) := by decide +kernel
theorem dX3_broken_118 : decode cX3_broken 118 = .ok (.ireturn, 1) := by decide +kernel
theorem dX3_found_0 : decode cX3_found 0 = .ok (.aload_n 0, 1) := by decide +kernel
theorem dX3_found_1 : decode cX3_found 1 = .ok (.iload_n 1, 1) := by decide +kernel
theorem dX3_found_2 : decode cX3_found 2 = .ok (.putfield 70, 3) := by decide +kernel
theorem dX3_found_5 : decode cX3_found 5 = .ok (.aload_n 0, 1) := by decide +kernel
theorem dX3_found_6 : decode cX3_found 6 = .ok (.iload_n 2, 1) := by decide +kernel
theorem dX3_found_7 : decode cX3_found 7 = .ok (.putfield 73, 3) := by decide +kernel
theorem dX3_found_10 : decode cX3_found 10 = .ok (.iconst 1, 1) := by decide +kernel
theorem dX3_found_11 : decode cX3_found 11 = .ok (.ireturn, 1) := by decide +kernel
theorem dX3_isLateNotice_0 : decode cX3_isLateNotice 0 = .ok (.iload_n 2, 1) := by decide +kernel
theorem dX3_isLateNotice_1 : decode cX3_isLateNotice 1 = .ok (.aload_n 0, 1) := by decide +kernel
theorem dX3_isLateNotice_2 : decode cX3_isLateNotice 2 = .ok (.getfield 9, 3) := by decide +kernel
theorem dX3_isLateNotice_5 : decode cX3_isLateNotice 5 = .ok (.getfield 76, 3) := by decide +kernel
theorem dX3_isLateNotice_8 : decode cX3_isLateNotice 8 = .ok (.aload_n 1, 1) := by decide +kernel
theorem dX3_isLateNotice_9 : decode cX3_isLateNotice 9 = .ok (.invokevirtual 81, 3) := by decide +kernel
theorem dX3_isLateNotice_12 : decode cX3_isLateNotice 12 = .ok (.iadd, 1) := by decide +kernel
theorem dX3_isLateNotice_13 : decode cX3_isLateNotice 13 = .ok (.if_icmp .ge 21, 3) := by decide +kernel
theorem dX3_isLateNotice_16 : decode cX3_isLateNotice 16 = .ok (.aload_n 0, 1) := by decide +kernel
theorem dX3_isLateNotice_17 : decode cX3_isLateNotice 17 = .ok (.iload_n 2, 1) := by decide +kernel
theorem dX3_isLateNotice_18 : decode cX3_isLateNotice 18 = .ok (.aload_n 1, 1) := by decide +kernel
theorem dX3_isLateNotice_19 : decode cX3_isLateNotice 19 = .ok (.getfield 85, 3) := by decide +kernel
theorem dX3_isLateNotice_22 : decode cX3_isLateNotice 22 = .ok (.iconst 0, 1) := by decide +kernel
theorem dX3_isLateNotice_23 : decode cX3_isLateNotice 23 = .ok (.iaload, 1) := by decide +kernel
theorem dX3_isLateNotice_24 : decode cX3_isLateNotice 24 = .ok (.invokevirtual 89, 3) := by decide +kernel
theorem dX3_isLateNotice_27 : decode cX3_isLateNotice 27 = .ok (.ifCond .eq 7, 3) := by decide +kernel
theorem dX3_isLateNotice_30 : decode cX3_isLateNotice 30 = .ok (.iconst 1, 1) := by decide +kernel
theorem dX3_isLateNotice_31 : decode cX3_isLateNotice 31 = .ok (.goto 4, 3) := by decide +kernel
theorem dX3_isLateNotice_34 : decode cX3_isLateNotice 34 = .ok (.iconst 0, 1) := by decide +kernel
theorem dX3_isLateNotice_35 : decode cX3_isLateNotice 35 = .ok (.ireturn, 1) := by decide +kernel
theorem dX3_isPastEnd_0 : decode cX3_isPastEnd 0 = .ok (.iload_n 2, 1) := by decide +kernel
theorem dX3_isPastEnd_1 : decode cX3_isPastEnd 1 = .ok (.aload_n 1, 1) := by decide +kernel
theorem dX3_isPastEnd_2 : decode cX3_isPastEnd 2 = .ok (.getfield 93, 3) := by decide +kernel
theorem dX3_isPastEnd_5 : decode cX3_isPastEnd 5 = .ok (.iadd, 1) := by decide +kernel
theorem dX3_isPastEnd_6 : decode cX3_isPastEnd 6 = .ok (.iconst 1, 1) := by decide +kernel
theorem dX3_isPastEnd_7 : decode cX3_isPastEnd 7 = .ok (.isub, 1) := by decide +kernel
theorem dX3_isPastEnd_8 : decode cX3_isPastEnd 8 = .ok (.sipush 399, 3) := by decide +kernel
theorem dX3_isPastEnd_11 : decode cX3_isPastEnd 11 = .ok (.if_icmp .le 23, 3) := by decide +kernel
theorem dX3_isPastEnd_14 : decode cX3_isPastEnd 14 = .ok (.aload_n 0, 1) := by decide +kernel
theorem dX3_isPastEnd_15 : decode cX3_isPastEnd 15 = .ok (.sipush 400, 3) := by decide +kernel
theorem dX3_isPastEnd_18 : decode cX3_isPastEnd 18 = .ok (.aload_n 1, 1) := by decide +kernel
theorem dX3_isPastEnd_19 : decode cX3_isPastEnd 19 = .ok (.getfield 85, 3) := by decide +kernel
theorem dX3_isPastEnd_22 : decode cX3_isPastEnd 22 = .ok (.iconst 0, 1) := by decide +kernel
theorem dX3_isPastEnd_23 : decode cX3_isPastEnd 23 = .ok (.iaload, 1) := by decide +kernel
theorem dX3_isPastEnd_24 : decode cX3_isPastEnd 24 = .ok (.invokevirtual 89, 3) := by decide +kernel
theorem dX3_isPastEnd_27 : decode cX3_isPastEnd 27 = .ok (.ifCond .eq 7, 3) := by decide +kernel
theorem dX3_isPastEnd_30 : decode cX3_isPastEnd 30 = .ok (.iconst 1, 1) := by decide +kernel
theorem dX3_isPastEnd_31 : decode cX3_isPastEnd 31 = .ok (.goto 4, 3) := by decide +kernel
theorem dX3_isPastEnd_34 : decode cX3_isPastEnd 34 = .ok (.iconst 0, 1) := by decide +kernel
theorem dX3_isPastEnd_35 : decode cX3_isPastEnd 35 = .ok (.ireturn, 1) := by decide +kernel
theorem dX3_isOnFeast_0 : decode cX3_isOnFeast 0 = .ok (.iload_n 2, 1) := by decide +kernel
theorem dX3_isOnFeast_1 : decode cX3_isOnFeast 1 = .ok (.istore 4, 2) := by decide +kernel
theorem dX3_isOnFeast_3 : decode cX3_isOnFeast 3 = .ok (.iload 4, 2) := by decide +kernel
theorem dX3_isOnFeast_5 : decode cX3_isOnFeast 5 = .ok (.iload_n 3, 1) := by decide +kernel
theorem dX3_isOnFeast_6 : decode cX3_isOnFeast 6 = .ok (.if_icmp .gt 79, 3) := by decide +kernel
theorem dX3_isOnFeast_9 : decode cX3_isOnFeast 9 = .ok (.aload_n 0, 1) := by decide +kernel
theorem dX3_isOnFeast_10 : decode cX3_isOnFeast 10 = .ok (.getfield 9, 3) := by decide +kernel
theorem dX3_isOnFeast_13 : decode cX3_isOnFeast 13 = .ok (.getfield 96, 3) := by decide +kernel
theorem dX3_isOnFeast_16 : decode cX3_isOnFeast 16 = .ok (.iload 4, 2) := by decide +kernel
theorem dX3_isOnFeast_18 : decode cX3_isOnFeast 18 = .ok (.baload, 1) := by decide +kernel
theorem dX3_isOnFeast_19 : decode cX3_isOnFeast 19 = .ok (.ifCond .ne 6, 3) := by decide +kernel
theorem dX3_isOnFeast_22 : decode cX3_isOnFeast 22 = .ok (.goto 57, 3) := by decide +kernel
theorem dX3_isOnFeast_25 : decode cX3_isOnFeast 25 = .ok (.iconst 0, 1) := by decide +kernel
theorem dX3_isOnFeast_26 : decode cX3_isOnFeast 26 = .ok (.istore 5, 2) := by decide +kernel
theorem dX3_isOnFeast_28 : decode cX3_isOnFeast 28 = .ok (.iload 5, 2) := by decide +kernel
theorem dX3_isOnFeast_30 : decode cX3_isOnFeast 30 = .ok (.aload_n 1, 1) := by decide +kernel
theorem dX3_isOnFeast_31 : decode cX3_isOnFeast 31 = .ok (.getfield 100, 3) := by decide +kernel
theorem dX3_isOnFeast_34 : decode cX3_isOnFeast 34 = .ok (.if_icmp .ge 45, 3) := by decide +kernel
theorem dX3_isOnFeast_37 : decode cX3_isOnFeast 37 = .ok (.aload_n 0, 1) := by decide +kernel
theorem dX3_isOnFeast_38 : decode cX3_isOnFeast 38 = .ok (.getfield 9, 3) := by decide +kernel
theorem dX3_isOnFeast_41 : decode cX3_isOnFeast 41 = .ok (.getfield 103, 3) := by decide +kernel
theorem dX3_isOnFeast_44 : decode cX3_isOnFeast 44 = .ok (.aload_n 1, 1) := by decide +kernel
theorem dX3_isOnFeast_45 : decode cX3_isOnFeast 45 = .ok (.getfield 85, 3) := by decide +kernel
theorem dX3_isOnFeast_48 : decode cX3_isOnFeast 48 = .ok (.iload 5, 2) := by decide +kernel
theorem dX3_isOnFeast_50 : decode cX3_isOnFeast 50 = .ok (.iaload, 1) := by decide +kernel
theorem dX3_isOnFeast_51 : decode cX3_isOnFeast 51 = .ok (.aaload, 1) := by decide +kernel
theorem dX3_isOnFeast_52 : decode cX3_isOnFeast 52 = .ok (.getfield 106, 3) := by decide +kernel
theorem dX3_isOnFeast_55 : decode cX3_isOnFeast 55 = .ok (.iconst 2, 1) := by decide +kernel
theorem dX3_isOnFeast_56 : decode cX3_isOnFeast 56 = .ok (.if_icmp .ne 17, 3) := by decide +kernel
theorem dX3_isOnFeast_59 : decode cX3_isOnFeast 59 = .ok (.aload_n 0, 1) := by decide +kernel
theorem dX3_isOnFeast_60 : decode cX3_isOnFeast 60 = .ok (.iload 4, 2) := by decide +kernel
theorem dX3_isOnFeast_62 : decode cX3_isOnFeast 62 = .ok (.aload_n 1, 1) := by decide +kernel
theorem dX3_isOnFeast_63 : decode cX3_isOnFeast 63 = .ok (.getfield 85, 3) := by decide +kernel
theorem dX3_isOnFeast_66 : decode cX3_isOnFeast 66 = .ok (.iload 5, 2) := by decide +kernel
theorem dX3_isOnFeast_68 : decode cX3_isOnFeast 68 = .ok (.iaload, 1) := by decide +kernel
theorem dX3_isOnFeast_69 : decode cX3_isOnFeast 69 = .ok (.invokevirtual 89, 3) := by decide +kernel
theorem dX3_isOnFeast_72 : decode cX3_isOnFeast 72 = .ok (.ireturn, 1) := by decide +kernel
theorem dX3_isOnFeast_73 : decode cX3_isOnFeast 73 = .ok (.iinc 5 1, 3) := by decide +kernel
theorem dX3_isOnFeast_76 : decode cX3_isOnFeast 76 = .ok (.goto (-48), 3) := by decide +kernel
theorem dX3_isOnFeast_79 : decode cX3_isOnFeast 79 = .ok (.iinc 4 1, 3) := by decide +kernel
theorem dX3_isOnFeast_82 : decode cX3_isOnFeast 82 = .ok (.goto (-79), 3) := by decide +kernel
theorem dX3_isOnFeast_85 : decode cX3_isOnFeast 85 = .ok (.iconst 0, 1) := by decide +kernel
theorem dX3_isOnFeast_86 : decode cX3_isOnFeast 86 = .ok (.ireturn, 1) := by decide +kernel
theorem dX3_lacksLanes_0 : decode cX3_lacksLanes 0 = .ok (.iload_n 2, 1) := by decide +kernel
theorem dX3_lacksLanes_1 : decode cX3_lacksLanes 1 = .ok (.istore 4, 2) := by decide +kernel
theorem dX3_lacksLanes_3 : decode cX3_lacksLanes 3 = .ok (.iload 4, 2) := by decide +kernel
theorem dX3_lacksLanes_5 : decode cX3_lacksLanes 5 = .ok (.iload_n 3, 1) := by decide +kernel
theorem dX3_lacksLanes_6 : decode cX3_lacksLanes 6 = .ok (.if_icmp .gt 90, 3) := by decide +kernel
theorem dX3_lacksLanes_9 : decode cX3_lacksLanes 9 = .ok (.iconst 0, 1) := by decide +kernel
theorem dX3_lacksLanes_10 : decode cX3_lacksLanes 10 = .ok (.istore 5, 2) := by decide +kernel
theorem dX3_lacksLanes_12 : decode cX3_lacksLanes 12 = .ok (.iload 5, 2) := by decide +kernel
theorem dX3_lacksLanes_14 : decode cX3_lacksLanes 14 = .ok (.aload_n 1, 1) := by decide +kernel
theorem dX3_lacksLanes_15 : decode cX3_lacksLanes 15 = .ok (.getfield 100, 3) := by decide +kernel
theorem dX3_lacksLanes_18 : decode cX3_lacksLanes 18 = .ok (.if_icmp .ge 72, 3) := by decide +kernel
theorem dX3_lacksLanes_21 : decode cX3_lacksLanes 21 = .ok (.aload_n 0, 1) := by decide +kernel
theorem dX3_lacksLanes_22 : decode cX3_lacksLanes 22 = .ok (.getfield 15, 3) := by decide +kernel
theorem dX3_lacksLanes_25 : decode cX3_lacksLanes 25 = .ok (.getfield 111, 3) := by decide +kernel
theorem dX3_lacksLanes_28 : decode cX3_lacksLanes 28 = .ok (.iload 5, 2) := by decide +kernel
theorem dX3_lacksLanes_30 : decode cX3_lacksLanes 30 = .ok (.aaload, 1) := by decide +kernel
theorem dX3_lacksLanes_31 : decode cX3_lacksLanes 31 = .ok (.iload 4, 2) := by decide +kernel
theorem dX3_lacksLanes_33 : decode cX3_lacksLanes 33 = .ok (.iaload, 1) := by decide +kernel
theorem dX3_lacksLanes_34 : decode cX3_lacksLanes 34 = .ok (.aload_n 0, 1) := by decide +kernel
theorem dX3_lacksLanes_35 : decode cX3_lacksLanes 35 = .ok (.getfield 15, 3) := by decide +kernel
theorem dX3_lacksLanes_38 : decode cX3_lacksLanes 38 = .ok (.getfield 115, 3) := by decide +kernel
theorem dX3_lacksLanes_41 : decode cX3_lacksLanes 41 = .ok (.iload 4, 2) := by decide +kernel
theorem dX3_lacksLanes_43 : decode cX3_lacksLanes 43 = .ok (.iaload, 1) := by decide +kernel
theorem dX3_lacksLanes_44 : decode cX3_lacksLanes 44 = .ok (.iadd, 1) := by decide +kernel
theorem dX3_lacksLanes_45 : decode cX3_lacksLanes 45 = .ok (.istore 6, 2) := by decide +kernel
theorem dX3_lacksLanes_47 : decode cX3_lacksLanes 47 = .ok (.iload 6, 2) := by decide +kernel
theorem dX3_lacksLanes_49 : decode cX3_lacksLanes 49 = .ok (.aload_n 0, 1) := by decide +kernel
theorem dX3_lacksLanes_50 : decode cX3_lacksLanes 50 = .ok (.getfield 9, 3) := by decide +kernel
theorem dX3_lacksLanes_53 : decode cX3_lacksLanes 53 = .ok (.getfield 103, 3) := by decide +kernel
theorem dX3_lacksLanes_56 : decode cX3_lacksLanes 56 = .ok (.aload_n 1, 1) := by decide +kernel
theorem dX3_lacksLanes_57 : decode cX3_lacksLanes 57 = .ok (.getfield 85, 3) := by decide +kernel
theorem dX3_lacksLanes_60 : decode cX3_lacksLanes 60 = .ok (.iload 5, 2) := by decide +kernel
theorem dX3_lacksLanes_62 : decode cX3_lacksLanes 62 = .ok (.iaload, 1) := by decide +kernel
theorem dX3_lacksLanes_63 : decode cX3_lacksLanes 63 = .ok (.aaload, 1) := by decide +kernel
theorem dX3_lacksLanes_64 : decode cX3_lacksLanes 64 = .ok (.getfield 118, 3) := by decide +kernel
theorem dX3_lacksLanes_67 : decode cX3_lacksLanes 67 = .ok (.if_icmp .le 17, 3) := by decide +kernel
theorem dX3_lacksLanes_70 : decode cX3_lacksLanes 70 = .ok (.aload_n 0, 1) := by decide +kernel
theorem dX3_lacksLanes_71 : decode cX3_lacksLanes 71 = .ok (.iload 4, 2) := by decide +kernel
theorem dX3_lacksLanes_73 : decode cX3_lacksLanes 73 = .ok (.aload_n 1, 1) := by decide +kernel
theorem dX3_lacksLanes_74 : decode cX3_lacksLanes 74 = .ok (.getfield 85, 3) := by decide +kernel
theorem dX3_lacksLanes_77 : decode cX3_lacksLanes 77 = .ok (.iload 5, 2) := by decide +kernel
theorem dX3_lacksLanes_79 : decode cX3_lacksLanes 79 = .ok (.iaload, 1) := by decide +kernel
theorem dX3_lacksLanes_80 : decode cX3_lacksLanes 80 = .ok (.invokevirtual 89, 3) := by decide +kernel
theorem dX3_lacksLanes_83 : decode cX3_lacksLanes 83 = .ok (.ireturn, 1) := by decide +kernel
theorem dX3_lacksLanes_84 : decode cX3_lacksLanes 84 = .ok (.iinc 5 1, 3) := by decide +kernel
theorem dX3_lacksLanes_87 : decode cX3_lacksLanes 87 = .ok (.goto (-75), 3) := by decide +kernel
theorem dX3_lacksLanes_90 : decode cX3_lacksLanes 90 = .ok (.iinc 4 1, 3) := by decide +kernel
theorem dX3_lacksLanes_93 : decode cX3_lacksLanes 93 = .ok (.goto (-90), 3) := by decide +kernel
theorem dX3_lacksLanes_96 : decode cX3_lacksLanes 96 = .ok (.iconst 0, 1) := by decide +kernel
theorem dX3_lacksLanes_97 : decode cX3_lacksLanes 97 = .ok (.ireturn, 1) := by decide +kernel
theorem dX3_meetsDepth_0 : decode cX3_meetsDepth 0 = .ok (.sipush 400, 3) := by decide +kernel
theorem dX3_meetsDepth_3 : decode cX3_meetsDepth 3 = .ok (.istore 4, 2) := by decide +kernel
theorem dX3_meetsDepth_5 : decode cX3_meetsDepth 5 = .ok (.bipush 40, 2) := by decide +kernel
theorem dX3_meetsDepth_7 : decode cX3_meetsDepth 7 = .ok (.istore 5, 2) := by decide +kernel
theorem dX3_meetsDepth_9 : decode cX3_meetsDepth 9 = .ok (.iconst 0, 1) := by decide +kernel
theorem dX3_meetsDepth_10 : decode cX3_meetsDepth 10 = .ok (.istore 6, 2) := by decide +kernel
theorem dX3_meetsDepth_12 : decode cX3_meetsDepth 12 = .ok (.iload 6, 2) := by decide +kernel
theorem dX3_meetsDepth_14 : decode cX3_meetsDepth 14 = .ok (.aload_n 0, 1) := by decide +kernel
theorem dX3_meetsDepth_15 : decode cX3_meetsDepth 15 = .ok (.getfield 15, 3) := by decide +kernel
theorem dX3_meetsDepth_18 : decode cX3_meetsDepth 18 = .ok (.getfield 121, 3) := by decide +kernel
theorem dX3_meetsDepth_21 : decode cX3_meetsDepth 21 = .ok (.if_icmp .ge 133, 3) := by decide +kernel
theorem dX3_meetsDepth_24 : decode cX3_meetsDepth 24 = .ok (.aload_n 0, 1) := by decide +kernel
theorem dX3_meetsDepth_25 : decode cX3_meetsDepth 25 = .ok (.getfield 9, 3) := by decide +kernel
theorem dX3_meetsDepth_28 : decode cX3_meetsDepth 28 = .ok (.getfield 124, 3) := by decide +kernel
theorem dX3_meetsDepth_31 : decode cX3_meetsDepth 31 = .ok (.aload_n 0, 1) := by decide +kernel
theorem dX3_meetsDepth_32 : decode cX3_meetsDepth 32 = .ok (.getfield 15, 3) := by decide +kernel
theorem dX3_meetsDepth_35 : decode cX3_meetsDepth 35 = .ok (.getfield 128, 3) := by decide +kernel
theorem dX3_meetsDepth_38 : decode cX3_meetsDepth 38 = .ok (.iload 6, 2) := by decide +kernel
theorem dX3_meetsDepth_40 : decode cX3_meetsDepth 40 = .ok (.iaload, 1) := by decide +kernel
theorem dX3_meetsDepth_41 : decode cX3_meetsDepth 41 = .ok (.aaload, 1) := by decide +kernel
theorem dX3_meetsDepth_42 : decode cX3_meetsDepth 42 = .ok (.astore 7, 2) := by decide +kernel
theorem dX3_meetsDepth_44 : decode cX3_meetsDepth 44 = .ok (.aload 7, 2) := by decide +kernel
theorem dX3_meetsDepth_46 : decode cX3_meetsDepth 46 = .ok (.getfield 131, 3) := by decide +kernel
theorem dX3_meetsDepth_49 : decode cX3_meetsDepth 49 = .ok (.aload_n 1, 1) := by decide +kernel
theorem dX3_meetsDepth_50 : decode cX3_meetsDepth 50 = .ok (.getfield 131, 3) := by decide +kernel
theorem dX3_meetsDepth_53 : decode cX3_meetsDepth 53 = .ok (.if_icmp .eq 95, 3) := by decide +kernel
theorem dX3_meetsDepth_56 : decode cX3_meetsDepth 56 = .ok (.aload 7, 2) := by decide +kernel
theorem dX3_meetsDepth_58 : decode cX3_meetsDepth 58 = .ok (.getfield 134, 3) := by decide +kernel
theorem dX3_meetsDepth_61 : decode cX3_meetsDepth 61 = .ok (.aload_n 1, 1) := by decide +kernel
theorem dX3_meetsDepth_62 : decode cX3_meetsDepth 62 = .ok (.getfield 134, 3) := by decide +kernel
theorem dX3_meetsDepth_65 : decode cX3_meetsDepth 65 = .ok (.if_icmp .ne 83, 3) := by decide +kernel
theorem dX3_meetsDepth_68 : decode cX3_meetsDepth 68 = .ok (.aload 7, 2) := by decide +kernel
theorem dX3_meetsDepth_70 : decode cX3_meetsDepth 70 = .ok (.getfield 137, 3) := by decide +kernel
theorem dX3_meetsDepth_73 : decode cX3_meetsDepth 73 = .ok (.aload_n 1, 1) := by decide +kernel
theorem dX3_meetsDepth_74 : decode cX3_meetsDepth 74 = .ok (.getfield 23, 3) := by decide +kernel
theorem dX3_meetsDepth_77 : decode cX3_meetsDepth 77 = .ok (.if_icmp .ne 6, 3) := by decide +kernel
theorem dX3_meetsDepth_80 : decode cX3_meetsDepth 80 = .ok (.goto 68, 3) := by decide +kernel
theorem dX3_meetsDepth_83 : decode cX3_meetsDepth 83 = .ok (.iload_n 2, 1) := by decide +kernel
theorem dX3_meetsDepth_84 : decode cX3_meetsDepth 84 = .ok (.aload 7, 2) := by decide +kernel
theorem dX3_meetsDepth_86 : decode cX3_meetsDepth 86 = .ok (.getfield 140, 3) := by decide +kernel
theorem dX3_meetsDepth_89 : decode cX3_meetsDepth 89 = .ok (.invokestatic 143, 3) := by decide +kernel
theorem dX3_meetsDepth_92 : decode cX3_meetsDepth 92 = .ok (.istore 8, 2) := by decide +kernel
theorem dX3_meetsDepth_94 : decode cX3_meetsDepth 94 = .ok (.iload 8, 2) := by decide +kernel
theorem dX3_meetsDepth_96 : decode cX3_meetsDepth 96 = .ok (.iload_n 3, 1) := by decide +kernel
theorem dX3_meetsDepth_97 : decode cX3_meetsDepth 97 = .ok (.aload 7, 2) := by decide +kernel
theorem dX3_meetsDepth_99 : decode cX3_meetsDepth 99 = .ok (.getfield 149, 3) := by decide +kernel
theorem dX3_meetsDepth_102 : decode cX3_meetsDepth 102 = .ok (.invokestatic 152, 3) := by decide +kernel
theorem dX3_meetsDepth_105 : decode cX3_meetsDepth 105 = .ok (.if_icmp .gt 43, 3) := by decide +kernel
theorem dX3_meetsDepth_108 : decode cX3_meetsDepth 108 = .ok (.iload 8, 2) := by decide +kernel
theorem dX3_meetsDepth_110 : decode cX3_meetsDepth 110 = .ok (.iload 4, 2) := by decide +kernel
theorem dX3_meetsDepth_112 : decode cX3_meetsDepth 112 = .ok (.if_icmp .le 6, 3) := by decide +kernel
theorem dX3_meetsDepth_115 : decode cX3_meetsDepth 115 = .ok (.goto 33, 3) := by decide +kernel
theorem dX3_meetsDepth_118 : decode cX3_meetsDepth 118 = .ok (.aload_n 1, 1) := by decide +kernel
theorem dX3_meetsDepth_119 : decode cX3_meetsDepth 119 = .ok (.aload 7, 2) := by decide +kernel
theorem dX3_meetsDepth_121 : decode cX3_meetsDepth 121 = .ok (.invokestatic 155, 3) := by decide +kernel
theorem dX3_meetsDepth_124 : decode cX3_meetsDepth 124 = .ok (.istore 9, 2) := by decide +kernel
theorem dX3_meetsDepth_126 : decode cX3_meetsDepth 126 = .ok (.iload 8, 2) := by decide +kernel
theorem dX3_meetsDepth_128 : decode cX3_meetsDepth 128 = .ok (.iload 4, 2) := by decide +kernel
theorem dX3_meetsDepth_130 : decode cX3_meetsDepth 130 = .ok (.if_icmp .lt 10, 3) := by decide +kernel
theorem dX3_meetsDepth_133 : decode cX3_meetsDepth 133 = .ok (.iload 9, 2) := by decide +kernel
theorem dX3_meetsDepth_135 : decode cX3_meetsDepth 135 = .ok (.iload 5, 2) := by decide +kernel
theorem dX3_meetsDepth_137 : decode cX3_meetsDepth 137 = .ok (.if_icmp .ge 7, 3) := by decide +kernel
theorem dX3_meetsDepth_140 : decode cX3_meetsDepth 140 = .ok (.iload 9, 2) := by decide +kernel
theorem dX3_meetsDepth_142 : decode cX3_meetsDepth 142 = .ok (.istore 5, 2) := by decide +kernel
theorem dX3_meetsDepth_144 : decode cX3_meetsDepth 144 = .ok (.iload 8, 2) := by decide +kernel
theorem dX3_meetsDepth_146 : decode cX3_meetsDepth 146 = .ok (.istore 4, 2) := by decide +kernel
theorem dX3_meetsDepth_148 : decode cX3_meetsDepth 148 = .ok (.iinc 6 1, 3) := by decide +kernel
theorem dX3_meetsDepth_151 : decode cX3_meetsDepth 151 = .ok (.goto (-139), 3) := by decide +kernel
theorem dX3_meetsDepth_154 : decode cX3_meetsDepth 154 = .ok (.iload 4, 2) := by decide +kernel
theorem dX3_meetsDepth_156 : decode cX3_meetsDepth 156 = .ok (.sipush 400, 3) := by decide +kernel
theorem dX3_meetsDepth_159 : decode cX3_meetsDepth 159 = .ok (.if_icmp .ge 18, 3) := by decide +kernel
theorem dX3_meetsDepth_162 : decode cX3_meetsDepth 162 = .ok (.aload_n 0, 1) := by decide +kernel
theorem dX3_meetsDepth_163 : decode cX3_meetsDepth 163 = .ok (.iload 4, 2) := by decide +kernel
theorem dX3_meetsDepth_165 : decode cX3_meetsDepth 165 = .ok (.iload 5, 2) := by decide +kernel
theorem dX3_meetsDepth_167 : decode cX3_meetsDepth 167 = .ok (.invokevirtual 89, 3) := by decide +kernel
theorem dX3_meetsDepth_170 : decode cX3_meetsDepth 170 = .ok (.ifCond .eq 7, 3) := by decide +kernel
theorem dX3_meetsDepth_173 : decode cX3_meetsDepth 173 = .ok (.iconst 1, 1) := by decide +kernel
theorem dX3_meetsDepth_174 : decode cX3_meetsDepth 174 = .ok (.goto 4, 3) := by decide +kernel
theorem dX3_meetsDepth_177 : decode cX3_meetsDepth 177 = .ok (.iconst 0, 1) := by decide +kernel
theorem dX3_meetsDepth_178 : decode cX3_meetsDepth 178 = .ok (.ireturn, 1) := by decide +kernel
theorem dX3_leastShared_0 : decode cX3_leastShared 0 = .ok (.iconst 0, 1) := by decide +kernel
theorem dX3_leastShared_1 : decode cX3_leastShared 1 = .ok (.istore_n 2, 1) := by decide +kernel
theorem dX3_leastShared_2 : decode cX3_leastShared 2 = .ok (.iload_n 2, 1) := by decide +kernel
theorem dX3_leastShared_3 : decode cX3_leastShared 3 = .ok (.aload_n 0, 1) := by decide +kernel
theorem dX3_leastShared_4 : decode cX3_leastShared 4 = .ok (.getfield 100, 3) := by decide +kernel
theorem dX3_leastShared_7 : decode cX3_leastShared 7 = .ok (.if_icmp .ge 29, 3) := by decide +kernel
theorem dX3_leastShared_10 : decode cX3_leastShared 10 = .ok (.aload_n 1, 1) := by decide +kernel
theorem dX3_leastShared_11 : decode cX3_leastShared 11 = .ok (.aload_n 0, 1) := by decide +kernel
theorem dX3_leastShared_12 : decode cX3_leastShared 12 = .ok (.getfield 85, 3) := by decide +kernel
theorem dX3_leastShared_15 : decode cX3_leastShared 15 = .ok (.iload_n 2, 1) := by decide +kernel
theorem dX3_leastShared_16 : decode cX3_leastShared 16 = .ok (.iaload, 1) := by decide +kernel
theorem dX3_leastShared_17 : decode cX3_leastShared 17 = .ok (.invokevirtual 159, 3) := by decide +kernel
theorem dX3_leastShared_20 : decode cX3_leastShared 20 = .ok (.ifCond .eq 10, 3) := by decide +kernel
theorem dX3_leastShared_23 : decode cX3_leastShared 23 = .ok (.aload_n 0, 1) := by decide +kernel
theorem dX3_leastShared_24 : decode cX3_leastShared 24 = .ok (.getfield 85, 3) := by decide +kernel
theorem dX3_leastShared_27 : decode cX3_leastShared 27 = .ok (.iload_n 2, 1) := by decide +kernel
theorem dX3_leastShared_28 : decode cX3_leastShared 28 = .ok (.iaload, 1) := by decide +kernel
theorem dX3_leastShared_29 : decode cX3_leastShared 29 = .ok (.ireturn, 1) := by decide +kernel
theorem dX3_leastShared_30 : decode cX3_leastShared 30 = .ok (.iinc 2 1, 3) := by decide +kernel
theorem dX3_leastShared_33 : decode cX3_leastShared 33 = .ok (.goto (-31), 3) := by decide +kernel
theorem dX3_leastShared_36 : decode cX3_leastShared 36 = .ok (.bipush 40, 2) := by decide +kernel
theorem dX3_leastShared_38 : decode cX3_leastShared 38 = .ok (.ireturn, 1) := by decide +kernel
theorem dX3_breaksRest_0 : decode cX3_breaksRest 0 = .ok (.iconst 0, 1) := by decide +kernel
theorem dX3_breaksRest_1 : decode cX3_breaksRest 1 = .ok (.istore 4, 2) := by decide +kernel
theorem dX3_breaksRest_3 : decode cX3_breaksRest 3 = .ok (.iload 4, 2) := by decide +kernel
theorem dX3_breaksRest_5 : decode cX3_breaksRest 5 = .ok (.aload_n 1, 1) := by decide +kernel
theorem dX3_breaksRest_6 : decode cX3_breaksRest 6 = .ok (.getfield 100, 3) := by decide +kernel
theorem dX3_breaksRest_9 : decode cX3_breaksRest 9 = .ok (.if_icmp .ge 160, 3) := by decide +kernel
theorem dX3_breaksRest_12 : decode cX3_breaksRest 12 = .ok (.aload_n 1, 1) := by decide +kernel
theorem dX3_breaksRest_13 : decode cX3_breaksRest 13 = .ok (.getfield 85, 3) := by decide +kernel
theorem dX3_breaksRest_16 : decode cX3_breaksRest 16 = .ok (.iload 4, 2) := by decide +kernel
theorem dX3_breaksRest_18 : decode cX3_breaksRest 18 = .ok (.iaload, 1) := by decide +kernel
theorem dX3_breaksRest_19 : decode cX3_breaksRest 19 = .ok (.istore 5, 2) := by decide +kernel
theorem dX3_breaksRest_21 : decode cX3_breaksRest 21 = .ok (.aload_n 0, 1) := by decide +kernel
theorem dX3_breaksRest_22 : decode cX3_breaksRest 22 = .ok (.getfield 9, 3) := by decide +kernel
theorem dX3_breaksRest_25 : decode cX3_breaksRest 25 = .ok (.getfield 103, 3) := by decide +kernel
theorem dX3_breaksRest_28 : decode cX3_breaksRest 28 = .ok (.iload 5, 2) := by decide +kernel
theorem dX3_breaksRest_30 : decode cX3_breaksRest 30 = .ok (.aaload, 1) := by decide +kernel
theorem dX3_breaksRest_31 : decode cX3_breaksRest 31 = .ok (.getfield 163, 3) := by decide +kernel
theorem dX3_breaksRest_34 : decode cX3_breaksRest 34 = .ok (.istore 6, 2) := by decide +kernel
theorem dX3_breaksRest_36 : decode cX3_breaksRest 36 = .ok (.iconst 0, 1) := by decide +kernel
theorem dX3_breaksRest_37 : decode cX3_breaksRest 37 = .ok (.istore 7, 2) := by decide +kernel
theorem dX3_breaksRest_39 : decode cX3_breaksRest 39 = .ok (.iload 7, 2) := by decide +kernel
theorem dX3_breaksRest_41 : decode cX3_breaksRest 41 = .ok (.aload_n 0, 1) := by decide +kernel
theorem dX3_breaksRest_42 : decode cX3_breaksRest 42 = .ok (.getfield 15, 3) := by decide +kernel
theorem dX3_breaksRest_45 : decode cX3_breaksRest 45 = .ok (.getfield 121, 3) := by decide +kernel
theorem dX3_breaksRest_48 : decode cX3_breaksRest 48 = .ok (.if_icmp .ge 115, 3) := by decide +kernel
theorem dX3_breaksRest_51 : decode cX3_breaksRest 51 = .ok (.aload_n 0, 1) := by decide +kernel
theorem dX3_breaksRest_52 : decode cX3_breaksRest 52 = .ok (.getfield 9, 3) := by decide +kernel
theorem dX3_breaksRest_55 : decode cX3_breaksRest 55 = .ok (.getfield 124, 3) := by decide +kernel
theorem dX3_breaksRest_58 : decode cX3_breaksRest 58 = .ok (.aload_n 0, 1) := by decide +kernel
theorem dX3_breaksRest_59 : decode cX3_breaksRest 59 = .ok (.getfield 15, 3) := by decide +kernel
theorem dX3_breaksRest_62 : decode cX3_breaksRest 62 = .ok (.getfield 128, 3) := by decide +kernel
theorem dX3_breaksRest_65 : decode cX3_breaksRest 65 = .ok (.iload 7, 2) := by decide +kernel
theorem dX3_breaksRest_67 : decode cX3_breaksRest 67 = .ok (.iaload, 1) := by decide +kernel
theorem dX3_breaksRest_68 : decode cX3_breaksRest 68 = .ok (.aaload, 1) := by decide +kernel
theorem dX3_breaksRest_69 : decode cX3_breaksRest 69 = .ok (.astore 8, 2) := by decide +kernel
theorem dX3_breaksRest_71 : decode cX3_breaksRest 71 = .ok (.aload 8, 2) := by decide +kernel
theorem dX3_breaksRest_73 : decode cX3_breaksRest 73 = .ok (.iload 5, 2) := by decide +kernel
theorem dX3_breaksRest_75 : decode cX3_breaksRest 75 = .ok (.invokevirtual 159, 3) := by decide +kernel
theorem dX3_breaksRest_78 : decode cX3_breaksRest 78 = .ok (.ifCond .ne 6, 3) := by decide +kernel
theorem dX3_breaksRest_81 : decode cX3_breaksRest 81 = .ok (.goto 76, 3) := by decide +kernel
theorem dX3_breaksRest_84 : decode cX3_breaksRest 84 = .ok (.aload_n 1, 1) := by decide +kernel
theorem dX3_breaksRest_85 : decode cX3_breaksRest 85 = .ok (.getfield 166, 3) := by decide +kernel
theorem dX3_breaksRest_88 : decode cX3_breaksRest 88 = .ok (.iconst 3, 1) := by decide +kernel
theorem dX3_breaksRest_89 : decode cX3_breaksRest 89 = .ok (.if_icmp .eq 25, 3) := by decide +kernel
theorem dX3_breaksRest_92 : decode cX3_breaksRest 92 = .ok (.aload 8, 2) := by decide +kernel
theorem dX3_breaksRest_94 : decode cX3_breaksRest 94 = .ok (.getfield 149, 3) := by decide +kernel
theorem dX3_breaksRest_97 : decode cX3_breaksRest 97 = .ok (.iload 6, 2) := by decide +kernel
theorem dX3_breaksRest_99 : decode cX3_breaksRest 99 = .ok (.iload_n 2, 1) := by decide +kernel
theorem dX3_breaksRest_100 : decode cX3_breaksRest 100 = .ok (.invokestatic 169, 3) := by decide +kernel
theorem dX3_breaksRest_103 : decode cX3_breaksRest 103 = .ok (.ifCond .eq 11, 3) := by decide +kernel
theorem dX3_breaksRest_106 : decode cX3_breaksRest 106 = .ok (.aload_n 0, 1) := by decide +kernel
theorem dX3_breaksRest_107 : decode cX3_breaksRest 107 = .ok (.iload_n 2, 1) := by decide +kernel
theorem dX3_breaksRest_108 : decode cX3_breaksRest 108 = .ok (.iload 5, 2) := by decide +kernel
theorem dX3_breaksRest_110 : decode cX3_breaksRest 110 = .ok (.invokevirtual 89, 3) := by decide +kernel
theorem dX3_breaksRest_113 : decode cX3_breaksRest 113 = .ok (.ireturn, 1) := by decide +kernel
theorem dX3_breaksRest_114 : decode cX3_breaksRest 114 = .ok (.aload 8, 2) := by decide +kernel
theorem dX3_breaksRest_116 : decode cX3_breaksRest 116 = .ok (.getfield 166, 3) := by decide +kernel
theorem dX3_breaksRest_119 : decode cX3_breaksRest 119 = .ok (.iconst 3, 1) := by decide +kernel
theorem dX3_breaksRest_120 : decode cX3_breaksRest 120 = .ok (.if_icmp .eq 37, 3) := by decide +kernel
theorem dX3_breaksRest_123 : decode cX3_breaksRest 123 = .ok (.aload 8, 2) := by decide +kernel
theorem dX3_breaksRest_125 : decode cX3_breaksRest 125 = .ok (.getfield 173, 3) := by decide +kernel
theorem dX3_breaksRest_128 : decode cX3_breaksRest 128 = .ok (.iconst 3, 1) := by decide +kernel
theorem dX3_breaksRest_129 : decode cX3_breaksRest 129 = .ok (.if_icmp .ne 6, 3) := by decide +kernel
theorem dX3_breaksRest_132 : decode cX3_breaksRest 132 = .ok (.goto 25, 3) := by decide +kernel
theorem dX3_breaksRest_135 : decode cX3_breaksRest 135 = .ok (.iload_n 3, 1) := by decide +kernel
theorem dX3_breaksRest_136 : decode cX3_breaksRest 136 = .ok (.iload 6, 2) := by decide +kernel
theorem dX3_breaksRest_138 : decode cX3_breaksRest 138 = .ok (.aload 8, 2) := by decide +kernel
theorem dX3_breaksRest_140 : decode cX3_breaksRest 140 = .ok (.getfield 140, 3) := by decide +kernel
theorem dX3_breaksRest_143 : decode cX3_breaksRest 143 = .ok (.invokestatic 169, 3) := by decide +kernel
theorem dX3_breaksRest_146 : decode cX3_breaksRest 146 = .ok (.ifCond .eq 11, 3) := by decide +kernel
theorem dX3_breaksRest_149 : decode cX3_breaksRest 149 = .ok (.aload_n 0, 1) := by decide +kernel
theorem dX3_breaksRest_150 : decode cX3_breaksRest 150 = .ok (.iload_n 2, 1) := by decide +kernel
theorem dX3_breaksRest_151 : decode cX3_breaksRest 151 = .ok (.iload 5, 2) := by decide +kernel
theorem dX3_breaksRest_153 : decode cX3_breaksRest 153 = .ok (.invokevirtual 89, 3) := by decide +kernel
theorem dX3_breaksRest_156 : decode cX3_breaksRest 156 = .ok (.ireturn, 1) := by decide +kernel
theorem dX3_breaksRest_157 : decode cX3_breaksRest 157 = .ok (.iinc 7 1, 3) := by decide +kernel
theorem dX3_breaksRest_160 : decode cX3_breaksRest 160 = .ok (.goto (-121), 3) := by decide +kernel
theorem dX3_breaksRest_163 : decode cX3_breaksRest 163 = .ok (.iinc 4 1, 3) := by decide +kernel
theorem dX3_breaksRest_166 : decode cX3_breaksRest 166 = .ok (.goto (-163), 3) := by decide +kernel
theorem dX3_breaksRest_169 : decode cX3_breaksRest 169 = .ok (.iconst 0, 1) := by decide +kernel
theorem dX3_breaksRest_170 : decode cX3_breaksRest 170 = .ok (.ireturn, 1) := by decide +kernel
theorem dX3_rests_0 : decode cX3_rests 0 = .ok (.iload_n 0, 1) := by decide +kernel
theorem dX3_rests_1 : decode cX3_rests 1 = .ok (.iload_n 2, 1) := by decide +kernel
theorem dX3_rests_2 : decode cX3_rests 2 = .ok (.if_icmp .ge 14, 3) := by decide +kernel
theorem dX3_rests_5 : decode cX3_rests 5 = .ok (.iload_n 0, 1) := by decide +kernel
theorem dX3_rests_6 : decode cX3_rests 6 = .ok (.iload_n 1, 1) := by decide +kernel
theorem dX3_rests_7 : decode cX3_rests 7 = .ok (.iadd, 1) := by decide +kernel
theorem dX3_rests_8 : decode cX3_rests 8 = .ok (.iload_n 2, 1) := by decide +kernel
theorem dX3_rests_9 : decode cX3_rests 9 = .ok (.if_icmp .lt 7, 3) := by decide +kernel
theorem dX3_rests_12 : decode cX3_rests 12 = .ok (.iconst 1, 1) := by decide +kernel
theorem dX3_rests_13 : decode cX3_rests 13 = .ok (.goto 4, 3) := by decide +kernel
theorem dX3_rests_16 : decode cX3_rests 16 = .ok (.iconst 0, 1) := by decide +kernel
theorem dX3_rests_17 : decode cX3_rests 17 = .ok (.ireturn, 1) := by decide +kernel
theorem dX3_blocksWay_0 : decode cX3_blocksWay 0 = .ok (.lconst 0, 1) := by decide +kernel
theorem dX3_blocksWay_1 : decode cX3_blocksWay 1 = .ok (.lstore 4, 2) := by decide +kernel
theorem dX3_blocksWay_3 : decode cX3_blocksWay 3 = .ok (.lconst 0, 1) := by decide +kernel
theorem dX3_blocksWay_4 : decode cX3_blocksWay 4 = .ok (.lstore 6, 2) := by decide +kernel
theorem dX3_blocksWay_6 : decode cX3_blocksWay 6 = .ok (.iload_n 2, 1) := by decide +kernel
theorem dX3_blocksWay_7 : decode cX3_blocksWay 7 = .ok (.istore 8, 2) := by decide +kernel
theorem dX3_blocksWay_9 : decode cX3_blocksWay 9 = .ok (.iload 8, 2) := by decide +kernel
theorem dX3_blocksWay_11 : decode cX3_blocksWay 11 = .ok (.iload_n 3, 1) := by decide +kernel
theorem dX3_blocksWay_12 : decode cX3_blocksWay 12 = .ok (.if_icmp .gt 139, 3) := by decide +kernel
theorem dX3_blocksWay_15 : decode cX3_blocksWay 15 = .ok (.aload_n 0, 1) := by decide +kernel
theorem dX3_blocksWay_16 : decode cX3_blocksWay 16 = .ok (.aload_n 1, 1) := by decide +kernel
theorem dX3_blocksWay_17 : decode cX3_blocksWay 17 = .ok (.iload 8, 2) := by decide +kernel
theorem dX3_blocksWay_19 : decode cX3_blocksWay 19 = .ok (.invokevirtual 176, 3) := by decide +kernel
theorem dX3_blocksWay_22 : decode cX3_blocksWay 22 = .ok (.lstore 9, 2) := by decide +kernel
theorem dX3_blocksWay_24 : decode cX3_blocksWay 24 = .ok (.lload 9, 2) := by decide +kernel
theorem dX3_blocksWay_26 : decode cX3_blocksWay 26 = .ok (.lconst 0, 1) := by decide +kernel
theorem dX3_blocksWay_27 : decode cX3_blocksWay 27 = .ok (.lcmp, 1) := by decide +kernel
theorem dX3_blocksWay_28 : decode cX3_blocksWay 28 = .ok (.ifCond .ne 6, 3) := by decide +kernel
theorem dX3_blocksWay_31 : decode cX3_blocksWay 31 = .ok (.goto 114, 3) := by decide +kernel
theorem dX3_blocksWay_34 : decode cX3_blocksWay 34 = .ok (.aload_n 0, 1) := by decide +kernel
theorem dX3_blocksWay_35 : decode cX3_blocksWay 35 = .ok (.getfield 15, 3) := by decide +kernel
theorem dX3_blocksWay_38 : decode cX3_blocksWay 38 = .ok (.iload 8, 2) := by decide +kernel
theorem dX3_blocksWay_40 : decode cX3_blocksWay 40 = .ok (.invokevirtual 180, 3) := by decide +kernel
theorem dX3_blocksWay_43 : decode cX3_blocksWay 43 = .ok (.lstore 11, 2) := by decide +kernel
theorem dX3_blocksWay_45 : decode cX3_blocksWay 45 = .ok (.lload 9, 2) := by decide +kernel
theorem dX3_blocksWay_47 : decode cX3_blocksWay 47 = .ok (.lload 4, 2) := by decide +kernel
theorem dX3_blocksWay_49 : decode cX3_blocksWay 49 = .ok (.lcmp, 1) := by decide +kernel
theorem dX3_blocksWay_50 : decode cX3_blocksWay 50 = .ok (.ifCond .ne 14, 3) := by decide +kernel
theorem dX3_blocksWay_53 : decode cX3_blocksWay 53 = .ok (.lload 11, 2) := by decide +kernel
theorem dX3_blocksWay_55 : decode cX3_blocksWay 55 = .ok (.lload 6, 2) := by decide +kernel
theorem dX3_blocksWay_57 : decode cX3_blocksWay 57 = .ok (.lcmp, 1) := by decide +kernel
theorem dX3_blocksWay_58 : decode cX3_blocksWay 58 = .ok (.ifCond .ne 6, 3) := by decide +kernel
theorem dX3_blocksWay_61 : decode cX3_blocksWay 61 = .ok (.goto 84, 3) := by decide +kernel
theorem dX3_blocksWay_64 : decode cX3_blocksWay 64 = .ok (.lload 9, 2) := by decide +kernel
theorem dX3_blocksWay_66 : decode cX3_blocksWay 66 = .ok (.lstore 4, 2) := by decide +kernel
theorem dX3_blocksWay_68 : decode cX3_blocksWay 68 = .ok (.lload 11, 2) := by decide +kernel
theorem dX3_blocksWay_70 : decode cX3_blocksWay 70 = .ok (.lstore 6, 2) := by decide +kernel
theorem dX3_blocksWay_72 : decode cX3_blocksWay 72 = .ok (.iconst 0, 1) := by decide +kernel
theorem dX3_blocksWay_73 : decode cX3_blocksWay 73 = .ok (.istore 13, 2) := by decide +kernel
theorem dX3_blocksWay_75 : decode cX3_blocksWay 75 = .ok (.iload 13, 2) := by decide +kernel
theorem dX3_blocksWay_77 : decode cX3_blocksWay 77 = .ok (.aload_n 0, 1) := by decide +kernel
theorem dX3_blocksWay_78 : decode cX3_blocksWay 78 = .ok (.getfield 9, 3) := by decide +kernel
theorem dX3_blocksWay_81 : decode cX3_blocksWay 81 = .ok (.getfield 184, 3) := by decide +kernel
theorem dX3_blocksWay_84 : decode cX3_blocksWay 84 = .ok (.if_icmp .ge 61, 3) := by decide +kernel
theorem dX3_blocksWay_87 : decode cX3_blocksWay 87 = .ok (.aload_n 0, 1) := by decide +kernel
theorem dX3_blocksWay_88 : decode cX3_blocksWay 88 = .ok (.getfield 9, 3) := by decide +kernel
theorem dX3_blocksWay_91 : decode cX3_blocksWay 91 = .ok (.getfield 187, 3) := by decide +kernel
theorem dX3_blocksWay_94 : decode cX3_blocksWay 94 = .ok (.iload 13, 2) := by decide +kernel
theorem dX3_blocksWay_96 : decode cX3_blocksWay 96 = .ok (.aaload, 1) := by decide +kernel
theorem dX3_blocksWay_97 : decode cX3_blocksWay 97 = .ok (.astore 14, 2) := by decide +kernel
theorem dX3_blocksWay_99 : decode cX3_blocksWay 99 = .ok (.aload_n 0, 1) := by decide +kernel
theorem dX3_blocksWay_100 : decode cX3_blocksWay 100 = .ok (.getfield 19, 3) := by decide +kernel
theorem dX3_blocksWay_103 : decode cX3_blocksWay 103 = .ok (.aload 14, 2) := by decide +kernel
theorem dX3_blocksWay_105 : decode cX3_blocksWay 105 = .ok (.lload 11, 2) := by decide +kernel
theorem dX3_blocksWay_107 : decode cX3_blocksWay 107 = .ok (.lload 9, 2) := by decide +kernel
theorem dX3_blocksWay_109 : decode cX3_blocksWay 109 = .ok (.lor, 1) := by decide +kernel
theorem dX3_blocksWay_110 : decode cX3_blocksWay 110 = .ok (.invokevirtual 191, 3) := by decide +kernel
theorem dX3_blocksWay_113 : decode cX3_blocksWay 113 = .ok (.ifCond .ne 26, 3) := by decide +kernel
theorem dX3_blocksWay_116 : decode cX3_blocksWay 116 = .ok (.aload_n 0, 1) := by decide +kernel
theorem dX3_blocksWay_117 : decode cX3_blocksWay 117 = .ok (.getfield 19, 3) := by decide +kernel
theorem dX3_blocksWay_120 : decode cX3_blocksWay 120 = .ok (.aload 14, 2) := by decide +kernel
theorem dX3_blocksWay_122 : decode cX3_blocksWay 122 = .ok (.lload 11, 2) := by decide +kernel
theorem dX3_blocksWay_124 : decode cX3_blocksWay 124 = .ok (.invokevirtual 191, 3) := by decide +kernel
theorem dX3_blocksWay_127 : decode cX3_blocksWay 127 = .ok (.ifCond .eq 12, 3) := by decide +kernel
theorem dX3_blocksWay_130 : decode cX3_blocksWay 130 = .ok (.aload_n 0, 1) := by decide +kernel
theorem dX3_blocksWay_131 : decode cX3_blocksWay 131 = .ok (.iload 8, 2) := by decide +kernel
theorem dX3_blocksWay_133 : decode cX3_blocksWay 133 = .ok (.iload 13, 2) := by decide +kernel
theorem dX3_blocksWay_135 : decode cX3_blocksWay 135 = .ok (.invokevirtual 89, 3) := by decide +kernel
theorem dX3_blocksWay_138 : decode cX3_blocksWay 138 = .ok (.ireturn, 1) := by decide +kernel
theorem dX3_blocksWay_139 : decode cX3_blocksWay 139 = .ok (.iinc 13 1, 3) := by decide +kernel
theorem dX3_blocksWay_142 : decode cX3_blocksWay 142 = .ok (.goto (-67), 3) := by decide +kernel
theorem dX3_blocksWay_145 : decode cX3_blocksWay 145 = .ok (.iinc 8 1, 3) := by decide +kernel
theorem dX3_blocksWay_148 : decode cX3_blocksWay 148 = .ok (.goto (-139), 3) := by decide +kernel
theorem dX3_blocksWay_151 : decode cX3_blocksWay 151 = .ok (.iconst 0, 1) := by decide +kernel
theorem dX3_blocksWay_152 : decode cX3_blocksWay 152 = .ok (.ireturn, 1) := by decide +kernel
theorem dX3_closedBy_0 : decode cX3_closedBy 0 = .ok (.lconst 0, 1) := by decide +kernel
theorem dX3_closedBy_1 : decode cX3_closedBy 1 = .ok (.lstore_n 3, 1) := by decide +kernel
theorem dX3_closedBy_2 : decode cX3_closedBy 2 = .ok (.iconst 0, 1) := by decide +kernel
theorem dX3_closedBy_3 : decode cX3_closedBy 3 = .ok (.istore 5, 2) := by decide +kernel
theorem dX3_closedBy_5 : decode cX3_closedBy 5 = .ok (.iload 5, 2) := by decide +kernel
theorem dX3_closedBy_7 : decode cX3_closedBy 7 = .ok (.aload_n 1, 1) := by decide +kernel
theorem dX3_closedBy_8 : decode cX3_closedBy 8 = .ok (.getfield 100, 3) := by decide +kernel
theorem dX3_closedBy_11 : decode cX3_closedBy 11 = .ok (.if_icmp .ge 79, 3) := by decide +kernel
theorem dX3_closedBy_14 : decode cX3_closedBy 14 = .ok (.aload_n 0, 1) := by decide +kernel
theorem dX3_closedBy_15 : decode cX3_closedBy 15 = .ok (.getfield 9, 3) := by decide +kernel
theorem dX3_closedBy_18 : decode cX3_closedBy 18 = .ok (.getfield 103, 3) := by decide +kernel
theorem dX3_closedBy_21 : decode cX3_closedBy 21 = .ok (.aload_n 1, 1) := by decide +kernel
theorem dX3_closedBy_22 : decode cX3_closedBy 22 = .ok (.getfield 85, 3) := by decide +kernel
theorem dX3_closedBy_25 : decode cX3_closedBy 25 = .ok (.iload 5, 2) := by decide +kernel
theorem dX3_closedBy_27 : decode cX3_closedBy 27 = .ok (.iaload, 1) := by decide +kernel
theorem dX3_closedBy_28 : decode cX3_closedBy 28 = .ok (.aaload, 1) := by decide +kernel
theorem dX3_closedBy_29 : decode cX3_closedBy 29 = .ok (.getfield 118, 3) := by decide +kernel
theorem dX3_closedBy_32 : decode cX3_closedBy 32 = .ok (.istore 6, 2) := by decide +kernel
theorem dX3_closedBy_34 : decode cX3_closedBy 34 = .ok (.aload_n 0, 1) := by decide +kernel
theorem dX3_closedBy_35 : decode cX3_closedBy 35 = .ok (.getfield 15, 3) := by decide +kernel
theorem dX3_closedBy_38 : decode cX3_closedBy 38 = .ok (.getfield 111, 3) := by decide +kernel
theorem dX3_closedBy_41 : decode cX3_closedBy 41 = .ok (.iload 5, 2) := by decide +kernel
theorem dX3_closedBy_43 : decode cX3_closedBy 43 = .ok (.aaload, 1) := by decide +kernel
theorem dX3_closedBy_44 : decode cX3_closedBy 44 = .ok (.iload_n 2, 1) := by decide +kernel
theorem dX3_closedBy_45 : decode cX3_closedBy 45 = .ok (.iaload, 1) := by decide +kernel
theorem dX3_closedBy_46 : decode cX3_closedBy 46 = .ok (.istore 7, 2) := by decide +kernel
theorem dX3_closedBy_48 : decode cX3_closedBy 48 = .ok (.iload 7, 2) := by decide +kernel
theorem dX3_closedBy_50 : decode cX3_closedBy 50 = .ok (.iload 6, 2) := by decide +kernel
theorem dX3_closedBy_52 : decode cX3_closedBy 52 = .ok (.if_icmp .ge 32, 3) := by decide +kernel
theorem dX3_closedBy_55 : decode cX3_closedBy 55 = .ok (.iload 7, 2) := by decide +kernel
theorem dX3_closedBy_57 : decode cX3_closedBy 57 = .ok (.aload_n 0, 1) := by decide +kernel
theorem dX3_closedBy_58 : decode cX3_closedBy 58 = .ok (.getfield 15, 3) := by decide +kernel
theorem dX3_closedBy_61 : decode cX3_closedBy 61 = .ok (.getfield 115, 3) := by decide +kernel
theorem dX3_closedBy_64 : decode cX3_closedBy 64 = .ok (.iload_n 2, 1) := by decide +kernel
theorem dX3_closedBy_65 : decode cX3_closedBy 65 = .ok (.iaload, 1) := by decide +kernel
theorem dX3_closedBy_66 : decode cX3_closedBy 66 = .ok (.iadd, 1) := by decide +kernel
theorem dX3_closedBy_67 : decode cX3_closedBy 67 = .ok (.iload 6, 2) := by decide +kernel
theorem dX3_closedBy_69 : decode cX3_closedBy 69 = .ok (.if_icmp .lt 15, 3) := by decide +kernel
theorem dX3_closedBy_72 : decode cX3_closedBy 72 = .ok (.lload_n 3, 1) := by decide +kernel
theorem dX3_closedBy_73 : decode cX3_closedBy 73 = .ok (.lconst 1, 1) := by decide +kernel
theorem dX3_closedBy_74 : decode cX3_closedBy 74 = .ok (.aload_n 1, 1) := by decide +kernel
theorem dX3_closedBy_75 : decode cX3_closedBy 75 = .ok (.getfield 85, 3) := by decide +kernel
theorem dX3_closedBy_78 : decode cX3_closedBy 78 = .ok (.iload 5, 2) := by decide +kernel
theorem dX3_closedBy_80 : decode cX3_closedBy 80 = .ok (.iaload, 1) := by decide +kernel
theorem dX3_closedBy_81 : decode cX3_closedBy 81 = .ok (.lshl, 1) := by decide +kernel
theorem dX3_closedBy_82 : decode cX3_closedBy 82 = .ok (.lor, 1) := by decide +kernel
theorem dX3_closedBy_83 : decode cX3_closedBy 83 = .ok (.lstore_n 3, 1) := by decide +kernel
theorem dX3_closedBy_84 : decode cX3_closedBy 84 = .ok (.iinc 5 1, 3) := by decide +kernel
theorem dX3_closedBy_87 : decode cX3_closedBy 87 = .ok (.goto (-82), 3) := by decide +kernel
theorem dX3_closedBy_90 : decode cX3_closedBy 90 = .ok (.lload_n 3, 1) := by decide +kernel
theorem dX3_closedBy_91 : decode cX3_closedBy 91 = .ok (.lreturn, 1) := by decide +kernel
theorem dX4_init_0 : decode cX4_init 0 = .ok (.aload_n 0, 1) := by decide +kernel
theorem dX4_init_1 : decode cX4_init 1 = .ok (.invokespecial 3, 3) := by decide +kernel
theorem dX4_init_4 : decode cX4_init 4 = .ok (.aload_n 0, 1) := by decide +kernel
theorem dX4_init_5 : decode cX4_init 5 = .ok (.iconst (-1), 1) := by decide +kernel
theorem dX4_init_6 : decode cX4_init 6 = .ok (.putfield 11, 3) := by decide +kernel
theorem dX4_init_9 : decode cX4_init 9 = .ok (.aload_n 0, 1) := by decide +kernel
theorem dX4_init_10 : decode cX4_init 10 = .ok (.aload_n 1, 1) := by decide +kernel
theorem dX4_init_11 : decode cX4_init 11 = .ok (.putfield 15, 3) := by decide +kernel
theorem dX4_init_14 : decode cX4_init 14 = .ok (.aload_n 0, 1) := by decide +kernel
theorem dX4_init_15 : decode cX4_init 15 = .ok (.aload_n 2, 1) := by decide +kernel
theorem dX4_init_16 : decode cX4_init 16 = .ok (.putfield 19, 3) := by decide +kernel
theorem dX4_init_19 : decode cX4_init 19 = .ok (.return_, 1) := by decide +kernel
theorem dX4_moveBroken_0 : decode cX4_moveBroken 0 = .ok (.iconst 0, 1) := by decide +kernel
theorem dX4_moveBroken_1 : decode cX4_moveBroken 1 = .ok (.istore_n 1, 1) := by decide +kernel
theorem dX4_moveBroken_2 : decode cX4_moveBroken 2 = .ok (.iconst 0, 1) := by decide +kernel
theorem dX4_moveBroken_3 : decode cX4_moveBroken 3 = .ok (.istore_n 2, 1) := by decide +kernel
theorem dX4_moveBroken_4 : decode cX4_moveBroken 4 = .ok (.iload_n 2, 1) := by decide +kernel
theorem dX4_moveBroken_5 : decode cX4_moveBroken 5 = .ok (.aload_n 0, 1) := by decide +kernel
theorem dX4_moveBroken_6 : decode cX4_moveBroken 6 = .ok (.getfield 15, 3) := by decide +kernel
theorem dX4_moveBroken_9 : decode cX4_moveBroken 9 = .ok (.getfield 23, 3) := by decide +kernel
theorem dX4_moveBroken_12 : decode cX4_moveBroken 12 = .ok (.if_icmp .ge 66, 3) := by decide +kernel
theorem dX4_moveBroken_15 : decode cX4_moveBroken 15 = .ok (.aload_n 0, 1) := by decide +kernel
theorem dX4_moveBroken_16 : decode cX4_moveBroken 16 = .ok (.getfield 15, 3) := by decide +kernel
theorem dX4_moveBroken_19 : decode cX4_moveBroken 19 = .ok (.getfield 28, 3) := by decide +kernel
theorem dX4_moveBroken_22 : decode cX4_moveBroken 22 = .ok (.iload_n 2, 1) := by decide +kernel
theorem dX4_moveBroken_23 : decode cX4_moveBroken 23 = .ok (.aaload, 1) := by decide +kernel
theorem dX4_moveBroken_24 : decode cX4_moveBroken 24 = .ok (.astore_n 3, 1) := by decide +kernel
theorem dX4_moveBroken_25 : decode cX4_moveBroken 25 = .ok (.aload_n 3, 1) := by decide +kernel
theorem dX4_moveBroken_26 : decode cX4_moveBroken 26 = .ok (.getfield 32, 3) := by decide +kernel
theorem dX4_moveBroken_29 : decode cX4_moveBroken 29 = .ok (.iconst 1, 1) := by decide +kernel
theorem dX4_moveBroken_30 : decode cX4_moveBroken 30 = .ok (.if_icmp .eq 6, 3) := by decide +kernel
theorem dX4_moveBroken_33 : decode cX4_moveBroken 33 = .ok (.goto 39, 3) := by decide +kernel
theorem dX4_moveBroken_36 : decode cX4_moveBroken 36 = .ok (.aload_n 0, 1) := by decide +kernel
theorem dX4_moveBroken_37 : decode cX4_moveBroken 37 = .ok (.getfield 19, 3) := by decide +kernel
theorem dX4_moveBroken_40 : decode cX4_moveBroken 40 = .ok (.aload_n 3, 1) := by decide +kernel
theorem dX4_moveBroken_41 : decode cX4_moveBroken 41 = .ok (.iload_n 2, 1) := by decide +kernel
theorem dX4_moveBroken_42 : decode cX4_moveBroken 42 = .ok (.invokevirtual 37, 3) := by decide +kernel
theorem dX4_moveBroken_45 : decode cX4_moveBroken 45 = .ok (.aload_n 0, 1) := by decide +kernel
theorem dX4_moveBroken_46 : decode cX4_moveBroken 46 = .ok (.getfield 19, 3) := by decide +kernel
theorem dX4_moveBroken_49 : decode cX4_moveBroken 49 = .ok (.aload_n 3, 1) := by decide +kernel
theorem dX4_moveBroken_50 : decode cX4_moveBroken 50 = .ok (.aload_n 3, 1) := by decide +kernel
theorem dX4_moveBroken_51 : decode cX4_moveBroken 51 = .ok (.getfield 43, 3) := by decide +kernel
theorem dX4_moveBroken_54 : decode cX4_moveBroken 54 = .ok (.iconst 3, 1) := by decide +kernel
theorem dX4_moveBroken_55 : decode cX4_moveBroken 55 = .ok (.invokevirtual 46, 3) := by decide +kernel
theorem dX4_moveBroken_58 : decode cX4_moveBroken 58 = .ok (.ifCond .ne 6, 3) := by decide +kernel
theorem dX4_moveBroken_61 : decode cX4_moveBroken 61 = .ok (.goto 11, 3) := by decide +kernel
theorem dX4_moveBroken_64 : decode cX4_moveBroken 64 = .ok (.aload_n 0, 1) := by decide +kernel
theorem dX4_moveBroken_65 : decode cX4_moveBroken 65 = .ok (.aload_n 3, 1) := by decide +kernel
theorem dX4_moveBroken_66 : decode cX4_moveBroken 66 = .ok (.invokevirtual 50, 3) := by decide +kernel
theorem dX4_moveBroken_69 : decode cX4_moveBroken 69 = .ok (.iinc 1 1, 3) := by decide +kernel
theorem dX4_moveBroken_72 : decode cX4_moveBroken 72 = .ok (.iinc 2 1, 3) := by decide +kernel
theorem dX4_moveBroken_75 : decode cX4_moveBroken 75 = .ok (.goto (-71), 3) := by decide +kernel
theorem dX4_moveBroken_78 : decode cX4_moveBroken 78 = .ok (.iload_n 1, 1) := by decide +kernel
theorem dX4_moveBroken_79 : decode cX4_moveBroken 79 = .ok (.ireturn, 1) := by decide +kernel
theorem dX4_moveOn_0 : decode cX4_moveOn 0 = .ok (.aload_n 1, 1) := by decide +kernel
theorem dX4_moveOn_1 : decode cX4_moveOn 1 = .ok (.getfield 43, 3) := by decide +kernel
theorem dX4_moveOn_4 : decode cX4_moveOn 4 = .ok (.istore_n 2, 1) := by decide +kernel
theorem dX4_moveOn_5 : decode cX4_moveOn 5 = .ok (.iload_n 2, 1) := by decide +kernel
theorem dX4_moveOn_6 : decode cX4_moveOn 6 = .ok (.sipush 399, 3) := by decide +kernel
theorem dX4_moveOn_9 : decode cX4_moveOn 9 = .ok (.if_icmp .gt 41, 3) := by decide +kernel
theorem dX4_moveOn_12 : decode cX4_moveOn 12 = .ok (.aload_n 0, 1) := by decide +kernel
theorem dX4_moveOn_13 : decode cX4_moveOn 13 = .ok (.getfield 19, 3) := by decide +kernel
theorem dX4_moveOn_16 : decode cX4_moveOn 16 = .ok (.aload_n 1, 1) := by decide +kernel
theorem dX4_moveOn_17 : decode cX4_moveOn 17 = .ok (.iload_n 2, 1) := by decide +kernel
theorem dX4_moveOn_18 : decode cX4_moveOn 18 = .ok (.iconst 2, 1) := by decide +kernel
theorem dX4_moveOn_19 : decode cX4_moveOn 19 = .ok (.invokevirtual 46, 3) := by decide +kernel
theorem dX4_moveOn_22 : decode cX4_moveOn 22 = .ok (.ifCond .eq 6, 3) := by decide +kernel
theorem dX4_moveOn_25 : decode cX4_moveOn 25 = .ok (.goto 19, 3) := by decide +kernel
theorem dX4_moveOn_28 : decode cX4_moveOn 28 = .ok (.aload_n 1, 1) := by decide +kernel
theorem dX4_moveOn_29 : decode cX4_moveOn 29 = .ok (.iload_n 2, 1) := by decide +kernel
theorem dX4_moveOn_30 : decode cX4_moveOn 30 = .ok (.invokevirtual 54, 3) := by decide +kernel
theorem dX4_moveOn_33 : decode cX4_moveOn 33 = .ok (.aload_n 1, 1) := by decide +kernel
theorem dX4_moveOn_34 : decode cX4_moveOn 34 = .ok (.dup, 1) := by decide +kernel
theorem dX4_moveOn_35 : decode cX4_moveOn 35 = .ok (.getfield 58, 3) := by decide +kernel
theorem dX4_moveOn_38 : decode cX4_moveOn 38 = .ok (.iconst 1, 1) := by decide +kernel
theorem dX4_moveOn_39 : decode cX4_moveOn 39 = .ok (.iadd, 1) := by decide +kernel
theorem dX4_moveOn_40 : decode cX4_moveOn 40 = .ok (.putfield 58, 3) := by decide +kernel
theorem dX4_moveOn_43 : decode cX4_moveOn 43 = .ok (.return_, 1) := by decide +kernel
theorem dX4_moveOn_44 : decode cX4_moveOn 44 = .ok (.iinc 2 1, 3) := by decide +kernel
theorem dX4_moveOn_47 : decode cX4_moveOn 47 = .ok (.goto (-42), 3) := by decide +kernel
theorem dX4_moveOn_50 : decode cX4_moveOn 50 = .ok (.aload_n 0, 1) := by decide +kernel
theorem dX4_moveOn_51 : decode cX4_moveOn 51 = .ok (.getfield 15, 3) := by decide +kernel
theorem dX4_moveOn_54 : decode cX4_moveOn 54 = .ok (.aload_n 1, 1) := by decide +kernel
theorem dX4_moveOn_55 : decode cX4_moveOn 55 = .ok (.invokevirtual 61, 3) := by decide +kernel
theorem dX4_moveOn_58 : decode cX4_moveOn 58 = .ok (.return_, 1) := by decide +kernel
theorem dX4_betterOne_0 : decode cX4_betterOne 0 = .ok (.iconst 0, 1) := by decide +kernel
theorem dX4_betterOne_1 : decode cX4_betterOne 1 = .ok (.istore_n 1, 1) := by decide +kernel
theorem dX4_betterOne_2 : decode cX4_betterOne 2 = .ok (.iload_n 1, 1) := by decide +kernel
theorem dX4_betterOne_3 : decode cX4_betterOne 3 = .ok (.aload_n 0, 1) := by decide +kernel
theorem dX4_betterOne_4 : decode cX4_betterOne 4 = .ok (.getfield 15, 3) := by decide +kernel
theorem dX4_betterOne_7 : decode cX4_betterOne 7 = .ok (.getfield 23, 3) := by decide +kernel
theorem dX4_betterOne_10 : decode cX4_betterOne 10 = .ok (.if_icmp .ge 87, 3) := by decide +kernel
theorem dX4_betterOne_13 : decode cX4_betterOne 13 = .ok (.aload_n 0, 1) := by decide +kernel
theorem dX4_betterOne_14 : decode cX4_betterOne 14 = .ok (.getfield 15, 3) := by decide +kernel
theorem dX4_betterOne_17 : decode cX4_betterOne 17 = .ok (.getfield 28, 3) := by decide +kernel
theorem dX4_betterOne_20 : decode cX4_betterOne 20 = .ok (.iload_n 1, 1) := by decide +kernel
theorem dX4_betterOne_21 : decode cX4_betterOne 21 = .ok (.aaload, 1) := by decide +kernel
theorem dX4_betterOne_22 : decode cX4_betterOne 22 = .ok (.astore_n 2, 1) := by decide +kernel
theorem dX4_betterOne_23 : decode cX4_betterOne 23 = .ok (.aload_n 2, 1) := by decide +kernel
theorem dX4_betterOne_24 : decode cX4_betterOne 24 = .ok (.getfield 32, 3) := by decide +kernel
theorem dX4_betterOne_27 : decode cX4_betterOne 27 = .ok (.iconst 1, 1) := by decide +kernel
theorem dX4_betterOne_28 : decode cX4_betterOne 28 = .ok (.if_icmp .ne 63, 3) := by decide +kernel
theorem dX4_betterOne_31 : decode cX4_betterOne 31 = .ok (.aload_n 2, 1) := by decide +kernel
theorem dX4_betterOne_32 : decode cX4_betterOne 32 = .ok (.invokevirtual 64, 3) := by decide +kernel
theorem dX4_betterOne_35 : decode cX4_betterOne 35 = .ok (.ifCond .ne 6, 3) := by decide +kernel
theorem dX4_betterOne_38 : decode cX4_betterOne 38 = .ok (.goto 53, 3) := by decide +kernel
theorem dX4_betterOne_41 : decode cX4_betterOne 41 = .ok (.aload_n 0, 1) := by decide +kernel
theorem dX4_betterOne_42 : decode cX4_betterOne 42 = .ok (.getfield 15, 3) := by decide +kernel
theorem dX4_betterOne_45 : decode cX4_betterOne 45 = .ok (.getfield 68, 3) := by decide +kernel
theorem dX4_betterOne_48 : decode cX4_betterOne 48 = .ok (.aload_n 2, 1) := by decide +kernel
theorem dX4_betterOne_49 : decode cX4_betterOne 49 = .ok (.invokevirtual 71, 3) := by decide +kernel
theorem dX4_betterOne_52 : decode cX4_betterOne 52 = .ok (.iadd, 1) := by decide +kernel
theorem dX4_betterOne_53 : decode cX4_betterOne 53 = .ok (.istore_n 3, 1) := by decide +kernel
theorem dX4_betterOne_54 : decode cX4_betterOne 54 = .ok (.iload_n 3, 1) := by decide +kernel
theorem dX4_betterOne_55 : decode cX4_betterOne 55 = .ok (.aload_n 2, 1) := by decide +kernel
theorem dX4_betterOne_56 : decode cX4_betterOne 56 = .ok (.getfield 43, 3) := by decide +kernel
theorem dX4_betterOne_59 : decode cX4_betterOne 59 = .ok (.if_icmp .ge 32, 3) := by decide +kernel
theorem dX4_betterOne_62 : decode cX4_betterOne 62 = .ok (.aload_n 0, 1) := by decide +kernel
theorem dX4_betterOne_63 : decode cX4_betterOne 63 = .ok (.aload_n 2, 1) := by decide +kernel
theorem dX4_betterOne_64 : decode cX4_betterOne 64 = .ok (.iload_n 3, 1) := by decide +kernel
theorem dX4_betterOne_65 : decode cX4_betterOne 65 = .ok (.invokevirtual 74, 3) := by decide +kernel
theorem dX4_betterOne_68 : decode cX4_betterOne 68 = .ok (.ifCond .ne 6, 3) := by decide +kernel
theorem dX4_betterOne_71 : decode cX4_betterOne 71 = .ok (.goto 14, 3) := by decide +kernel
theorem dX4_betterOne_74 : decode cX4_betterOne 74 = .ok (.aload_n 0, 1) := by decide +kernel
theorem dX4_betterOne_75 : decode cX4_betterOne 75 = .ok (.getfield 15, 3) := by decide +kernel
theorem dX4_betterOne_78 : decode cX4_betterOne 78 = .ok (.aload_n 2, 1) := by decide +kernel
theorem dX4_betterOne_79 : decode cX4_betterOne 79 = .ok (.iload_n 3, 1) := by decide +kernel
theorem dX4_betterOne_80 : decode cX4_betterOne 80 = .ok (.invokevirtual 78, 3) := by decide +kernel
theorem dX4_betterOne_83 : decode cX4_betterOne 83 = .ok (.iconst 1, 1) := by decide +kernel
theorem dX4_betterOne_84 : decode cX4_betterOne 84 = .ok (.ireturn, 1) := by decide +kernel
theorem dX4_betterOne_85 : decode cX4_betterOne 85 = .ok (.iinc 3 1, 3) := by decide +kernel
theorem dX4_betterOne_88 : decode cX4_betterOne 88 = .ok (.goto (-34), 3) := by decide +kernel
theorem dX4_betterOne_91 : decode cX4_betterOne 91 = .ok (.iinc 1 1, 3) := by decide +kernel
theorem dX4_betterOne_94 : decode cX4_betterOne 94 = .ok (.goto (-92), 3) := by decide +kernel
theorem dX4_betterOne_97 : decode cX4_betterOne 97 = .ok (.iconst 0, 1) := by decide +kernel
theorem dX4_betterOne_98 : decode cX4_betterOne 98 = .ok (.ireturn, 1) := by decide +kernel
theorem dX4_fits_0 : decode cX4_fits 0 = .ok (.aload_n 1, 1) := by decide +kernel
theorem dX4_fits_1 : decode cX4_fits 1 = .ok (.getfield 43, 3) := by decide +kernel
theorem dX4_fits_4 : decode cX4_fits 4 = .ok (.istore_n 3, 1) := by decide +kernel
theorem dX4_fits_5 : decode cX4_fits 5 = .ok (.aload_n 1, 1) := by decide +kernel
theorem dX4_fits_6 : decode cX4_fits 6 = .ok (.iload_n 2, 1) := by decide +kernel
theorem dX4_fits_7 : decode cX4_fits 7 = .ok (.invokevirtual 54, 3) := by decide +kernel
theorem dX4_fits_10 : decode cX4_fits 10 = .ok (.aload_n 0, 1) := by decide +kernel
theorem dX4_fits_11 : decode cX4_fits 11 = .ok (.aload_n 0, 1) := by decide +kernel
theorem dX4_fits_12 : decode cX4_fits 12 = .ok (.getfield 11, 3) := by decide +kernel
theorem dX4_fits_15 : decode cX4_fits 15 = .ok (.aload_n 1, 1) := by decide +kernel
theorem dX4_fits_16 : decode cX4_fits 16 = .ok (.invokevirtual 81, 3) := by decide +kernel
theorem dX4_fits_19 : decode cX4_fits 19 = .ok (.ifCond .ne 7, 3) := by decide +kernel
theorem dX4_fits_22 : decode cX4_fits 22 = .ok (.iconst 1, 1) := by decide +kernel
theorem dX4_fits_23 : decode cX4_fits 23 = .ok (.goto 4, 3) := by decide +kernel
theorem dX4_fits_26 : decode cX4_fits 26 = .ok (.iconst 0, 1) := by decide +kernel
theorem dX4_fits_27 : decode cX4_fits 27 = .ok (.istore 4, 2) := by decide +kernel
theorem dX4_fits_29 : decode cX4_fits 29 = .ok (.iload 4, 2) := by decide +kernel
theorem dX4_fits_31 : decode cX4_fits 31 = .ok (.ifCond .eq 8, 3) := by decide +kernel
theorem dX4_fits_34 : decode cX4_fits 34 = .ok (.aload_n 0, 1) := by decide +kernel
theorem dX4_fits_35 : decode cX4_fits 35 = .ok (.iconst (-1), 1) := by decide +kernel
theorem dX4_fits_36 : decode cX4_fits 36 = .ok (.putfield 11, 3) := by decide +kernel
theorem dX4_fits_39 : decode cX4_fits 39 = .ok (.iload 4, 2) := by decide +kernel
theorem dX4_fits_41 : decode cX4_fits 41 = .ok (.ifCond .eq 16, 3) := by decide +kernel
theorem dX4_fits_44 : decode cX4_fits 44 = .ok (.aload_n 0, 1) := by decide +kernel
theorem dX4_fits_45 : decode cX4_fits 45 = .ok (.aload_n 1, 1) := by decide +kernel
theorem dX4_fits_46 : decode cX4_fits 46 = .ok (.iload_n 2, 1) := by decide +kernel
theorem dX4_fits_47 : decode cX4_fits 47 = .ok (.invokevirtual 85, 3) := by decide +kernel
theorem dX4_fits_50 : decode cX4_fits 50 = .ok (.ifCond .eq 7, 3) := by decide +kernel
theorem dX4_fits_53 : decode cX4_fits 53 = .ok (.iconst 1, 1) := by decide +kernel
theorem dX4_fits_54 : decode cX4_fits 54 = .ok (.goto 4, 3) := by decide +kernel
theorem dX4_fits_57 : decode cX4_fits 57 = .ok (.iconst 0, 1) := by decide +kernel
theorem dX4_fits_58 : decode cX4_fits 58 = .ok (.istore 4, 2) := by decide +kernel
theorem dX4_fits_60 : decode cX4_fits 60 = .ok (.iconst 0, 1) := by decide +kernel
theorem dX4_fits_61 : decode cX4_fits 61 = .ok (.istore 5, 2) := by decide +kernel
theorem dX4_fits_63 : decode cX4_fits 63 = .ok (.iload 5, 2) := by decide +kernel
theorem dX4_fits_65 : decode cX4_fits 65 = .ok (.aload_n 0, 1) := by decide +kernel
theorem dX4_fits_66 : decode cX4_fits 66 = .ok (.getfield 15, 3) := by decide +kernel
theorem dX4_fits_69 : decode cX4_fits 69 = .ok (.getfield 23, 3) := by decide +kernel
theorem dX4_fits_72 : decode cX4_fits 72 = .ok (.if_icmp .ge 36, 3) := by decide +kernel
theorem dX4_fits_75 : decode cX4_fits 75 = .ok (.iload 4, 2) := by decide +kernel
theorem dX4_fits_77 : decode cX4_fits 77 = .ok (.ifCond .eq 31, 3) := by decide +kernel
theorem dX4_fits_80 : decode cX4_fits 80 = .ok (.aload_n 0, 1) := by decide +kernel
theorem dX4_fits_81 : decode cX4_fits 81 = .ok (.iload 5, 2) := by decide +kernel
theorem dX4_fits_83 : decode cX4_fits 83 = .ok (.aload_n 1, 1) := by decide +kernel
theorem dX4_fits_84 : decode cX4_fits 84 = .ok (.invokevirtual 81, 3) := by decide +kernel
theorem dX4_fits_87 : decode cX4_fits 87 = .ok (.ifCond .ne 6, 3) := by decide +kernel
theorem dX4_fits_90 : decode cX4_fits 90 = .ok (.goto 12, 3) := by decide +kernel
theorem dX4_fits_93 : decode cX4_fits 93 = .ok (.aload_n 0, 1) := by decide +kernel
theorem dX4_fits_94 : decode cX4_fits 94 = .ok (.iload 5, 2) := by decide +kernel
theorem dX4_fits_96 : decode cX4_fits 96 = .ok (.putfield 11, 3) := by decide +kernel
theorem dX4_fits_99 : decode cX4_fits 99 = .ok (.iconst 0, 1) := by decide +kernel
theorem dX4_fits_100 : decode cX4_fits 100 = .ok (.istore 4, 2) := by decide +kernel
theorem dX4_fits_102 : decode cX4_fits 102 = .ok (.iinc 5 1, 3) := by decide +kernel
theorem dX4_fits_105 : decode cX4_fits 105 = .ok (.goto (-42), 3) := by decide +kernel
theorem dX4_fits_108 : decode cX4_fits 108 = .ok (.aload_n 1, 1) := by decide +kernel
theorem dX4_fits_109 : decode cX4_fits 109 = .ok (.iload_n 3, 1) := by decide +kernel
theorem dX4_fits_110 : decode cX4_fits 110 = .ok (.invokevirtual 54, 3) := by decide +kernel
theorem dX4_fits_113 : decode cX4_fits 113 = .ok (.iload 4, 2) := by decide +kernel
theorem dX4_fits_115 : decode cX4_fits 115 = .ok (.ireturn, 1) := by decide +kernel
theorem dX4_keepsRules_0 : decode cX4_keepsRules 0 = .ok (.aload_n 0, 1) := by decide +kernel
theorem dX4_keepsRules_1 : decode cX4_keepsRules 1 = .ok (.getfield 19, 3) := by decide +kernel
theorem dX4_keepsRules_4 : decode cX4_keepsRules 4 = .ok (.aload_n 1, 1) := by decide +kernel
theorem dX4_keepsRules_5 : decode cX4_keepsRules 5 = .ok (.bipush 60, 2) := by decide +kernel
theorem dX4_keepsRules_7 : decode cX4_keepsRules 7 = .ok (.invokevirtual 37, 3) := by decide +kernel
theorem dX4_keepsRules_10 : decode cX4_keepsRules 10 = .ok (.aload_n 0, 1) := by decide +kernel
theorem dX4_keepsRules_11 : decode cX4_keepsRules 11 = .ok (.getfield 19, 3) := by decide +kernel
theorem dX4_keepsRules_14 : decode cX4_keepsRules 14 = .ok (.aload_n 1, 1) := by decide +kernel
theorem dX4_keepsRules_15 : decode cX4_keepsRules 15 = .ok (.iload_n 2, 1) := by decide +kernel
theorem dX4_keepsRules_16 : decode cX4_keepsRules 16 = .ok (.iconst 1, 1) := by decide +kernel
theorem dX4_keepsRules_17 : decode cX4_keepsRules 17 = .ok (.invokevirtual 46, 3) := by decide +kernel
theorem dX4_keepsRules_20 : decode cX4_keepsRules 20 = .ok (.ifCond .ne 7, 3) := by decide +kernel
theorem dX4_keepsRules_23 : decode cX4_keepsRules 23 = .ok (.iconst 1, 1) := by decide +kernel
theorem dX4_keepsRules_24 : decode cX4_keepsRules 24 = .ok (.goto 4, 3) := by decide +kernel
theorem dX4_keepsRules_27 : decode cX4_keepsRules 27 = .ok (.iconst 0, 1) := by decide +kernel
theorem dX4_keepsRules_28 : decode cX4_keepsRules 28 = .ok (.ireturn, 1) := by decide +kernel
theorem dX4_breaksBeside_0 : decode cX4_breaksBeside 0 = .ok (.aload_n 0, 1) := by decide +kernel
theorem dX4_breaksBeside_1 : decode cX4_breaksBeside 1 = .ok (.getfield 15, 3) := by decide +kernel
theorem dX4_breaksBeside_4 : decode cX4_breaksBeside 4 = .ok (.iload_n 1, 1) := by decide +kernel
theorem dX4_breaksBeside_5 : decode cX4_breaksBeside 5 = .ok (.invokevirtual 88, 3) := by decide +kernel
theorem dX4_breaksBeside_8 : decode cX4_breaksBeside 8 = .ok (.ifCond .eq 11, 3) := by decide +kernel
theorem dX4_breaksBeside_11 : decode cX4_breaksBeside 11 = .ok (.iload_n 1, 1) := by decide +kernel
theorem dX4_breaksBeside_12 : decode cX4_breaksBeside 12 = .ok (.aload_n 2, 1) := by decide +kernel
theorem dX4_breaksBeside_13 : decode cX4_breaksBeside 13 = .ok (.getfield 92, 3) := by decide +kernel
theorem dX4_breaksBeside_16 : decode cX4_breaksBeside 16 = .ok (.if_icmp .ne 5, 3) := by decide +kernel
theorem dX4_breaksBeside_19 : decode cX4_breaksBeside 19 = .ok (.iconst 0, 1) := by decide +kernel
theorem dX4_breaksBeside_20 : decode cX4_breaksBeside 20 = .ok (.ireturn, 1) := by decide +kernel
theorem dX4_breaksBeside_21 : decode cX4_breaksBeside 21 = .ok (.aload_n 0, 1) := by decide +kernel
theorem dX4_breaksBeside_22 : decode cX4_breaksBeside 22 = .ok (.getfield 15, 3) := by decide +kernel
theorem dX4_breaksBeside_25 : decode cX4_breaksBeside 25 = .ok (.getfield 28, 3) := by decide +kernel
theorem dX4_breaksBeside_28 : decode cX4_breaksBeside 28 = .ok (.iload_n 1, 1) := by decide +kernel
theorem dX4_breaksBeside_29 : decode cX4_breaksBeside 29 = .ok (.aaload, 1) := by decide +kernel
theorem dX4_breaksBeside_30 : decode cX4_breaksBeside 30 = .ok (.astore_n 3, 1) := by decide +kernel
theorem dX4_breaksBeside_31 : decode cX4_breaksBeside 31 = .ok (.aload_n 3, 1) := by decide +kernel
theorem dX4_breaksBeside_32 : decode cX4_breaksBeside 32 = .ok (.getfield 32, 3) := by decide +kernel
theorem dX4_breaksBeside_35 : decode cX4_breaksBeside 35 = .ok (.iconst 1, 1) := by decide +kernel
theorem dX4_breaksBeside_36 : decode cX4_breaksBeside 36 = .ok (.if_icmp .eq 5, 3) := by decide +kernel
theorem dX4_breaksBeside_39 : decode cX4_breaksBeside 39 = .ok (.iconst 0, 1) := by decide +kernel
theorem dX4_breaksBeside_40 : decode cX4_breaksBeside 40 = .ok (.ireturn, 1) := by decide +kernel
theorem dX4_breaksBeside_41 : decode cX4_breaksBeside 41 = .ok (.aload_n 0, 1) := by decide +kernel
theorem dX4_breaksBeside_42 : decode cX4_breaksBeside 42 = .ok (.getfield 19, 3) := by decide +kernel
theorem dX4_breaksBeside_45 : decode cX4_breaksBeside 45 = .ok (.aload_n 3, 1) := by decide +kernel
theorem dX4_breaksBeside_46 : decode cX4_breaksBeside 46 = .ok (.bipush 60, 2) := by decide +kernel
theorem dX4_breaksBeside_48 : decode cX4_breaksBeside 48 = .ok (.invokevirtual 37, 3) := by decide +kernel
theorem dX4_breaksBeside_51 : decode cX4_breaksBeside 51 = .ok (.aload_n 0, 1) := by decide +kernel
theorem dX4_breaksBeside_52 : decode cX4_breaksBeside 52 = .ok (.getfield 19, 3) := by decide +kernel
theorem dX4_breaksBeside_55 : decode cX4_breaksBeside 55 = .ok (.aload_n 3, 1) := by decide +kernel
theorem dX4_breaksBeside_56 : decode cX4_breaksBeside 56 = .ok (.aload_n 3, 1) := by decide +kernel
theorem dX4_breaksBeside_57 : decode cX4_breaksBeside 57 = .ok (.getfield 43, 3) := by decide +kernel
theorem dX4_breaksBeside_60 : decode cX4_breaksBeside 60 = .ok (.iconst 3, 1) := by decide +kernel
theorem dX4_breaksBeside_61 : decode cX4_breaksBeside 61 = .ok (.invokevirtual 46, 3) := by decide +kernel
theorem dX4_breaksBeside_64 : decode cX4_breaksBeside 64 = .ok (.ifCond .eq 7, 3) := by decide +kernel
theorem dX4_breaksBeside_67 : decode cX4_breaksBeside 67 = .ok (.iconst 1, 1) := by decide +kernel
theorem dX4_breaksBeside_68 : decode cX4_breaksBeside 68 = .ok (.goto 4, 3) := by decide +kernel
theorem dX4_breaksBeside_71 : decode cX4_breaksBeside 71 = .ok (.iconst 0, 1) := by decide +kernel
theorem dX4_breaksBeside_72 : decode cX4_breaksBeside 72 = .ok (.ireturn, 1) := by decide +kernel
theorem dX5_init_0 : decode cX5_init 0 = .ok (.aload_n 0, 1) := by decide +kernel
theorem dX5_init_1 : decode cX5_init 1 = .ok (.invokespecial 3, 3) := by decide +kernel
theorem dX5_init_4 : decode cX5_init 4 = .ok (.aload_n 0, 1) := by decide +kernel
theorem dX5_init_5 : decode cX5_init 5 = .ok (.bipush 40, 2) := by decide +kernel
theorem dX5_init_7 : decode cX5_init 7 = .ok (.anewarray 9, 3) := by decide +kernel
theorem dX5_init_10 : decode cX5_init 10 = .ok (.putfield 11, 3) := by decide +kernel
theorem dX5_init_13 : decode cX5_init 13 = .ok (.aload_n 0, 1) := by decide +kernel
theorem dX5_init_14 : decode cX5_init 14 = .ok (.bipush 8, 2) := by decide +kernel
theorem dX5_init_16 : decode cX5_init 16 = .ok (.anewarray 17, 3) := by decide +kernel
theorem dX5_init_19 : decode cX5_init 19 = .ok (.putfield 19, 3) := by decide +kernel
theorem dX5_init_22 : decode cX5_init 22 = .ok (.aload_n 0, 1) := by decide +kernel
theorem dX5_init_23 : decode cX5_init 23 = .ok (.bipush 60, 2) := by decide +kernel
theorem dX5_init_25 : decode cX5_init 25 = .ok (.anewarray 23, 3) := by decide +kernel
theorem dX5_init_28 : decode cX5_init 28 = .ok (.putfield 25, 3) := by decide +kernel
theorem dX5_init_31 : decode cX5_init 31 = .ok (.aload_n 0, 1) := by decide +kernel
theorem dX5_init_32 : decode cX5_init 32 = .ok (.sipush 400, 3) := by decide +kernel
theorem dX5_init_35 : decode cX5_init 35 = .ok (.newarray .boolean, 2) := by decide +kernel
theorem dX5_init_37 : decode cX5_init 37 = .ok (.putfield 29, 3) := by decide +kernel
theorem dX5_init_40 : decode cX5_init 40 = .ok (.iconst 0, 1) := by decide +kernel
theorem dX5_init_41 : decode cX5_init 41 = .ok (.istore_n 1, 1) := by decide +kernel
theorem dX5_init_42 : decode cX5_init 42 = .ok (.iload_n 1, 1) := by decide +kernel
theorem dX5_init_43 : decode cX5_init 43 = .ok (.bipush 40, 2) := by decide +kernel
theorem dX5_init_45 : decode cX5_init 45 = .ok (.if_icmp .ge 22, 3) := by decide +kernel
theorem dX5_init_48 : decode cX5_init 48 = .ok (.aload_n 0, 1) := by decide +kernel
theorem dX5_init_49 : decode cX5_init 49 = .ok (.getfield 11, 3) := by decide +kernel
theorem dX5_init_52 : decode cX5_init 52 = .ok (.iload_n 1, 1) := by decide +kernel
theorem dX5_init_53 : decode cX5_init 53 = .ok (.new 9, 3) := by decide +kernel
theorem dX5_init_56 : decode cX5_init 56 = .ok (.dup, 1) := by decide +kernel
theorem dX5_init_57 : decode cX5_init 57 = .ok (.invokespecial 33, 3) := by decide +kernel
theorem dX5_init_60 : decode cX5_init 60 = .ok (.aastore, 1) := by decide +kernel
theorem dX5_init_61 : decode cX5_init 61 = .ok (.iinc 1 1, 3) := by decide +kernel
theorem dX5_init_64 : decode cX5_init 64 = .ok (.goto (-22), 3) := by decide +kernel
theorem dX5_init_67 : decode cX5_init 67 = .ok (.iconst 0, 1) := by decide +kernel
theorem dX5_init_68 : decode cX5_init 68 = .ok (.istore_n 1, 1) := by decide +kernel
theorem dX5_init_69 : decode cX5_init 69 = .ok (.iload_n 1, 1) := by decide +kernel
theorem dX5_init_70 : decode cX5_init 70 = .ok (.bipush 8, 2) := by decide +kernel
theorem dX5_init_72 : decode cX5_init 72 = .ok (.if_icmp .ge 22, 3) := by decide +kernel
theorem dX5_init_75 : decode cX5_init 75 = .ok (.aload_n 0, 1) := by decide +kernel
theorem dX5_init_76 : decode cX5_init 76 = .ok (.getfield 19, 3) := by decide +kernel
theorem dX5_init_79 : decode cX5_init 79 = .ok (.iload_n 1, 1) := by decide +kernel
theorem dX5_init_80 : decode cX5_init 80 = .ok (.new 17, 3) := by decide +kernel
theorem dX5_init_83 : decode cX5_init 83 = .ok (.dup, 1) := by decide +kernel
theorem dX5_init_84 : decode cX5_init 84 = .ok (.invokespecial 34, 3) := by decide +kernel
theorem dX5_init_87 : decode cX5_init 87 = .ok (.aastore, 1) := by decide +kernel
theorem dX5_init_88 : decode cX5_init 88 = .ok (.iinc 1 1, 3) := by decide +kernel
theorem dX5_init_91 : decode cX5_init 91 = .ok (.goto (-22), 3) := by decide +kernel
theorem dX5_init_94 : decode cX5_init 94 = .ok (.iconst 0, 1) := by decide +kernel
theorem dX5_init_95 : decode cX5_init 95 = .ok (.istore_n 1, 1) := by decide +kernel
theorem dX5_init_96 : decode cX5_init 96 = .ok (.iload_n 1, 1) := by decide +kernel
theorem dX5_init_97 : decode cX5_init 97 = .ok (.bipush 60, 2) := by decide +kernel
theorem dX5_init_99 : decode cX5_init 99 = .ok (.if_icmp .ge 23, 3) := by decide +kernel
theorem dX5_init_102 : decode cX5_init 102 = .ok (.aload_n 0, 1) := by decide +kernel
theorem dX5_init_103 : decode cX5_init 103 = .ok (.getfield 25, 3) := by decide +kernel
theorem dX5_init_106 : decode cX5_init 106 = .ok (.iload_n 1, 1) := by decide +kernel
theorem dX5_init_107 : decode cX5_init 107 = .ok (.new 23, 3) := by decide +kernel
theorem dX5_init_110 : decode cX5_init 110 = .ok (.dup, 1) := by decide +kernel
theorem dX5_init_111 : decode cX5_init 111 = .ok (.iload_n 1, 1) := by decide +kernel
theorem dX5_init_112 : decode cX5_init 112 = .ok (.invokespecial 35, 3) := by decide +kernel
theorem dX5_init_115 : decode cX5_init 115 = .ok (.aastore, 1) := by decide +kernel
theorem dX5_init_116 : decode cX5_init 116 = .ok (.iinc 1 1, 3) := by decide +kernel
theorem dX5_init_119 : decode cX5_init 119 = .ok (.goto (-23), 3) := by decide +kernel
theorem dX5_init_122 : decode cX5_init 122 = .ok (.return_, 1) := by decide +kernel
theorem dX5_hasPiece_0 : decode cX5_hasPiece 0 = .ok (.iload_n 1, 1) := by decide +kernel
theorem dX5_hasPiece_1 : decode cX5_hasPiece 1 = .ok (.ifCond .lt 15, 3) := by decide +kernel
theorem dX5_hasPiece_4 : decode cX5_hasPiece 4 = .ok (.iload_n 1, 1) := by decide +kernel
theorem dX5_hasPiece_5 : decode cX5_hasPiece 5 = .ok (.aload_n 0, 1) := by decide +kernel
theorem dX5_hasPiece_6 : decode cX5_hasPiece 6 = .ok (.getfield 38, 3) := by decide +kernel
theorem dX5_hasPiece_9 : decode cX5_hasPiece 9 = .ok (.if_icmp .ge 7, 3) := by decide +kernel
theorem dX5_hasPiece_12 : decode cX5_hasPiece 12 = .ok (.iconst 1, 1) := by decide +kernel
theorem dX5_hasPiece_13 : decode cX5_hasPiece 13 = .ok (.goto 4, 3) := by decide +kernel
theorem dX5_hasPiece_16 : decode cX5_hasPiece 16 = .ok (.iconst 0, 1) := by decide +kernel
theorem dX5_hasPiece_17 : decode cX5_hasPiece 17 = .ok (.ireturn, 1) := by decide +kernel
theorem dX5_hasPair_0 : decode cX5_hasPair 0 = .ok (.iload_n 1, 1) := by decide +kernel
theorem dX5_hasPair_1 : decode cX5_hasPair 1 = .ok (.ifCond .lt 15, 3) := by decide +kernel
theorem dX5_hasPair_4 : decode cX5_hasPair 4 = .ok (.iload_n 1, 1) := by decide +kernel
theorem dX5_hasPair_5 : decode cX5_hasPair 5 = .ok (.aload_n 0, 1) := by decide +kernel
theorem dX5_hasPair_6 : decode cX5_hasPair 6 = .ok (.getfield 42, 3) := by decide +kernel
theorem dX5_hasPair_9 : decode cX5_hasPair 9 = .ok (.if_icmp .ge 7, 3) := by decide +kernel
theorem dX5_hasPair_12 : decode cX5_hasPair 12 = .ok (.iconst 1, 1) := by decide +kernel
theorem dX5_hasPair_13 : decode cX5_hasPair 13 = .ok (.goto 4, 3) := by decide +kernel
theorem dX5_hasPair_16 : decode cX5_hasPair 16 = .ok (.iconst 0, 1) := by decide +kernel
theorem dX5_hasPair_17 : decode cX5_hasPair 17 = .ok (.ireturn, 1) := by decide +kernel
theorem dX5_hasWork_0 : decode cX5_hasWork 0 = .ok (.iload_n 1, 1) := by decide +kernel
theorem dX5_hasWork_1 : decode cX5_hasWork 1 = .ok (.ifCond .lt 15, 3) := by decide +kernel
theorem dX5_hasWork_4 : decode cX5_hasWork 4 = .ok (.iload_n 1, 1) := by decide +kernel
theorem dX5_hasWork_5 : decode cX5_hasWork 5 = .ok (.aload_n 0, 1) := by decide +kernel
theorem dX5_hasWork_6 : decode cX5_hasWork 6 = .ok (.getfield 45, 3) := by decide +kernel
theorem dX5_hasWork_9 : decode cX5_hasWork 9 = .ok (.if_icmp .ge 7, 3) := by decide +kernel
theorem dX5_hasWork_12 : decode cX5_hasWork 12 = .ok (.iconst 1, 1) := by decide +kernel
theorem dX5_hasWork_13 : decode cX5_hasWork 13 = .ok (.goto 4, 3) := by decide +kernel
theorem dX5_hasWork_16 : decode cX5_hasWork 16 = .ok (.iconst 0, 1) := by decide +kernel
theorem dX5_hasWork_17 : decode cX5_hasWork 17 = .ok (.ireturn, 1) := by decide +kernel
theorem dX5_worksIn_0 : decode cX5_worksIn 0 = .ok (.iconst 0, 1) := by decide +kernel
theorem dX5_worksIn_1 : decode cX5_worksIn 1 = .ok (.istore_n 2, 1) := by decide +kernel
theorem dX5_worksIn_2 : decode cX5_worksIn 2 = .ok (.iconst 0, 1) := by decide +kernel
theorem dX5_worksIn_3 : decode cX5_worksIn 3 = .ok (.istore_n 3, 1) := by decide +kernel
theorem dX5_worksIn_4 : decode cX5_worksIn 4 = .ok (.iload_n 3, 1) := by decide +kernel
theorem dX5_worksIn_5 : decode cX5_worksIn 5 = .ok (.aload_n 0, 1) := by decide +kernel
theorem dX5_worksIn_6 : decode cX5_worksIn 6 = .ok (.getfield 45, 3) := by decide +kernel
theorem dX5_worksIn_9 : decode cX5_worksIn 9 = .ok (.if_icmp .ge 25, 3) := by decide +kernel
theorem dX5_worksIn_12 : decode cX5_worksIn 12 = .ok (.aload_n 0, 1) := by decide +kernel
theorem dX5_worksIn_13 : decode cX5_worksIn 13 = .ok (.getfield 25, 3) := by decide +kernel
theorem dX5_worksIn_16 : decode cX5_worksIn 16 = .ok (.iload_n 3, 1) := by decide +kernel
theorem dX5_worksIn_17 : decode cX5_worksIn 17 = .ok (.aaload, 1) := by decide +kernel
theorem dX5_worksIn_18 : decode cX5_worksIn 18 = .ok (.getfield 48, 3) := by decide +kernel
theorem dX5_worksIn_21 : decode cX5_worksIn 21 = .ok (.iload_n 1, 1) := by decide +kernel
theorem dX5_worksIn_22 : decode cX5_worksIn 22 = .ok (.if_icmp .ne 6, 3) := by decide +kernel
theorem dX5_worksIn_25 : decode cX5_worksIn 25 = .ok (.iinc 2 1, 3) := by decide +kernel
theorem dX5_worksIn_28 : decode cX5_worksIn 28 = .ok (.iinc 3 1, 3) := by decide +kernel
theorem dX5_worksIn_31 : decode cX5_worksIn 31 = .ok (.goto (-27), 3) := by decide +kernel
theorem dX5_worksIn_34 : decode cX5_worksIn 34 = .ok (.iload_n 2, 1) := by decide +kernel
theorem dX5_worksIn_35 : decode cX5_worksIn 35 = .ok (.ireturn, 1) := by decide +kernel
theorem dX5_permitFrom_0 : decode cX5_permitFrom 0 = .ok (.aload_n 1, 1) := by decide +kernel
theorem dX5_permitFrom_1 : decode cX5_permitFrom 1 = .ok (.iload_n 2, 1) := by decide +kernel
theorem dX5_permitFrom_2 : decode cX5_permitFrom 2 = .ok (.invokevirtual 51, 3) := by decide +kernel
theorem dX5_permitFrom_5 : decode cX5_permitFrom 5 = .ok (.aload_n 1, 1) := by decide +kernel
theorem dX5_permitFrom_6 : decode cX5_permitFrom 6 = .ok (.iload_n 2, 1) := by decide +kernel
theorem dX5_permitFrom_7 : decode cX5_permitFrom 7 = .ok (.aload_n 0, 1) := by decide +kernel
theorem dX5_permitFrom_8 : decode cX5_permitFrom 8 = .ok (.getfield 54, 3) := by decide +kernel
theorem dX5_permitFrom_11 : decode cX5_permitFrom 11 = .ok (.if_icmp .ne 7, 3) := by decide +kernel
theorem dX5_permitFrom_14 : decode cX5_permitFrom 14 = .ok (.iconst 2, 1) := by decide +kernel
theorem dX5_permitFrom_15 : decode cX5_permitFrom 15 = .ok (.goto 4, 3) := by decide +kernel
theorem dX5_permitFrom_18 : decode cX5_permitFrom 18 = .ok (.iconst 1, 1) := by decide +kernel
theorem dX5_permitFrom_19 : decode cX5_permitFrom 19 = .ok (.putfield 48, 3) := by decide +kernel
theorem dX5_permitFrom_22 : decode cX5_permitFrom 22 = .ok (.return_, 1) := by decide +kernel
theorem dX5_drop_0 : decode cX5_drop 0 = .ok (.aload_n 1, 1) := by decide +kernel
theorem dX5_drop_1 : decode cX5_drop 1 = .ok (.iconst 4, 1) := by decide +kernel
theorem dX5_drop_2 : decode cX5_drop 2 = .ok (.putfield 48, 3) := by decide +kernel
theorem dX5_drop_5 : decode cX5_drop 5 = .ok (.aload_n 1, 1) := by decide +kernel
theorem dX5_drop_6 : decode cX5_drop 6 = .ok (.iconst (-1), 1) := by decide +kernel
theorem dX5_drop_7 : decode cX5_drop 7 = .ok (.putfield 57, 3) := by decide +kernel
theorem dX5_drop_10 : decode cX5_drop 10 = .ok (.aload_n 1, 1) := by decide +kernel
theorem dX5_drop_11 : decode cX5_drop 11 = .ok (.iconst (-1), 1) := by decide +kernel
theorem dX5_drop_12 : decode cX5_drop 12 = .ok (.putfield 60, 3) := by decide +kernel
theorem dX5_drop_15 : decode cX5_drop 15 = .ok (.aload_n 0, 1) := by decide +kernel
theorem dX5_drop_16 : decode cX5_drop 16 = .ok (.aload_n 1, 1) := by decide +kernel
theorem dX5_drop_17 : decode cX5_drop 17 = .ok (.getfield 63, 3) := by decide +kernel
theorem dX5_drop_20 : decode cX5_drop 20 = .ok (.invokevirtual 66, 3) := by decide +kernel
theorem dX5_drop_23 : decode cX5_drop 23 = .ok (.ifCond .eq 16, 3) := by decide +kernel
theorem dX5_drop_26 : decode cX5_drop 26 = .ok (.aload_n 0, 1) := by decide +kernel
theorem dX5_drop_27 : decode cX5_drop 27 = .ok (.getfield 25, 3) := by decide +kernel
theorem dX5_drop_30 : decode cX5_drop 30 = .ok (.aload_n 1, 1) := by decide +kernel
theorem dX5_drop_31 : decode cX5_drop 31 = .ok (.getfield 63, 3) := by decide +kernel
theorem dX5_drop_34 : decode cX5_drop 34 = .ok (.aaload, 1) := by decide +kernel
theorem dX5_drop_35 : decode cX5_drop 35 = .ok (.iconst (-1), 1) := by decide +kernel
theorem dX5_drop_36 : decode cX5_drop 36 = .ok (.putfield 63, 3) := by decide +kernel
theorem dX5_drop_39 : decode cX5_drop 39 = .ok (.aload_n 1, 1) := by decide +kernel
theorem dX5_drop_40 : decode cX5_drop 40 = .ok (.iconst (-1), 1) := by decide +kernel
theorem dX5_drop_41 : decode cX5_drop 41 = .ok (.putfield 63, 3) := by decide +kernel
theorem dX5_drop_44 : decode cX5_drop 44 = .ok (.return_, 1) := by decide +kernel
theorem dX5_passDay_0 : decode cX5_passDay 0 = .ok (.aload_n 0, 1) := by decide +kernel
theorem dX5_passDay_1 : decode cX5_passDay 1 = .ok (.dup, 1) := by decide +kernel
theorem dX5_passDay_2 : decode cX5_passDay 2 = .ok (.getfield 54, 3) := by decide +kernel
theorem dX5_passDay_5 : decode cX5_passDay 5 = .ok (.iconst 1, 1) := by decide +kernel
theorem dX5_passDay_6 : decode cX5_passDay 6 = .ok (.iadd, 1) := by decide +kernel
theorem dX5_passDay_7 : decode cX5_passDay 7 = .ok (.putfield 54, 3) := by decide +kernel
theorem dX5_passDay_10 : decode cX5_passDay 10 = .ok (.iconst 0, 1) := by decide +kernel
theorem dX5_passDay_11 : decode cX5_passDay 11 = .ok (.istore_n 1, 1) := by decide +kernel
theorem dX5_passDay_12 : decode cX5_passDay 12 = .ok (.iload_n 1, 1) := by decide +kernel
theorem dX5_passDay_13 : decode cX5_passDay 13 = .ok (.aload_n 0, 1) := by decide +kernel
theorem dX5_passDay_14 : decode cX5_passDay 14 = .ok (.getfield 45, 3) := by decide +kernel
theorem dX5_passDay_17 : decode cX5_passDay 17 = .ok (.if_icmp .ge 64, 3) := by decide +kernel
theorem dX5_passDay_20 : decode cX5_passDay 20 = .ok (.aload_n 0, 1) := by decide +kernel
theorem dX5_passDay_21 : decode cX5_passDay 21 = .ok (.getfield 25, 3) := by decide +kernel
theorem dX5_passDay_24 : decode cX5_passDay 24 = .ok (.iload_n 1, 1) := by decide +kernel
theorem dX5_passDay_25 : decode cX5_passDay 25 = .ok (.aaload, 1) := by decide +kernel
theorem dX5_passDay_26 : decode cX5_passDay 26 = .ok (.astore_n 2, 1) := by decide +kernel
theorem dX5_passDay_27 : decode cX5_passDay 27 = .ok (.aload_n 2, 1) := by decide +kernel
theorem dX5_passDay_28 : decode cX5_passDay 28 = .ok (.getfield 48, 3) := by decide +kernel
theorem dX5_passDay_31 : decode cX5_passDay 31 = .ok (.iconst 2, 1) := by decide +kernel
theorem dX5_passDay_32 : decode cX5_passDay 32 = .ok (.if_icmp .ne 19, 3) := by decide +kernel
theorem dX5_passDay_35 : decode cX5_passDay 35 = .ok (.aload_n 2, 1) := by decide +kernel
theorem dX5_passDay_36 : decode cX5_passDay 36 = .ok (.getfield 60, 3) := by decide +kernel
theorem dX5_passDay_39 : decode cX5_passDay 39 = .ok (.aload_n 0, 1) := by decide +kernel
theorem dX5_passDay_40 : decode cX5_passDay 40 = .ok (.getfield 54, 3) := by decide +kernel
theorem dX5_passDay_43 : decode cX5_passDay 43 = .ok (.if_icmp .ge 8, 3) := by decide +kernel
theorem dX5_passDay_46 : decode cX5_passDay 46 = .ok (.aload_n 2, 1) := by decide +kernel
theorem dX5_passDay_47 : decode cX5_passDay 47 = .ok (.iconst 3, 1) := by decide +kernel
theorem dX5_passDay_48 : decode cX5_passDay 48 = .ok (.putfield 48, 3) := by decide +kernel
theorem dX5_passDay_51 : decode cX5_passDay 51 = .ok (.aload_n 2, 1) := by decide +kernel
theorem dX5_passDay_52 : decode cX5_passDay 52 = .ok (.getfield 48, 3) := by decide +kernel
theorem dX5_passDay_55 : decode cX5_passDay 55 = .ok (.iconst 1, 1) := by decide +kernel
theorem dX5_passDay_56 : decode cX5_passDay 56 = .ok (.if_icmp .ne 19, 3) := by decide +kernel
theorem dX5_passDay_59 : decode cX5_passDay 59 = .ok (.aload_n 2, 1) := by decide +kernel
theorem dX5_passDay_60 : decode cX5_passDay 60 = .ok (.getfield 57, 3) := by decide +kernel
theorem dX5_passDay_63 : decode cX5_passDay 63 = .ok (.aload_n 0, 1) := by decide +kernel
theorem dX5_passDay_64 : decode cX5_passDay 64 = .ok (.getfield 54, 3) := by decide +kernel
theorem dX5_passDay_67 : decode cX5_passDay 67 = .ok (.if_icmp .ne 8, 3) := by decide +kernel
theorem dX5_passDay_70 : decode cX5_passDay 70 = .ok (.aload_n 2, 1) := by decide +kernel
theorem dX5_passDay_71 : decode cX5_passDay 71 = .ok (.iconst 2, 1) := by decide +kernel
theorem dX5_passDay_72 : decode cX5_passDay 72 = .ok (.putfield 48, 3) := by decide +kernel
theorem dX5_passDay_75 : decode cX5_passDay 75 = .ok (.iinc 1 1, 3) := by decide +kernel
theorem dX5_passDay_78 : decode cX5_passDay 78 = .ok (.goto (-66), 3) := by decide +kernel
theorem dX5_passDay_81 : decode cX5_passDay 81 = .ok (.return_, 1) := by decide +kernel
theorem dX5_ranks_0 : decode cX5_ranks 0 = .ok (.iconst 0, 1) := by decide +kernel
theorem dX5_ranks_1 : decode cX5_ranks 1 = .ok (.istore_n 2, 1) := by decide +kernel
theorem dX5_ranks_2 : decode cX5_ranks 2 = .ok (.iconst 0, 1) := by decide +kernel
theorem dX5_ranks_3 : decode cX5_ranks 3 = .ok (.istore_n 3, 1) := by decide +kernel
theorem dX5_ranks_4 : decode cX5_ranks 4 = .ok (.iload_n 3, 1) := by decide +kernel
theorem dX5_ranks_5 : decode cX5_ranks 5 = .ok (.aload_n 1, 1) := by decide +kernel
theorem dX5_ranks_6 : decode cX5_ranks 6 = .ok (.getfield 70, 3) := by decide +kernel
theorem dX5_ranks_9 : decode cX5_ranks 9 = .ok (.if_icmp .ge 26, 3) := by decide +kernel
theorem dX5_ranks_12 : decode cX5_ranks 12 = .ok (.iload_n 2, 1) := by decide +kernel
theorem dX5_ranks_13 : decode cX5_ranks 13 = .ok (.aload_n 0, 1) := by decide +kernel
theorem dX5_ranks_14 : decode cX5_ranks 14 = .ok (.getfield 11, 3) := by decide +kernel
theorem dX5_ranks_17 : decode cX5_ranks 17 = .ok (.aload_n 1, 1) := by decide +kernel
theorem dX5_ranks_18 : decode cX5_ranks 18 = .ok (.getfield 73, 3) := by decide +kernel
theorem dX5_ranks_21 : decode cX5_ranks 21 = .ok (.iload_n 3, 1) := by decide +kernel
theorem dX5_ranks_22 : decode cX5_ranks 22 = .ok (.iaload, 1) := by decide +kernel
theorem dX5_ranks_23 : decode cX5_ranks 23 = .ok (.aaload, 1) := by decide +kernel
theorem dX5_ranks_24 : decode cX5_ranks 24 = .ok (.getfield 76, 3) := by decide +kernel
theorem dX5_ranks_27 : decode cX5_ranks 27 = .ok (.iadd, 1) := by decide +kernel
theorem dX5_ranks_28 : decode cX5_ranks 28 = .ok (.istore_n 2, 1) := by decide +kernel
theorem dX5_ranks_29 : decode cX5_ranks 29 = .ok (.iinc 3 1, 3) := by decide +kernel
theorem dX5_ranks_32 : decode cX5_ranks 32 = .ok (.goto (-28), 3) := by decide +kernel
theorem dX5_ranks_35 : decode cX5_ranks 35 = .ok (.iload_n 2, 1) := by decide +kernel
theorem dX5_ranks_36 : decode cX5_ranks 36 = .ok (.ireturn, 1) := by decide +kernel
theorem dX5_costAlone_0 : decode cX5_costAlone 0 = .ok (.aload_n 1, 1) := by decide +kernel
theorem dX5_costAlone_1 : decode cX5_costAlone 1 = .ok (.getfield 79, 3) := by decide +kernel
theorem dX5_costAlone_4 : decode cX5_costAlone 4 = .ok (.aload_n 1, 1) := by decide +kernel
theorem dX5_costAlone_5 : decode cX5_costAlone 5 = .ok (.getfield 70, 3) := by decide +kernel
theorem dX5_costAlone_8 : decode cX5_costAlone 8 = .ok (.bipush 20, 2) := by decide +kernel
theorem dX5_costAlone_10 : decode cX5_costAlone 10 = .ok (.iconst 5, 1) := by decide +kernel
theorem dX5_costAlone_11 : decode cX5_costAlone 11 = .ok (.aload_n 1, 1) := by decide +kernel
theorem dX5_costAlone_12 : decode cX5_costAlone 12 = .ok (.getfield 82, 3) := by decide +kernel
theorem dX5_costAlone_15 : decode cX5_costAlone 15 = .ok (.imul, 1) := by decide +kernel
theorem dX5_costAlone_16 : decode cX5_costAlone 16 = .ok (.iadd, 1) := by decide +kernel
theorem dX5_costAlone_17 : decode cX5_costAlone 17 = .ok (.imul, 1) := by decide +kernel
theorem dX5_costAlone_18 : decode cX5_costAlone 18 = .ok (.bipush 10, 2) := by decide +kernel
theorem dX5_costAlone_20 : decode cX5_costAlone 20 = .ok (.aload_n 0, 1) := by decide +kernel
theorem dX5_costAlone_21 : decode cX5_costAlone 21 = .ok (.aload_n 1, 1) := by decide +kernel
theorem dX5_costAlone_22 : decode cX5_costAlone 22 = .ok (.invokevirtual 85, 3) := by decide +kernel
theorem dX5_costAlone_25 : decode cX5_costAlone 25 = .ok (.imul, 1) := by decide +kernel
theorem dX5_costAlone_26 : decode cX5_costAlone 26 = .ok (.iadd, 1) := by decide +kernel
theorem dX5_costAlone_27 : decode cX5_costAlone 27 = .ok (.imul, 1) := by decide +kernel
theorem dX5_costAlone_28 : decode cX5_costAlone 28 = .ok (.ireturn, 1) := by decide +kernel
theorem dX5_fine_0 : decode cX5_fine 0 = .ok (.aload_n 1, 1) := by decide +kernel
theorem dX5_fine_1 : decode cX5_fine 1 = .ok (.getfield 89, 3) := by decide +kernel
theorem dX5_fine_4 : decode cX5_fine 4 = .ok (.bipush 10, 2) := by decide +kernel
theorem dX5_fine_6 : decode cX5_fine 6 = .ok (.aload_n 0, 1) := by decide +kernel
theorem dX5_fine_7 : decode cX5_fine 7 = .ok (.aload_n 1, 1) := by decide +kernel
theorem dX5_fine_8 : decode cX5_fine 8 = .ok (.invokevirtual 85, 3) := by decide +kernel
theorem dX5_fine_11 : decode cX5_fine 11 = .ok (.imul, 1) := by decide +kernel
theorem dX5_fine_12 : decode cX5_fine 12 = .ok (.bipush 10, 2) := by decide +kernel
theorem dX5_fine_14 : decode cX5_fine 14 = .ok (.iadd, 1) := by decide +kernel
theorem dX5_fine_15 : decode cX5_fine 15 = .ok (.imul, 1) := by decide +kernel
theorem dX5_fine_16 : decode cX5_fine 16 = .ok (.ireturn, 1) := by decide +kernel
theorem dX5_pays_0 : decode cX5_pays 0 = .ok (.aload_n 0, 1) := by decide +kernel
theorem dX5_pays_1 : decode cX5_pays 1 = .ok (.aload_n 1, 1) := by decide +kernel
theorem dX5_pays_2 : decode cX5_pays 2 = .ok (.invokevirtual 92, 3) := by decide +kernel
theorem dX5_pays_5 : decode cX5_pays 5 = .ok (.istore_n 2, 1) := by decide +kernel
theorem dX5_pays_6 : decode cX5_pays 6 = .ok (.aload_n 0, 1) := by decide +kernel
theorem dX5_pays_7 : decode cX5_pays 7 = .ok (.aload_n 1, 1) := by decide +kernel
theorem dX5_pays_8 : decode cX5_pays 8 = .ok (.getfield 63, 3) := by decide +kernel
theorem dX5_pays_11 : decode cX5_pays 11 = .ok (.invokevirtual 66, 3) := by decide +kernel
theorem dX5_pays_14 : decode cX5_pays 14 = .ok (.ifCond .ne 5, 3) := by decide +kernel
theorem dX5_pays_17 : decode cX5_pays 17 = .ok (.iload_n 2, 1) := by decide +kernel
theorem dX5_pays_18 : decode cX5_pays 18 = .ok (.ireturn, 1) := by decide +kernel
theorem dX5_pays_19 : decode cX5_pays 19 = .ok (.aload_n 0, 1) := by decide +kernel
theorem dX5_pays_20 : decode cX5_pays 20 = .ok (.aload_n 0, 1) := by decide +kernel
theorem dX5_pays_21 : decode cX5_pays 21 = .ok (.getfield 25, 3) := by decide +kernel
theorem dX5_pays_24 : decode cX5_pays 24 = .ok (.aload_n 1, 1) := by decide +kernel
theorem dX5_pays_25 : decode cX5_pays 25 = .ok (.getfield 63, 3) := by decide +kernel
theorem dX5_pays_28 : decode cX5_pays 28 = .ok (.aaload, 1) := by decide +kernel
theorem dX5_pays_29 : decode cX5_pays 29 = .ok (.invokevirtual 92, 3) := by decide +kernel
theorem dX5_pays_32 : decode cX5_pays 32 = .ok (.istore_n 3, 1) := by decide +kernel
theorem dX5_pays_33 : decode cX5_pays 33 = .ok (.iload_n 2, 1) := by decide +kernel
theorem dX5_pays_34 : decode cX5_pays 34 = .ok (.iload_n 3, 1) := by decide +kernel
theorem dX5_pays_35 : decode cX5_pays 35 = .ok (.iadd, 1) := by decide +kernel
theorem dX5_pays_36 : decode cX5_pays 36 = .ok (.istore 4, 2) := by decide +kernel
theorem dX5_pays_38 : decode cX5_pays 38 = .ok (.iload 4, 2) := by decide +kernel
theorem dX5_pays_40 : decode cX5_pays 40 = .ok (.ifCond .gt 5, 3) := by decide +kernel
theorem dX5_pays_43 : decode cX5_pays 43 = .ok (.iload_n 2, 1) := by decide +kernel
theorem dX5_pays_44 : decode cX5_pays 44 = .ok (.ireturn, 1) := by decide +kernel
theorem dX5_pays_45 : decode cX5_pays 45 = .ok (.iload_n 2, 1) := by decide +kernel
theorem dX5_pays_46 : decode cX5_pays 46 = .ok (.iload_n 3, 1) := by decide +kernel
theorem dX5_pays_47 : decode cX5_pays 47 = .ok (.invokestatic 95, 3) := by decide +kernel
theorem dX5_pays_50 : decode cX5_pays 50 = .ok (.iload_n 2, 1) := by decide +kernel
theorem dX5_pays_51 : decode cX5_pays 51 = .ok (.iload_n 3, 1) := by decide +kernel
theorem dX5_pays_52 : decode cX5_pays 52 = .ok (.invokestatic 101, 3) := by decide +kernel
theorem dX5_pays_55 : decode cX5_pays 55 = .ok (.iconst 4, 1) := by decide +kernel
theorem dX5_pays_56 : decode cX5_pays 56 = .ok (.idiv, 1) := by decide +kernel
theorem dX5_pays_57 : decode cX5_pays 57 = .ok (.iadd, 1) := by decide +kernel
theorem dX5_pays_58 : decode cX5_pays 58 = .ok (.istore 5, 2) := by decide +kernel
theorem dX5_pays_60 : decode cX5_pays 60 = .ok (.aload_n 1, 1) := by decide +kernel
theorem dX5_pays_61 : decode cX5_pays 61 = .ok (.getfield 104, 3) := by decide +kernel
theorem dX5_pays_64 : decode cX5_pays 64 = .ok (.aload_n 1, 1) := by decide +kernel
theorem dX5_pays_65 : decode cX5_pays 65 = .ok (.getfield 63, 3) := by decide +kernel
theorem dX5_pays_68 : decode cX5_pays 68 = .ok (.if_icmp .ge 16, 3) := by decide +kernel
theorem dX5_pays_71 : decode cX5_pays 71 = .ok (.iload 5, 2) := by decide +kernel
theorem dX5_pays_73 : decode cX5_pays 73 = .ok (.iload_n 3, 1) := by decide +kernel
theorem dX5_pays_74 : decode cX5_pays 74 = .ok (.iload 5, 2) := by decide +kernel
theorem dX5_pays_76 : decode cX5_pays 76 = .ok (.imul, 1) := by decide +kernel
theorem dX5_pays_77 : decode cX5_pays 77 = .ok (.iload 4, 2) := by decide +kernel
theorem dX5_pays_79 : decode cX5_pays 79 = .ok (.idiv, 1) := by decide +kernel
theorem dX5_pays_80 : decode cX5_pays 80 = .ok (.isub, 1) := by decide +kernel
theorem dX5_pays_81 : decode cX5_pays 81 = .ok (.goto 10, 3) := by decide +kernel
theorem dX5_pays_84 : decode cX5_pays 84 = .ok (.iload_n 2, 1) := by decide +kernel
theorem dX5_pays_85 : decode cX5_pays 85 = .ok (.iload 5, 2) := by decide +kernel
theorem dX5_pays_87 : decode cX5_pays 87 = .ok (.imul, 1) := by decide +kernel
theorem dX5_pays_88 : decode cX5_pays 88 = .ok (.iload 4, 2) := by decide +kernel
theorem dX5_pays_90 : decode cX5_pays 90 = .ok (.idiv, 1) := by decide +kernel
theorem dX5_pays_91 : decode cX5_pays 91 = .ok (.ireturn, 1) := by decide +kernel
theorem dX5_bookedAhead_0 : decode cX5_bookedAhead 0 = .ok (.iconst 0, 1) := by decide +kernel
theorem dX5_bookedAhead_1 : decode cX5_bookedAhead 1 = .ok (.istore_n 3, 1) := by decide +kernel
theorem dX5_bookedAhead_2 : decode cX5_bookedAhead 2 = .ok (.iconst 0, 1) := by decide +kernel
theorem dX5_bookedAhead_3 : decode cX5_bookedAhead 3 = .ok (.istore 4, 2) := by decide +kernel
theorem dX5_bookedAhead_5 : decode cX5_bookedAhead 5 = .ok (.iload 4, 2) := by decide +kernel
theorem dX5_bookedAhead_7 : decode cX5_bookedAhead 7 = .ok (.aload_n 0, 1) := by decide +kernel
theorem dX5_bookedAhead_8 : decode cX5_bookedAhead 8 = .ok (.getfield 45, 3) := by decide +kernel
theorem dX5_bookedAhead_11 : decode cX5_bookedAhead 11 = .ok (.if_icmp .ge 66, 3) := by decide +kernel
theorem dX5_bookedAhead_14 : decode cX5_bookedAhead 14 = .ok (.aload_n 0, 1) := by decide +kernel
theorem dX5_bookedAhead_15 : decode cX5_bookedAhead 15 = .ok (.getfield 25, 3) := by decide +kernel
theorem dX5_bookedAhead_18 : decode cX5_bookedAhead 18 = .ok (.iload 4, 2) := by decide +kernel
theorem dX5_bookedAhead_20 : decode cX5_bookedAhead 20 = .ok (.aaload, 1) := by decide +kernel
theorem dX5_bookedAhead_21 : decode cX5_bookedAhead 21 = .ok (.astore 5, 2) := by decide +kernel
theorem dX5_bookedAhead_23 : decode cX5_bookedAhead 23 = .ok (.aload 5, 2) := by decide +kernel
theorem dX5_bookedAhead_25 : decode cX5_bookedAhead 25 = .ok (.iload_n 1, 1) := by decide +kernel
theorem dX5_bookedAhead_26 : decode cX5_bookedAhead 26 = .ok (.invokevirtual 107, 3) := by decide +kernel
theorem dX5_bookedAhead_29 : decode cX5_bookedAhead 29 = .ok (.ifCond .ne 6, 3) := by decide +kernel
theorem dX5_bookedAhead_32 : decode cX5_bookedAhead 32 = .ok (.goto 39, 3) := by decide +kernel
theorem dX5_bookedAhead_35 : decode cX5_bookedAhead 35 = .ok (.aload 5, 2) := by decide +kernel
theorem dX5_bookedAhead_37 : decode cX5_bookedAhead 37 = .ok (.getfield 57, 3) := by decide +kernel
theorem dX5_bookedAhead_40 : decode cX5_bookedAhead 40 = .ok (.aload_n 2, 1) := by decide +kernel
theorem dX5_bookedAhead_41 : decode cX5_bookedAhead 41 = .ok (.getfield 57, 3) := by decide +kernel
theorem dX5_bookedAhead_44 : decode cX5_bookedAhead 44 = .ok (.if_icmp .lt 24, 3) := by decide +kernel
theorem dX5_bookedAhead_47 : decode cX5_bookedAhead 47 = .ok (.aload 5, 2) := by decide +kernel
theorem dX5_bookedAhead_49 : decode cX5_bookedAhead 49 = .ok (.getfield 57, 3) := by decide +kernel
theorem dX5_bookedAhead_52 : decode cX5_bookedAhead 52 = .ok (.aload_n 2, 1) := by decide +kernel
theorem dX5_bookedAhead_53 : decode cX5_bookedAhead 53 = .ok (.getfield 57, 3) := by decide +kernel
theorem dX5_bookedAhead_56 : decode cX5_bookedAhead 56 = .ok (.if_icmp .ne 15, 3) := by decide +kernel
theorem dX5_bookedAhead_59 : decode cX5_bookedAhead 59 = .ok (.iload 4, 2) := by decide +kernel
theorem dX5_bookedAhead_61 : decode cX5_bookedAhead 61 = .ok (.aload_n 2, 1) := by decide +kernel
theorem dX5_bookedAhead_62 : decode cX5_bookedAhead 62 = .ok (.getfield 104, 3) := by decide +kernel
theorem dX5_bookedAhead_65 : decode cX5_bookedAhead 65 = .ok (.if_icmp .ge 6, 3) := by decide +kernel
theorem dX5_bookedAhead_68 : decode cX5_bookedAhead 68 = .ok (.iinc 3 1, 3) := by decide +kernel
theorem dX5_bookedAhead_71 : decode cX5_bookedAhead 71 = .ok (.iinc 4 1, 3) := by decide +kernel
theorem dX5_bookedAhead_74 : decode cX5_bookedAhead 74 = .ok (.goto (-69), 3) := by decide +kernel
theorem dX5_bookedAhead_77 : decode cX5_bookedAhead 77 = .ok (.iload_n 3, 1) := by decide +kernel
theorem dX5_bookedAhead_78 : decode cX5_bookedAhead 78 = .ok (.ireturn, 1) := by decide +kernel
theorem dX6_init_0 : decode cX6_init 0 = .ok (.aload_n 0, 1) := by decide +kernel
theorem dX6_init_1 : decode cX6_init 1 = .ok (.invokespecial 3, 3) := by decide +kernel
theorem dX6_init_4 : decode cX6_init 4 = .ok (.aload_n 0, 1) := by decide +kernel
theorem dX6_init_5 : decode cX6_init 5 = .ok (.bipush 20, 2) := by decide +kernel
theorem dX6_init_7 : decode cX6_init 7 = .ok (.newarray .int, 2) := by decide +kernel
theorem dX6_init_9 : decode cX6_init 9 = .ok (.putfield 9, 3) := by decide +kernel
theorem dX6_init_12 : decode cX6_init 12 = .ok (.aload_n 0, 1) := by decide +kernel
theorem dX6_init_13 : decode cX6_init 13 = .ok (.aload_n 1, 1) := by decide +kernel
theorem dX6_init_14 : decode cX6_init 14 = .ok (.putfield 15, 3) := by decide +kernel
theorem dX6_init_17 : decode cX6_init 17 = .ok (.return_, 1) := by decide +kernel
theorem dX6_isOpen_0 : decode cX6_isOpen 0 = .ok (.aload_n 0, 1) := by decide +kernel
theorem dX6_isOpen_1 : decode cX6_isOpen 1 = .ok (.aload_n 1, 1) := by decide +kernel
theorem dX6_isOpen_2 : decode cX6_isOpen 2 = .ok (.lload_n 2, 1) := by decide +kernel
theorem dX6_isOpen_3 : decode cX6_isOpen 3 = .ok (.invokevirtual 19, 3) := by decide +kernel
theorem dX6_isOpen_6 : decode cX6_isOpen 6 = .ok (.istore 4, 2) := by decide +kernel
theorem dX6_isOpen_8 : decode cX6_isOpen 8 = .ok (.iload 4, 2) := by decide +kernel
theorem dX6_isOpen_10 : decode cX6_isOpen 10 = .ok (.bipush (-5), 2) := by decide +kernel
theorem dX6_isOpen_12 : decode cX6_isOpen 12 = .ok (.if_icmp .eq 16, 3) := by decide +kernel
theorem dX6_isOpen_15 : decode cX6_isOpen 15 = .ok (.iload 4, 2) := by decide +kernel
theorem dX6_isOpen_17 : decode cX6_isOpen 17 = .ok (.aload_n 1, 1) := by decide +kernel
theorem dX6_isOpen_18 : decode cX6_isOpen 18 = .ok (.getfield 23, 3) := by decide +kernel
theorem dX6_isOpen_21 : decode cX6_isOpen 21 = .ok (.if_icmp .gt 7, 3) := by decide +kernel
theorem dX6_isOpen_24 : decode cX6_isOpen 24 = .ok (.iconst 1, 1) := by decide +kernel
theorem dX6_isOpen_25 : decode cX6_isOpen 25 = .ok (.goto 4, 3) := by decide +kernel
theorem dX6_isOpen_28 : decode cX6_isOpen 28 = .ok (.iconst 0, 1) := by decide +kernel
theorem dX6_isOpen_29 : decode cX6_isOpen 29 = .ok (.ireturn, 1) := by decide +kernel
theorem dX6_fewest_0 : decode cX6_fewest 0 = .ok (.iconst 0, 1) := by decide +kernel
theorem dX6_fewest_1 : decode cX6_fewest 1 = .ok (.istore 4, 2) := by decide +kernel
theorem dX6_fewest_3 : decode cX6_fewest 3 = .ok (.iload 4, 2) := by decide +kernel
theorem dX6_fewest_5 : decode cX6_fewest 5 = .ok (.bipush 20, 2) := by decide +kernel
theorem dX6_fewest_7 : decode cX6_fewest 7 = .ok (.if_icmp .ge 18, 3) := by decide +kernel
theorem dX6_fewest_10 : decode cX6_fewest 10 = .ok (.aload_n 0, 1) := by decide +kernel
theorem dX6_fewest_11 : decode cX6_fewest 11 = .ok (.getfield 9, 3) := by decide +kernel
theorem dX6_fewest_14 : decode cX6_fewest 14 = .ok (.iload 4, 2) := by decide +kernel
theorem dX6_fewest_16 : decode cX6_fewest 16 = .ok (.ldc 29, 2) := by decide +kernel
theorem dX6_fewest_18 : decode cX6_fewest 18 = .ok (.iastore, 1) := by decide +kernel
theorem dX6_fewest_19 : decode cX6_fewest 19 = .ok (.iinc 4 1, 3) := by decide +kernel
theorem dX6_fewest_22 : decode cX6_fewest 22 = .ok (.goto (-19), 3) := by decide +kernel
theorem dX6_fewest_25 : decode cX6_fewest 25 = .ok (.aload_n 0, 1) := by decide +kernel
theorem dX6_fewest_26 : decode cX6_fewest 26 = .ok (.getfield 9, 3) := by decide +kernel
theorem dX6_fewest_29 : decode cX6_fewest 29 = .ok (.aload_n 1, 1) := by decide +kernel
theorem dX6_fewest_30 : decode cX6_fewest 30 = .ok (.getfield 30, 3) := by decide +kernel
theorem dX6_fewest_33 : decode cX6_fewest 33 = .ok (.iconst 0, 1) := by decide +kernel
theorem dX6_fewest_34 : decode cX6_fewest 34 = .ok (.iastore, 1) := by decide +kernel
theorem dX6_fewest_35 : decode cX6_fewest 35 = .ok (.iconst 1, 1) := by decide +kernel
theorem dX6_fewest_36 : decode cX6_fewest 36 = .ok (.istore 4, 2) := by decide +kernel
theorem dX6_fewest_38 : decode cX6_fewest 38 = .ok (.iconst 0, 1) := by decide +kernel
theorem dX6_fewest_39 : decode cX6_fewest 39 = .ok (.istore 5, 2) := by decide +kernel
theorem dX6_fewest_41 : decode cX6_fewest 41 = .ok (.iload 5, 2) := by decide +kernel
theorem dX6_fewest_43 : decode cX6_fewest 43 = .ok (.bipush 20, 2) := by decide +kernel
theorem dX6_fewest_45 : decode cX6_fewest 45 = .ok (.if_icmp .ge 163, 3) := by decide +kernel
theorem dX6_fewest_48 : decode cX6_fewest 48 = .ok (.iload 4, 2) := by decide +kernel
theorem dX6_fewest_50 : decode cX6_fewest 50 = .ok (.ifCond .eq 158, 3) := by decide +kernel
theorem dX6_fewest_53 : decode cX6_fewest 53 = .ok (.iconst 0, 1) := by decide +kernel
theorem dX6_fewest_54 : decode cX6_fewest 54 = .ok (.istore 4, 2) := by decide +kernel
theorem dX6_fewest_56 : decode cX6_fewest 56 = .ok (.iconst 0, 1) := by decide +kernel
theorem dX6_fewest_57 : decode cX6_fewest 57 = .ok (.istore 6, 2) := by decide +kernel
theorem dX6_fewest_59 : decode cX6_fewest 59 = .ok (.iload 6, 2) := by decide +kernel
theorem dX6_fewest_61 : decode cX6_fewest 61 = .ok (.aload_n 0, 1) := by decide +kernel
theorem dX6_fewest_62 : decode cX6_fewest 62 = .ok (.getfield 15, 3) := by decide +kernel
theorem dX6_fewest_65 : decode cX6_fewest 65 = .ok (.getfield 33, 3) := by decide +kernel
theorem dX6_fewest_68 : decode cX6_fewest 68 = .ok (.if_icmp .ge 134, 3) := by decide +kernel
theorem dX6_fewest_71 : decode cX6_fewest 71 = .ok (.lload_n 2, 1) := by decide +kernel
theorem dX6_fewest_72 : decode cX6_fewest 72 = .ok (.lconst 1, 1) := by decide +kernel
theorem dX6_fewest_73 : decode cX6_fewest 73 = .ok (.iload 6, 2) := by decide +kernel
theorem dX6_fewest_75 : decode cX6_fewest 75 = .ok (.lshl, 1) := by decide +kernel
theorem dX6_fewest_76 : decode cX6_fewest 76 = .ok (.land, 1) := by decide +kernel
theorem dX6_fewest_77 : decode cX6_fewest 77 = .ok (.lconst 0, 1) := by decide +kernel
theorem dX6_fewest_78 : decode cX6_fewest 78 = .ok (.lcmp, 1) := by decide +kernel
theorem dX6_fewest_79 : decode cX6_fewest 79 = .ok (.ifCond .eq 6, 3) := by decide +kernel
theorem dX6_fewest_82 : decode cX6_fewest 82 = .ok (.goto 114, 3) := by decide +kernel
theorem dX6_fewest_85 : decode cX6_fewest 85 = .ok (.aload_n 0, 1) := by decide +kernel
theorem dX6_fewest_86 : decode cX6_fewest 86 = .ok (.getfield 15, 3) := by decide +kernel
theorem dX6_fewest_89 : decode cX6_fewest 89 = .ok (.getfield 38, 3) := by decide +kernel
theorem dX6_fewest_92 : decode cX6_fewest 92 = .ok (.iload 6, 2) := by decide +kernel
theorem dX6_fewest_94 : decode cX6_fewest 94 = .ok (.aaload, 1) := by decide +kernel
theorem dX6_fewest_95 : decode cX6_fewest 95 = .ok (.astore 7, 2) := by decide +kernel
theorem dX6_fewest_97 : decode cX6_fewest 97 = .ok (.aload_n 0, 1) := by decide +kernel
theorem dX6_fewest_98 : decode cX6_fewest 98 = .ok (.getfield 9, 3) := by decide +kernel
theorem dX6_fewest_101 : decode cX6_fewest 101 = .ok (.aload 7, 2) := by decide +kernel
theorem dX6_fewest_103 : decode cX6_fewest 103 = .ok (.getfield 42, 3) := by decide +kernel
theorem dX6_fewest_106 : decode cX6_fewest 106 = .ok (.iaload, 1) := by decide +kernel
theorem dX6_fewest_107 : decode cX6_fewest 107 = .ok (.aload 7, 2) := by decide +kernel
theorem dX6_fewest_109 : decode cX6_fewest 109 = .ok (.getfield 45, 3) := by decide +kernel
theorem dX6_fewest_112 : decode cX6_fewest 112 = .ok (.iadd, 1) := by decide +kernel
theorem dX6_fewest_113 : decode cX6_fewest 113 = .ok (.istore 8, 2) := by decide +kernel
theorem dX6_fewest_115 : decode cX6_fewest 115 = .ok (.aload_n 0, 1) := by decide +kernel
theorem dX6_fewest_116 : decode cX6_fewest 116 = .ok (.getfield 9, 3) := by decide +kernel
theorem dX6_fewest_119 : decode cX6_fewest 119 = .ok (.aload 7, 2) := by decide +kernel
theorem dX6_fewest_121 : decode cX6_fewest 121 = .ok (.getfield 47, 3) := by decide +kernel
theorem dX6_fewest_124 : decode cX6_fewest 124 = .ok (.iaload, 1) := by decide +kernel
theorem dX6_fewest_125 : decode cX6_fewest 125 = .ok (.aload 7, 2) := by decide +kernel
theorem dX6_fewest_127 : decode cX6_fewest 127 = .ok (.getfield 45, 3) := by decide +kernel
theorem dX6_fewest_130 : decode cX6_fewest 130 = .ok (.iadd, 1) := by decide +kernel
theorem dX6_fewest_131 : decode cX6_fewest 131 = .ok (.istore 9, 2) := by decide +kernel
theorem dX6_fewest_133 : decode cX6_fewest 133 = .ok (.iload 8, 2) := by decide +kernel
theorem dX6_fewest_135 : decode cX6_fewest 135 = .ok (.aload_n 0, 1) := by decide +kernel
theorem dX6_fewest_136 : decode cX6_fewest 136 = .ok (.getfield 9, 3) := by decide +kernel
theorem dX6_fewest_139 : decode cX6_fewest 139 = .ok (.aload 7, 2) := by decide +kernel
theorem dX6_fewest_141 : decode cX6_fewest 141 = .ok (.getfield 47, 3) := by decide +kernel
theorem dX6_fewest_144 : decode cX6_fewest 144 = .ok (.iaload, 1) := by decide +kernel
theorem dX6_fewest_145 : decode cX6_fewest 145 = .ok (.if_icmp .ge 21, 3) := by decide +kernel
theorem dX6_fewest_148 : decode cX6_fewest 148 = .ok (.aload_n 0, 1) := by decide +kernel
theorem dX6_fewest_149 : decode cX6_fewest 149 = .ok (.getfield 9, 3) := by decide +kernel
theorem dX6_fewest_152 : decode cX6_fewest 152 = .ok (.aload 7, 2) := by decide +kernel
theorem dX6_fewest_154 : decode cX6_fewest 154 = .ok (.getfield 47, 3) := by decide +kernel
theorem dX6_fewest_157 : decode cX6_fewest 157 = .ok (.iload 8, 2) := by decide +kernel
theorem dX6_fewest_159 : decode cX6_fewest 159 = .ok (.iastore, 1) := by decide +kernel
theorem dX6_fewest_160 : decode cX6_fewest 160 = .ok (.iconst 1, 1) := by decide +kernel
theorem dX6_fewest_161 : decode cX6_fewest 161 = .ok (.istore 4, 2) := by decide +kernel
theorem dX6_fewest_163 : decode cX6_fewest 163 = .ok (.goto 33, 3) := by decide +kernel
theorem dX6_fewest_166 : decode cX6_fewest 166 = .ok (.iload 9, 2) := by decide +kernel
theorem dX6_fewest_168 : decode cX6_fewest 168 = .ok (.aload_n 0, 1) := by decide +kernel
theorem dX6_fewest_169 : decode cX6_fewest 169 = .ok (.getfield 9, 3) := by decide +kernel
theorem dX6_fewest_172 : decode cX6_fewest 172 = .ok (.aload 7, 2) := by decide +kernel
theorem dX6_fewest_174 : decode cX6_fewest 174 = .ok (.getfield 42, 3) := by decide +kernel
theorem dX6_fewest_177 : decode cX6_fewest 177 = .ok (.iaload, 1) := by decide +kernel
theorem dX6_fewest_178 : decode cX6_fewest 178 = .ok (.if_icmp .ge 18, 3) := by decide +kernel
theorem dX6_fewest_181 : decode cX6_fewest 181 = .ok (.aload_n 0, 1) := by decide +kernel
theorem dX6_fewest_182 : decode cX6_fewest 182 = .ok (.getfield 9, 3) := by decide +kernel
theorem dX6_fewest_185 : decode cX6_fewest 185 = .ok (.aload 7, 2) := by decide +kernel
theorem dX6_fewest_187 : decode cX6_fewest 187 = .ok (.getfield 42, 3) := by decide +kernel
theorem dX6_fewest_190 : decode cX6_fewest 190 = .ok (.iload 9, 2) := by decide +kernel
theorem dX6_fewest_192 : decode cX6_fewest 192 = .ok (.iastore, 1) := by decide +kernel
theorem dX6_fewest_193 : decode cX6_fewest 193 = .ok (.iconst 1, 1) := by decide +kernel
theorem dX6_fewest_194 : decode cX6_fewest 194 = .ok (.istore 4, 2) := by decide +kernel
theorem dX6_fewest_196 : decode cX6_fewest 196 = .ok (.iinc 6 1, 3) := by decide +kernel
theorem dX6_fewest_199 : decode cX6_fewest 199 = .ok (.goto (-140), 3) := by decide +kernel
theorem dX6_fewest_202 : decode cX6_fewest 202 = .ok (.iinc 5 1, 3) := by decide +kernel
theorem dX6_fewest_205 : decode cX6_fewest 205 = .ok (.goto (-164), 3) := by decide +kernel
theorem dX6_fewest_208 : decode cX6_fewest 208 = .ok (.aload_n 0, 1) := by decide +kernel
theorem dX6_fewest_209 : decode cX6_fewest 209 = .ok (.getfield 9, 3) := by decide +kernel
theorem dX6_fewest_212 : decode cX6_fewest 212 = .ok (.aload_n 1, 1) := by decide +kernel
theorem dX6_fewest_213 : decode cX6_fewest 213 = .ok (.getfield 50, 3) := by decide +kernel
theorem dX6_fewest_216 : decode cX6_fewest 216 = .ok (.iaload, 1) := by decide +kernel
theorem dX6_fewest_217 : decode cX6_fewest 217 = .ok (.ldc 29, 2) := by decide +kernel
theorem dX6_fewest_219 : decode cX6_fewest 219 = .ok (.if_icmp .ge 15, 3) := by decide +kernel
theorem dX6_fewest_222 : decode cX6_fewest 222 = .ok (.aload_n 0, 1) := by decide +kernel
theorem dX6_fewest_223 : decode cX6_fewest 223 = .ok (.getfield 9, 3) := by decide +kernel
theorem dX6_fewest_226 : decode cX6_fewest 226 = .ok (.aload_n 1, 1) := by decide +kernel
theorem dX6_fewest_227 : decode cX6_fewest 227 = .ok (.getfield 50, 3) := by decide +kernel
theorem dX6_fewest_230 : decode cX6_fewest 230 = .ok (.iaload, 1) := by decide +kernel
theorem dX6_fewest_231 : decode cX6_fewest 231 = .ok (.goto 5, 3) := by decide +kernel
theorem dX6_fewest_234 : decode cX6_fewest 234 = .ok (.bipush (-5), 2) := by decide +kernel
theorem dX6_fewest_236 : decode cX6_fewest 236 = .ok (.ireturn, 1) := by decide +kernel
theorem dX7_init_0 : decode cX7_init 0 = .ok (.aload_n 0, 1) := by decide +kernel
theorem dX7_init_1 : decode cX7_init 1 = .ok (.invokespecial 3, 3) := by decide +kernel
theorem dX7_init_4 : decode cX7_init 4 = .ok (.aload_n 0, 1) := by decide +kernel
theorem dX7_init_5 : decode cX7_init 5 = .ok (.iconst 4, 1) := by decide +kernel
theorem dX7_init_6 : decode cX7_init 6 = .ok (.newarray .int, 2) := by decide +kernel
theorem dX7_init_8 : decode cX7_init 8 = .ok (.putfield 9, 3) := by decide +kernel
theorem dX7_init_11 : decode cX7_init 11 = .ok (.aload_n 0, 1) := by decide +kernel
theorem dX7_init_12 : decode cX7_init 12 = .ok (.iload_n 1, 1) := by decide +kernel
theorem dX7_init_13 : decode cX7_init 13 = .ok (.putfield 15, 3) := by decide +kernel
theorem dX7_init_16 : decode cX7_init 16 = .ok (.aload_n 0, 1) := by decide +kernel
theorem dX7_init_17 : decode cX7_init 17 = .ok (.iconst (-1), 1) := by decide +kernel
theorem dX7_init_18 : decode cX7_init 18 = .ok (.putfield 19, 3) := by decide +kernel
theorem dX7_init_21 : decode cX7_init 21 = .ok (.aload_n 0, 1) := by decide +kernel
theorem dX7_init_22 : decode cX7_init 22 = .ok (.iconst (-1), 1) := by decide +kernel
theorem dX7_init_23 : decode cX7_init 23 = .ok (.putfield 22, 3) := by decide +kernel
theorem dX7_init_26 : decode cX7_init 26 = .ok (.aload_n 0, 1) := by decide +kernel
theorem dX7_init_27 : decode cX7_init 27 = .ok (.iconst (-1), 1) := by decide +kernel
theorem dX7_init_28 : decode cX7_init 28 = .ok (.putfield 25, 3) := by decide +kernel
theorem dX7_init_31 : decode cX7_init 31 = .ok (.return_, 1) := by decide +kernel
theorem dX7_take_0 : decode cX7_take 0 = .ok (.aload_n 0, 1) := by decide +kernel
theorem dX7_take_1 : decode cX7_take 1 = .ok (.getfield 28, 3) := by decide +kernel
theorem dX7_take_4 : decode cX7_take 4 = .ok (.iconst 4, 1) := by decide +kernel
theorem dX7_take_5 : decode cX7_take 5 = .ok (.if_icmp .lt 4, 3) := by decide +kernel
theorem dX7_take_8 : decode cX7_take 8 = .ok (.return_, 1) := by decide +kernel
theorem dX7_take_9 : decode cX7_take 9 = .ok (.aload_n 0, 1) := by decide +kernel
theorem dX7_take_10 : decode cX7_take 10 = .ok (.getfield 28, 3) := by decide +kernel
theorem dX7_take_13 : decode cX7_take 13 = .ok (.istore_n 2, 1) := by decide +kernel
theorem dX7_take_14 : decode cX7_take 14 = .ok (.iload_n 2, 1) := by decide +kernel
theorem dX7_take_15 : decode cX7_take 15 = .ok (.ifCond .le 35, 3) := by decide +kernel
theorem dX7_take_18 : decode cX7_take 18 = .ok (.aload_n 0, 1) := by decide +kernel
theorem dX7_take_19 : decode cX7_take 19 = .ok (.getfield 9, 3) := by decide +kernel
theorem dX7_take_22 : decode cX7_take 22 = .ok (.iload_n 2, 1) := by decide +kernel
theorem dX7_take_23 : decode cX7_take 23 = .ok (.iconst 1, 1) := by decide +kernel
theorem dX7_take_24 : decode cX7_take 24 = .ok (.isub, 1) := by decide +kernel
theorem dX7_take_25 : decode cX7_take 25 = .ok (.iaload, 1) := by decide +kernel
theorem dX7_take_26 : decode cX7_take 26 = .ok (.iload_n 1, 1) := by decide +kernel
theorem dX7_take_27 : decode cX7_take 27 = .ok (.if_icmp .le 23, 3) := by decide +kernel
theorem dX7_take_30 : decode cX7_take 30 = .ok (.aload_n 0, 1) := by decide +kernel
theorem dX7_take_31 : decode cX7_take 31 = .ok (.getfield 9, 3) := by decide +kernel
theorem dX7_take_34 : decode cX7_take 34 = .ok (.iload_n 2, 1) := by decide +kernel
theorem dX7_take_35 : decode cX7_take 35 = .ok (.aload_n 0, 1) := by decide +kernel
theorem dX7_take_36 : decode cX7_take 36 = .ok (.getfield 9, 3) := by decide +kernel
theorem dX7_take_39 : decode cX7_take 39 = .ok (.iload_n 2, 1) := by decide +kernel
theorem dX7_take_40 : decode cX7_take 40 = .ok (.iconst 1, 1) := by decide +kernel
theorem dX7_take_41 : decode cX7_take 41 = .ok (.isub, 1) := by decide +kernel
theorem dX7_take_42 : decode cX7_take 42 = .ok (.iaload, 1) := by decide +kernel
theorem dX7_take_43 : decode cX7_take 43 = .ok (.iastore, 1) := by decide +kernel
theorem dX7_take_44 : decode cX7_take 44 = .ok (.iinc 2 (-1), 3) := by decide +kernel
theorem dX7_take_47 : decode cX7_take 47 = .ok (.goto (-33), 3) := by decide +kernel
theorem dX7_take_50 : decode cX7_take 50 = .ok (.aload_n 0, 1) := by decide +kernel
theorem dX7_take_51 : decode cX7_take 51 = .ok (.getfield 9, 3) := by decide +kernel
theorem dX7_take_54 : decode cX7_take 54 = .ok (.iload_n 2, 1) := by decide +kernel
theorem dX7_take_55 : decode cX7_take 55 = .ok (.iload_n 1, 1) := by decide +kernel
theorem dX7_take_56 : decode cX7_take 56 = .ok (.iastore, 1) := by decide +kernel
theorem dX7_take_57 : decode cX7_take 57 = .ok (.aload_n 0, 1) := by decide +kernel
theorem dX7_take_58 : decode cX7_take 58 = .ok (.dup, 1) := by decide +kernel
theorem dX7_take_59 : decode cX7_take 59 = .ok (.getfield 31, 3) := by decide +kernel
theorem dX7_take_62 : decode cX7_take 62 = .ok (.lconst 1, 1) := by decide +kernel
theorem dX7_take_63 : decode cX7_take 63 = .ok (.iload_n 1, 1) := by decide +kernel
theorem dX7_take_64 : decode cX7_take 64 = .ok (.lshl, 1) := by decide +kernel
theorem dX7_take_65 : decode cX7_take 65 = .ok (.lor, 1) := by decide +kernel
theorem dX7_take_66 : decode cX7_take 66 = .ok (.putfield 31, 3) := by decide +kernel
theorem dX7_take_69 : decode cX7_take 69 = .ok (.aload_n 0, 1) := by decide +kernel
theorem dX7_take_70 : decode cX7_take 70 = .ok (.dup, 1) := by decide +kernel
theorem dX7_take_71 : decode cX7_take 71 = .ok (.getfield 28, 3) := by decide +kernel
theorem dX7_take_74 : decode cX7_take 74 = .ok (.iconst 1, 1) := by decide +kernel
theorem dX7_take_75 : decode cX7_take 75 = .ok (.iadd, 1) := by decide +kernel
theorem dX7_take_76 : decode cX7_take 76 = .ok (.putfield 28, 3) := by decide +kernel
theorem dX7_take_79 : decode cX7_take 79 = .ok (.return_, 1) := by decide +kernel
theorem dX7_uses_0 : decode cX7_uses 0 = .ok (.aload_n 0, 1) := by decide +kernel
theorem dX7_uses_1 : decode cX7_uses 1 = .ok (.getfield 31, 3) := by decide +kernel
theorem dX7_uses_4 : decode cX7_uses 4 = .ok (.lconst 1, 1) := by decide +kernel
theorem dX7_uses_5 : decode cX7_uses 5 = .ok (.iload_n 1, 1) := by decide +kernel
theorem dX7_uses_6 : decode cX7_uses 6 = .ok (.lshl, 1) := by decide +kernel
theorem dX7_uses_7 : decode cX7_uses 7 = .ok (.land, 1) := by decide +kernel
theorem dX7_uses_8 : decode cX7_uses 8 = .ok (.lconst 0, 1) := by decide +kernel
theorem dX7_uses_9 : decode cX7_uses 9 = .ok (.lcmp, 1) := by decide +kernel
theorem dX7_uses_10 : decode cX7_uses 10 = .ok (.ifCond .eq 7, 3) := by decide +kernel
theorem dX7_uses_13 : decode cX7_uses 13 = .ok (.iconst 1, 1) := by decide +kernel
theorem dX7_uses_14 : decode cX7_uses 14 = .ok (.goto 4, 3) := by decide +kernel
theorem dX7_uses_17 : decode cX7_uses 17 = .ok (.iconst 0, 1) := by decide +kernel
theorem dX7_uses_18 : decode cX7_uses 18 = .ok (.ireturn, 1) := by decide +kernel
theorem dX7_isOpen_0 : decode cX7_isOpen 0 = .ok (.aload_n 0, 1) := by decide +kernel
theorem dX7_isOpen_1 : decode cX7_isOpen 1 = .ok (.getfield 35, 3) := by decide +kernel
theorem dX7_isOpen_4 : decode cX7_isOpen 4 = .ok (.ifCond .eq 11, 3) := by decide +kernel
theorem dX7_isOpen_7 : decode cX7_isOpen 7 = .ok (.aload_n 0, 1) := by decide +kernel
theorem dX7_isOpen_8 : decode cX7_isOpen 8 = .ok (.getfield 35, 3) := by decide +kernel
theorem dX7_isOpen_11 : decode cX7_isOpen 11 = .ok (.iconst 1, 1) := by decide +kernel
theorem dX7_isOpen_12 : decode cX7_isOpen 12 = .ok (.if_icmp .ne 7, 3) := by decide +kernel
theorem dX7_isOpen_15 : decode cX7_isOpen 15 = .ok (.iconst 1, 1) := by decide +kernel
theorem dX7_isOpen_16 : decode cX7_isOpen 16 = .ok (.goto 4, 3) := by decide +kernel
theorem dX7_isOpen_19 : decode cX7_isOpen 19 = .ok (.iconst 0, 1) := by decide +kernel
theorem dX7_isOpen_20 : decode cX7_isOpen 20 = .ok (.ireturn, 1) := by decide +kernel
theorem dX7_stands_0 : decode cX7_stands 0 = .ok (.aload_n 0, 1) := by decide +kernel
theorem dX7_stands_1 : decode cX7_stands 1 = .ok (.getfield 35, 3) := by decide +kernel
theorem dX7_stands_4 : decode cX7_stands 4 = .ok (.iconst 1, 1) := by decide +kernel
theorem dX7_stands_5 : decode cX7_stands 5 = .ok (.if_icmp .eq 19, 3) := by decide +kernel
theorem dX7_stands_8 : decode cX7_stands 8 = .ok (.aload_n 0, 1) := by decide +kernel
theorem dX7_stands_9 : decode cX7_stands 9 = .ok (.getfield 35, 3) := by decide +kernel
theorem dX7_stands_12 : decode cX7_stands 12 = .ok (.iconst 2, 1) := by decide +kernel
theorem dX7_stands_13 : decode cX7_stands 13 = .ok (.if_icmp .eq 11, 3) := by decide +kernel
theorem dX7_stands_16 : decode cX7_stands 16 = .ok (.aload_n 0, 1) := by decide +kernel
theorem dX7_stands_17 : decode cX7_stands 17 = .ok (.getfield 35, 3) := by decide +kernel
theorem dX7_stands_20 : decode cX7_stands 20 = .ok (.iconst 3, 1) := by decide +kernel
theorem dX7_stands_21 : decode cX7_stands 21 = .ok (.if_icmp .ne 7, 3) := by decide +kernel
theorem dX7_stands_24 : decode cX7_stands 24 = .ok (.iconst 1, 1) := by decide +kernel
theorem dX7_stands_25 : decode cX7_stands 25 = .ok (.goto 4, 3) := by decide +kernel
theorem dX7_stands_28 : decode cX7_stands 28 = .ok (.iconst 0, 1) := by decide +kernel
theorem dX7_stands_29 : decode cX7_stands 29 = .ok (.ireturn, 1) := by decide +kernel
theorem dX7_canBeJoined_0 : decode cX7_canBeJoined 0 = .ok (.aload_n 0, 1) := by decide +kernel
theorem dX7_canBeJoined_1 : decode cX7_canBeJoined 1 = .ok (.getfield 38, 3) := by decide +kernel
theorem dX7_canBeJoined_4 : decode cX7_canBeJoined 4 = .ok (.iconst 1, 1) := by decide +kernel
theorem dX7_canBeJoined_5 : decode cX7_canBeJoined 5 = .ok (.if_icmp .ne 21, 3) := by decide +kernel
theorem dX7_canBeJoined_8 : decode cX7_canBeJoined 8 = .ok (.aload_n 0, 1) := by decide +kernel
theorem dX7_canBeJoined_9 : decode cX7_canBeJoined 9 = .ok (.invokevirtual 41, 3) := by decide +kernel
theorem dX7_canBeJoined_12 : decode cX7_canBeJoined 12 = .ok (.ifCond .eq 14, 3) := by decide +kernel
theorem dX7_canBeJoined_15 : decode cX7_canBeJoined 15 = .ok (.aload_n 0, 1) := by decide +kernel
theorem dX7_canBeJoined_16 : decode cX7_canBeJoined 16 = .ok (.getfield 25, 3) := by decide +kernel
theorem dX7_canBeJoined_19 : decode cX7_canBeJoined 19 = .ok (.ifCond .ge 7, 3) := by decide +kernel
theorem dX7_canBeJoined_22 : decode cX7_canBeJoined 22 = .ok (.iconst 1, 1) := by decide +kernel
theorem dX7_canBeJoined_23 : decode cX7_canBeJoined 23 = .ok (.goto 4, 3) := by decide +kernel
theorem dX7_canBeJoined_26 : decode cX7_canBeJoined 26 = .ok (.iconst 0, 1) := by decide +kernel
theorem dX7_canBeJoined_27 : decode cX7_canBeJoined 27 = .ok (.ireturn, 1) := by decide +kernel
theorem dX7_isBookedOn_0 : decode cX7_isBookedOn 0 = .ok (.aload_n 0, 1) := by decide +kernel
theorem dX7_isBookedOn_1 : decode cX7_isBookedOn 1 = .ok (.getfield 35, 3) := by decide +kernel
theorem dX7_isBookedOn_4 : decode cX7_isBookedOn 4 = .ok (.iconst 2, 1) := by decide +kernel
theorem dX7_isBookedOn_5 : decode cX7_isBookedOn 5 = .ok (.if_icmp .eq 11, 3) := by decide +kernel
theorem dX7_isBookedOn_8 : decode cX7_isBookedOn 8 = .ok (.aload_n 0, 1) := by decide +kernel
theorem dX7_isBookedOn_9 : decode cX7_isBookedOn 9 = .ok (.getfield 35, 3) := by decide +kernel
theorem dX7_isBookedOn_12 : decode cX7_isBookedOn 12 = .ok (.iconst 3, 1) := by decide +kernel
theorem dX7_isBookedOn_13 : decode cX7_isBookedOn 13 = .ok (.if_icmp .ne 15, 3) := by decide +kernel
theorem dX7_isBookedOn_16 : decode cX7_isBookedOn 16 = .ok (.aload_n 0, 1) := by decide +kernel
theorem dX7_isBookedOn_17 : decode cX7_isBookedOn 17 = .ok (.iload_n 1, 1) := by decide +kernel
theorem dX7_isBookedOn_18 : decode cX7_isBookedOn 18 = .ok (.invokevirtual 45, 3) := by decide +kernel
theorem dX7_isBookedOn_21 : decode cX7_isBookedOn 21 = .ok (.ifCond .eq 7, 3) := by decide +kernel
theorem dX7_isBookedOn_24 : decode cX7_isBookedOn 24 = .ok (.iconst 1, 1) := by decide +kernel
theorem dX7_isBookedOn_25 : decode cX7_isBookedOn 25 = .ok (.goto 4, 3) := by decide +kernel
theorem dX7_isBookedOn_28 : decode cX7_isBookedOn 28 = .ok (.iconst 0, 1) := by decide +kernel
theorem dX7_isBookedOn_29 : decode cX7_isBookedOn 29 = .ok (.ireturn, 1) := by decide +kernel
theorem dX7_lastFrom_0 : decode cX7_lastFrom 0 = .ok (.sipush 399, 3) := by decide +kernel
theorem dX7_lastFrom_3 : decode cX7_lastFrom 3 = .ok (.iload_n 1, 1) := by decide +kernel
theorem dX7_lastFrom_4 : decode cX7_lastFrom 4 = .ok (.aload_n 0, 1) := by decide +kernel
theorem dX7_lastFrom_5 : decode cX7_lastFrom 5 = .ok (.getfield 49, 3) := by decide +kernel
theorem dX7_lastFrom_8 : decode cX7_lastFrom 8 = .ok (.iadd, 1) := by decide +kernel
theorem dX7_lastFrom_9 : decode cX7_lastFrom 9 = .ok (.iconst 1, 1) := by decide +kernel
theorem dX7_lastFrom_10 : decode cX7_lastFrom 10 = .ok (.isub, 1) := by decide +kernel
theorem dX7_lastFrom_11 : decode cX7_lastFrom 11 = .ok (.invokestatic 52, 3) := by decide +kernel
theorem dX7_lastFrom_14 : decode cX7_lastFrom 14 = .ok (.ireturn, 1) := by decide +kernel
theorem dX7_placeAt_0 : decode cX7_placeAt 0 = .ok (.aload_n 0, 1) := by decide +kernel
theorem dX7_placeAt_1 : decode cX7_placeAt 1 = .ok (.iload_n 1, 1) := by decide +kernel
theorem dX7_placeAt_2 : decode cX7_placeAt 2 = .ok (.putfield 19, 3) := by decide +kernel
theorem dX7_placeAt_5 : decode cX7_placeAt 5 = .ok (.aload_n 0, 1) := by decide +kernel
theorem dX7_placeAt_6 : decode cX7_placeAt 6 = .ok (.aload_n 0, 1) := by decide +kernel
theorem dX7_placeAt_7 : decode cX7_placeAt 7 = .ok (.iload_n 1, 1) := by decide +kernel
theorem dX7_placeAt_8 : decode cX7_placeAt 8 = .ok (.invokevirtual 58, 3) := by decide +kernel
theorem dX7_placeAt_11 : decode cX7_placeAt 11 = .ok (.putfield 22, 3) := by decide +kernel
theorem dX7_placeAt_14 : decode cX7_placeAt 14 = .ok (.return_, 1) := by decide +kernel
theorem dX7_notice_0 : decode cX7_notice 0 = .ok (.aload_n 0, 1) := by decide +kernel
theorem dX7_notice_1 : decode cX7_notice 1 = .ok (.getfield 38, 3) := by decide +kernel
theorem dX7_notice_4 : decode cX7_notice 4 = .ok (.ifCond .ne 7, 3) := by decide +kernel
theorem dX7_notice_7 : decode cX7_notice 7 = .ok (.iconst 3, 1) := by decide +kernel
theorem dX7_notice_8 : decode cX7_notice 8 = .ok (.goto 17, 3) := by decide +kernel
theorem dX7_notice_11 : decode cX7_notice 11 = .ok (.aload_n 0, 1) := by decide +kernel
theorem dX7_notice_12 : decode cX7_notice 12 = .ok (.getfield 38, 3) := by decide +kernel
theorem dX7_notice_15 : decode cX7_notice 15 = .ok (.iconst 1, 1) := by decide +kernel
theorem dX7_notice_16 : decode cX7_notice 16 = .ok (.if_icmp .ne 8, 3) := by decide +kernel
theorem dX7_notice_19 : decode cX7_notice 19 = .ok (.bipush 30, 2) := by decide +kernel
theorem dX7_notice_21 : decode cX7_notice 21 = .ok (.goto 4, 3) := by decide +kernel
theorem dX7_notice_24 : decode cX7_notice 24 = .ok (.iconst 0, 1) := by decide +kernel
theorem dX7_notice_25 : decode cX7_notice 25 = .ok (.ireturn, 1) := by decide +kernel
theorem dX7_delay_0 : decode cX7_delay 0 = .ok (.aload_n 0, 1) := by decide +kernel
theorem dX7_delay_1 : decode cX7_delay 1 = .ok (.getfield 19, 3) := by decide +kernel
theorem dX7_delay_4 : decode cX7_delay 4 = .ok (.aload_n 0, 1) := by decide +kernel
theorem dX7_delay_5 : decode cX7_delay 5 = .ok (.getfield 62, 3) := by decide +kernel
theorem dX7_delay_8 : decode cX7_delay 8 = .ok (.if_icmp .le 20, 3) := by decide +kernel
theorem dX7_delay_11 : decode cX7_delay 11 = .ok (.aload_n 0, 1) := by decide +kernel
theorem dX7_delay_12 : decode cX7_delay 12 = .ok (.getfield 19, 3) := by decide +kernel
theorem dX7_delay_15 : decode cX7_delay 15 = .ok (.aload_n 0, 1) := by decide +kernel
theorem dX7_delay_16 : decode cX7_delay 16 = .ok (.getfield 62, 3) := by decide +kernel
theorem dX7_delay_19 : decode cX7_delay 19 = .ok (.isub, 1) := by decide +kernel
theorem dX7_delay_20 : decode cX7_delay 20 = .ok (.aload_n 0, 1) := by decide +kernel
theorem dX7_delay_21 : decode cX7_delay 21 = .ok (.getfield 65, 3) := by decide +kernel
theorem dX7_delay_24 : decode cX7_delay 24 = .ok (.imul, 1) := by decide +kernel
theorem dX7_delay_25 : decode cX7_delay 25 = .ok (.goto 4, 3) := by decide +kernel
theorem dX7_delay_28 : decode cX7_delay 28 = .ok (.iconst 0, 1) := by decide +kernel
theorem dX7_delay_29 : decode cX7_delay 29 = .ok (.ireturn, 1) := by decide +kernel
theorem dX8_init_0 : decode cX8_init 0 = .ok (.aload_n 0, 1) := by decide +kernel
theorem dX8_init_1 : decode cX8_init 1 = .ok (.invokespecial 1, 3) := by decide +kernel
theorem dX8_init_4 : decode cX8_init 4 = .ok (.aload_n 0, 1) := by decide +kernel
theorem dX8_init_5 : decode cX8_init 5 = .ok (.new 7, 3) := by decide +kernel
theorem dX8_init_8 : decode cX8_init 8 = .ok (.dup, 1) := by decide +kernel
theorem dX8_init_9 : decode cX8_init 9 = .ok (.invokespecial 9, 3) := by decide +kernel
theorem dX8_init_12 : decode cX8_init 12 = .ok (.putfield 10, 3) := by decide +kernel
theorem dX8_init_15 : decode cX8_init 15 = .ok (.aload_n 0, 1) := by decide +kernel
theorem dX8_init_16 : decode cX8_init 16 = .ok (.new 16, 3) := by decide +kernel
theorem dX8_init_19 : decode cX8_init 19 = .ok (.dup, 1) := by decide +kernel
theorem dX8_init_20 : decode cX8_init 20 = .ok (.aload_n 0, 1) := by decide +kernel
theorem dX8_init_21 : decode cX8_init 21 = .ok (.getfield 10, 3) := by decide +kernel
theorem dX8_init_24 : decode cX8_init 24 = .ok (.invokespecial 18, 3) := by decide +kernel
theorem dX8_init_27 : decode cX8_init 27 = .ok (.putfield 21, 3) := by decide +kernel
theorem dX8_init_30 : decode cX8_init 30 = .ok (.aload_n 0, 1) := by decide +kernel
theorem dX8_init_31 : decode cX8_init 31 = .ok (.new 25, 3) := by decide +kernel
theorem dX8_init_34 : decode cX8_init 34 = .ok (.dup, 1) := by decide +kernel
theorem dX8_init_35 : decode cX8_init 35 = .ok (.aload_n 0, 1) := by decide +kernel
theorem dX8_init_36 : decode cX8_init 36 = .ok (.getfield 10, 3) := by decide +kernel
theorem dX8_init_39 : decode cX8_init 39 = .ok (.invokespecial 27, 3) := by decide +kernel
theorem dX8_init_42 : decode cX8_init 42 = .ok (.putfield 28, 3) := by decide +kernel
theorem dX8_init_45 : decode cX8_init 45 = .ok (.aload_n 0, 1) := by decide +kernel
theorem dX8_init_46 : decode cX8_init 46 = .ok (.new 32, 3) := by decide +kernel
theorem dX8_init_49 : decode cX8_init 49 = .ok (.dup, 1) := by decide +kernel
theorem dX8_init_50 : decode cX8_init 50 = .ok (.aload_n 0, 1) := by decide +kernel
theorem dX8_init_51 : decode cX8_init 51 = .ok (.getfield 10, 3) := by decide +kernel
theorem dX8_init_54 : decode cX8_init 54 = .ok (.aload_n 0, 1) := by decide +kernel
theorem dX8_init_55 : decode cX8_init 55 = .ok (.getfield 21, 3) := by decide +kernel
theorem dX8_init_58 : decode cX8_init 58 = .ok (.aload_n 0, 1) := by decide +kernel
theorem dX8_init_59 : decode cX8_init 59 = .ok (.getfield 28, 3) := by decide +kernel
theorem dX8_init_62 : decode cX8_init 62 = .ok (.invokespecial 34, 3) := by decide +kernel
theorem dX8_init_65 : decode cX8_init 65 = .ok (.putfield 37, 3) := by decide +kernel
theorem dX8_init_68 : decode cX8_init 68 = .ok (.aload_n 0, 1) := by decide +kernel
theorem dX8_init_69 : decode cX8_init 69 = .ok (.new 41, 3) := by decide +kernel
theorem dX8_init_72 : decode cX8_init 72 = .ok (.dup, 1) := by decide +kernel
theorem dX8_init_73 : decode cX8_init 73 = .ok (.aload_n 0, 1) := by decide +kernel
theorem dX8_init_74 : decode cX8_init 74 = .ok (.getfield 10, 3) := by decide +kernel
theorem dX8_init_77 : decode cX8_init 77 = .ok (.aload_n 0, 1) := by decide +kernel
theorem dX8_init_78 : decode cX8_init 78 = .ok (.getfield 37, 3) := by decide +kernel
theorem dX8_init_81 : decode cX8_init 81 = .ok (.invokespecial 43, 3) := by decide +kernel
theorem dX8_init_84 : decode cX8_init 84 = .ok (.putfield 46, 3) := by decide +kernel
theorem dX8_init_87 : decode cX8_init 87 = .ok (.return_, 1) := by decide +kernel
theorem dX8_piece_0 : decode cX8_piece 0 = .ok (.iload_n 1, 1) := by decide +kernel
theorem dX8_piece_1 : decode cX8_piece 1 = .ok (.ifCond .lt 17, 3) := by decide +kernel
theorem dX8_piece_4 : decode cX8_piece 4 = .ok (.iload_n 1, 1) := by decide +kernel
theorem dX8_piece_5 : decode cX8_piece 5 = .ok (.bipush 100, 2) := by decide +kernel
theorem dX8_piece_7 : decode cX8_piece 7 = .ok (.idiv, 1) := by decide +kernel
theorem dX8_piece_8 : decode cX8_piece 8 = .ok (.iload_n 1, 1) := by decide +kernel
theorem dX8_piece_9 : decode cX8_piece 9 = .ok (.bipush 100, 2) := by decide +kernel
theorem dX8_piece_11 : decode cX8_piece 11 = .ok (.irem, 1) := by decide +kernel
theorem dX8_piece_12 : decode cX8_piece 12 = .ok (.invokestatic 50, 3) := by decide +kernel
theorem dX8_piece_15 : decode cX8_piece 15 = .ok (.ifCond .ne 5, 3) := by decide +kernel
theorem dX8_piece_18 : decode cX8_piece 18 = .ok (.iconst (-1), 1) := by decide +kernel
theorem dX8_piece_19 : decode cX8_piece 19 = .ok (.ireturn, 1) := by decide +kernel
theorem dX8_piece_20 : decode cX8_piece 20 = .ok (.iload_n 2, 1) := by decide +kernel
theorem dX8_piece_21 : decode cX8_piece 21 = .ok (.iconst 1, 1) := by decide +kernel
theorem dX8_piece_22 : decode cX8_piece 22 = .ok (.iconst 4, 1) := by decide +kernel
theorem dX8_piece_23 : decode cX8_piece 23 = .ok (.invokestatic 54, 3) := by decide +kernel
theorem dX8_piece_26 : decode cX8_piece 26 = .ok (.ifCond .eq 12, 3) := by decide +kernel
theorem dX8_piece_29 : decode cX8_piece 29 = .ok (.iload_n 3, 1) := by decide +kernel
theorem dX8_piece_30 : decode cX8_piece 30 = .ok (.iconst 0, 1) := by decide +kernel
theorem dX8_piece_31 : decode cX8_piece 31 = .ok (.iconst 2, 1) := by decide +kernel
theorem dX8_piece_32 : decode cX8_piece 32 = .ok (.invokestatic 54, 3) := by decide +kernel
theorem dX8_piece_35 : decode cX8_piece 35 = .ok (.ifCond .ne 5, 3) := by decide +kernel
theorem dX8_piece_38 : decode cX8_piece 38 = .ok (.iconst (-1), 1) := by decide +kernel
theorem dX8_piece_39 : decode cX8_piece 39 = .ok (.ireturn, 1) := by decide +kernel
theorem dX8_piece_40 : decode cX8_piece 40 = .ok (.iload 4, 2) := by decide +kernel
theorem dX8_piece_42 : decode cX8_piece 42 = .ok (.iconst 1, 1) := by decide +kernel
theorem dX8_piece_43 : decode cX8_piece 43 = .ok (.bipush 30, 2) := by decide +kernel
theorem dX8_piece_45 : decode cX8_piece 45 = .ok (.invokestatic 54, 3) := by decide +kernel
theorem dX8_piece_48 : decode cX8_piece 48 = .ok (.ifCond .eq 14, 3) := by decide +kernel
theorem dX8_piece_51 : decode cX8_piece 51 = .ok (.iload 5, 2) := by decide +kernel
theorem dX8_piece_53 : decode cX8_piece 53 = .ok (.iconst 0, 1) := by decide +kernel
theorem dX8_piece_54 : decode cX8_piece 54 = .ok (.bipush 60, 2) := by decide +kernel
theorem dX8_piece_56 : decode cX8_piece 56 = .ok (.invokestatic 54, 3) := by decide +kernel
theorem dX8_piece_59 : decode cX8_piece 59 = .ok (.ifCond .ne 5, 3) := by decide +kernel
theorem dX8_piece_62 : decode cX8_piece 62 = .ok (.iconst (-1), 1) := by decide +kernel
theorem dX8_piece_63 : decode cX8_piece 63 = .ok (.ireturn, 1) := by decide +kernel
theorem dX8_piece_64 : decode cX8_piece 64 = .ok (.aload_n 0, 1) := by decide +kernel
theorem dX8_piece_65 : decode cX8_piece 65 = .ok (.getfield 10, 3) := by decide +kernel
theorem dX8_piece_68 : decode cX8_piece 68 = .ok (.getfield 58, 3) := by decide +kernel
theorem dX8_piece_71 : decode cX8_piece 71 = .ok (.bipush 40, 2) := by decide +kernel
theorem dX8_piece_73 : decode cX8_piece 73 = .ok (.if_icmp .lt 6, 3) := by decide +kernel
theorem dX8_piece_76 : decode cX8_piece 76 = .ok (.bipush (-2), 2) := by decide +kernel
theorem dX8_piece_78 : decode cX8_piece 78 = .ok (.ireturn, 1) := by decide +kernel
theorem dX8_piece_79 : decode cX8_piece 79 = .ok (.aload_n 0, 1) := by decide +kernel
theorem dX8_piece_80 : decode cX8_piece 80 = .ok (.getfield 10, 3) := by decide +kernel
theorem dX8_piece_83 : decode cX8_piece 83 = .ok (.getfield 62, 3) := by decide +kernel
theorem dX8_piece_86 : decode cX8_piece 86 = .ok (.aload_n 0, 1) := by decide +kernel
theorem dX8_piece_87 : decode cX8_piece 87 = .ok (.getfield 10, 3) := by decide +kernel
theorem dX8_piece_90 : decode cX8_piece 90 = .ok (.getfield 58, 3) := by decide +kernel
theorem dX8_piece_93 : decode cX8_piece 93 = .ok (.aaload, 1) := by decide +kernel
theorem dX8_piece_94 : decode cX8_piece 94 = .ok (.astore 6, 2) := by decide +kernel
theorem dX8_piece_96 : decode cX8_piece 96 = .ok (.aload 6, 2) := by decide +kernel
theorem dX8_piece_98 : decode cX8_piece 98 = .ok (.iload_n 1, 1) := by decide +kernel
theorem dX8_piece_99 : decode cX8_piece 99 = .ok (.bipush 100, 2) := by decide +kernel
theorem dX8_piece_101 : decode cX8_piece 101 = .ok (.idiv, 1) := by decide +kernel
theorem dX8_piece_102 : decode cX8_piece 102 = .ok (.putfield 66, 3) := by decide +kernel
theorem dX8_piece_105 : decode cX8_piece 105 = .ok (.aload 6, 2) := by decide +kernel
theorem dX8_piece_107 : decode cX8_piece 107 = .ok (.iload_n 1, 1) := by decide +kernel
theorem dX8_piece_108 : decode cX8_piece 108 = .ok (.bipush 100, 2) := by decide +kernel
theorem dX8_piece_110 : decode cX8_piece 110 = .ok (.irem, 1) := by decide +kernel
theorem dX8_piece_111 : decode cX8_piece 111 = .ok (.putfield 71, 3) := by decide +kernel
theorem dX8_piece_114 : decode cX8_piece 114 = .ok (.aload 6, 2) := by decide +kernel
theorem dX8_piece_116 : decode cX8_piece 116 = .ok (.iload_n 2, 1) := by decide +kernel
theorem dX8_piece_117 : decode cX8_piece 117 = .ok (.putfield 74, 3) := by decide +kernel
theorem dX8_piece_120 : decode cX8_piece 120 = .ok (.aload 6, 2) := by decide +kernel
theorem dX8_piece_122 : decode cX8_piece 122 = .ok (.iload_n 3, 1) := by decide +kernel
theorem dX8_piece_123 : decode cX8_piece 123 = .ok (.putfield 77, 3) := by decide +kernel
theorem dX8_piece_126 : decode cX8_piece 126 = .ok (.aload 6, 2) := by decide +kernel
theorem dX8_piece_128 : decode cX8_piece 128 = .ok (.iload 4, 2) := by decide +kernel
theorem dX8_piece_130 : decode cX8_piece 130 = .ok (.putfield 80, 3) := by decide +kernel
theorem dX8_piece_133 : decode cX8_piece 133 = .ok (.aload 6, 2) := by decide +kernel
theorem dX8_piece_135 : decode cX8_piece 135 = .ok (.iload 5, 2) := by decide +kernel
theorem dX8_piece_137 : decode cX8_piece 137 = .ok (.putfield 83, 3) := by decide +kernel
theorem dX8_piece_140 : decode cX8_piece 140 = .ok (.aload_n 0, 1) := by decide +kernel
theorem dX8_piece_141 : decode cX8_piece 141 = .ok (.getfield 10, 3) := by decide +kernel
theorem dX8_piece_144 : decode cX8_piece 144 = .ok (.dup, 1) := by decide +kernel
theorem dX8_piece_145 : decode cX8_piece 145 = .ok (.getfield 58, 3) := by decide +kernel
theorem dX8_piece_148 : decode cX8_piece 148 = .ok (.iconst 1, 1) := by decide +kernel
theorem dX8_piece_149 : decode cX8_piece 149 = .ok (.iadd, 1) := by decide +kernel
theorem dX8_piece_150 : decode cX8_piece 150 = .ok (.putfield 58, 3) := by decide +kernel
theorem dX8_piece_153 : decode cX8_piece 153 = .ok (.aload_n 0, 1) := by decide +kernel
theorem dX8_piece_154 : decode cX8_piece 154 = .ok (.getfield 10, 3) := by decide +kernel
theorem dX8_piece_157 : decode cX8_piece 157 = .ok (.getfield 58, 3) := by decide +kernel
theorem dX8_piece_160 : decode cX8_piece 160 = .ok (.iconst 1, 1) := by decide +kernel
theorem dX8_piece_161 : decode cX8_piece 161 = .ok (.isub, 1) := by decide +kernel
theorem dX8_piece_162 : decode cX8_piece 162 = .ok (.ireturn, 1) := by decide +kernel
theorem dX8_pair_0 : decode cX8_pair 0 = .ok (.iload_n 1, 1) := by decide +kernel
theorem dX8_pair_1 : decode cX8_pair 1 = .ok (.iload_n 2, 1) := by decide +kernel
theorem dX8_pair_2 : decode cX8_pair 2 = .ok (.invokestatic 50, 3) := by decide +kernel
theorem dX8_pair_5 : decode cX8_pair 5 = .ok (.ifCond .eq 14, 3) := by decide +kernel
theorem dX8_pair_8 : decode cX8_pair 8 = .ok (.iload_n 3, 1) := by decide +kernel
theorem dX8_pair_9 : decode cX8_pair 9 = .ok (.iconst 1, 1) := by decide +kernel
theorem dX8_pair_10 : decode cX8_pair 10 = .ok (.sipush 200, 3) := by decide +kernel
theorem dX8_pair_13 : decode cX8_pair 13 = .ok (.invokestatic 54, 3) := by decide +kernel
theorem dX8_pair_16 : decode cX8_pair 16 = .ok (.ifCond .ne 5, 3) := by decide +kernel
theorem dX8_pair_19 : decode cX8_pair 19 = .ok (.iconst (-1), 1) := by decide +kernel
theorem dX8_pair_20 : decode cX8_pair 20 = .ok (.ireturn, 1) := by decide +kernel
theorem dX8_pair_21 : decode cX8_pair 21 = .ok (.aload_n 0, 1) := by decide +kernel
theorem dX8_pair_22 : decode cX8_pair 22 = .ok (.getfield 10, 3) := by decide +kernel
theorem dX8_pair_25 : decode cX8_pair 25 = .ok (.getfield 86, 3) := by decide +kernel
theorem dX8_pair_28 : decode cX8_pair 28 = .ok (.bipush 8, 2) := by decide +kernel
theorem dX8_pair_30 : decode cX8_pair 30 = .ok (.if_icmp .lt 6, 3) := by decide +kernel
theorem dX8_pair_33 : decode cX8_pair 33 = .ok (.bipush (-2), 2) := by decide +kernel
theorem dX8_pair_35 : decode cX8_pair 35 = .ok (.ireturn, 1) := by decide +kernel
theorem dX8_pair_36 : decode cX8_pair 36 = .ok (.aload_n 0, 1) := by decide +kernel
theorem dX8_pair_37 : decode cX8_pair 37 = .ok (.getfield 10, 3) := by decide +kernel
theorem dX8_pair_40 : decode cX8_pair 40 = .ok (.getfield 89, 3) := by decide +kernel
theorem dX8_pair_43 : decode cX8_pair 43 = .ok (.aload_n 0, 1) := by decide +kernel
theorem dX8_pair_44 : decode cX8_pair 44 = .ok (.getfield 10, 3) := by decide +kernel
theorem dX8_pair_47 : decode cX8_pair 47 = .ok (.getfield 86, 3) := by decide +kernel
theorem dX8_pair_50 : decode cX8_pair 50 = .ok (.aaload, 1) := by decide +kernel
theorem dX8_pair_51 : decode cX8_pair 51 = .ok (.astore 4, 2) := by decide +kernel
theorem dX8_pair_53 : decode cX8_pair 53 = .ok (.aload 4, 2) := by decide +kernel
theorem dX8_pair_55 : decode cX8_pair 55 = .ok (.iload_n 1, 1) := by decide +kernel
theorem dX8_pair_56 : decode cX8_pair 56 = .ok (.putfield 93, 3) := by decide +kernel
theorem dX8_pair_59 : decode cX8_pair 59 = .ok (.aload 4, 2) := by decide +kernel
theorem dX8_pair_61 : decode cX8_pair 61 = .ok (.iload_n 2, 1) := by decide +kernel
theorem dX8_pair_62 : decode cX8_pair 62 = .ok (.putfield 96, 3) := by decide +kernel
theorem dX8_pair_65 : decode cX8_pair 65 = .ok (.aload 4, 2) := by decide +kernel
theorem dX8_pair_67 : decode cX8_pair 67 = .ok (.iload_n 3, 1) := by decide +kernel
theorem dX8_pair_68 : decode cX8_pair 68 = .ok (.putfield 97, 3) := by decide +kernel
theorem dX8_pair_71 : decode cX8_pair 71 = .ok (.aload_n 0, 1) := by decide +kernel
theorem dX8_pair_72 : decode cX8_pair 72 = .ok (.getfield 10, 3) := by decide +kernel
theorem dX8_pair_75 : decode cX8_pair 75 = .ok (.dup, 1) := by decide +kernel
theorem dX8_pair_76 : decode cX8_pair 76 = .ok (.getfield 86, 3) := by decide +kernel
theorem dX8_pair_79 : decode cX8_pair 79 = .ok (.iconst 1, 1) := by decide +kernel
theorem dX8_pair_80 : decode cX8_pair 80 = .ok (.iadd, 1) := by decide +kernel
theorem dX8_pair_81 : decode cX8_pair 81 = .ok (.putfield 86, 3) := by decide +kernel
theorem dX8_pair_84 : decode cX8_pair 84 = .ok (.aload_n 0, 1) := by decide +kernel
theorem dX8_pair_85 : decode cX8_pair 85 = .ok (.getfield 10, 3) := by decide +kernel
theorem dX8_pair_88 : decode cX8_pair 88 = .ok (.getfield 86, 3) := by decide +kernel
theorem dX8_pair_91 : decode cX8_pair 91 = .ok (.iconst 1, 1) := by decide +kernel
theorem dX8_pair_92 : decode cX8_pair 92 = .ok (.isub, 1) := by decide +kernel
theorem dX8_pair_93 : decode cX8_pair 93 = .ok (.ireturn, 1) := by decide +kernel
theorem dX8_feast_0 : decode cX8_feast 0 = .ok (.iload_n 1, 1) := by decide +kernel
theorem dX8_feast_1 : decode cX8_feast 1 = .ok (.invokestatic 100, 3) := by decide +kernel
theorem dX8_feast_4 : decode cX8_feast 4 = .ok (.ifCond .eq 12, 3) := by decide +kernel
theorem dX8_feast_7 : decode cX8_feast 7 = .ok (.iload_n 2, 1) := by decide +kernel
theorem dX8_feast_8 : decode cX8_feast 8 = .ok (.iconst 0, 1) := by decide +kernel
theorem dX8_feast_9 : decode cX8_feast 9 = .ok (.iconst 1, 1) := by decide +kernel
theorem dX8_feast_10 : decode cX8_feast 10 = .ok (.invokestatic 54, 3) := by decide +kernel
theorem dX8_feast_13 : decode cX8_feast 13 = .ok (.ifCond .ne 5, 3) := by decide +kernel
theorem dX8_feast_16 : decode cX8_feast 16 = .ok (.iconst (-1), 1) := by decide +kernel
theorem dX8_feast_17 : decode cX8_feast 17 = .ok (.ireturn, 1) := by decide +kernel
theorem dX8_feast_18 : decode cX8_feast 18 = .ok (.aload_n 0, 1) := by decide +kernel
theorem dX8_feast_19 : decode cX8_feast 19 = .ok (.getfield 10, 3) := by decide +kernel
theorem dX8_feast_22 : decode cX8_feast 22 = .ok (.getfield 104, 3) := by decide +kernel
theorem dX8_feast_25 : decode cX8_feast 25 = .ok (.iload_n 1, 1) := by decide +kernel
theorem dX8_feast_26 : decode cX8_feast 26 = .ok (.baload, 1) := by decide +kernel
theorem dX8_feast_27 : decode cX8_feast 27 = .ok (.istore_n 3, 1) := by decide +kernel
theorem dX8_feast_28 : decode cX8_feast 28 = .ok (.aload_n 0, 1) := by decide +kernel
theorem dX8_feast_29 : decode cX8_feast 29 = .ok (.getfield 10, 3) := by decide +kernel
theorem dX8_feast_32 : decode cX8_feast 32 = .ok (.getfield 104, 3) := by decide +kernel
theorem dX8_feast_35 : decode cX8_feast 35 = .ok (.iload_n 1, 1) := by decide +kernel
theorem dX8_feast_36 : decode cX8_feast 36 = .ok (.iload_n 2, 1) := by decide +kernel
theorem dX8_feast_37 : decode cX8_feast 37 = .ok (.iconst 1, 1) := by decide +kernel
theorem dX8_feast_38 : decode cX8_feast 38 = .ok (.if_icmp .ne 7, 3) := by decide +kernel
theorem dX8_feast_41 : decode cX8_feast 41 = .ok (.iconst 1, 1) := by decide +kernel
theorem dX8_feast_42 : decode cX8_feast 42 = .ok (.goto 4, 3) := by decide +kernel
theorem dX8_feast_45 : decode cX8_feast 45 = .ok (.iconst 0, 1) := by decide +kernel
theorem dX8_feast_46 : decode cX8_feast 46 = .ok (.bastore, 1) := by decide +kernel
theorem dX8_feast_47 : decode cX8_feast 47 = .ok (.iload_n 3, 1) := by decide +kernel
theorem dX8_feast_48 : decode cX8_feast 48 = .ok (.ifCond .eq 7, 3) := by decide +kernel
theorem dX8_feast_51 : decode cX8_feast 51 = .ok (.iconst 1, 1) := by decide +kernel
theorem dX8_feast_52 : decode cX8_feast 52 = .ok (.goto 4, 3) := by decide +kernel
theorem dX8_feast_55 : decode cX8_feast 55 = .ok (.iconst 0, 1) := by decide +kernel
theorem dX8_feast_56 : decode cX8_feast 56 = .ok (.ireturn, 1) := by decide +kernel
theorem dX8_work_0 : decode cX8_work 0 = .ok (.iload_n 1, 1) := by decide +kernel
theorem dX8_work_1 : decode cX8_work 1 = .ok (.ifCond .lt 18, 3) := by decide +kernel
theorem dX8_work_4 : decode cX8_work 4 = .ok (.iload_n 2, 1) := by decide +kernel
theorem dX8_work_5 : decode cX8_work 5 = .ok (.ifCond .lt 14, 3) := by decide +kernel
theorem dX8_work_8 : decode cX8_work 8 = .ok (.aload_n 0, 1) := by decide +kernel
theorem dX8_work_9 : decode cX8_work 9 = .ok (.getfield 10, 3) := by decide +kernel
theorem dX8_work_12 : decode cX8_work 12 = .ok (.iload_n 3, 1) := by decide +kernel
theorem dX8_work_13 : decode cX8_work 13 = .ok (.invokevirtual 108, 3) := by decide +kernel
theorem dX8_work_16 : decode cX8_work 16 = .ok (.ifCond .ne 5, 3) := by decide +kernel
theorem dX8_work_19 : decode cX8_work 19 = .ok (.iconst (-1), 1) := by decide +kernel
theorem dX8_work_20 : decode cX8_work 20 = .ok (.ireturn, 1) := by decide +kernel
theorem dX8_work_21 : decode cX8_work 21 = .ok (.iload_n 1, 1) := by decide +kernel
theorem dX8_work_22 : decode cX8_work 22 = .ok (.sipush 10000, 3) := by decide +kernel
theorem dX8_work_25 : decode cX8_work 25 = .ok (.idiv, 1) := by decide +kernel
theorem dX8_work_26 : decode cX8_work 26 = .ok (.iconst 0, 1) := by decide +kernel
theorem dX8_work_27 : decode cX8_work 27 = .ok (.bipush 9, 2) := by decide +kernel
theorem dX8_work_29 : decode cX8_work 29 = .ok (.invokestatic 54, 3) := by decide +kernel
theorem dX8_work_32 : decode cX8_work 32 = .ok (.ifCond .eq 19, 3) := by decide +kernel
theorem dX8_work_35 : decode cX8_work 35 = .ok (.iload_n 1, 1) := by decide +kernel
theorem dX8_work_36 : decode cX8_work 36 = .ok (.sipush 1000, 3) := by decide +kernel
theorem dX8_work_39 : decode cX8_work 39 = .ok (.idiv, 1) := by decide +kernel
theorem dX8_work_40 : decode cX8_work 40 = .ok (.bipush 10, 2) := by decide +kernel
theorem dX8_work_42 : decode cX8_work 42 = .ok (.irem, 1) := by decide +kernel
theorem dX8_work_43 : decode cX8_work 43 = .ok (.iconst 0, 1) := by decide +kernel
theorem dX8_work_44 : decode cX8_work 44 = .ok (.iconst 3, 1) := by decide +kernel
theorem dX8_work_45 : decode cX8_work 45 = .ok (.invokestatic 54, 3) := by decide +kernel
theorem dX8_work_48 : decode cX8_work 48 = .ok (.ifCond .ne 5, 3) := by decide +kernel
theorem dX8_work_51 : decode cX8_work 51 = .ok (.iconst (-1), 1) := by decide +kernel
theorem dX8_work_52 : decode cX8_work 52 = .ok (.ireturn, 1) := by decide +kernel
theorem dX8_work_53 : decode cX8_work 53 = .ok (.iload_n 1, 1) := by decide +kernel
theorem dX8_work_54 : decode cX8_work 54 = .ok (.bipush 100, 2) := by decide +kernel
theorem dX8_work_56 : decode cX8_work 56 = .ok (.idiv, 1) := by decide +kernel
theorem dX8_work_57 : decode cX8_work 57 = .ok (.bipush 10, 2) := by decide +kernel
theorem dX8_work_59 : decode cX8_work 59 = .ok (.irem, 1) := by decide +kernel
theorem dX8_work_60 : decode cX8_work 60 = .ok (.iconst 1, 1) := by decide +kernel
theorem dX8_work_61 : decode cX8_work 61 = .ok (.iconst 4, 1) := by decide +kernel
theorem dX8_work_62 : decode cX8_work 62 = .ok (.invokestatic 54, 3) := by decide +kernel
theorem dX8_work_65 : decode cX8_work 65 = .ok (.ifCond .eq 16, 3) := by decide +kernel
theorem dX8_work_68 : decode cX8_work 68 = .ok (.iload_n 1, 1) := by decide +kernel
theorem dX8_work_69 : decode cX8_work 69 = .ok (.bipush 100, 2) := by decide +kernel
theorem dX8_work_71 : decode cX8_work 71 = .ok (.irem, 1) := by decide +kernel
theorem dX8_work_72 : decode cX8_work 72 = .ok (.iconst 1, 1) := by decide +kernel
theorem dX8_work_73 : decode cX8_work 73 = .ok (.bipush 30, 2) := by decide +kernel
theorem dX8_work_75 : decode cX8_work 75 = .ok (.invokestatic 54, 3) := by decide +kernel
theorem dX8_work_78 : decode cX8_work 78 = .ok (.ifCond .ne 5, 3) := by decide +kernel
theorem dX8_work_81 : decode cX8_work 81 = .ok (.iconst (-1), 1) := by decide +kernel
theorem dX8_work_82 : decode cX8_work 82 = .ok (.ireturn, 1) := by decide +kernel
theorem dX8_work_83 : decode cX8_work 83 = .ok (.iload_n 2, 1) := by decide +kernel
theorem dX8_work_84 : decode cX8_work 84 = .ok (.sipush 1000, 3) := by decide +kernel
theorem dX8_work_87 : decode cX8_work 87 = .ok (.idiv, 1) := by decide +kernel
theorem dX8_work_88 : decode cX8_work 88 = .ok (.iconst 1, 1) := by decide +kernel
theorem dX8_work_89 : decode cX8_work 89 = .ok (.bipush 9, 2) := by decide +kernel
theorem dX8_work_91 : decode cX8_work 91 = .ok (.invokestatic 54, 3) := by decide +kernel
theorem dX8_work_94 : decode cX8_work 94 = .ok (.ifCond .eq 14, 3) := by decide +kernel
theorem dX8_work_97 : decode cX8_work 97 = .ok (.iload_n 2, 1) := by decide +kernel
theorem dX8_work_98 : decode cX8_work 98 = .ok (.sipush 1000, 3) := by decide +kernel
theorem dX8_work_101 : decode cX8_work 101 = .ok (.irem, 1) := by decide +kernel
theorem dX8_work_102 : decode cX8_work 102 = .ok (.invokestatic 100, 3) := by decide +kernel
theorem dX8_work_105 : decode cX8_work 105 = .ok (.ifCond .ne 5, 3) := by decide +kernel
theorem dX8_work_108 : decode cX8_work 108 = .ok (.iconst (-1), 1) := by decide +kernel
theorem dX8_work_109 : decode cX8_work 109 = .ok (.ireturn, 1) := by decide +kernel
theorem dX8_work_110 : decode cX8_work 110 = .ok (.aload_n 0, 1) := by decide +kernel
theorem dX8_work_111 : decode cX8_work 111 = .ok (.getfield 10, 3) := by decide +kernel
theorem dX8_work_114 : decode cX8_work 114 = .ok (.getfield 111, 3) := by decide +kernel
theorem dX8_work_117 : decode cX8_work 117 = .ok (.bipush 60, 2) := by decide +kernel
theorem dX8_work_119 : decode cX8_work 119 = .ok (.if_icmp .lt 6, 3) := by decide +kernel
theorem dX8_work_122 : decode cX8_work 122 = .ok (.bipush (-2), 2) := by decide +kernel
theorem dX8_work_124 : decode cX8_work 124 = .ok (.ireturn, 1) := by decide +kernel
theorem dX8_work_125 : decode cX8_work 125 = .ok (.aload_n 0, 1) := by decide +kernel
theorem dX8_work_126 : decode cX8_work 126 = .ok (.getfield 10, 3) := by decide +kernel
theorem dX8_work_129 : decode cX8_work 129 = .ok (.getfield 114, 3) := by decide +kernel
theorem dX8_work_132 : decode cX8_work 132 = .ok (.aload_n 0, 1) := by decide +kernel
theorem dX8_work_133 : decode cX8_work 133 = .ok (.getfield 10, 3) := by decide +kernel
theorem dX8_work_136 : decode cX8_work 136 = .ok (.getfield 111, 3) := by decide +kernel
theorem dX8_work_139 : decode cX8_work 139 = .ok (.aaload, 1) := by decide +kernel
theorem dX8_work_140 : decode cX8_work 140 = .ok (.astore 4, 2) := by decide +kernel
theorem dX8_work_142 : decode cX8_work 142 = .ok (.aload 4, 2) := by decide +kernel
theorem dX8_work_144 : decode cX8_work 144 = .ok (.iload_n 1, 1) := by decide +kernel
theorem dX8_work_145 : decode cX8_work 145 = .ok (.sipush 10000, 3) := by decide +kernel
theorem dX8_work_148 : decode cX8_work 148 = .ok (.idiv, 1) := by decide +kernel
theorem dX8_work_149 : decode cX8_work 149 = .ok (.putfield 118, 3) := by decide +kernel
theorem dX8_work_152 : decode cX8_work 152 = .ok (.aload 4, 2) := by decide +kernel
theorem dX8_work_154 : decode cX8_work 154 = .ok (.iload_n 1, 1) := by decide +kernel
theorem dX8_work_155 : decode cX8_work 155 = .ok (.sipush 1000, 3) := by decide +kernel
theorem dX8_work_158 : decode cX8_work 158 = .ok (.idiv, 1) := by decide +kernel
theorem dX8_work_159 : decode cX8_work 159 = .ok (.bipush 10, 2) := by decide +kernel
theorem dX8_work_161 : decode cX8_work 161 = .ok (.irem, 1) := by decide +kernel
theorem dX8_work_162 : decode cX8_work 162 = .ok (.putfield 123, 3) := by decide +kernel
theorem dX8_work_165 : decode cX8_work 165 = .ok (.aload 4, 2) := by decide +kernel
theorem dX8_work_167 : decode cX8_work 167 = .ok (.iload_n 1, 1) := by decide +kernel
theorem dX8_work_168 : decode cX8_work 168 = .ok (.bipush 100, 2) := by decide +kernel
theorem dX8_work_170 : decode cX8_work 170 = .ok (.idiv, 1) := by decide +kernel
theorem dX8_work_171 : decode cX8_work 171 = .ok (.bipush 10, 2) := by decide +kernel
theorem dX8_work_173 : decode cX8_work 173 = .ok (.irem, 1) := by decide +kernel
theorem dX8_work_174 : decode cX8_work 174 = .ok (.putfield 126, 3) := by decide +kernel
theorem dX8_work_177 : decode cX8_work 177 = .ok (.aload 4, 2) := by decide +kernel
theorem dX8_work_179 : decode cX8_work 179 = .ok (.iload_n 1, 1) := by decide +kernel
theorem dX8_work_180 : decode cX8_work 180 = .ok (.bipush 100, 2) := by decide +kernel
theorem dX8_work_182 : decode cX8_work 182 = .ok (.irem, 1) := by decide +kernel
theorem dX8_work_183 : decode cX8_work 183 = .ok (.putfield 127, 3) := by decide +kernel
theorem dX8_work_186 : decode cX8_work 186 = .ok (.aload 4, 2) := by decide +kernel
theorem dX8_work_188 : decode cX8_work 188 = .ok (.iload_n 2, 1) := by decide +kernel
theorem dX8_work_189 : decode cX8_work 189 = .ok (.sipush 1000, 3) := by decide +kernel
theorem dX8_work_192 : decode cX8_work 192 = .ok (.idiv, 1) := by decide +kernel
theorem dX8_work_193 : decode cX8_work 193 = .ok (.putfield 130, 3) := by decide +kernel
theorem dX8_work_196 : decode cX8_work 196 = .ok (.aload 4, 2) := by decide +kernel
theorem dX8_work_198 : decode cX8_work 198 = .ok (.iload_n 2, 1) := by decide +kernel
theorem dX8_work_199 : decode cX8_work 199 = .ok (.sipush 1000, 3) := by decide +kernel
theorem dX8_work_202 : decode cX8_work 202 = .ok (.irem, 1) := by decide +kernel
theorem dX8_work_203 : decode cX8_work 203 = .ok (.putfield 133, 3) := by decide +kernel
theorem dX8_work_206 : decode cX8_work 206 = .ok (.aload 4, 2) := by decide +kernel
theorem dX8_work_208 : decode cX8_work 208 = .ok (.iload_n 3, 1) := by decide +kernel
theorem dX8_work_209 : decode cX8_work 209 = .ok (.invokevirtual 136, 3) := by decide +kernel
theorem dX8_work_212 : decode cX8_work 212 = .ok (.aload_n 0, 1) := by decide +kernel
theorem dX8_work_213 : decode cX8_work 213 = .ok (.getfield 10, 3) := by decide +kernel
theorem dX8_work_216 : decode cX8_work 216 = .ok (.dup, 1) := by decide +kernel
theorem dX8_work_217 : decode cX8_work 217 = .ok (.getfield 111, 3) := by decide +kernel
theorem dX8_work_220 : decode cX8_work 220 = .ok (.iconst 1, 1) := by decide +kernel
theorem dX8_work_221 : decode cX8_work 221 = .ok (.iadd, 1) := by decide +kernel
theorem dX8_work_222 : decode cX8_work 222 = .ok (.putfield 111, 3) := by decide +kernel
theorem dX8_work_225 : decode cX8_work 225 = .ok (.aload 4, 2) := by decide +kernel
theorem dX8_work_227 : decode cX8_work 227 = .ok (.getfield 140, 3) := by decide +kernel
theorem dX8_work_230 : decode cX8_work 230 = .ok (.ireturn, 1) := by decide +kernel
theorem dX8_more_0 : decode cX8_more 0 = .ok (.aload_n 0, 1) := by decide +kernel
theorem dX8_more_1 : decode cX8_more 1 = .ok (.getfield 10, 3) := by decide +kernel
theorem dX8_more_4 : decode cX8_more 4 = .ok (.iload_n 1, 1) := by decide +kernel
theorem dX8_more_5 : decode cX8_more 5 = .ok (.invokevirtual 143, 3) := by decide +kernel
theorem dX8_more_8 : decode cX8_more 8 = .ok (.ifCond .eq 14, 3) := by decide +kernel
theorem dX8_more_11 : decode cX8_more 11 = .ok (.aload_n 0, 1) := by decide +kernel
theorem dX8_more_12 : decode cX8_more 12 = .ok (.getfield 10, 3) := by decide +kernel
theorem dX8_more_15 : decode cX8_more 15 = .ok (.iload_n 2, 1) := by decide +kernel
theorem dX8_more_16 : decode cX8_more 16 = .ok (.invokevirtual 108, 3) := by decide +kernel
theorem dX8_more_19 : decode cX8_more 19 = .ok (.ifCond .ne 5, 3) := by decide +kernel
theorem dX8_more_22 : decode cX8_more 22 = .ok (.iconst (-1), 1) := by decide +kernel
theorem dX8_more_23 : decode cX8_more 23 = .ok (.ireturn, 1) := by decide +kernel
theorem dX8_more_24 : decode cX8_more 24 = .ok (.aload_n 0, 1) := by decide +kernel
theorem dX8_more_25 : decode cX8_more 25 = .ok (.getfield 10, 3) := by decide +kernel
theorem dX8_more_28 : decode cX8_more 28 = .ok (.getfield 114, 3) := by decide +kernel
theorem dX8_more_31 : decode cX8_more 31 = .ok (.iload_n 1, 1) := by decide +kernel
theorem dX8_more_32 : decode cX8_more 32 = .ok (.aaload, 1) := by decide +kernel
theorem dX8_more_33 : decode cX8_more 33 = .ok (.astore_n 3, 1) := by decide +kernel
theorem dX8_more_34 : decode cX8_more 34 = .ok (.aload_n 3, 1) := by decide +kernel
theorem dX8_more_35 : decode cX8_more 35 = .ok (.iload_n 2, 1) := by decide +kernel
theorem dX8_more_36 : decode cX8_more 36 = .ok (.invokevirtual 146, 3) := by decide +kernel
theorem dX8_more_39 : decode cX8_more 39 = .ok (.ifCond .eq 5, 3) := by decide +kernel
theorem dX8_more_42 : decode cX8_more 42 = .ok (.iconst (-1), 1) := by decide +kernel
theorem dX8_more_43 : decode cX8_more 43 = .ok (.ireturn, 1) := by decide +kernel
theorem dX8_more_44 : decode cX8_more 44 = .ok (.aload_n 3, 1) := by decide +kernel
theorem dX8_more_45 : decode cX8_more 45 = .ok (.getfield 149, 3) := by decide +kernel
theorem dX8_more_48 : decode cX8_more 48 = .ok (.ifCond .ne 10, 3) := by decide +kernel
theorem dX8_more_51 : decode cX8_more 51 = .ok (.aload_n 3, 1) := by decide +kernel
theorem dX8_more_52 : decode cX8_more 52 = .ok (.getfield 152, 3) := by decide +kernel
theorem dX8_more_55 : decode cX8_more 55 = .ok (.ifCond .lt 6, 3) := by decide +kernel
theorem dX8_more_58 : decode cX8_more 58 = .ok (.bipush (-3), 2) := by decide +kernel
theorem dX8_more_60 : decode cX8_more 60 = .ok (.ireturn, 1) := by decide +kernel
theorem dX8_more_61 : decode cX8_more 61 = .ok (.aload_n 3, 1) := by decide +kernel
theorem dX8_more_62 : decode cX8_more 62 = .ok (.getfield 155, 3) := by decide +kernel
theorem dX8_more_65 : decode cX8_more 65 = .ok (.iconst 4, 1) := by decide +kernel
theorem dX8_more_66 : decode cX8_more 66 = .ok (.if_icmp .lt 6, 3) := by decide +kernel
theorem dX8_more_69 : decode cX8_more 69 = .ok (.bipush (-2), 2) := by decide +kernel
theorem dX8_more_71 : decode cX8_more 71 = .ok (.ireturn, 1) := by decide +kernel
theorem dX8_more_72 : decode cX8_more 72 = .ok (.aload_n 3, 1) := by decide +kernel
theorem dX8_more_73 : decode cX8_more 73 = .ok (.iload_n 2, 1) := by decide +kernel
theorem dX8_more_74 : decode cX8_more 74 = .ok (.invokevirtual 136, 3) := by decide +kernel
theorem dX8_more_77 : decode cX8_more 77 = .ok (.aload_n 3, 1) := by decide +kernel
theorem dX8_more_78 : decode cX8_more 78 = .ok (.getfield 155, 3) := by decide +kernel
theorem dX8_more_81 : decode cX8_more 81 = .ok (.ireturn, 1) := by decide +kernel
theorem dX8_may_0 : decode cX8_may 0 = .ok (.aload_n 0, 1) := by decide +kernel
theorem dX8_may_1 : decode cX8_may 1 = .ok (.iload_n 1, 1) := by decide +kernel
theorem dX8_may_2 : decode cX8_may 2 = .ok (.iload_n 2, 1) := by decide +kernel
theorem dX8_may_3 : decode cX8_may 3 = .ok (.invokevirtual 158, 3) := by decide +kernel
theorem dX8_may_6 : decode cX8_may 6 = .ok (.istore_n 3, 1) := by decide +kernel
theorem dX8_may_7 : decode cX8_may 7 = .ok (.iload_n 3, 1) := by decide +kernel
theorem dX8_may_8 : decode cX8_may 8 = .ok (.ifCond .eq 7, 3) := by decide +kernel
theorem dX8_may_11 : decode cX8_may 11 = .ok (.iload_n 3, 1) := by decide +kernel
theorem dX8_may_12 : decode cX8_may 12 = .ok (.goto 17, 3) := by decide +kernel
theorem dX8_may_15 : decode cX8_may 15 = .ok (.aload_n 0, 1) := by decide +kernel
theorem dX8_may_16 : decode cX8_may 16 = .ok (.aload_n 0, 1) := by decide +kernel
theorem dX8_may_17 : decode cX8_may 17 = .ok (.getfield 10, 3) := by decide +kernel
theorem dX8_may_20 : decode cX8_may 20 = .ok (.getfield 114, 3) := by decide +kernel
theorem dX8_may_23 : decode cX8_may 23 = .ok (.iload_n 1, 1) := by decide +kernel
theorem dX8_may_24 : decode cX8_may 24 = .ok (.aaload, 1) := by decide +kernel
theorem dX8_may_25 : decode cX8_may 25 = .ok (.iload_n 2, 1) := by decide +kernel
theorem dX8_may_26 : decode cX8_may 26 = .ok (.invokevirtual 162, 3) := by decide +kernel
theorem dX8_may_29 : decode cX8_may 29 = .ok (.ireturn, 1) := by decide +kernel
theorem dX8_why_0 : decode cX8_why 0 = .ok (.aload_n 0, 1) := by decide +kernel
theorem dX8_why_1 : decode cX8_why 1 = .ok (.getfield 166, 3) := by decide +kernel
theorem dX8_why_4 : decode cX8_why 4 = .ok (.ifCond .eq 12, 3) := by decide +kernel
theorem dX8_why_7 : decode cX8_why 7 = .ok (.iload_n 1, 1) := by decide +kernel
theorem dX8_why_8 : decode cX8_why 8 = .ok (.iconst 0, 1) := by decide +kernel
theorem dX8_why_9 : decode cX8_why 9 = .ok (.iconst 1, 1) := by decide +kernel
theorem dX8_why_10 : decode cX8_why 10 = .ok (.invokestatic 54, 3) := by decide +kernel
theorem dX8_why_13 : decode cX8_why 13 = .ok (.ifCond .ne 5, 3) := by decide +kernel
theorem dX8_why_16 : decode cX8_why 16 = .ok (.iconst (-1), 1) := by decide +kernel
theorem dX8_why_17 : decode cX8_why 17 = .ok (.ireturn, 1) := by decide +kernel
theorem dX8_why_18 : decode cX8_why 18 = .ok (.iload_n 1, 1) := by decide +kernel
theorem dX8_why_19 : decode cX8_why 19 = .ok (.ifCond .ne 10, 3) := by decide +kernel
theorem dX8_why_22 : decode cX8_why 22 = .ok (.aload_n 0, 1) := by decide +kernel
theorem dX8_why_23 : decode cX8_why 23 = .ok (.getfield 170, 3) := by decide +kernel
theorem dX8_why_26 : decode cX8_why 26 = .ok (.goto 7, 3) := by decide +kernel
theorem dX8_why_29 : decode cX8_why 29 = .ok (.aload_n 0, 1) := by decide +kernel
theorem dX8_why_30 : decode cX8_why 30 = .ok (.getfield 173, 3) := by decide +kernel
theorem dX8_why_33 : decode cX8_why 33 = .ok (.ireturn, 1) := by decide +kernel
theorem dX8_first_0 : decode cX8_first 0 = .ok (.iload_n 3, 1) := by decide +kernel
theorem dX8_first_1 : decode cX8_first 1 = .ok (.iconst 1, 1) := by decide +kernel
theorem dX8_first_2 : decode cX8_first 2 = .ok (.sipush 200, 3) := by decide +kernel
theorem dX8_first_5 : decode cX8_first 5 = .ok (.invokestatic 54, 3) := by decide +kernel
theorem dX8_first_8 : decode cX8_first 8 = .ok (.ifCond .ne 5, 3) := by decide +kernel
theorem dX8_first_11 : decode cX8_first 11 = .ok (.iconst (-1), 1) := by decide +kernel
theorem dX8_first_12 : decode cX8_first 12 = .ok (.ireturn, 1) := by decide +kernel
theorem dX8_first_13 : decode cX8_first 13 = .ok (.aload_n 0, 1) := by decide +kernel
theorem dX8_first_14 : decode cX8_first 14 = .ok (.iload_n 1, 1) := by decide +kernel
theorem dX8_first_15 : decode cX8_first 15 = .ok (.iload_n 2, 1) := by decide +kernel
theorem dX8_first_16 : decode cX8_first 16 = .ok (.invokevirtual 158, 3) := by decide +kernel
theorem dX8_first_19 : decode cX8_first 19 = .ok (.istore 4, 2) := by decide +kernel
theorem dX8_first_21 : decode cX8_first 21 = .ok (.iload 4, 2) := by decide +kernel
theorem dX8_first_23 : decode cX8_first 23 = .ok (.ifCond .eq 6, 3) := by decide +kernel
theorem dX8_first_26 : decode cX8_first 26 = .ok (.iload 4, 2) := by decide +kernel
theorem dX8_first_28 : decode cX8_first 28 = .ok (.ireturn, 1) := by decide +kernel
theorem dX8_first_29 : decode cX8_first 29 = .ok (.aload_n 0, 1) := by decide +kernel
theorem dX8_first_30 : decode cX8_first 30 = .ok (.getfield 10, 3) := by decide +kernel
theorem dX8_first_33 : decode cX8_first 33 = .ok (.getfield 114, 3) := by decide +kernel
theorem dX8_first_36 : decode cX8_first 36 = .ok (.iload_n 1, 1) := by decide +kernel
theorem dX8_first_37 : decode cX8_first 37 = .ok (.aaload, 1) := by decide +kernel
theorem dX8_first_38 : decode cX8_first 38 = .ok (.astore 5, 2) := by decide +kernel
theorem dX8_first_40 : decode cX8_first 40 = .ok (.aload_n 0, 1) := by decide +kernel
theorem dX8_first_41 : decode cX8_first 41 = .ok (.aload 5, 2) := by decide +kernel
theorem dX8_first_43 : decode cX8_first 43 = .ok (.iload_n 2, 1) := by decide +kernel
theorem dX8_first_44 : decode cX8_first 44 = .ok (.invokevirtual 162, 3) := by decide +kernel
theorem dX8_first_47 : decode cX8_first 47 = .ok (.ifCond .ne 5, 3) := by decide +kernel
theorem dX8_first_50 : decode cX8_first 50 = .ok (.iload_n 2, 1) := by decide +kernel
theorem dX8_first_51 : decode cX8_first 51 = .ok (.ireturn, 1) := by decide +kernel
theorem dX8_first_52 : decode cX8_first 52 = .ok (.iload_n 2, 1) := by decide +kernel
theorem dX8_first_53 : decode cX8_first 53 = .ok (.iconst 1, 1) := by decide +kernel
theorem dX8_first_54 : decode cX8_first 54 = .ok (.iadd, 1) := by decide +kernel
theorem dX8_first_55 : decode cX8_first 55 = .ok (.istore 6, 2) := by decide +kernel
theorem dX8_first_57 : decode cX8_first 57 = .ok (.iload 6, 2) := by decide +kernel
theorem dX8_first_59 : decode cX8_first 59 = .ok (.iload_n 2, 1) := by decide +kernel
theorem dX8_first_60 : decode cX8_first 60 = .ok (.iload_n 3, 1) := by decide +kernel
theorem dX8_first_61 : decode cX8_first 61 = .ok (.iadd, 1) := by decide +kernel
theorem dX8_first_62 : decode cX8_first 62 = .ok (.if_icmp .ge 35, 3) := by decide +kernel
theorem dX8_first_65 : decode cX8_first 65 = .ok (.iload 6, 2) := by decide +kernel
theorem dX8_first_67 : decode cX8_first 67 = .ok (.sipush 399, 3) := by decide +kernel
theorem dX8_first_70 : decode cX8_first 70 = .ok (.if_icmp .gt 27, 3) := by decide +kernel
theorem dX8_first_73 : decode cX8_first 73 = .ok (.aload_n 0, 1) := by decide +kernel
theorem dX8_first_74 : decode cX8_first 74 = .ok (.getfield 37, 3) := by decide +kernel
theorem dX8_first_77 : decode cX8_first 77 = .ok (.aload 5, 2) := by decide +kernel
theorem dX8_first_79 : decode cX8_first 79 = .ok (.iload 6, 2) := by decide +kernel
theorem dX8_first_81 : decode cX8_first 81 = .ok (.iconst 1, 1) := by decide +kernel
theorem dX8_first_82 : decode cX8_first 82 = .ok (.invokevirtual 176, 3) := by decide +kernel
theorem dX8_first_85 : decode cX8_first 85 = .ok (.ifCond .ne 6, 3) := by decide +kernel
theorem dX8_first_88 : decode cX8_first 88 = .ok (.iload 6, 2) := by decide +kernel
theorem dX8_first_90 : decode cX8_first 90 = .ok (.ireturn, 1) := by decide +kernel
theorem dX8_first_91 : decode cX8_first 91 = .ok (.iinc 6 1, 3) := by decide +kernel
theorem dX8_first_94 : decode cX8_first 94 = .ok (.goto (-37), 3) := by decide +kernel
theorem dX8_first_97 : decode cX8_first 97 = .ok (.bipush (-5), 2) := by decide +kernel
theorem dX8_first_99 : decode cX8_first 99 = .ok (.ireturn, 1) := by decide +kernel
theorem dX8_permit_0 : decode cX8_permit 0 = .ok (.aload_n 0, 1) := by decide +kernel
theorem dX8_permit_1 : decode cX8_permit 1 = .ok (.iload_n 1, 1) := by decide +kernel
theorem dX8_permit_2 : decode cX8_permit 2 = .ok (.iload_n 2, 1) := by decide +kernel
theorem dX8_permit_3 : decode cX8_permit 3 = .ok (.invokevirtual 158, 3) := by decide +kernel
theorem dX8_permit_6 : decode cX8_permit 6 = .ok (.istore_n 3, 1) := by decide +kernel
theorem dX8_permit_7 : decode cX8_permit 7 = .ok (.iload_n 3, 1) := by decide +kernel
theorem dX8_permit_8 : decode cX8_permit 8 = .ok (.ifCond .eq 5, 3) := by decide +kernel
theorem dX8_permit_11 : decode cX8_permit 11 = .ok (.iload_n 3, 1) := by decide +kernel
theorem dX8_permit_12 : decode cX8_permit 12 = .ok (.ireturn, 1) := by decide +kernel
theorem dX8_permit_13 : decode cX8_permit 13 = .ok (.aload_n 0, 1) := by decide +kernel
theorem dX8_permit_14 : decode cX8_permit 14 = .ok (.aload_n 0, 1) := by decide +kernel
theorem dX8_permit_15 : decode cX8_permit 15 = .ok (.getfield 10, 3) := by decide +kernel
theorem dX8_permit_18 : decode cX8_permit 18 = .ok (.getfield 114, 3) := by decide +kernel
theorem dX8_permit_21 : decode cX8_permit 21 = .ok (.iload_n 1, 1) := by decide +kernel
theorem dX8_permit_22 : decode cX8_permit 22 = .ok (.aaload, 1) := by decide +kernel
theorem dX8_permit_23 : decode cX8_permit 23 = .ok (.iload_n 2, 1) := by decide +kernel
theorem dX8_permit_24 : decode cX8_permit 24 = .ok (.invokevirtual 162, 3) := by decide +kernel
theorem dX8_permit_27 : decode cX8_permit 27 = .ok (.istore 4, 2) := by decide +kernel
theorem dX8_permit_29 : decode cX8_permit 29 = .ok (.iload 4, 2) := by decide +kernel
theorem dX8_permit_31 : decode cX8_permit 31 = .ok (.ifCond .eq 9, 3) := by decide +kernel
theorem dX8_permit_34 : decode cX8_permit 34 = .ok (.bipush (-10), 2) := by decide +kernel
theorem dX8_permit_36 : decode cX8_permit 36 = .ok (.iload 4, 2) := by decide +kernel
theorem dX8_permit_38 : decode cX8_permit 38 = .ok (.isub, 1) := by decide +kernel
theorem dX8_permit_39 : decode cX8_permit 39 = .ok (.ireturn, 1) := by decide +kernel
theorem dX8_permit_40 : decode cX8_permit 40 = .ok (.aload_n 0, 1) := by decide +kernel
theorem dX8_permit_41 : decode cX8_permit 41 = .ok (.getfield 10, 3) := by decide +kernel
theorem dX8_permit_44 : decode cX8_permit 44 = .ok (.aload_n 0, 1) := by decide +kernel
theorem dX8_permit_45 : decode cX8_permit 45 = .ok (.getfield 10, 3) := by decide +kernel
theorem dX8_permit_48 : decode cX8_permit 48 = .ok (.getfield 114, 3) := by decide +kernel
theorem dX8_permit_51 : decode cX8_permit 51 = .ok (.iload_n 1, 1) := by decide +kernel
theorem dX8_permit_52 : decode cX8_permit 52 = .ok (.aaload, 1) := by decide +kernel
theorem dX8_permit_53 : decode cX8_permit 53 = .ok (.iload_n 2, 1) := by decide +kernel
theorem dX8_permit_54 : decode cX8_permit 54 = .ok (.invokevirtual 180, 3) := by decide +kernel
theorem dX8_permit_57 : decode cX8_permit 57 = .ok (.iconst 0, 1) := by decide +kernel
theorem dX8_permit_58 : decode cX8_permit 58 = .ok (.ireturn, 1) := by decide +kernel
theorem dX8_withdraw_0 : decode cX8_withdraw 0 = .ok (.aload_n 0, 1) := by decide +kernel
theorem dX8_withdraw_1 : decode cX8_withdraw 1 = .ok (.getfield 10, 3) := by decide +kernel
theorem dX8_withdraw_4 : decode cX8_withdraw 4 = .ok (.iload_n 1, 1) := by decide +kernel
theorem dX8_withdraw_5 : decode cX8_withdraw 5 = .ok (.invokevirtual 143, 3) := by decide +kernel
theorem dX8_withdraw_8 : decode cX8_withdraw 8 = .ok (.ifCond .ne 5, 3) := by decide +kernel
theorem dX8_withdraw_11 : decode cX8_withdraw 11 = .ok (.iconst (-1), 1) := by decide +kernel
theorem dX8_withdraw_12 : decode cX8_withdraw 12 = .ok (.ireturn, 1) := by decide +kernel
theorem dX8_withdraw_13 : decode cX8_withdraw 13 = .ok (.aload_n 0, 1) := by decide +kernel
theorem dX8_withdraw_14 : decode cX8_withdraw 14 = .ok (.getfield 10, 3) := by decide +kernel
theorem dX8_withdraw_17 : decode cX8_withdraw 17 = .ok (.getfield 114, 3) := by decide +kernel
theorem dX8_withdraw_20 : decode cX8_withdraw 20 = .ok (.iload_n 1, 1) := by decide +kernel
theorem dX8_withdraw_21 : decode cX8_withdraw 21 = .ok (.aaload, 1) := by decide +kernel
theorem dX8_withdraw_22 : decode cX8_withdraw 22 = .ok (.invokevirtual 184, 3) := by decide +kernel
theorem dX8_withdraw_25 : decode cX8_withdraw 25 = .ok (.ifCond .ne 6, 3) := by decide +kernel
theorem dX8_withdraw_28 : decode cX8_withdraw 28 = .ok (.bipush (-3), 2) := by decide +kernel
theorem dX8_withdraw_30 : decode cX8_withdraw 30 = .ok (.ireturn, 1) := by decide +kernel
theorem dX8_withdraw_31 : decode cX8_withdraw 31 = .ok (.aload_n 0, 1) := by decide +kernel
theorem dX8_withdraw_32 : decode cX8_withdraw 32 = .ok (.getfield 10, 3) := by decide +kernel
theorem dX8_withdraw_35 : decode cX8_withdraw 35 = .ok (.aload_n 0, 1) := by decide +kernel
theorem dX8_withdraw_36 : decode cX8_withdraw 36 = .ok (.getfield 10, 3) := by decide +kernel
theorem dX8_withdraw_39 : decode cX8_withdraw 39 = .ok (.getfield 114, 3) := by decide +kernel
theorem dX8_withdraw_42 : decode cX8_withdraw 42 = .ok (.iload_n 1, 1) := by decide +kernel
theorem dX8_withdraw_43 : decode cX8_withdraw 43 = .ok (.aaload, 1) := by decide +kernel
theorem dX8_withdraw_44 : decode cX8_withdraw 44 = .ok (.invokevirtual 188, 3) := by decide +kernel
theorem dX8_withdraw_47 : decode cX8_withdraw 47 = .ok (.iconst 1, 1) := by decide +kernel
theorem dX8_withdraw_48 : decode cX8_withdraw 48 = .ok (.ireturn, 1) := by decide +kernel
theorem dX8_day_0 : decode cX8_day 0 = .ok (.iload_n 1, 1) := by decide +kernel
theorem dX8_day_1 : decode cX8_day 1 = .ok (.iconst 1, 1) := by decide +kernel
theorem dX8_day_2 : decode cX8_day 2 = .ok (.bipush 100, 2) := by decide +kernel
theorem dX8_day_4 : decode cX8_day 4 = .ok (.invokestatic 54, 3) := by decide +kernel
theorem dX8_day_7 : decode cX8_day 7 = .ok (.ifCond .eq 18, 3) := by decide +kernel
theorem dX8_day_10 : decode cX8_day 10 = .ok (.aload_n 0, 1) := by decide +kernel
theorem dX8_day_11 : decode cX8_day 11 = .ok (.getfield 10, 3) := by decide +kernel
theorem dX8_day_14 : decode cX8_day 14 = .ok (.getfield 192, 3) := by decide +kernel
theorem dX8_day_17 : decode cX8_day 17 = .ok (.iload_n 1, 1) := by decide +kernel
theorem dX8_day_18 : decode cX8_day 18 = .ok (.iadd, 1) := by decide +kernel
theorem dX8_day_19 : decode cX8_day 19 = .ok (.sipush 399, 3) := by decide +kernel
theorem dX8_day_22 : decode cX8_day 22 = .ok (.if_icmp .le 5, 3) := by decide +kernel
theorem dX8_day_25 : decode cX8_day 25 = .ok (.iconst (-1), 1) := by decide +kernel
theorem dX8_day_26 : decode cX8_day 26 = .ok (.ireturn, 1) := by decide +kernel
theorem dX8_day_27 : decode cX8_day 27 = .ok (.iconst 0, 1) := by decide +kernel
theorem dX8_day_28 : decode cX8_day 28 = .ok (.istore_n 2, 1) := by decide +kernel
theorem dX8_day_29 : decode cX8_day 29 = .ok (.iload_n 2, 1) := by decide +kernel
theorem dX8_day_30 : decode cX8_day 30 = .ok (.iload_n 1, 1) := by decide +kernel
theorem dX8_day_31 : decode cX8_day 31 = .ok (.if_icmp .ge 16, 3) := by decide +kernel
theorem dX8_day_34 : decode cX8_day 34 = .ok (.aload_n 0, 1) := by decide +kernel
theorem dX8_day_35 : decode cX8_day 35 = .ok (.getfield 10, 3) := by decide +kernel
theorem dX8_day_38 : decode cX8_day 38 = .ok (.invokevirtual 195, 3) := by decide +kernel
theorem dX8_day_41 : decode cX8_day 41 = .ok (.iinc 2 1, 3) := by decide +kernel
theorem dX8_day_44 : decode cX8_day 44 = .ok (.goto (-15), 3) := by decide +kernel
theorem dX8_day_47 : decode cX8_day 47 = .ok (.aload_n 0, 1) := by decide +kernel
theorem dX8_day_48 : decode cX8_day 48 = .ok (.getfield 10, 3) := by decide +kernel
theorem dX8_day_51 : decode cX8_day 51 = .ok (.getfield 192, 3) := by decide +kernel
theorem dX8_day_54 : decode cX8_day 54 = .ok (.ireturn, 1) := by decide +kernel
theorem dX8_over_0 : decode cX8_over 0 = .ok (.aload_n 0, 1) := by decide +kernel
theorem dX8_over_1 : decode cX8_over 1 = .ok (.getfield 10, 3) := by decide +kernel
theorem dX8_over_4 : decode cX8_over 4 = .ok (.iload_n 1, 1) := by decide +kernel
theorem dX8_over_5 : decode cX8_over 5 = .ok (.invokevirtual 143, 3) := by decide +kernel
theorem dX8_over_8 : decode cX8_over 8 = .ok (.ifCond .eq 13, 3) := by decide +kernel
theorem dX8_over_11 : decode cX8_over 11 = .ok (.iload_n 2, 1) := by decide +kernel
theorem dX8_over_12 : decode cX8_over 12 = .ok (.iconst 1, 1) := by decide +kernel
theorem dX8_over_13 : decode cX8_over 13 = .ok (.bipush 30, 2) := by decide +kernel
theorem dX8_over_15 : decode cX8_over 15 = .ok (.invokestatic 54, 3) := by decide +kernel
theorem dX8_over_18 : decode cX8_over 18 = .ok (.ifCond .ne 5, 3) := by decide +kernel
theorem dX8_over_21 : decode cX8_over 21 = .ok (.iconst (-1), 1) := by decide +kernel
theorem dX8_over_22 : decode cX8_over 22 = .ok (.ireturn, 1) := by decide +kernel
theorem dX8_over_23 : decode cX8_over 23 = .ok (.aload_n 0, 1) := by decide +kernel
theorem dX8_over_24 : decode cX8_over 24 = .ok (.getfield 10, 3) := by decide +kernel
theorem dX8_over_27 : decode cX8_over 27 = .ok (.getfield 114, 3) := by decide +kernel
theorem dX8_over_30 : decode cX8_over 30 = .ok (.iload_n 1, 1) := by decide +kernel
theorem dX8_over_31 : decode cX8_over 31 = .ok (.aaload, 1) := by decide +kernel
theorem dX8_over_32 : decode cX8_over 32 = .ok (.astore_n 3, 1) := by decide +kernel
theorem dX8_over_33 : decode cX8_over 33 = .ok (.aload_n 3, 1) := by decide +kernel
theorem dX8_over_34 : decode cX8_over 34 = .ok (.getfield 149, 3) := by decide +kernel
theorem dX8_over_37 : decode cX8_over 37 = .ok (.iconst 2, 1) := by decide +kernel
theorem dX8_over_38 : decode cX8_over 38 = .ok (.if_icmp .eq 6, 3) := by decide +kernel
theorem dX8_over_41 : decode cX8_over 41 = .ok (.bipush (-3), 2) := by decide +kernel
theorem dX8_over_43 : decode cX8_over 43 = .ok (.ireturn, 1) := by decide +kernel
theorem dX8_over_44 : decode cX8_over 44 = .ok (.sipush 399, 3) := by decide +kernel
theorem dX8_over_47 : decode cX8_over 47 = .ok (.aload_n 3, 1) := by decide +kernel
theorem dX8_over_48 : decode cX8_over 48 = .ok (.getfield 198, 3) := by decide +kernel
theorem dX8_over_51 : decode cX8_over 51 = .ok (.iload_n 2, 1) := by decide +kernel
theorem dX8_over_52 : decode cX8_over 52 = .ok (.iadd, 1) := by decide +kernel
theorem dX8_over_53 : decode cX8_over 53 = .ok (.invokestatic 201, 3) := by decide +kernel
theorem dX8_over_56 : decode cX8_over 56 = .ok (.istore 4, 2) := by decide +kernel
theorem dX8_over_58 : decode cX8_over 58 = .ok (.aload_n 3, 1) := by decide +kernel
theorem dX8_over_59 : decode cX8_over 59 = .ok (.dup, 1) := by decide +kernel
theorem dX8_over_60 : decode cX8_over 60 = .ok (.getfield 206, 3) := by decide +kernel
theorem dX8_over_63 : decode cX8_over 63 = .ok (.iload 4, 2) := by decide +kernel
theorem dX8_over_65 : decode cX8_over 65 = .ok (.aload_n 3, 1) := by decide +kernel
theorem dX8_over_66 : decode cX8_over 66 = .ok (.getfield 198, 3) := by decide +kernel
theorem dX8_over_69 : decode cX8_over 69 = .ok (.isub, 1) := by decide +kernel
theorem dX8_over_70 : decode cX8_over 70 = .ok (.iadd, 1) := by decide +kernel
theorem dX8_over_71 : decode cX8_over 71 = .ok (.putfield 206, 3) := by decide +kernel
theorem dX8_over_74 : decode cX8_over 74 = .ok (.aload_n 3, 1) := by decide +kernel
theorem dX8_over_75 : decode cX8_over 75 = .ok (.iload 4, 2) := by decide +kernel
theorem dX8_over_77 : decode cX8_over 77 = .ok (.putfield 198, 3) := by decide +kernel
theorem dX8_over_80 : decode cX8_over 80 = .ok (.aload_n 0, 1) := by decide +kernel
theorem dX8_over_81 : decode cX8_over 81 = .ok (.getfield 46, 3) := by decide +kernel
theorem dX8_over_84 : decode cX8_over 84 = .ok (.invokevirtual 209, 3) := by decide +kernel
theorem dX8_over_87 : decode cX8_over 87 = .ok (.ireturn, 1) := by decide +kernel
theorem dX8_crash_0 : decode cX8_crash 0 = .ok (.aload_n 0, 1) := by decide +kernel
theorem dX8_crash_1 : decode cX8_crash 1 = .ok (.getfield 10, 3) := by decide +kernel
theorem dX8_crash_4 : decode cX8_crash 4 = .ok (.iload_n 1, 1) := by decide +kernel
theorem dX8_crash_5 : decode cX8_crash 5 = .ok (.invokevirtual 143, 3) := by decide +kernel
theorem dX8_crash_8 : decode cX8_crash 8 = .ok (.ifCond .ne 5, 3) := by decide +kernel
theorem dX8_crash_11 : decode cX8_crash 11 = .ok (.iconst (-1), 1) := by decide +kernel
theorem dX8_crash_12 : decode cX8_crash 12 = .ok (.ireturn, 1) := by decide +kernel
theorem dX8_crash_13 : decode cX8_crash 13 = .ok (.aload_n 0, 1) := by decide +kernel
theorem dX8_crash_14 : decode cX8_crash 14 = .ok (.getfield 10, 3) := by decide +kernel
theorem dX8_crash_17 : decode cX8_crash 17 = .ok (.getfield 114, 3) := by decide +kernel
theorem dX8_crash_20 : decode cX8_crash 20 = .ok (.iload_n 1, 1) := by decide +kernel
theorem dX8_crash_21 : decode cX8_crash 21 = .ok (.aaload, 1) := by decide +kernel
theorem dX8_crash_22 : decode cX8_crash 22 = .ok (.astore_n 2, 1) := by decide +kernel
theorem dX8_crash_23 : decode cX8_crash 23 = .ok (.aload_n 2, 1) := by decide +kernel
theorem dX8_crash_24 : decode cX8_crash 24 = .ok (.getfield 123, 3) := by decide +kernel
theorem dX8_crash_27 : decode cX8_crash 27 = .ok (.iconst 2, 1) := by decide +kernel
theorem dX8_crash_28 : decode cX8_crash 28 = .ok (.if_icmp .ne 10, 3) := by decide +kernel
theorem dX8_crash_31 : decode cX8_crash 31 = .ok (.aload_n 2, 1) := by decide +kernel
theorem dX8_crash_32 : decode cX8_crash 32 = .ok (.getfield 149, 3) := by decide +kernel
theorem dX8_crash_35 : decode cX8_crash 35 = .ok (.ifCond .eq 6, 3) := by decide +kernel
theorem dX8_crash_38 : decode cX8_crash 38 = .ok (.bipush (-3), 2) := by decide +kernel
theorem dX8_crash_40 : decode cX8_crash 40 = .ok (.ireturn, 1) := by decide +kernel
theorem dX8_crash_41 : decode cX8_crash 41 = .ok (.aload_n 0, 1) := by decide +kernel
theorem dX8_crash_42 : decode cX8_crash 42 = .ok (.getfield 10, 3) := by decide +kernel
theorem dX8_crash_45 : decode cX8_crash 45 = .ok (.aload_n 2, 1) := by decide +kernel
theorem dX8_crash_46 : decode cX8_crash 46 = .ok (.aload_n 0, 1) := by decide +kernel
theorem dX8_crash_47 : decode cX8_crash 47 = .ok (.getfield 10, 3) := by decide +kernel
theorem dX8_crash_50 : decode cX8_crash 50 = .ok (.getfield 192, 3) := by decide +kernel
theorem dX8_crash_53 : decode cX8_crash 53 = .ok (.invokevirtual 180, 3) := by decide +kernel
theorem dX8_crash_56 : decode cX8_crash 56 = .ok (.aload_n 0, 1) := by decide +kernel
theorem dX8_crash_57 : decode cX8_crash 57 = .ok (.getfield 46, 3) := by decide +kernel
theorem dX8_crash_60 : decode cX8_crash 60 = .ok (.invokevirtual 209, 3) := by decide +kernel
theorem dX8_crash_63 : decode cX8_crash 63 = .ok (.ireturn, 1) := by decide +kernel
theorem dX8_join_0 : decode cX8_join 0 = .ok (.aload_n 0, 1) := by decide +kernel
theorem dX8_join_1 : decode cX8_join 1 = .ok (.getfield 10, 3) := by decide +kernel
theorem dX8_join_4 : decode cX8_join 4 = .ok (.iload_n 1, 1) := by decide +kernel
theorem dX8_join_5 : decode cX8_join 5 = .ok (.invokevirtual 143, 3) := by decide +kernel
theorem dX8_join_8 : decode cX8_join 8 = .ok (.ifCond .eq 19, 3) := by decide +kernel
theorem dX8_join_11 : decode cX8_join 11 = .ok (.aload_n 0, 1) := by decide +kernel
theorem dX8_join_12 : decode cX8_join 12 = .ok (.getfield 10, 3) := by decide +kernel
theorem dX8_join_15 : decode cX8_join 15 = .ok (.iload_n 2, 1) := by decide +kernel
theorem dX8_join_16 : decode cX8_join 16 = .ok (.invokevirtual 143, 3) := by decide +kernel
theorem dX8_join_19 : decode cX8_join 19 = .ok (.ifCond .eq 8, 3) := by decide +kernel
theorem dX8_join_22 : decode cX8_join 22 = .ok (.iload_n 1, 1) := by decide +kernel
theorem dX8_join_23 : decode cX8_join 23 = .ok (.iload_n 2, 1) := by decide +kernel
theorem dX8_join_24 : decode cX8_join 24 = .ok (.if_icmp .ne 5, 3) := by decide +kernel
theorem dX8_join_27 : decode cX8_join 27 = .ok (.iconst (-1), 1) := by decide +kernel
theorem dX8_join_28 : decode cX8_join 28 = .ok (.ireturn, 1) := by decide +kernel
theorem dX8_join_29 : decode cX8_join 29 = .ok (.aload_n 0, 1) := by decide +kernel
theorem dX8_join_30 : decode cX8_join 30 = .ok (.getfield 10, 3) := by decide +kernel
theorem dX8_join_33 : decode cX8_join 33 = .ok (.getfield 114, 3) := by decide +kernel
theorem dX8_join_36 : decode cX8_join 36 = .ok (.iload_n 1, 1) := by decide +kernel
theorem dX8_join_37 : decode cX8_join 37 = .ok (.aaload, 1) := by decide +kernel
theorem dX8_join_38 : decode cX8_join 38 = .ok (.astore_n 3, 1) := by decide +kernel
theorem dX8_join_39 : decode cX8_join 39 = .ok (.aload_n 0, 1) := by decide +kernel
theorem dX8_join_40 : decode cX8_join 40 = .ok (.getfield 10, 3) := by decide +kernel
theorem dX8_join_43 : decode cX8_join 43 = .ok (.getfield 114, 3) := by decide +kernel
theorem dX8_join_46 : decode cX8_join 46 = .ok (.iload_n 2, 1) := by decide +kernel
theorem dX8_join_47 : decode cX8_join 47 = .ok (.aaload, 1) := by decide +kernel
theorem dX8_join_48 : decode cX8_join 48 = .ok (.astore 4, 2) := by decide +kernel
theorem dX8_join_50 : decode cX8_join 50 = .ok (.aload_n 3, 1) := by decide +kernel
theorem dX8_join_51 : decode cX8_join 51 = .ok (.invokevirtual 213, 3) := by decide +kernel
theorem dX8_join_54 : decode cX8_join 54 = .ok (.ifCond .eq 11, 3) := by decide +kernel
theorem dX8_join_57 : decode cX8_join 57 = .ok (.aload 4, 2) := by decide +kernel
theorem dX8_join_59 : decode cX8_join 59 = .ok (.invokevirtual 213, 3) := by decide +kernel
theorem dX8_join_62 : decode cX8_join 62 = .ok (.ifCond .ne 6, 3) := by decide +kernel
theorem dX8_join_65 : decode cX8_join 65 = .ok (.bipush (-3), 2) := by decide +kernel
theorem dX8_join_67 : decode cX8_join 67 = .ok (.ireturn, 1) := by decide +kernel
theorem dX8_join_68 : decode cX8_join 68 = .ok (.aload_n 3, 1) := by decide +kernel
theorem dX8_join_69 : decode cX8_join 69 = .ok (.getfield 118, 3) := by decide +kernel
theorem dX8_join_72 : decode cX8_join 72 = .ok (.aload 4, 2) := by decide +kernel
theorem dX8_join_74 : decode cX8_join 74 = .ok (.getfield 118, 3) := by decide +kernel
theorem dX8_join_77 : decode cX8_join 77 = .ok (.if_icmp .eq 28, 3) := by decide +kernel
theorem dX8_join_80 : decode cX8_join 80 = .ok (.aload_n 3, 1) := by decide +kernel
theorem dX8_join_81 : decode cX8_join 81 = .ok (.getfield 130, 3) := by decide +kernel
theorem dX8_join_84 : decode cX8_join 84 = .ok (.aload 4, 2) := by decide +kernel
theorem dX8_join_86 : decode cX8_join 86 = .ok (.getfield 130, 3) := by decide +kernel
theorem dX8_join_89 : decode cX8_join 89 = .ok (.if_icmp .eq 16, 3) := by decide +kernel
theorem dX8_join_92 : decode cX8_join 92 = .ok (.aload_n 3, 1) := by decide +kernel
theorem dX8_join_93 : decode cX8_join 93 = .ok (.getfield 216, 3) := by decide +kernel
theorem dX8_join_96 : decode cX8_join 96 = .ok (.aload 4, 2) := by decide +kernel
theorem dX8_join_98 : decode cX8_join 98 = .ok (.getfield 216, 3) := by decide +kernel
theorem dX8_join_101 : decode cX8_join 101 = .ok (.lcmp, 1) := by decide +kernel
theorem dX8_join_102 : decode cX8_join 102 = .ok (.ifCond .eq 6, 3) := by decide +kernel
theorem dX8_join_105 : decode cX8_join 105 = .ok (.bipush (-3), 2) := by decide +kernel
theorem dX8_join_107 : decode cX8_join 107 = .ok (.ireturn, 1) := by decide +kernel
theorem dX8_join_108 : decode cX8_join 108 = .ok (.aload_n 3, 1) := by decide +kernel
theorem dX8_join_109 : decode cX8_join 109 = .ok (.iload_n 2, 1) := by decide +kernel
theorem dX8_join_110 : decode cX8_join 110 = .ok (.putfield 152, 3) := by decide +kernel
theorem dX8_join_113 : decode cX8_join 113 = .ok (.aload 4, 2) := by decide +kernel
theorem dX8_join_115 : decode cX8_join 115 = .ok (.iload_n 1, 1) := by decide +kernel
theorem dX8_join_116 : decode cX8_join 116 = .ok (.putfield 152, 3) := by decide +kernel
theorem dX8_join_119 : decode cX8_join 119 = .ok (.iconst 1, 1) := by decide +kernel
theorem dX8_join_120 : decode cX8_join 120 = .ok (.ireturn, 1) := by decide +kernel
theorem dX8_about_0 : decode cX8_about 0 = .ok (.aload_n 0, 1) := by decide +kernel
theorem dX8_about_1 : decode cX8_about 1 = .ok (.getfield 10, 3) := by decide +kernel
theorem dX8_about_4 : decode cX8_about 4 = .ok (.iload_n 1, 1) := by decide +kernel
theorem dX8_about_5 : decode cX8_about 5 = .ok (.invokevirtual 143, 3) := by decide +kernel
theorem dX8_about_8 : decode cX8_about 8 = .ok (.ifCond .ne 6, 3) := by decide +kernel
theorem dX8_about_11 : decode cX8_about 11 = .ok (.bipush (-5), 2) := by decide +kernel
theorem dX8_about_13 : decode cX8_about 13 = .ok (.ireturn, 1) := by decide +kernel
theorem dX8_about_14 : decode cX8_about 14 = .ok (.aload_n 0, 1) := by decide +kernel
theorem dX8_about_15 : decode cX8_about 15 = .ok (.getfield 10, 3) := by decide +kernel
theorem dX8_about_18 : decode cX8_about 18 = .ok (.getfield 114, 3) := by decide +kernel
theorem dX8_about_21 : decode cX8_about 21 = .ok (.iload_n 1, 1) := by decide +kernel
theorem dX8_about_22 : decode cX8_about 22 = .ok (.aaload, 1) := by decide +kernel
theorem dX8_about_23 : decode cX8_about 23 = .ok (.astore_n 3, 1) := by decide +kernel
theorem dX8_about_24 : decode cX8_about 24 = .ok (.iload_n 2, 1) := by decide +kernel
theorem dX8_about_25 : decode cX8_about 25 = .ok (.tableswitch 126 0 10 #[59, 64, 69, 74, 79, 88, 97, 106, 111, 116, 121], 59) := by decide +kernel
theorem dX8_about_84 : decode cX8_about 84 = .ok (.aload_n 3, 1) := by decide +kernel
theorem dX8_about_85 : decode cX8_about 85 = .ok (.getfield 149, 3) := by decide +kernel
theorem dX8_about_88 : decode cX8_about 88 = .ok (.ireturn, 1) := by decide +kernel
theorem dX8_about_89 : decode cX8_about 89 = .ok (.aload_n 3, 1) := by decide +kernel
theorem dX8_about_90 : decode cX8_about 90 = .ok (.getfield 220, 3) := by decide +kernel
theorem dX8_about_93 : decode cX8_about 93 = .ok (.ireturn, 1) := by decide +kernel
theorem dX8_about_94 : decode cX8_about 94 = .ok (.aload_n 3, 1) := by decide +kernel
theorem dX8_about_95 : decode cX8_about 95 = .ok (.getfield 198, 3) := by decide +kernel
theorem dX8_about_98 : decode cX8_about 98 = .ok (.ireturn, 1) := by decide +kernel
theorem dX8_about_99 : decode cX8_about 99 = .ok (.aload_n 3, 1) := by decide +kernel
theorem dX8_about_100 : decode cX8_about 100 = .ok (.getfield 206, 3) := by decide +kernel
theorem dX8_about_103 : decode cX8_about 103 = .ok (.ireturn, 1) := by decide +kernel
theorem dX8_about_104 : decode cX8_about 104 = .ok (.aload_n 0, 1) := by decide +kernel
theorem dX8_about_105 : decode cX8_about 105 = .ok (.getfield 10, 3) := by decide +kernel
theorem dX8_about_108 : decode cX8_about 108 = .ok (.aload_n 3, 1) := by decide +kernel
theorem dX8_about_109 : decode cX8_about 109 = .ok (.invokevirtual 223, 3) := by decide +kernel
theorem dX8_about_112 : decode cX8_about 112 = .ok (.ireturn, 1) := by decide +kernel
theorem dX8_about_113 : decode cX8_about 113 = .ok (.aload_n 0, 1) := by decide +kernel
theorem dX8_about_114 : decode cX8_about 114 = .ok (.getfield 10, 3) := by decide +kernel
theorem dX8_about_117 : decode cX8_about 117 = .ok (.aload_n 3, 1) := by decide +kernel
theorem dX8_about_118 : decode cX8_about 118 = .ok (.invokevirtual 227, 3) := by decide +kernel
theorem dX8_about_121 : decode cX8_about 121 = .ok (.ireturn, 1) := by decide +kernel
theorem dX8_about_122 : decode cX8_about 122 = .ok (.aload_n 0, 1) := by decide +kernel
theorem dX8_about_123 : decode cX8_about 123 = .ok (.getfield 10, 3) := by decide +kernel
theorem dX8_about_126 : decode cX8_about 126 = .ok (.aload_n 3, 1) := by decide +kernel
theorem dX8_about_127 : decode cX8_about 127 = .ok (.invokevirtual 230, 3) := by decide +kernel
theorem dX8_about_130 : decode cX8_about 130 = .ok (.ireturn, 1) := by decide +kernel
theorem dX8_about_131 : decode cX8_about 131 = .ok (.aload_n 3, 1) := by decide +kernel
theorem dX8_about_132 : decode cX8_about 132 = .ok (.invokevirtual 233, 3) := by decide +kernel
theorem dX8_about_135 : decode cX8_about 135 = .ok (.ireturn, 1) := by decide +kernel
theorem dX8_about_136 : decode cX8_about 136 = .ok (.aload_n 3, 1) := by decide +kernel
theorem dX8_about_137 : decode cX8_about 137 = .ok (.getfield 152, 3) := by decide +kernel
theorem dX8_about_140 : decode cX8_about 140 = .ok (.ireturn, 1) := by decide +kernel
theorem dX8_about_141 : decode cX8_about 141 = .ok (.aload_n 3, 1) := by decide +kernel
theorem dX8_about_142 : decode cX8_about 142 = .ok (.getfield 155, 3) := by decide +kernel
theorem dX8_about_145 : decode cX8_about 145 = .ok (.ireturn, 1) := by decide +kernel
theorem dX8_about_146 : decode cX8_about 146 = .ok (.aload_n 3, 1) := by decide +kernel
theorem dX8_about_147 : decode cX8_about 147 = .ok (.getfield 236, 3) := by decide +kernel
theorem dX8_about_150 : decode cX8_about 150 = .ok (.ireturn, 1) := by decide +kernel
theorem dX8_about_151 : decode cX8_about 151 = .ok (.bipush (-5), 2) := by decide +kernel
theorem dX8_about_153 : decode cX8_about 153 = .ok (.ireturn, 1) := by decide +kernel
theorem dX8_lanes_0 : decode cX8_lanes 0 = .ok (.aload_n 0, 1) := by decide +kernel
theorem dX8_lanes_1 : decode cX8_lanes 1 = .ok (.getfield 10, 3) := by decide +kernel
theorem dX8_lanes_4 : decode cX8_lanes 4 = .ok (.iload_n 1, 1) := by decide +kernel
theorem dX8_lanes_5 : decode cX8_lanes 5 = .ok (.invokevirtual 108, 3) := by decide +kernel
theorem dX8_lanes_8 : decode cX8_lanes 8 = .ok (.ifCond .eq 10, 3) := by decide +kernel
theorem dX8_lanes_11 : decode cX8_lanes 11 = .ok (.iload_n 2, 1) := by decide +kernel
theorem dX8_lanes_12 : decode cX8_lanes 12 = .ok (.invokestatic 100, 3) := by decide +kernel
theorem dX8_lanes_15 : decode cX8_lanes 15 = .ok (.ifCond .ne 5, 3) := by decide +kernel
theorem dX8_lanes_18 : decode cX8_lanes 18 = .ok (.iconst (-1), 1) := by decide +kernel
theorem dX8_lanes_19 : decode cX8_lanes 19 = .ok (.ireturn, 1) := by decide +kernel
theorem dX8_lanes_20 : decode cX8_lanes 20 = .ok (.aload_n 0, 1) := by decide +kernel
theorem dX8_lanes_21 : decode cX8_lanes 21 = .ok (.getfield 21, 3) := by decide +kernel
theorem dX8_lanes_24 : decode cX8_lanes 24 = .ok (.invokevirtual 239, 3) := by decide +kernel
theorem dX8_lanes_27 : decode cX8_lanes 27 = .ok (.aload_n 0, 1) := by decide +kernel
theorem dX8_lanes_28 : decode cX8_lanes 28 = .ok (.getfield 21, 3) := by decide +kernel
theorem dX8_lanes_31 : decode cX8_lanes 31 = .ok (.iload_n 2, 1) := by decide +kernel
theorem dX8_lanes_32 : decode cX8_lanes 32 = .ok (.invokevirtual 242, 3) := by decide +kernel
theorem dX8_lanes_35 : decode cX8_lanes 35 = .ok (.pop2, 1) := by decide +kernel
theorem dX8_lanes_36 : decode cX8_lanes 36 = .ok (.aload_n 0, 1) := by decide +kernel
theorem dX8_lanes_37 : decode cX8_lanes 37 = .ok (.getfield 21, 3) := by decide +kernel
theorem dX8_lanes_40 : decode cX8_lanes 40 = .ok (.getfield 246, 3) := by decide +kernel
theorem dX8_lanes_43 : decode cX8_lanes 43 = .ok (.iload_n 1, 1) := by decide +kernel
theorem dX8_lanes_44 : decode cX8_lanes 44 = .ok (.iaload, 1) := by decide +kernel
theorem dX8_lanes_45 : decode cX8_lanes 45 = .ok (.ireturn, 1) := by decide +kernel
theorem dX8_way_0 : decode cX8_way 0 = .ok (.aload_n 0, 1) := by decide +kernel
theorem dX8_way_1 : decode cX8_way 1 = .ok (.getfield 10, 3) := by decide +kernel
theorem dX8_way_4 : decode cX8_way 4 = .ok (.iload_n 1, 1) := by decide +kernel
theorem dX8_way_5 : decode cX8_way 5 = .ok (.invokevirtual 250, 3) := by decide +kernel
theorem dX8_way_8 : decode cX8_way 8 = .ok (.ifCond .eq 10, 3) := by decide +kernel
theorem dX8_way_11 : decode cX8_way 11 = .ok (.iload_n 2, 1) := by decide +kernel
theorem dX8_way_12 : decode cX8_way 12 = .ok (.invokestatic 100, 3) := by decide +kernel
theorem dX8_way_15 : decode cX8_way 15 = .ok (.ifCond .ne 5, 3) := by decide +kernel
theorem dX8_way_18 : decode cX8_way 18 = .ok (.iconst (-1), 1) := by decide +kernel
theorem dX8_way_19 : decode cX8_way 19 = .ok (.ireturn, 1) := by decide +kernel
theorem dX8_way_20 : decode cX8_way 20 = .ok (.aload_n 0, 1) := by decide +kernel
theorem dX8_way_21 : decode cX8_way 21 = .ok (.getfield 21, 3) := by decide +kernel
theorem dX8_way_24 : decode cX8_way 24 = .ok (.invokevirtual 239, 3) := by decide +kernel
theorem dX8_way_27 : decode cX8_way 27 = .ok (.aload_n 0, 1) := by decide +kernel
theorem dX8_way_28 : decode cX8_way 28 = .ok (.getfield 28, 3) := by decide +kernel
theorem dX8_way_31 : decode cX8_way 31 = .ok (.aload_n 0, 1) := by decide +kernel
theorem dX8_way_32 : decode cX8_way 32 = .ok (.getfield 10, 3) := by decide +kernel
theorem dX8_way_35 : decode cX8_way 35 = .ok (.getfield 89, 3) := by decide +kernel
theorem dX8_way_38 : decode cX8_way 38 = .ok (.iload_n 1, 1) := by decide +kernel
theorem dX8_way_39 : decode cX8_way 39 = .ok (.aaload, 1) := by decide +kernel
theorem dX8_way_40 : decode cX8_way 40 = .ok (.aload_n 0, 1) := by decide +kernel
theorem dX8_way_41 : decode cX8_way 41 = .ok (.getfield 21, 3) := by decide +kernel
theorem dX8_way_44 : decode cX8_way 44 = .ok (.iload_n 2, 1) := by decide +kernel
theorem dX8_way_45 : decode cX8_way 45 = .ok (.invokevirtual 242, 3) := by decide +kernel
theorem dX8_way_48 : decode cX8_way 48 = .ok (.invokevirtual 253, 3) := by decide +kernel
theorem dX8_way_51 : decode cX8_way 51 = .ok (.ireturn, 1) := by decide +kernel
theorem dX8_shut_0 : decode cX8_shut 0 = .ok (.iload_n 1, 1) := by decide +kernel
theorem dX8_shut_1 : decode cX8_shut 1 = .ok (.invokestatic 100, 3) := by decide +kernel
theorem dX8_shut_4 : decode cX8_shut 4 = .ok (.ifCond .ne 5, 3) := by decide +kernel
theorem dX8_shut_7 : decode cX8_shut 7 = .ok (.iconst (-1), 1) := by decide +kernel
theorem dX8_shut_8 : decode cX8_shut 8 = .ok (.ireturn, 1) := by decide +kernel
theorem dX8_shut_9 : decode cX8_shut 9 = .ok (.aload_n 0, 1) := by decide +kernel
theorem dX8_shut_10 : decode cX8_shut 10 = .ok (.getfield 21, 3) := by decide +kernel
theorem dX8_shut_13 : decode cX8_shut 13 = .ok (.invokevirtual 239, 3) := by decide +kernel
theorem dX8_shut_16 : decode cX8_shut 16 = .ok (.aload_n 0, 1) := by decide +kernel
theorem dX8_shut_17 : decode cX8_shut 17 = .ok (.getfield 21, 3) := by decide +kernel
theorem dX8_shut_20 : decode cX8_shut 20 = .ok (.iload_n 1, 1) := by decide +kernel
theorem dX8_shut_21 : decode cX8_shut 21 = .ok (.invokevirtual 242, 3) := by decide +kernel
theorem dX8_shut_24 : decode cX8_shut 24 = .ok (.lstore_n 2, 1) := by decide +kernel
theorem dX8_shut_25 : decode cX8_shut 25 = .ok (.iconst 0, 1) := by decide +kernel
theorem dX8_shut_26 : decode cX8_shut 26 = .ok (.istore 4, 2) := by decide +kernel
theorem dX8_shut_28 : decode cX8_shut 28 = .ok (.iconst 0, 1) := by decide +kernel
theorem dX8_shut_29 : decode cX8_shut 29 = .ok (.istore 5, 2) := by decide +kernel
theorem dX8_shut_31 : decode cX8_shut 31 = .ok (.iload 5, 2) := by decide +kernel
theorem dX8_shut_33 : decode cX8_shut 33 = .ok (.aload_n 0, 1) := by decide +kernel
theorem dX8_shut_34 : decode cX8_shut 34 = .ok (.getfield 10, 3) := by decide +kernel
theorem dX8_shut_37 : decode cX8_shut 37 = .ok (.getfield 86, 3) := by decide +kernel
theorem dX8_shut_40 : decode cX8_shut 40 = .ok (.if_icmp .ge 33, 3) := by decide +kernel
theorem dX8_shut_43 : decode cX8_shut 43 = .ok (.aload_n 0, 1) := by decide +kernel
theorem dX8_shut_44 : decode cX8_shut 44 = .ok (.getfield 28, 3) := by decide +kernel
theorem dX8_shut_47 : decode cX8_shut 47 = .ok (.aload_n 0, 1) := by decide +kernel
theorem dX8_shut_48 : decode cX8_shut 48 = .ok (.getfield 10, 3) := by decide +kernel
theorem dX8_shut_51 : decode cX8_shut 51 = .ok (.getfield 89, 3) := by decide +kernel
theorem dX8_shut_54 : decode cX8_shut 54 = .ok (.iload 5, 2) := by decide +kernel
theorem dX8_shut_56 : decode cX8_shut 56 = .ok (.aaload, 1) := by decide +kernel
theorem dX8_shut_57 : decode cX8_shut 57 = .ok (.lload_n 2, 1) := by decide +kernel
theorem dX8_shut_58 : decode cX8_shut 58 = .ok (.invokevirtual 257, 3) := by decide +kernel
theorem dX8_shut_61 : decode cX8_shut 61 = .ok (.ifCond .ne 6, 3) := by decide +kernel
theorem dX8_shut_64 : decode cX8_shut 64 = .ok (.iinc 4 1, 3) := by decide +kernel
theorem dX8_shut_67 : decode cX8_shut 67 = .ok (.iinc 5 1, 3) := by decide +kernel
theorem dX8_shut_70 : decode cX8_shut 70 = .ok (.goto (-39), 3) := by decide +kernel
theorem dX8_shut_73 : decode cX8_shut 73 = .ok (.iload 4, 2) := by decide +kernel
theorem dX8_shut_75 : decode cX8_shut 75 = .ok (.ireturn, 1) := by decide +kernel
theorem dX8_price_0 : decode cX8_price 0 = .ok (.sipush 500, 3) := by decide +kernel
theorem dX8_price_3 : decode cX8_price 3 = .ok (.aload_n 0, 1) := by decide +kernel
theorem dX8_price_4 : decode cX8_price 4 = .ok (.getfield 10, 3) := by decide +kernel
theorem dX8_price_7 : decode cX8_price 7 = .ok (.iconst 0, 1) := by decide +kernel
theorem dX8_price_8 : decode cX8_price 8 = .ok (.invokevirtual 260, 3) := by decide +kernel
theorem dX8_price_11 : decode cX8_price 11 = .ok (.imul, 1) := by decide +kernel
theorem dX8_price_12 : decode cX8_price 12 = .ok (.istore_n 1, 1) := by decide +kernel
theorem dX8_price_13 : decode cX8_price 13 = .ok (.iconst 0, 1) := by decide +kernel
theorem dX8_price_14 : decode cX8_price 14 = .ok (.istore_n 2, 1) := by decide +kernel
theorem dX8_price_15 : decode cX8_price 15 = .ok (.iload_n 2, 1) := by decide +kernel
theorem dX8_price_16 : decode cX8_price 16 = .ok (.aload_n 0, 1) := by decide +kernel
theorem dX8_price_17 : decode cX8_price 17 = .ok (.getfield 10, 3) := by decide +kernel
theorem dX8_price_20 : decode cX8_price 20 = .ok (.getfield 111, 3) := by decide +kernel
theorem dX8_price_23 : decode cX8_price 23 = .ok (.if_icmp .ge 24, 3) := by decide +kernel
theorem dX8_price_26 : decode cX8_price 26 = .ok (.iload_n 1, 1) := by decide +kernel
theorem dX8_price_27 : decode cX8_price 27 = .ok (.aload_n 0, 1) := by decide +kernel
theorem dX8_price_28 : decode cX8_price 28 = .ok (.getfield 10, 3) := by decide +kernel
theorem dX8_price_31 : decode cX8_price 31 = .ok (.getfield 114, 3) := by decide +kernel
theorem dX8_price_34 : decode cX8_price 34 = .ok (.iload_n 2, 1) := by decide +kernel
theorem dX8_price_35 : decode cX8_price 35 = .ok (.aaload, 1) := by decide +kernel
theorem dX8_price_36 : decode cX8_price 36 = .ok (.invokevirtual 233, 3) := by decide +kernel
theorem dX8_price_39 : decode cX8_price 39 = .ok (.iadd, 1) := by decide +kernel
theorem dX8_price_40 : decode cX8_price 40 = .ok (.istore_n 1, 1) := by decide +kernel
theorem dX8_price_41 : decode cX8_price 41 = .ok (.iinc 2 1, 3) := by decide +kernel
theorem dX8_price_44 : decode cX8_price 44 = .ok (.goto (-29), 3) := by decide +kernel
theorem dX8_price_47 : decode cX8_price 47 = .ok (.iload_n 1, 1) := by decide +kernel
theorem dX8_price_48 : decode cX8_price 48 = .ok (.ireturn, 1) := by decide +kernel
theorem dX8_better_0 : decode cX8_better 0 = .ok (.iconst 0, 1) := by decide +kernel
theorem dX8_better_1 : decode cX8_better 1 = .ok (.istore_n 1, 1) := by decide +kernel
theorem dX8_better_2 : decode cX8_better 2 = .ok (.iload_n 1, 1) := by decide +kernel
theorem dX8_better_3 : decode cX8_better 3 = .ok (.ldc_w 264, 3) := by decide +kernel
theorem dX8_better_6 : decode cX8_better 6 = .ok (.if_icmp .ge 19, 3) := by decide +kernel
theorem dX8_better_9 : decode cX8_better 9 = .ok (.aload_n 0, 1) := by decide +kernel
theorem dX8_better_10 : decode cX8_better 10 = .ok (.getfield 46, 3) := by decide +kernel
theorem dX8_better_13 : decode cX8_better 13 = .ok (.invokevirtual 265, 3) := by decide +kernel
theorem dX8_better_16 : decode cX8_better 16 = .ok (.ifCond .eq 9, 3) := by decide +kernel
theorem dX8_better_19 : decode cX8_better 19 = .ok (.iinc 1 1, 3) := by decide +kernel
theorem dX8_better_22 : decode cX8_better 22 = .ok (.goto (-20), 3) := by decide +kernel
theorem dX8_better_25 : decode cX8_better 25 = .ok (.iload_n 1, 1) := by decide +kernel
theorem dX8_better_26 : decode cX8_better 26 = .ok (.ireturn, 1) := by decide +kernel
theorem dX8_book_0 : decode cX8_book 0 = .ok (.aload_n 0, 1) := by decide +kernel
theorem dX8_book_1 : decode cX8_book 1 = .ok (.getfield 10, 3) := by decide +kernel
theorem dX8_book_4 : decode cX8_book 4 = .ok (.iload_n 1, 1) := by decide +kernel
theorem dX8_book_5 : decode cX8_book 5 = .ok (.invokevirtual 108, 3) := by decide +kernel
theorem dX8_book_8 : decode cX8_book 8 = .ok (.ifCond .eq 7, 3) := by decide +kernel
theorem dX8_book_11 : decode cX8_book 11 = .ok (.iload_n 2, 1) := by decide +kernel
theorem dX8_book_12 : decode cX8_book 12 = .ok (.ifCond .ge 5, 3) := by decide +kernel
theorem dX8_book_15 : decode cX8_book 15 = .ok (.iconst (-1), 1) := by decide +kernel
theorem dX8_book_16 : decode cX8_book 16 = .ok (.ireturn, 1) := by decide +kernel
theorem dX8_book_17 : decode cX8_book 17 = .ok (.iconst 0, 1) := by decide +kernel
theorem dX8_book_18 : decode cX8_book 18 = .ok (.istore_n 3, 1) := by decide +kernel
theorem dX8_book_19 : decode cX8_book 19 = .ok (.iload_n 3, 1) := by decide +kernel
theorem dX8_book_20 : decode cX8_book 20 = .ok (.aload_n 0, 1) := by decide +kernel
theorem dX8_book_21 : decode cX8_book 21 = .ok (.getfield 10, 3) := by decide +kernel
theorem dX8_book_24 : decode cX8_book 24 = .ok (.getfield 111, 3) := by decide +kernel
theorem dX8_book_27 : decode cX8_book 27 = .ok (.if_icmp .ge 48, 3) := by decide +kernel
theorem dX8_book_30 : decode cX8_book 30 = .ok (.aload_n 0, 1) := by decide +kernel
theorem dX8_book_31 : decode cX8_book 31 = .ok (.getfield 10, 3) := by decide +kernel
theorem dX8_book_34 : decode cX8_book 34 = .ok (.getfield 114, 3) := by decide +kernel
theorem dX8_book_37 : decode cX8_book 37 = .ok (.iload_n 3, 1) := by decide +kernel
theorem dX8_book_38 : decode cX8_book 38 = .ok (.aaload, 1) := by decide +kernel
theorem dX8_book_39 : decode cX8_book 39 = .ok (.iload_n 1, 1) := by decide +kernel
theorem dX8_book_40 : decode cX8_book 40 = .ok (.invokevirtual 268, 3) := by decide +kernel
theorem dX8_book_43 : decode cX8_book 43 = .ok (.ifCond .eq 26, 3) := by decide +kernel
theorem dX8_book_46 : decode cX8_book 46 = .ok (.aload_n 0, 1) := by decide +kernel
theorem dX8_book_47 : decode cX8_book 47 = .ok (.getfield 10, 3) := by decide +kernel
theorem dX8_book_50 : decode cX8_book 50 = .ok (.iload_n 1, 1) := by decide +kernel
theorem dX8_book_51 : decode cX8_book 51 = .ok (.aload_n 0, 1) := by decide +kernel
theorem dX8_book_52 : decode cX8_book 52 = .ok (.getfield 10, 3) := by decide +kernel
theorem dX8_book_55 : decode cX8_book 55 = .ok (.getfield 114, 3) := by decide +kernel
theorem dX8_book_58 : decode cX8_book 58 = .ok (.iload_n 3, 1) := by decide +kernel
theorem dX8_book_59 : decode cX8_book 59 = .ok (.aaload, 1) := by decide +kernel
theorem dX8_book_60 : decode cX8_book 60 = .ok (.invokevirtual 271, 3) := by decide +kernel
theorem dX8_book_63 : decode cX8_book 63 = .ok (.iload_n 2, 1) := by decide +kernel
theorem dX8_book_64 : decode cX8_book 64 = .ok (.if_icmp .ne 5, 3) := by decide +kernel
theorem dX8_book_67 : decode cX8_book 67 = .ok (.iload_n 3, 1) := by decide +kernel
theorem dX8_book_68 : decode cX8_book 68 = .ok (.ireturn, 1) := by decide +kernel
theorem dX8_book_69 : decode cX8_book 69 = .ok (.iinc 3 1, 3) := by decide +kernel
theorem dX8_book_72 : decode cX8_book 72 = .ok (.goto (-53), 3) := by decide +kernel
theorem dX8_book_75 : decode cX8_book 75 = .ok (.iconst (-1), 1) := by decide +kernel
theorem dX8_book_76 : decode cX8_book 76 = .ok (.ireturn, 1) := by decide +kernel
theorem dX8_count_0 : decode cX8_count 0 = .ok (.iload_n 1, 1) := by decide +kernel
theorem dX8_count_1 : decode cX8_count 1 = .ok (.tableswitch 63 0 3 #[31, 39, 47, 55], 31) := by decide +kernel
theorem dX8_count_32 : decode cX8_count 32 = .ok (.aload_n 0, 1) := by decide +kernel
theorem dX8_count_33 : decode cX8_count 33 = .ok (.getfield 10, 3) := by decide +kernel
theorem dX8_count_36 : decode cX8_count 36 = .ok (.getfield 58, 3) := by decide +kernel
theorem dX8_count_39 : decode cX8_count 39 = .ok (.ireturn, 1) := by decide +kernel
theorem dX8_count_40 : decode cX8_count 40 = .ok (.aload_n 0, 1) := by decide +kernel
theorem dX8_count_41 : decode cX8_count 41 = .ok (.getfield 10, 3) := by decide +kernel
theorem dX8_count_44 : decode cX8_count 44 = .ok (.getfield 86, 3) := by decide +kernel
theorem dX8_count_47 : decode cX8_count 47 = .ok (.ireturn, 1) := by decide +kernel
theorem dX8_count_48 : decode cX8_count 48 = .ok (.aload_n 0, 1) := by decide +kernel
theorem dX8_count_49 : decode cX8_count 49 = .ok (.getfield 10, 3) := by decide +kernel
theorem dX8_count_52 : decode cX8_count 52 = .ok (.getfield 111, 3) := by decide +kernel
theorem dX8_count_55 : decode cX8_count 55 = .ok (.ireturn, 1) := by decide +kernel
theorem dX8_count_56 : decode cX8_count 56 = .ok (.aload_n 0, 1) := by decide +kernel
theorem dX8_count_57 : decode cX8_count 57 = .ok (.getfield 10, 3) := by decide +kernel
theorem dX8_count_60 : decode cX8_count 60 = .ok (.getfield 192, 3) := by decide +kernel
theorem dX8_count_63 : decode cX8_count 63 = .ok (.ireturn, 1) := by decide +kernel
theorem dX8_count_64 : decode cX8_count 64 = .ok (.iload_n 1, 1) := by decide +kernel
theorem dX8_count_65 : decode cX8_count 65 = .ok (.iconst 4, 1) := by decide +kernel
theorem dX8_count_66 : decode cX8_count 66 = .ok (.bipush 8, 2) := by decide +kernel
theorem dX8_count_68 : decode cX8_count 68 = .ok (.invokestatic 54, 3) := by decide +kernel
theorem dX8_count_71 : decode cX8_count 71 = .ok (.ifCond .eq 16, 3) := by decide +kernel
theorem dX8_count_74 : decode cX8_count 74 = .ok (.aload_n 0, 1) := by decide +kernel
theorem dX8_count_75 : decode cX8_count 75 = .ok (.getfield 10, 3) := by decide +kernel
theorem dX8_count_78 : decode cX8_count 78 = .ok (.iload_n 1, 1) := by decide +kernel
theorem dX8_count_79 : decode cX8_count 79 = .ok (.iconst 4, 1) := by decide +kernel
theorem dX8_count_80 : decode cX8_count 80 = .ok (.isub, 1) := by decide +kernel
theorem dX8_count_81 : decode cX8_count 81 = .ok (.invokevirtual 260, 3) := by decide +kernel
theorem dX8_count_84 : decode cX8_count 84 = .ok (.goto 4, 3) := by decide +kernel
theorem dX8_count_87 : decode cX8_count 87 = .ok (.iconst (-1), 1) := by decide +kernel
theorem dX8_count_88 : decode cX8_count 88 = .ok (.ireturn, 1) := by decide +kernel
theorem dX8_within_0 : decode cX8_within 0 = .ok (.iload_n 0, 1) := by decide +kernel
theorem dX8_within_1 : decode cX8_within 1 = .ok (.iload_n 1, 1) := by decide +kernel
theorem dX8_within_2 : decode cX8_within 2 = .ok (.if_icmp .lt 12, 3) := by decide +kernel
theorem dX8_within_5 : decode cX8_within 5 = .ok (.iload_n 0, 1) := by decide +kernel
theorem dX8_within_6 : decode cX8_within 6 = .ok (.iload_n 2, 1) := by decide +kernel
theorem dX8_within_7 : decode cX8_within 7 = .ok (.if_icmp .gt 7, 3) := by decide +kernel
theorem dX8_within_10 : decode cX8_within 10 = .ok (.iconst 1, 1) := by decide +kernel
theorem dX8_within_11 : decode cX8_within 11 = .ok (.goto 4, 3) := by decide +kernel
theorem dX8_within_14 : decode cX8_within 14 = .ok (.iconst 0, 1) := by decide +kernel
theorem dX8_within_15 : decode cX8_within 15 = .ok (.ireturn, 1) := by decide +kernel
theorem dX8_isDay_0 : decode cX8_isDay 0 = .ok (.iload_n 0, 1) := by decide +kernel
theorem dX8_isDay_1 : decode cX8_isDay 1 = .ok (.iconst 0, 1) := by decide +kernel
theorem dX8_isDay_2 : decode cX8_isDay 2 = .ok (.sipush 399, 3) := by decide +kernel
theorem dX8_isDay_5 : decode cX8_isDay 5 = .ok (.invokestatic 54, 3) := by decide +kernel
theorem dX8_isDay_8 : decode cX8_isDay 8 = .ok (.ireturn, 1) := by decide +kernel
theorem dX8_areCrossings_0 : decode cX8_areCrossings 0 = .ok (.iload_n 0, 1) := by decide +kernel
theorem dX8_areCrossings_1 : decode cX8_areCrossings 1 = .ok (.iconst 0, 1) := by decide +kernel
theorem dX8_areCrossings_2 : decode cX8_areCrossings 2 = .ok (.bipush 19, 2) := by decide +kernel
theorem dX8_areCrossings_4 : decode cX8_areCrossings 4 = .ok (.invokestatic 54, 3) := by decide +kernel
theorem dX8_areCrossings_7 : decode cX8_areCrossings 7 = .ok (.ifCond .eq 22, 3) := by decide +kernel
theorem dX8_areCrossings_10 : decode cX8_areCrossings 10 = .ok (.iload_n 1, 1) := by decide +kernel
theorem dX8_areCrossings_11 : decode cX8_areCrossings 11 = .ok (.iconst 0, 1) := by decide +kernel
theorem dX8_areCrossings_12 : decode cX8_areCrossings 12 = .ok (.bipush 19, 2) := by decide +kernel
theorem dX8_areCrossings_14 : decode cX8_areCrossings 14 = .ok (.invokestatic 54, 3) := by decide +kernel
theorem dX8_areCrossings_17 : decode cX8_areCrossings 17 = .ok (.ifCond .eq 12, 3) := by decide +kernel
theorem dX8_areCrossings_20 : decode cX8_areCrossings 20 = .ok (.iload_n 0, 1) := by decide +kernel
theorem dX8_areCrossings_21 : decode cX8_areCrossings 21 = .ok (.iload_n 1, 1) := by decide +kernel
theorem dX8_areCrossings_22 : decode cX8_areCrossings 22 = .ok (.if_icmp .eq 7, 3) := by decide +kernel
theorem dX8_areCrossings_25 : decode cX8_areCrossings 25 = .ok (.iconst 1, 1) := by decide +kernel
theorem dX8_areCrossings_26 : decode cX8_areCrossings 26 = .ok (.goto 4, 3) := by decide +kernel
theorem dX8_areCrossings_29 : decode cX8_areCrossings 29 = .ok (.iconst 0, 1) := by decide +kernel
theorem dX8_areCrossings_30 : decode cX8_areCrossings 30 = .ok (.ireturn, 1) := by decide +kernel
theorem dX8_refusalOf_0 : decode cX8_refusalOf 0 = .ok (.aload_n 0, 1) := by decide +kernel
theorem dX8_refusalOf_1 : decode cX8_refusalOf 1 = .ok (.getfield 10, 3) := by decide +kernel
theorem dX8_refusalOf_4 : decode cX8_refusalOf 4 = .ok (.iload_n 1, 1) := by decide +kernel
theorem dX8_refusalOf_5 : decode cX8_refusalOf 5 = .ok (.invokevirtual 143, 3) := by decide +kernel
theorem dX8_refusalOf_8 : decode cX8_refusalOf 8 = .ok (.ifCond .eq 10, 3) := by decide +kernel
theorem dX8_refusalOf_11 : decode cX8_refusalOf 11 = .ok (.iload_n 2, 1) := by decide +kernel
theorem dX8_refusalOf_12 : decode cX8_refusalOf 12 = .ok (.invokestatic 100, 3) := by decide +kernel
theorem dX8_refusalOf_15 : decode cX8_refusalOf 15 = .ok (.ifCond .ne 5, 3) := by decide +kernel
theorem dX8_refusalOf_18 : decode cX8_refusalOf 18 = .ok (.iconst (-1), 1) := by decide +kernel
theorem dX8_refusalOf_19 : decode cX8_refusalOf 19 = .ok (.ireturn, 1) := by decide +kernel
theorem dX8_refusalOf_20 : decode cX8_refusalOf 20 = .ok (.aload_n 0, 1) := by decide +kernel
theorem dX8_refusalOf_21 : decode cX8_refusalOf 21 = .ok (.getfield 10, 3) := by decide +kernel
theorem dX8_refusalOf_24 : decode cX8_refusalOf 24 = .ok (.getfield 114, 3) := by decide +kernel
theorem dX8_refusalOf_27 : decode cX8_refusalOf 27 = .ok (.iload_n 1, 1) := by decide +kernel
theorem dX8_refusalOf_28 : decode cX8_refusalOf 28 = .ok (.aaload, 1) := by decide +kernel
theorem dX8_refusalOf_29 : decode cX8_refusalOf 29 = .ok (.astore_n 3, 1) := by decide +kernel
theorem dX8_refusalOf_30 : decode cX8_refusalOf 30 = .ok (.aload_n 3, 1) := by decide +kernel
theorem dX8_refusalOf_31 : decode cX8_refusalOf 31 = .ok (.invokevirtual 184, 3) := by decide +kernel
theorem dX8_refusalOf_34 : decode cX8_refusalOf 34 = .ok (.ifCond .eq 15, 3) := by decide +kernel
theorem dX8_refusalOf_37 : decode cX8_refusalOf 37 = .ok (.aload_n 3, 1) := by decide +kernel
theorem dX8_refusalOf_38 : decode cX8_refusalOf 38 = .ok (.getfield 123, 3) := by decide +kernel
theorem dX8_refusalOf_41 : decode cX8_refusalOf 41 = .ok (.iconst 2, 1) := by decide +kernel
theorem dX8_refusalOf_42 : decode cX8_refusalOf 42 = .ok (.if_icmp .eq 7, 3) := by decide +kernel
theorem dX8_refusalOf_45 : decode cX8_refusalOf 45 = .ok (.iconst 0, 1) := by decide +kernel
theorem dX8_refusalOf_46 : decode cX8_refusalOf 46 = .ok (.goto 5, 3) := by decide +kernel
theorem dX8_refusalOf_49 : decode cX8_refusalOf 49 = .ok (.bipush (-3), 2) := by decide +kernel
theorem dX8_refusalOf_51 : decode cX8_refusalOf 51 = .ok (.ireturn, 1) := by decide +kernel
theorem dX8_brokenFrom_0 : decode cX8_brokenFrom 0 = .ok (.aload_n 0, 1) := by decide +kernel
theorem dX8_brokenFrom_1 : decode cX8_brokenFrom 1 = .ok (.getfield 37, 3) := by decide +kernel
theorem dX8_brokenFrom_4 : decode cX8_brokenFrom 4 = .ok (.aload_n 1, 1) := by decide +kernel
theorem dX8_brokenFrom_5 : decode cX8_brokenFrom 5 = .ok (.bipush 60, 2) := by decide +kernel
theorem dX8_brokenFrom_7 : decode cX8_brokenFrom 7 = .ok (.invokevirtual 275, 3) := by decide +kernel
theorem dX8_brokenFrom_10 : decode cX8_brokenFrom 10 = .ok (.aload_n 0, 1) := by decide +kernel
theorem dX8_brokenFrom_11 : decode cX8_brokenFrom 11 = .ok (.getfield 37, 3) := by decide +kernel
theorem dX8_brokenFrom_14 : decode cX8_brokenFrom 14 = .ok (.aload_n 1, 1) := by decide +kernel
theorem dX8_brokenFrom_15 : decode cX8_brokenFrom 15 = .ok (.iload_n 2, 1) := by decide +kernel
theorem dX8_brokenFrom_16 : decode cX8_brokenFrom 16 = .ok (.iconst 1, 1) := by decide +kernel
theorem dX8_brokenFrom_17 : decode cX8_brokenFrom 17 = .ok (.invokevirtual 176, 3) := by decide +kernel
theorem dX8_brokenFrom_20 : decode cX8_brokenFrom 20 = .ok (.istore_n 3, 1) := by decide +kernel
theorem dX8_brokenFrom_21 : decode cX8_brokenFrom 21 = .ok (.iload_n 3, 1) := by decide +kernel
theorem dX8_brokenFrom_22 : decode cX8_brokenFrom 22 = .ok (.ifCond .eq 30, 3) := by decide +kernel
theorem dX8_brokenFrom_25 : decode cX8_brokenFrom 25 = .ok (.aload_n 0, 1) := by decide +kernel
theorem dX8_brokenFrom_26 : decode cX8_brokenFrom 26 = .ok (.iconst 1, 1) := by decide +kernel
theorem dX8_brokenFrom_27 : decode cX8_brokenFrom 27 = .ok (.putfield 166, 3) := by decide +kernel
theorem dX8_brokenFrom_30 : decode cX8_brokenFrom 30 = .ok (.aload_n 0, 1) := by decide +kernel
theorem dX8_brokenFrom_31 : decode cX8_brokenFrom 31 = .ok (.aload_n 0, 1) := by decide +kernel
theorem dX8_brokenFrom_32 : decode cX8_brokenFrom 32 = .ok (.getfield 37, 3) := by decide +kernel
theorem dX8_brokenFrom_35 : decode cX8_brokenFrom 35 = .ok (.getfield 278, 3) := by decide +kernel
theorem dX8_brokenFrom_38 : decode cX8_brokenFrom 38 = .ok (.putfield 170, 3) := by decide +kernel
theorem dX8_brokenFrom_41 : decode cX8_brokenFrom 41 = .ok (.aload_n 0, 1) := by decide +kernel
theorem dX8_brokenFrom_42 : decode cX8_brokenFrom 42 = .ok (.aload_n 0, 1) := by decide +kernel
theorem dX8_brokenFrom_43 : decode cX8_brokenFrom 43 = .ok (.getfield 37, 3) := by decide +kernel
theorem dX8_brokenFrom_46 : decode cX8_brokenFrom 46 = .ok (.getfield 281, 3) := by decide +kernel
theorem dX8_brokenFrom_49 : decode cX8_brokenFrom 49 = .ok (.putfield 173, 3) := by decide +kernel
theorem dX8_brokenFrom_52 : decode cX8_brokenFrom 52 = .ok (.iload_n 3, 1) := by decide +kernel
theorem dX8_brokenFrom_53 : decode cX8_brokenFrom 53 = .ok (.ireturn, 1) := by decide +kernel
