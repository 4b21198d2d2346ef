theorem dX9_init_0 : decode cX9_init 0 = .ok (.aload_n 0, 1) := by decide +kernel
theorem dX9_init_1 : decode cX9_init 1 = .ok (.invokespecial 1, 3) := by decide +kernel
theorem dX9_init_4 : decode cX9_init 4 = .ok (.aload_n 0, 1) := by decide +kernel
theorem dX9_init_5 : decode cX9_init 5 = .ok (.bipush 40, 2) := by decide +kernel
theorem dX9_init_7 : decode cX9_init 7 = .ok (.newarray .int, 2) := by decide +kernel
theorem dX9_init_9 : decode cX9_init 9 = .ok (.putfield 9, 3) := by decide +kernel
theorem dX9_init_12 : decode cX9_init 12 = .ok (.aload_n 0, 1) := by decide +kernel
theorem dX9_init_13 : decode cX9_init 13 = .ok (.bipush 40, 2) := by decide +kernel
theorem dX9_init_15 : decode cX9_init 15 = .ok (.newarray .int, 2) := by decide +kernel
theorem dX9_init_17 : decode cX9_init 17 = .ok (.putfield 13, 3) := by decide +kernel
theorem dX9_init_20 : decode cX9_init 20 = .ok (.aload_n 0, 1) := by decide +kernel
theorem dX9_init_21 : decode cX9_init 21 = .ok (.bipush 40, 2) := by decide +kernel
theorem dX9_init_23 : decode cX9_init 23 = .ok (.newarray .int, 2) := by decide +kernel
theorem dX9_init_25 : decode cX9_init 25 = .ok (.putfield 16, 3) := by decide +kernel
theorem dX9_init_28 : decode cX9_init 28 = .ok (.aload_n 0, 1) := by decide +kernel
theorem dX9_init_29 : decode cX9_init 29 = .ok (.bipush 40, 2) := by decide +kernel
theorem dX9_init_31 : decode cX9_init 31 = .ok (.newarray .int, 2) := by decide +kernel
theorem dX9_init_33 : decode cX9_init 33 = .ok (.putfield 19, 3) := by decide +kernel
theorem dX9_init_36 : decode cX9_init 36 = .ok (.aload_n 0, 1) := by decide +kernel
theorem dX9_init_37 : decode cX9_init 37 = .ok (.bipush 40, 2) := by decide +kernel
theorem dX9_init_39 : decode cX9_init 39 = .ok (.newarray .int, 2) := by decide +kernel
theorem dX9_init_41 : decode cX9_init 41 = .ok (.putfield 22, 3) := by decide +kernel
theorem dX9_init_44 : decode cX9_init 44 = .ok (.aload_n 0, 1) := by decide +kernel
theorem dX9_init_45 : decode cX9_init 45 = .ok (.bipush 40, 2) := by decide +kernel
theorem dX9_init_47 : decode cX9_init 47 = .ok (.newarray .int, 2) := by decide +kernel
theorem dX9_init_49 : decode cX9_init 49 = .ok (.putfield 25, 3) := by decide +kernel
theorem dX9_init_52 : decode cX9_init 52 = .ok (.aload_n 0, 1) := by decide +kernel
theorem dX9_init_53 : decode cX9_init 53 = .ok (.bipush 8, 2) := by decide +kernel
theorem dX9_init_55 : decode cX9_init 55 = .ok (.newarray .int, 2) := by decide +kernel
theorem dX9_init_57 : decode cX9_init 57 = .ok (.putfield 28, 3) := by decide +kernel
theorem dX9_init_60 : decode cX9_init 60 = .ok (.aload_n 0, 1) := by decide +kernel
theorem dX9_init_61 : decode cX9_init 61 = .ok (.bipush 8, 2) := by decide +kernel
theorem dX9_init_63 : decode cX9_init 63 = .ok (.newarray .int, 2) := by decide +kernel
theorem dX9_init_65 : decode cX9_init 65 = .ok (.putfield 31, 3) := by decide +kernel
theorem dX9_init_68 : decode cX9_init 68 = .ok (.aload_n 0, 1) := by decide +kernel
theorem dX9_init_69 : decode cX9_init 69 = .ok (.bipush 8, 2) := by decide +kernel
theorem dX9_init_71 : decode cX9_init 71 = .ok (.newarray .int, 2) := by decide +kernel
theorem dX9_init_73 : decode cX9_init 73 = .ok (.putfield 34, 3) := by decide +kernel
theorem dX9_init_76 : decode cX9_init 76 = .ok (.aload_n 0, 1) := by decide +kernel
theorem dX9_init_77 : decode cX9_init 77 = .ok (.sipush 400, 3) := by decide +kernel
theorem dX9_init_80 : decode cX9_init 80 = .ok (.newarray .boolean, 2) := by decide +kernel
theorem dX9_init_82 : decode cX9_init 82 = .ok (.putfield 37, 3) := by decide +kernel
theorem dX9_init_85 : decode cX9_init 85 = .ok (.aload_n 0, 1) := by decide +kernel
theorem dX9_init_86 : decode cX9_init 86 = .ok (.bipush 60, 2) := by decide +kernel
theorem dX9_init_88 : decode cX9_init 88 = .ok (.newarray .int, 2) := by decide +kernel
theorem dX9_init_90 : decode cX9_init 90 = .ok (.putfield 41, 3) := by decide +kernel
theorem dX9_init_93 : decode cX9_init 93 = .ok (.aload_n 0, 1) := by decide +kernel
theorem dX9_init_94 : decode cX9_init 94 = .ok (.bipush 60, 2) := by decide +kernel
theorem dX9_init_96 : decode cX9_init 96 = .ok (.newarray .int, 2) := by decide +kernel
theorem dX9_init_98 : decode cX9_init 98 = .ok (.putfield 44, 3) := by decide +kernel
theorem dX9_init_101 : decode cX9_init 101 = .ok (.aload_n 0, 1) := by decide +kernel
theorem dX9_init_102 : decode cX9_init 102 = .ok (.bipush 60, 2) := by decide +kernel
theorem dX9_init_104 : decode cX9_init 104 = .ok (.newarray .int, 2) := by decide +kernel
theorem dX9_init_106 : decode cX9_init 106 = .ok (.putfield 47, 3) := by decide +kernel
theorem dX9_init_109 : decode cX9_init 109 = .ok (.aload_n 0, 1) := by decide +kernel
theorem dX9_init_110 : decode cX9_init 110 = .ok (.bipush 60, 2) := by decide +kernel
theorem dX9_init_112 : decode cX9_init 112 = .ok (.newarray .int, 2) := by decide +kernel
theorem dX9_init_114 : decode cX9_init 114 = .ok (.putfield 50, 3) := by decide +kernel
theorem dX9_init_117 : decode cX9_init 117 = .ok (.aload_n 0, 1) := by decide +kernel
theorem dX9_init_118 : decode cX9_init 118 = .ok (.bipush 60, 2) := by decide +kernel
theorem dX9_init_120 : decode cX9_init 120 = .ok (.newarray .int, 2) := by decide +kernel
theorem dX9_init_122 : decode cX9_init 122 = .ok (.putfield 53, 3) := by decide +kernel
theorem dX9_init_125 : decode cX9_init 125 = .ok (.aload_n 0, 1) := by decide +kernel
theorem dX9_init_126 : decode cX9_init 126 = .ok (.bipush 60, 2) := by decide +kernel
theorem dX9_init_128 : decode cX9_init 128 = .ok (.newarray .int, 2) := by decide +kernel
theorem dX9_init_130 : decode cX9_init 130 = .ok (.putfield 56, 3) := by decide +kernel
theorem dX9_init_133 : decode cX9_init 133 = .ok (.aload_n 0, 1) := by decide +kernel
theorem dX9_init_134 : decode cX9_init 134 = .ok (.bipush 60, 2) := by decide +kernel
theorem dX9_init_136 : decode cX9_init 136 = .ok (.newarray .long, 2) := by decide +kernel
theorem dX9_init_138 : decode cX9_init 138 = .ok (.putfield 59, 3) := by decide +kernel
theorem dX9_init_141 : decode cX9_init 141 = .ok (.aload_n 0, 1) := by decide +kernel
theorem dX9_init_142 : decode cX9_init 142 = .ok (.bipush 60, 2) := by decide +kernel
theorem dX9_init_144 : decode cX9_init 144 = .ok (.newarray .int, 2) := by decide +kernel
theorem dX9_init_146 : decode cX9_init 146 = .ok (.putfield 63, 3) := by decide +kernel
theorem dX9_init_149 : decode cX9_init 149 = .ok (.aload_n 0, 1) := by decide +kernel
theorem dX9_init_150 : decode cX9_init 150 = .ok (.bipush 60, 2) := by decide +kernel
theorem dX9_init_152 : decode cX9_init 152 = .ok (.newarray .int, 2) := by decide +kernel
theorem dX9_init_154 : decode cX9_init 154 = .ok (.putfield 66, 3) := by decide +kernel
theorem dX9_init_157 : decode cX9_init 157 = .ok (.aload_n 0, 1) := by decide +kernel
theorem dX9_init_158 : decode cX9_init 158 = .ok (.bipush 60, 2) := by decide +kernel
theorem dX9_init_160 : decode cX9_init 160 = .ok (.newarray .int, 2) := by decide +kernel
theorem dX9_init_162 : decode cX9_init 162 = .ok (.putfield 69, 3) := by decide +kernel
theorem dX9_init_165 : decode cX9_init 165 = .ok (.aload_n 0, 1) := by decide +kernel
theorem dX9_init_166 : decode cX9_init 166 = .ok (.bipush 60, 2) := by decide +kernel
theorem dX9_init_168 : decode cX9_init 168 = .ok (.newarray .int, 2) := by decide +kernel
theorem dX9_init_170 : decode cX9_init 170 = .ok (.putfield 72, 3) := by decide +kernel
theorem dX9_init_173 : decode cX9_init 173 = .ok (.aload_n 0, 1) := by decide +kernel
theorem dX9_init_174 : decode cX9_init 174 = .ok (.bipush 60, 2) := by decide +kernel
theorem dX9_init_176 : decode cX9_init 176 = .ok (.newarray .int, 2) := by decide +kernel
theorem dX9_init_178 : decode cX9_init 178 = .ok (.putfield 75, 3) := by decide +kernel
theorem dX9_init_181 : decode cX9_init 181 = .ok (.aload_n 0, 1) := by decide +kernel
theorem dX9_init_182 : decode cX9_init 182 = .ok (.bipush 60, 2) := by decide +kernel
theorem dX9_init_184 : decode cX9_init 184 = .ok (.newarray .int, 2) := by decide +kernel
theorem dX9_init_186 : decode cX9_init 186 = .ok (.putfield 78, 3) := by decide +kernel
theorem dX9_init_189 : decode cX9_init 189 = .ok (.aload_n 0, 1) := by decide +kernel
theorem dX9_init_190 : decode cX9_init 190 = .ok (.bipush 60, 2) := by decide +kernel
theorem dX9_init_192 : decode cX9_init 192 = .ok (.newarray .int, 2) := by decide +kernel
theorem dX9_init_194 : decode cX9_init 194 = .ok (.putfield 81, 3) := by decide +kernel
theorem dX9_init_197 : decode cX9_init 197 = .ok (.aload_n 0, 1) := by decide +kernel
theorem dX9_init_198 : decode cX9_init 198 = .ok (.bipush 60, 2) := by decide +kernel
theorem dX9_init_200 : decode cX9_init 200 = .ok (.newarray .int, 2) := by decide +kernel
theorem dX9_init_202 : decode cX9_init 202 = .ok (.putfield 84, 3) := by decide +kernel
theorem dX9_init_205 : decode cX9_init 205 = .ok (.aload_n 0, 1) := by decide +kernel
theorem dX9_init_206 : decode cX9_init 206 = .ok (.iconst (-1), 1) := by decide +kernel
theorem dX9_init_207 : decode cX9_init 207 = .ok (.putfield 87, 3) := by decide +kernel
theorem dX9_init_210 : decode cX9_init 210 = .ok (.aload_n 0, 1) := by decide +kernel
theorem dX9_init_211 : decode cX9_init 211 = .ok (.iconst (-1), 1) := by decide +kernel
theorem dX9_init_212 : decode cX9_init 212 = .ok (.putfield 91, 3) := by decide +kernel
theorem dX9_init_215 : decode cX9_init 215 = .ok (.aload_n 0, 1) := by decide +kernel
theorem dX9_init_216 : decode cX9_init 216 = .ok (.bipush 20, 2) := by decide +kernel
theorem dX9_init_218 : decode cX9_init 218 = .ok (.newarray .int, 2) := by decide +kernel
theorem dX9_init_220 : decode cX9_init 220 = .ok (.putfield 94, 3) := by decide +kernel
theorem dX9_init_223 : decode cX9_init 223 = .ok (.return_, 1) := by decide +kernel
theorem dX9_within_0 : decode cX9_within 0 = .ok (.iload_n 0, 1) := by decide +kernel
theorem dX9_within_1 : decode cX9_within 1 = .ok (.iload_n 1, 1) := by decide +kernel
theorem dX9_within_2 : decode cX9_within 2 = .ok (.if_icmp .lt 12, 3) := by decide +kernel
theorem dX9_within_5 : decode cX9_within 5 = .ok (.iload_n 0, 1) := by decide +kernel
theorem dX9_within_6 : decode cX9_within 6 = .ok (.iload_n 2, 1) := by decide +kernel
theorem dX9_within_7 : decode cX9_within 7 = .ok (.if_icmp .gt 7, 3) := by decide +kernel
theorem dX9_within_10 : decode cX9_within 10 = .ok (.iconst 1, 1) := by decide +kernel
theorem dX9_within_11 : decode cX9_within 11 = .ok (.goto 4, 3) := by decide +kernel
theorem dX9_within_14 : decode cX9_within 14 = .ok (.iconst 0, 1) := by decide +kernel
theorem dX9_within_15 : decode cX9_within 15 = .ok (.ireturn, 1) := by decide +kernel
theorem dX9_piece_0 : decode cX9_piece 0 = .ok (.iload_n 1, 1) := by decide +kernel
theorem dX9_piece_1 : decode cX9_piece 1 = .ok (.ifCond .lt 72, 3) := by decide +kernel
theorem dX9_piece_4 : decode cX9_piece 4 = .ok (.iload_n 1, 1) := by decide +kernel
theorem dX9_piece_5 : decode cX9_piece 5 = .ok (.bipush 100, 2) := by decide +kernel
theorem dX9_piece_7 : decode cX9_piece 7 = .ok (.idiv, 1) := by decide +kernel
theorem dX9_piece_8 : decode cX9_piece 8 = .ok (.bipush 20, 2) := by decide +kernel
theorem dX9_piece_10 : decode cX9_piece 10 = .ok (.if_icmp .ge 63, 3) := by decide +kernel
theorem dX9_piece_13 : decode cX9_piece 13 = .ok (.iload_n 1, 1) := by decide +kernel
theorem dX9_piece_14 : decode cX9_piece 14 = .ok (.bipush 100, 2) := by decide +kernel
theorem dX9_piece_16 : decode cX9_piece 16 = .ok (.irem, 1) := by decide +kernel
theorem dX9_piece_17 : decode cX9_piece 17 = .ok (.bipush 20, 2) := by decide +kernel
theorem dX9_piece_19 : decode cX9_piece 19 = .ok (.if_icmp .ge 54, 3) := by decide +kernel
theorem dX9_piece_22 : decode cX9_piece 22 = .ok (.iload_n 1, 1) := by decide +kernel
theorem dX9_piece_23 : decode cX9_piece 23 = .ok (.bipush 100, 2) := by decide +kernel
theorem dX9_piece_25 : decode cX9_piece 25 = .ok (.idiv, 1) := by decide +kernel
theorem dX9_piece_26 : decode cX9_piece 26 = .ok (.iload_n 1, 1) := by decide +kernel
theorem dX9_piece_27 : decode cX9_piece 27 = .ok (.bipush 100, 2) := by decide +kernel
theorem dX9_piece_29 : decode cX9_piece 29 = .ok (.irem, 1) := by decide +kernel
theorem dX9_piece_30 : decode cX9_piece 30 = .ok (.if_icmp .eq 43, 3) := by decide +kernel
theorem dX9_piece_33 : decode cX9_piece 33 = .ok (.iload_n 2, 1) := by decide +kernel
theorem dX9_piece_34 : decode cX9_piece 34 = .ok (.iconst 1, 1) := by decide +kernel
theorem dX9_piece_35 : decode cX9_piece 35 = .ok (.iconst 4, 1) := by decide +kernel
theorem dX9_piece_36 : decode cX9_piece 36 = .ok (.invokestatic 97, 3) := by decide +kernel
theorem dX9_piece_39 : decode cX9_piece 39 = .ok (.ifCond .eq 34, 3) := by decide +kernel
theorem dX9_piece_42 : decode cX9_piece 42 = .ok (.iload_n 3, 1) := by decide +kernel
theorem dX9_piece_43 : decode cX9_piece 43 = .ok (.iconst 0, 1) := by decide +kernel
theorem dX9_piece_44 : decode cX9_piece 44 = .ok (.iconst 2, 1) := by decide +kernel
theorem dX9_piece_45 : decode cX9_piece 45 = .ok (.invokestatic 97, 3) := by decide +kernel
theorem dX9_piece_48 : decode cX9_piece 48 = .ok (.ifCond .eq 25, 3) := by decide +kernel
theorem dX9_piece_51 : decode cX9_piece 51 = .ok (.iload 4, 2) := by decide +kernel
theorem dX9_piece_53 : decode cX9_piece 53 = .ok (.iconst 1, 1) := by decide +kernel
theorem dX9_piece_54 : decode cX9_piece 54 = .ok (.bipush 30, 2) := by decide +kernel
theorem dX9_piece_56 : decode cX9_piece 56 = .ok (.invokestatic 97, 3) := by decide +kernel
theorem dX9_piece_59 : decode cX9_piece 59 = .ok (.ifCond .eq 14, 3) := by decide +kernel
theorem dX9_piece_62 : decode cX9_piece 62 = .ok (.iload 5, 2) := by decide +kernel
theorem dX9_piece_64 : decode cX9_piece 64 = .ok (.iconst 0, 1) := by decide +kernel
theorem dX9_piece_65 : decode cX9_piece 65 = .ok (.bipush 60, 2) := by decide +kernel
theorem dX9_piece_67 : decode cX9_piece 67 = .ok (.invokestatic 97, 3) := by decide +kernel
theorem dX9_piece_70 : decode cX9_piece 70 = .ok (.ifCond .ne 5, 3) := by decide +kernel
theorem dX9_piece_73 : decode cX9_piece 73 = .ok (.iconst (-1), 1) := by decide +kernel
theorem dX9_piece_74 : decode cX9_piece 74 = .ok (.ireturn, 1) := by decide +kernel
theorem dX9_piece_75 : decode cX9_piece 75 = .ok (.aload_n 0, 1) := by decide +kernel
theorem dX9_piece_76 : decode cX9_piece 76 = .ok (.getfield 101, 3) := by decide +kernel
theorem dX9_piece_79 : decode cX9_piece 79 = .ok (.bipush 40, 2) := by decide +kernel
theorem dX9_piece_81 : decode cX9_piece 81 = .ok (.if_icmp .ne 6, 3) := by decide +kernel
theorem dX9_piece_84 : decode cX9_piece 84 = .ok (.bipush (-2), 2) := by decide +kernel
theorem dX9_piece_86 : decode cX9_piece 86 = .ok (.ireturn, 1) := by decide +kernel
theorem dX9_piece_87 : decode cX9_piece 87 = .ok (.aload_n 0, 1) := by decide +kernel
theorem dX9_piece_88 : decode cX9_piece 88 = .ok (.getfield 9, 3) := by decide +kernel
theorem dX9_piece_91 : decode cX9_piece 91 = .ok (.aload_n 0, 1) := by decide +kernel
theorem dX9_piece_92 : decode cX9_piece 92 = .ok (.getfield 101, 3) := by decide +kernel
theorem dX9_piece_95 : decode cX9_piece 95 = .ok (.iload_n 1, 1) := by decide +kernel
theorem dX9_piece_96 : decode cX9_piece 96 = .ok (.bipush 100, 2) := by decide +kernel
theorem dX9_piece_98 : decode cX9_piece 98 = .ok (.idiv, 1) := by decide +kernel
theorem dX9_piece_99 : decode cX9_piece 99 = .ok (.iastore, 1) := by decide +kernel
theorem dX9_piece_100 : decode cX9_piece 100 = .ok (.aload_n 0, 1) := by decide +kernel
theorem dX9_piece_101 : decode cX9_piece 101 = .ok (.getfield 13, 3) := by decide +kernel
theorem dX9_piece_104 : decode cX9_piece 104 = .ok (.aload_n 0, 1) := by decide +kernel
theorem dX9_piece_105 : decode cX9_piece 105 = .ok (.getfield 101, 3) := by decide +kernel
theorem dX9_piece_108 : decode cX9_piece 108 = .ok (.iload_n 1, 1) := by decide +kernel
theorem dX9_piece_109 : decode cX9_piece 109 = .ok (.bipush 100, 2) := by decide +kernel
theorem dX9_piece_111 : decode cX9_piece 111 = .ok (.irem, 1) := by decide +kernel
theorem dX9_piece_112 : decode cX9_piece 112 = .ok (.iastore, 1) := by decide +kernel
theorem dX9_piece_113 : decode cX9_piece 113 = .ok (.aload_n 0, 1) := by decide +kernel
theorem dX9_piece_114 : decode cX9_piece 114 = .ok (.getfield 16, 3) := by decide +kernel
theorem dX9_piece_117 : decode cX9_piece 117 = .ok (.aload_n 0, 1) := by decide +kernel
theorem dX9_piece_118 : decode cX9_piece 118 = .ok (.getfield 101, 3) := by decide +kernel
theorem dX9_piece_121 : decode cX9_piece 121 = .ok (.iload_n 2, 1) := by decide +kernel
theorem dX9_piece_122 : decode cX9_piece 122 = .ok (.iastore, 1) := by decide +kernel
theorem dX9_piece_123 : decode cX9_piece 123 = .ok (.aload_n 0, 1) := by decide +kernel
theorem dX9_piece_124 : decode cX9_piece 124 = .ok (.getfield 19, 3) := by decide +kernel
theorem dX9_piece_127 : decode cX9_piece 127 = .ok (.aload_n 0, 1) := by decide +kernel
theorem dX9_piece_128 : decode cX9_piece 128 = .ok (.getfield 101, 3) := by decide +kernel
theorem dX9_piece_131 : decode cX9_piece 131 = .ok (.iload_n 3, 1) := by decide +kernel
theorem dX9_piece_132 : decode cX9_piece 132 = .ok (.iastore, 1) := by decide +kernel
theorem dX9_piece_133 : decode cX9_piece 133 = .ok (.aload_n 0, 1) := by decide +kernel
theorem dX9_piece_134 : decode cX9_piece 134 = .ok (.getfield 22, 3) := by decide +kernel
theorem dX9_piece_137 : decode cX9_piece 137 = .ok (.aload_n 0, 1) := by decide +kernel
theorem dX9_piece_138 : decode cX9_piece 138 = .ok (.getfield 101, 3) := by decide +kernel
theorem dX9_piece_141 : decode cX9_piece 141 = .ok (.iload 4, 2) := by decide +kernel
theorem dX9_piece_143 : decode cX9_piece 143 = .ok (.iastore, 1) := by decide +kernel
theorem dX9_piece_144 : decode cX9_piece 144 = .ok (.aload_n 0, 1) := by decide +kernel
theorem dX9_piece_145 : decode cX9_piece 145 = .ok (.getfield 25, 3) := by decide +kernel
theorem dX9_piece_148 : decode cX9_piece 148 = .ok (.aload_n 0, 1) := by decide +kernel
theorem dX9_piece_149 : decode cX9_piece 149 = .ok (.getfield 101, 3) := by decide +kernel
theorem dX9_piece_152 : decode cX9_piece 152 = .ok (.iload 5, 2) := by decide +kernel
theorem dX9_piece_154 : decode cX9_piece 154 = .ok (.iastore, 1) := by decide +kernel
theorem dX9_piece_155 : decode cX9_piece 155 = .ok (.aload_n 0, 1) := by decide +kernel
theorem dX9_piece_156 : decode cX9_piece 156 = .ok (.dup, 1) := by decide +kernel
theorem dX9_piece_157 : decode cX9_piece 157 = .ok (.getfield 101, 3) := by decide +kernel
theorem dX9_piece_160 : decode cX9_piece 160 = .ok (.iconst 1, 1) := by decide +kernel
theorem dX9_piece_161 : decode cX9_piece 161 = .ok (.iadd, 1) := by decide +kernel
theorem dX9_piece_162 : decode cX9_piece 162 = .ok (.putfield 101, 3) := by decide +kernel
theorem dX9_piece_165 : decode cX9_piece 165 = .ok (.aload_n 0, 1) := by decide +kernel
theorem dX9_piece_166 : decode cX9_piece 166 = .ok (.getfield 101, 3) := by decide +kernel
theorem dX9_piece_169 : decode cX9_piece 169 = .ok (.iconst 1, 1) := by decide +kernel
theorem dX9_piece_170 : decode cX9_piece 170 = .ok (.isub, 1) := by decide +kernel
theorem dX9_piece_171 : decode cX9_piece 171 = .ok (.ireturn, 1) := by decide +kernel
theorem dX9_pair_0 : decode cX9_pair 0 = .ok (.iload_n 1, 1) := by decide +kernel
theorem dX9_pair_1 : decode cX9_pair 1 = .ok (.iconst 0, 1) := by decide +kernel
theorem dX9_pair_2 : decode cX9_pair 2 = .ok (.bipush 19, 2) := by decide +kernel
theorem dX9_pair_4 : decode cX9_pair 4 = .ok (.invokestatic 97, 3) := by decide +kernel
theorem dX9_pair_7 : decode cX9_pair 7 = .ok (.ifCond .eq 29, 3) := by decide +kernel
theorem dX9_pair_10 : decode cX9_pair 10 = .ok (.iload_n 2, 1) := by decide +kernel
theorem dX9_pair_11 : decode cX9_pair 11 = .ok (.iconst 0, 1) := by decide +kernel
theorem dX9_pair_12 : decode cX9_pair 12 = .ok (.bipush 19, 2) := by decide +kernel
theorem dX9_pair_14 : decode cX9_pair 14 = .ok (.invokestatic 97, 3) := by decide +kernel
theorem dX9_pair_17 : decode cX9_pair 17 = .ok (.ifCond .eq 19, 3) := by decide +kernel
theorem dX9_pair_20 : decode cX9_pair 20 = .ok (.iload_n 1, 1) := by decide +kernel
theorem dX9_pair_21 : decode cX9_pair 21 = .ok (.iload_n 2, 1) := by decide +kernel
theorem dX9_pair_22 : decode cX9_pair 22 = .ok (.if_icmp .eq 14, 3) := by decide +kernel
theorem dX9_pair_25 : decode cX9_pair 25 = .ok (.iload_n 3, 1) := by decide +kernel
theorem dX9_pair_26 : decode cX9_pair 26 = .ok (.iconst 1, 1) := by decide +kernel
theorem dX9_pair_27 : decode cX9_pair 27 = .ok (.sipush 200, 3) := by decide +kernel
theorem dX9_pair_30 : decode cX9_pair 30 = .ok (.invokestatic 97, 3) := by decide +kernel
theorem dX9_pair_33 : decode cX9_pair 33 = .ok (.ifCond .ne 5, 3) := by decide +kernel
theorem dX9_pair_36 : decode cX9_pair 36 = .ok (.iconst (-1), 1) := by decide +kernel
theorem dX9_pair_37 : decode cX9_pair 37 = .ok (.ireturn, 1) := by decide +kernel
theorem dX9_pair_38 : decode cX9_pair 38 = .ok (.aload_n 0, 1) := by decide +kernel
theorem dX9_pair_39 : decode cX9_pair 39 = .ok (.getfield 104, 3) := by decide +kernel
theorem dX9_pair_42 : decode cX9_pair 42 = .ok (.bipush 8, 2) := by decide +kernel
theorem dX9_pair_44 : decode cX9_pair 44 = .ok (.if_icmp .ne 6, 3) := by decide +kernel
theorem dX9_pair_47 : decode cX9_pair 47 = .ok (.bipush (-2), 2) := by decide +kernel
theorem dX9_pair_49 : decode cX9_pair 49 = .ok (.ireturn, 1) := by decide +kernel
theorem dX9_pair_50 : decode cX9_pair 50 = .ok (.aload_n 0, 1) := by decide +kernel
theorem dX9_pair_51 : decode cX9_pair 51 = .ok (.getfield 28, 3) := by decide +kernel
theorem dX9_pair_54 : decode cX9_pair 54 = .ok (.aload_n 0, 1) := by decide +kernel
theorem dX9_pair_55 : decode cX9_pair 55 = .ok (.getfield 104, 3) := by decide +kernel
theorem dX9_pair_58 : decode cX9_pair 58 = .ok (.iload_n 1, 1) := by decide +kernel
theorem dX9_pair_59 : decode cX9_pair 59 = .ok (.iastore, 1) := by decide +kernel
theorem dX9_pair_60 : decode cX9_pair 60 = .ok (.aload_n 0, 1) := by decide +kernel
theorem dX9_pair_61 : decode cX9_pair 61 = .ok (.getfield 31, 3) := by decide +kernel
theorem dX9_pair_64 : decode cX9_pair 64 = .ok (.aload_n 0, 1) := by decide +kernel
theorem dX9_pair_65 : decode cX9_pair 65 = .ok (.getfield 104, 3) := by decide +kernel
theorem dX9_pair_68 : decode cX9_pair 68 = .ok (.iload_n 2, 1) := by decide +kernel
theorem dX9_pair_69 : decode cX9_pair 69 = .ok (.iastore, 1) := by decide +kernel
theorem dX9_pair_70 : decode cX9_pair 70 = .ok (.aload_n 0, 1) := by decide +kernel
theorem dX9_pair_71 : decode cX9_pair 71 = .ok (.getfield 34, 3) := by decide +kernel
theorem dX9_pair_74 : decode cX9_pair 74 = .ok (.aload_n 0, 1) := by decide +kernel
theorem dX9_pair_75 : decode cX9_pair 75 = .ok (.getfield 104, 3) := by decide +kernel
theorem dX9_pair_78 : decode cX9_pair 78 = .ok (.iload_n 3, 1) := by decide +kernel
theorem dX9_pair_79 : decode cX9_pair 79 = .ok (.iastore, 1) := by decide +kernel
theorem dX9_pair_80 : decode cX9_pair 80 = .ok (.aload_n 0, 1) := by decide +kernel
theorem dX9_pair_81 : decode cX9_pair 81 = .ok (.dup, 1) := by decide +kernel
theorem dX9_pair_82 : decode cX9_pair 82 = .ok (.getfield 104, 3) := by decide +kernel
theorem dX9_pair_85 : decode cX9_pair 85 = .ok (.iconst 1, 1) := by decide +kernel
theorem dX9_pair_86 : decode cX9_pair 86 = .ok (.iadd, 1) := by decide +kernel
theorem dX9_pair_87 : decode cX9_pair 87 = .ok (.putfield 104, 3) := by decide +kernel
theorem dX9_pair_90 : decode cX9_pair 90 = .ok (.aload_n 0, 1) := by decide +kernel
theorem dX9_pair_91 : decode cX9_pair 91 = .ok (.getfield 104, 3) := by decide +kernel
theorem dX9_pair_94 : decode cX9_pair 94 = .ok (.iconst 1, 1) := by decide +kernel
theorem dX9_pair_95 : decode cX9_pair 95 = .ok (.isub, 1) := by decide +kernel
theorem dX9_pair_96 : decode cX9_pair 96 = .ok (.ireturn, 1) := by decide +kernel
theorem dX9_feast_0 : decode cX9_feast 0 = .ok (.iload_n 1, 1) := by decide +kernel
theorem dX9_feast_1 : decode cX9_feast 1 = .ok (.iconst 0, 1) := by decide +kernel
theorem dX9_feast_2 : decode cX9_feast 2 = .ok (.sipush 399, 3) := by decide +kernel
theorem dX9_feast_5 : decode cX9_feast 5 = .ok (.invokestatic 97, 3) := by decide +kernel
theorem dX9_feast_8 : decode cX9_feast 8 = .ok (.ifCond .eq 12, 3) := by decide +kernel
theorem dX9_feast_11 : decode cX9_feast 11 = .ok (.iload_n 2, 1) := by decide +kernel
theorem dX9_feast_12 : decode cX9_feast 12 = .ok (.iconst 0, 1) := by decide +kernel
theorem dX9_feast_13 : decode cX9_feast 13 = .ok (.iconst 1, 1) := by decide +kernel
theorem dX9_feast_14 : decode cX9_feast 14 = .ok (.invokestatic 97, 3) := by decide +kernel
theorem dX9_feast_17 : decode cX9_feast 17 = .ok (.ifCond .ne 5, 3) := by decide +kernel
theorem dX9_feast_20 : decode cX9_feast 20 = .ok (.iconst (-1), 1) := by decide +kernel
theorem dX9_feast_21 : decode cX9_feast 21 = .ok (.ireturn, 1) := by decide +kernel
theorem dX9_feast_22 : decode cX9_feast 22 = .ok (.aload_n 0, 1) := by decide +kernel
theorem dX9_feast_23 : decode cX9_feast 23 = .ok (.getfield 37, 3) := by decide +kernel
theorem dX9_feast_26 : decode cX9_feast 26 = .ok (.iload_n 1, 1) := by decide +kernel
theorem dX9_feast_27 : decode cX9_feast 27 = .ok (.baload, 1) := by decide +kernel
theorem dX9_feast_28 : decode cX9_feast 28 = .ok (.ifCond .eq 7, 3) := by decide +kernel
theorem dX9_feast_31 : decode cX9_feast 31 = .ok (.iconst 1, 1) := by decide +kernel
theorem dX9_feast_32 : decode cX9_feast 32 = .ok (.goto 4, 3) := by decide +kernel
theorem dX9_feast_35 : decode cX9_feast 35 = .ok (.iconst 0, 1) := by decide +kernel
theorem dX9_feast_36 : decode cX9_feast 36 = .ok (.istore_n 3, 1) := by decide +kernel
theorem dX9_feast_37 : decode cX9_feast 37 = .ok (.aload_n 0, 1) := by decide +kernel
theorem dX9_feast_38 : decode cX9_feast 38 = .ok (.getfield 37, 3) := by decide +kernel
theorem dX9_feast_41 : decode cX9_feast 41 = .ok (.iload_n 1, 1) := by decide +kernel
theorem dX9_feast_42 : decode cX9_feast 42 = .ok (.iload_n 2, 1) := by decide +kernel
theorem dX9_feast_43 : decode cX9_feast 43 = .ok (.iconst 1, 1) := by decide +kernel
theorem dX9_feast_44 : decode cX9_feast 44 = .ok (.if_icmp .ne 7, 3) := by decide +kernel
theorem dX9_feast_47 : decode cX9_feast 47 = .ok (.iconst 1, 1) := by decide +kernel
theorem dX9_feast_48 : decode cX9_feast 48 = .ok (.goto 4, 3) := by decide +kernel
theorem dX9_feast_51 : decode cX9_feast 51 = .ok (.iconst 0, 1) := by decide +kernel
theorem dX9_feast_52 : decode cX9_feast 52 = .ok (.bastore, 1) := by decide +kernel
theorem dX9_feast_53 : decode cX9_feast 53 = .ok (.iload_n 3, 1) := by decide +kernel
theorem dX9_feast_54 : decode cX9_feast 54 = .ok (.ireturn, 1) := by decide +kernel
theorem dX9_isPiece_0 : decode cX9_isPiece 0 = .ok (.iload_n 1, 1) := by decide +kernel
theorem dX9_isPiece_1 : decode cX9_isPiece 1 = .ok (.ifCond .lt 15, 3) := by decide +kernel
theorem dX9_isPiece_4 : decode cX9_isPiece 4 = .ok (.iload_n 1, 1) := by decide +kernel
theorem dX9_isPiece_5 : decode cX9_isPiece 5 = .ok (.aload_n 0, 1) := by decide +kernel
theorem dX9_isPiece_6 : decode cX9_isPiece 6 = .ok (.getfield 101, 3) := by decide +kernel
theorem dX9_isPiece_9 : decode cX9_isPiece 9 = .ok (.if_icmp .ge 7, 3) := by decide +kernel
theorem dX9_isPiece_12 : decode cX9_isPiece 12 = .ok (.iconst 1, 1) := by decide +kernel
theorem dX9_isPiece_13 : decode cX9_isPiece 13 = .ok (.goto 4, 3) := by decide +kernel
theorem dX9_isPiece_16 : decode cX9_isPiece 16 = .ok (.iconst 0, 1) := by decide +kernel
theorem dX9_isPiece_17 : decode cX9_isPiece 17 = .ok (.ireturn, 1) := by decide +kernel
theorem dX9_isWork_0 : decode cX9_isWork 0 = .ok (.iload_n 1, 1) := by decide +kernel
theorem dX9_isWork_1 : decode cX9_isWork 1 = .ok (.ifCond .lt 15, 3) := by decide +kernel
theorem dX9_isWork_4 : decode cX9_isWork 4 = .ok (.iload_n 1, 1) := by decide +kernel
theorem dX9_isWork_5 : decode cX9_isWork 5 = .ok (.aload_n 0, 1) := by decide +kernel
theorem dX9_isWork_6 : decode cX9_isWork 6 = .ok (.getfield 107, 3) := by decide +kernel
theorem dX9_isWork_9 : decode cX9_isWork 9 = .ok (.if_icmp .ge 7, 3) := by decide +kernel
theorem dX9_isWork_12 : decode cX9_isWork 12 = .ok (.iconst 1, 1) := by decide +kernel
theorem dX9_isWork_13 : decode cX9_isWork 13 = .ok (.goto 4, 3) := by decide +kernel
theorem dX9_isWork_16 : decode cX9_isWork 16 = .ok (.iconst 0, 1) := by decide +kernel
theorem dX9_isWork_17 : decode cX9_isWork 17 = .ok (.ireturn, 1) := by decide +kernel
theorem dX9_work_0 : decode cX9_work 0 = .ok (.iload_n 1, 1) := by decide +kernel
theorem dX9_work_1 : decode cX9_work 1 = .ok (.ifCond .lt 102, 3) := by decide +kernel
theorem dX9_work_4 : decode cX9_work 4 = .ok (.iload_n 2, 1) := by decide +kernel
theorem dX9_work_5 : decode cX9_work 5 = .ok (.ifCond .lt 98, 3) := by decide +kernel
theorem dX9_work_8 : decode cX9_work 8 = .ok (.iload_n 1, 1) := by decide +kernel
theorem dX9_work_9 : decode cX9_work 9 = .ok (.sipush 10000, 3) := by decide +kernel
theorem dX9_work_12 : decode cX9_work 12 = .ok (.idiv, 1) := by decide +kernel
theorem dX9_work_13 : decode cX9_work 13 = .ok (.iconst 0, 1) := by decide +kernel
theorem dX9_work_14 : decode cX9_work 14 = .ok (.bipush 9, 2) := by decide +kernel
theorem dX9_work_16 : decode cX9_work 16 = .ok (.invokestatic 97, 3) := by decide +kernel
theorem dX9_work_19 : decode cX9_work 19 = .ok (.ifCond .eq 84, 3) := by decide +kernel
theorem dX9_work_22 : decode cX9_work 22 = .ok (.iload_n 1, 1) := by decide +kernel
theorem dX9_work_23 : decode cX9_work 23 = .ok (.sipush 1000, 3) := by decide +kernel
theorem dX9_work_26 : decode cX9_work 26 = .ok (.idiv, 1) := by decide +kernel
theorem dX9_work_27 : decode cX9_work 27 = .ok (.bipush 10, 2) := by decide +kernel
theorem dX9_work_29 : decode cX9_work 29 = .ok (.irem, 1) := by decide +kernel
theorem dX9_work_30 : decode cX9_work 30 = .ok (.iconst 0, 1) := by decide +kernel
theorem dX9_work_31 : decode cX9_work 31 = .ok (.iconst 3, 1) := by decide +kernel
theorem dX9_work_32 : decode cX9_work 32 = .ok (.invokestatic 97, 3) := by decide +kernel
theorem dX9_work_35 : decode cX9_work 35 = .ok (.ifCond .eq 68, 3) := by decide +kernel
theorem dX9_work_38 : decode cX9_work 38 = .ok (.iload_n 1, 1) := by decide +kernel
theorem dX9_work_39 : decode cX9_work 39 = .ok (.bipush 100, 2) := by decide +kernel
theorem dX9_work_41 : decode cX9_work 41 = .ok (.idiv, 1) := by decide +kernel
theorem dX9_work_42 : decode cX9_work 42 = .ok (.bipush 10, 2) := by decide +kernel
theorem dX9_work_44 : decode cX9_work 44 = .ok (.irem, 1) := by decide +kernel
theorem dX9_work_45 : decode cX9_work 45 = .ok (.iconst 1, 1) := by decide +kernel
theorem dX9_work_46 : decode cX9_work 46 = .ok (.iconst 4, 1) := by decide +kernel
theorem dX9_work_47 : decode cX9_work 47 = .ok (.invokestatic 97, 3) := by decide +kernel
theorem dX9_work_50 : decode cX9_work 50 = .ok (.ifCond .eq 53, 3) := by decide +kernel
theorem dX9_work_53 : decode cX9_work 53 = .ok (.iload_n 1, 1) := by decide +kernel
theorem dX9_work_54 : decode cX9_work 54 = .ok (.bipush 100, 2) := by decide +kernel
theorem dX9_work_56 : decode cX9_work 56 = .ok (.irem, 1) := by decide +kernel
theorem dX9_work_57 : decode cX9_work 57 = .ok (.iconst 1, 1) := by decide +kernel
theorem dX9_work_58 : decode cX9_work 58 = .ok (.bipush 30, 2) := by decide +kernel
theorem dX9_work_60 : decode cX9_work 60 = .ok (.invokestatic 97, 3) := by decide +kernel
theorem dX9_work_63 : decode cX9_work 63 = .ok (.ifCond .eq 40, 3) := by decide +kernel
theorem dX9_work_66 : decode cX9_work 66 = .ok (.iload_n 2, 1) := by decide +kernel
theorem dX9_work_67 : decode cX9_work 67 = .ok (.sipush 1000, 3) := by decide +kernel
theorem dX9_work_70 : decode cX9_work 70 = .ok (.idiv, 1) := by decide +kernel
theorem dX9_work_71 : decode cX9_work 71 = .ok (.iconst 1, 1) := by decide +kernel
theorem dX9_work_72 : decode cX9_work 72 = .ok (.bipush 9, 2) := by decide +kernel
theorem dX9_work_74 : decode cX9_work 74 = .ok (.invokestatic 97, 3) := by decide +kernel
theorem dX9_work_77 : decode cX9_work 77 = .ok (.ifCond .eq 26, 3) := by decide +kernel
theorem dX9_work_80 : decode cX9_work 80 = .ok (.iload_n 2, 1) := by decide +kernel
theorem dX9_work_81 : decode cX9_work 81 = .ok (.sipush 1000, 3) := by decide +kernel
theorem dX9_work_84 : decode cX9_work 84 = .ok (.irem, 1) := by decide +kernel
theorem dX9_work_85 : decode cX9_work 85 = .ok (.iconst 0, 1) := by decide +kernel
theorem dX9_work_86 : decode cX9_work 86 = .ok (.sipush 399, 3) := by decide +kernel
theorem dX9_work_89 : decode cX9_work 89 = .ok (.invokestatic 97, 3) := by decide +kernel
theorem dX9_work_92 : decode cX9_work 92 = .ok (.ifCond .eq 11, 3) := by decide +kernel
theorem dX9_work_95 : decode cX9_work 95 = .ok (.aload_n 0, 1) := by decide +kernel
theorem dX9_work_96 : decode cX9_work 96 = .ok (.iload_n 3, 1) := by decide +kernel
theorem dX9_work_97 : decode cX9_work 97 = .ok (.invokevirtual 110, 3) := by decide +kernel
theorem dX9_work_100 : decode cX9_work 100 = .ok (.ifCond .ne 5, 3) := by decide +kernel
theorem dX9_work_103 : decode cX9_work 103 = .ok (.iconst (-1), 1) := by decide +kernel
theorem dX9_work_104 : decode cX9_work 104 = .ok (.ireturn, 1) := by decide +kernel
theorem dX9_work_105 : decode cX9_work 105 = .ok (.aload_n 0, 1) := by decide +kernel
theorem dX9_work_106 : decode cX9_work 106 = .ok (.getfield 107, 3) := by decide +kernel
theorem dX9_work_109 : decode cX9_work 109 = .ok (.bipush 60, 2) := by decide +kernel
theorem dX9_work_111 : decode cX9_work 111 = .ok (.if_icmp .ne 6, 3) := by decide +kernel
theorem dX9_work_114 : decode cX9_work 114 = .ok (.bipush (-2), 2) := by decide +kernel
theorem dX9_work_116 : decode cX9_work 116 = .ok (.ireturn, 1) := by decide +kernel
theorem dX9_work_117 : decode cX9_work 117 = .ok (.aload_n 0, 1) := by decide +kernel
theorem dX9_work_118 : decode cX9_work 118 = .ok (.getfield 107, 3) := by decide +kernel
theorem dX9_work_121 : decode cX9_work 121 = .ok (.istore 4, 2) := by decide +kernel
theorem dX9_work_123 : decode cX9_work 123 = .ok (.aload_n 0, 1) := by decide +kernel
theorem dX9_work_124 : decode cX9_work 124 = .ok (.getfield 41, 3) := by decide +kernel
theorem dX9_work_127 : decode cX9_work 127 = .ok (.iload 4, 2) := by decide +kernel
theorem dX9_work_129 : decode cX9_work 129 = .ok (.iload_n 1, 1) := by decide +kernel
theorem dX9_work_130 : decode cX9_work 130 = .ok (.sipush 10000, 3) := by decide +kernel
theorem dX9_work_133 : decode cX9_work 133 = .ok (.idiv, 1) := by decide +kernel
theorem dX9_work_134 : decode cX9_work 134 = .ok (.iastore, 1) := by decide +kernel
theorem dX9_work_135 : decode cX9_work 135 = .ok (.aload_n 0, 1) := by decide +kernel
theorem dX9_work_136 : decode cX9_work 136 = .ok (.getfield 44, 3) := by decide +kernel
theorem dX9_work_139 : decode cX9_work 139 = .ok (.iload 4, 2) := by decide +kernel
theorem dX9_work_141 : decode cX9_work 141 = .ok (.iload_n 1, 1) := by decide +kernel
theorem dX9_work_142 : decode cX9_work 142 = .ok (.sipush 1000, 3) := by decide +kernel
theorem dX9_work_145 : decode cX9_work 145 = .ok (.idiv, 1) := by decide +kernel
theorem dX9_work_146 : decode cX9_work 146 = .ok (.bipush 10, 2) := by decide +kernel
theorem dX9_work_148 : decode cX9_work 148 = .ok (.irem, 1) := by decide +kernel
theorem dX9_work_149 : decode cX9_work 149 = .ok (.iastore, 1) := by decide +kernel
theorem dX9_work_150 : decode cX9_work 150 = .ok (.aload_n 0, 1) := by decide +kernel
theorem dX9_work_151 : decode cX9_work 151 = .ok (.getfield 47, 3) := by decide +kernel
theorem dX9_work_154 : decode cX9_work 154 = .ok (.iload 4, 2) := by decide +kernel
theorem dX9_work_156 : decode cX9_work 156 = .ok (.iload_n 1, 1) := by decide +kernel
theorem dX9_work_157 : decode cX9_work 157 = .ok (.bipush 100, 2) := by decide +kernel
theorem dX9_work_159 : decode cX9_work 159 = .ok (.idiv, 1) := by decide +kernel
theorem dX9_work_160 : decode cX9_work 160 = .ok (.bipush 10, 2) := by decide +kernel
theorem dX9_work_162 : decode cX9_work 162 = .ok (.irem, 1) := by decide +kernel
theorem dX9_work_163 : decode cX9_work 163 = .ok (.iastore, 1) := by decide +kernel
theorem dX9_work_164 : decode cX9_work 164 = .ok (.aload_n 0, 1) := by decide +kernel
theorem dX9_work_165 : decode cX9_work 165 = .ok (.getfield 50, 3) := by decide +kernel
theorem dX9_work_168 : decode cX9_work 168 = .ok (.iload 4, 2) := by decide +kernel
theorem dX9_work_170 : decode cX9_work 170 = .ok (.iload_n 1, 1) := by decide +kernel
theorem dX9_work_171 : decode cX9_work 171 = .ok (.bipush 100, 2) := by decide +kernel
theorem dX9_work_173 : decode cX9_work 173 = .ok (.irem, 1) := by decide +kernel
theorem dX9_work_174 : decode cX9_work 174 = .ok (.iastore, 1) := by decide +kernel
theorem dX9_work_175 : decode cX9_work 175 = .ok (.aload_n 0, 1) := by decide +kernel
theorem dX9_work_176 : decode cX9_work 176 = .ok (.getfield 53, 3) := by decide +kernel
theorem dX9_work_179 : decode cX9_work 179 = .ok (.iload 4, 2) := by decide +kernel
theorem dX9_work_181 : decode cX9_work 181 = .ok (.iload_n 2, 1) := by decide +kernel
theorem dX9_work_182 : decode cX9_work 182 = .ok (.sipush 1000, 3) := by decide +kernel
theorem dX9_work_185 : decode cX9_work 185 = .ok (.idiv, 1) := by decide +kernel
theorem dX9_work_186 : decode cX9_work 186 = .ok (.iastore, 1) := by decide +kernel
theorem dX9_work_187 : decode cX9_work 187 = .ok (.aload_n 0, 1) := by decide +kernel
theorem dX9_work_188 : decode cX9_work 188 = .ok (.getfield 56, 3) := by decide +kernel
theorem dX9_work_191 : decode cX9_work 191 = .ok (.iload 4, 2) := by decide +kernel
theorem dX9_work_193 : decode cX9_work 193 = .ok (.iload_n 2, 1) := by decide +kernel
theorem dX9_work_194 : decode cX9_work 194 = .ok (.sipush 1000, 3) := by decide +kernel
theorem dX9_work_197 : decode cX9_work 197 = .ok (.irem, 1) := by decide +kernel
theorem dX9_work_198 : decode cX9_work 198 = .ok (.iastore, 1) := by decide +kernel
theorem dX9_work_199 : decode cX9_work 199 = .ok (.aload_n 0, 1) := by decide +kernel
theorem dX9_work_200 : decode cX9_work 200 = .ok (.getfield 59, 3) := by decide +kernel
theorem dX9_work_203 : decode cX9_work 203 = .ok (.iload 4, 2) := by decide +kernel
theorem dX9_work_205 : decode cX9_work 205 = .ok (.lconst 1, 1) := by decide +kernel
theorem dX9_work_206 : decode cX9_work 206 = .ok (.iload_n 3, 1) := by decide +kernel
theorem dX9_work_207 : decode cX9_work 207 = .ok (.lshl, 1) := by decide +kernel
theorem dX9_work_208 : decode cX9_work 208 = .ok (.lastore, 1) := by decide +kernel
theorem dX9_work_209 : decode cX9_work 209 = .ok (.aload_n 0, 1) := by decide +kernel
theorem dX9_work_210 : decode cX9_work 210 = .ok (.getfield 63, 3) := by decide +kernel
theorem dX9_work_213 : decode cX9_work 213 = .ok (.iload 4, 2) := by decide +kernel
theorem dX9_work_215 : decode cX9_work 215 = .ok (.iload_n 3, 1) := by decide +kernel
theorem dX9_work_216 : decode cX9_work 216 = .ok (.iastore, 1) := by decide +kernel
theorem dX9_work_217 : decode cX9_work 217 = .ok (.aload_n 0, 1) := by decide +kernel
theorem dX9_work_218 : decode cX9_work 218 = .ok (.getfield 66, 3) := by decide +kernel
theorem dX9_work_221 : decode cX9_work 221 = .ok (.iload 4, 2) := by decide +kernel
theorem dX9_work_223 : decode cX9_work 223 = .ok (.iconst 1, 1) := by decide +kernel
theorem dX9_work_224 : decode cX9_work 224 = .ok (.iastore, 1) := by decide +kernel
theorem dX9_work_225 : decode cX9_work 225 = .ok (.aload_n 0, 1) := by decide +kernel
theorem dX9_work_226 : decode cX9_work 226 = .ok (.getfield 72, 3) := by decide +kernel
theorem dX9_work_229 : decode cX9_work 229 = .ok (.iload 4, 2) := by decide +kernel
theorem dX9_work_231 : decode cX9_work 231 = .ok (.iconst (-1), 1) := by decide +kernel
theorem dX9_work_232 : decode cX9_work 232 = .ok (.iastore, 1) := by decide +kernel
theorem dX9_work_233 : decode cX9_work 233 = .ok (.aload_n 0, 1) := by decide +kernel
theorem dX9_work_234 : decode cX9_work 234 = .ok (.getfield 75, 3) := by decide +kernel
theorem dX9_work_237 : decode cX9_work 237 = .ok (.iload 4, 2) := by decide +kernel
theorem dX9_work_239 : decode cX9_work 239 = .ok (.iconst (-1), 1) := by decide +kernel
theorem dX9_work_240 : decode cX9_work 240 = .ok (.iastore, 1) := by decide +kernel
theorem dX9_work_241 : decode cX9_work 241 = .ok (.aload_n 0, 1) := by decide +kernel
theorem dX9_work_242 : decode cX9_work 242 = .ok (.getfield 81, 3) := by decide +kernel
theorem dX9_work_245 : decode cX9_work 245 = .ok (.iload 4, 2) := by decide +kernel
theorem dX9_work_247 : decode cX9_work 247 = .ok (.iconst (-1), 1) := by decide +kernel
theorem dX9_work_248 : decode cX9_work 248 = .ok (.iastore, 1) := by decide +kernel
theorem dX9_work_249 : decode cX9_work 249 = .ok (.aload_n 0, 1) := by decide +kernel
theorem dX9_work_250 : decode cX9_work 250 = .ok (.dup, 1) := by decide +kernel
theorem dX9_work_251 : decode cX9_work 251 = .ok (.getfield 107, 3) := by decide +kernel
theorem dX9_work_254 : decode cX9_work 254 = .ok (.iconst 1, 1) := by decide +kernel
theorem dX9_work_255 : decode cX9_work 255 = .ok (.iadd, 1) := by decide +kernel
theorem dX9_work_256 : decode cX9_work 256 = .ok (.putfield 107, 3) := by decide +kernel
theorem dX9_work_259 : decode cX9_work 259 = .ok (.iload 4, 2) := by decide +kernel
theorem dX9_work_261 : decode cX9_work 261 = .ok (.ireturn, 1) := by decide +kernel
theorem dX9_isOn_0 : decode cX9_isOn 0 = .ok (.aload_n 0, 1) := by decide +kernel
theorem dX9_isOn_1 : decode cX9_isOn 1 = .ok (.getfield 59, 3) := by decide +kernel
theorem dX9_isOn_4 : decode cX9_isOn 4 = .ok (.iload_n 1, 1) := by decide +kernel
theorem dX9_isOn_5 : decode cX9_isOn 5 = .ok (.laload, 1) := by decide +kernel
theorem dX9_isOn_6 : decode cX9_isOn 6 = .ok (.iload_n 2, 1) := by decide +kernel
theorem dX9_isOn_7 : decode cX9_isOn 7 = .ok (.lshr, 1) := by decide +kernel
theorem dX9_isOn_8 : decode cX9_isOn 8 = .ok (.lconst 1, 1) := by decide +kernel
theorem dX9_isOn_9 : decode cX9_isOn 9 = .ok (.land, 1) := by decide +kernel
theorem dX9_isOn_10 : decode cX9_isOn 10 = .ok (.lconst 1, 1) := by decide +kernel
theorem dX9_isOn_11 : decode cX9_isOn 11 = .ok (.lcmp, 1) := by decide +kernel
theorem dX9_isOn_12 : decode cX9_isOn 12 = .ok (.ifCond .ne 7, 3) := by decide +kernel
theorem dX9_isOn_15 : decode cX9_isOn 15 = .ok (.iconst 1, 1) := by decide +kernel
theorem dX9_isOn_16 : decode cX9_isOn 16 = .ok (.goto 4, 3) := by decide +kernel
theorem dX9_isOn_19 : decode cX9_isOn 19 = .ok (.iconst 0, 1) := by decide +kernel
theorem dX9_isOn_20 : decode cX9_isOn 20 = .ok (.ireturn, 1) := by decide +kernel
theorem dX9_more_0 : decode cX9_more 0 = .ok (.aload_n 0, 1) := by decide +kernel
theorem dX9_more_1 : decode cX9_more 1 = .ok (.iload_n 1, 1) := by decide +kernel
theorem dX9_more_2 : decode cX9_more 2 = .ok (.invokevirtual 114, 3) := by decide +kernel
theorem dX9_more_5 : decode cX9_more 5 = .ok (.ifCond .eq 20, 3) := by decide +kernel
theorem dX9_more_8 : decode cX9_more 8 = .ok (.aload_n 0, 1) := by decide +kernel
theorem dX9_more_9 : decode cX9_more 9 = .ok (.iload_n 2, 1) := by decide +kernel
theorem dX9_more_10 : decode cX9_more 10 = .ok (.invokevirtual 110, 3) := by decide +kernel
theorem dX9_more_13 : decode cX9_more 13 = .ok (.ifCond .eq 12, 3) := by decide +kernel
theorem dX9_more_16 : decode cX9_more 16 = .ok (.aload_n 0, 1) := by decide +kernel
theorem dX9_more_17 : decode cX9_more 17 = .ok (.iload_n 1, 1) := by decide +kernel
theorem dX9_more_18 : decode cX9_more 18 = .ok (.iload_n 2, 1) := by decide +kernel
theorem dX9_more_19 : decode cX9_more 19 = .ok (.invokevirtual 117, 3) := by decide +kernel
theorem dX9_more_22 : decode cX9_more 22 = .ok (.ifCond .eq 5, 3) := by decide +kernel
theorem dX9_more_25 : decode cX9_more 25 = .ok (.iconst (-1), 1) := by decide +kernel
theorem dX9_more_26 : decode cX9_more 26 = .ok (.ireturn, 1) := by decide +kernel
theorem dX9_more_27 : decode cX9_more 27 = .ok (.aload_n 0, 1) := by decide +kernel
theorem dX9_more_28 : decode cX9_more 28 = .ok (.getfield 69, 3) := by decide +kernel
theorem dX9_more_31 : decode cX9_more 31 = .ok (.iload_n 1, 1) := by decide +kernel
theorem dX9_more_32 : decode cX9_more 32 = .ok (.iaload, 1) := by decide +kernel
theorem dX9_more_33 : decode cX9_more 33 = .ok (.ifCond .ne 12, 3) := by decide +kernel
theorem dX9_more_36 : decode cX9_more 36 = .ok (.aload_n 0, 1) := by decide +kernel
theorem dX9_more_37 : decode cX9_more 37 = .ok (.getfield 81, 3) := by decide +kernel
theorem dX9_more_40 : decode cX9_more 40 = .ok (.iload_n 1, 1) := by decide +kernel
theorem dX9_more_41 : decode cX9_more 41 = .ok (.iaload, 1) := by decide +kernel
theorem dX9_more_42 : decode cX9_more 42 = .ok (.ifCond .lt 6, 3) := by decide +kernel
theorem dX9_more_45 : decode cX9_more 45 = .ok (.bipush (-3), 2) := by decide +kernel
theorem dX9_more_47 : decode cX9_more 47 = .ok (.ireturn, 1) := by decide +kernel
theorem dX9_more_48 : decode cX9_more 48 = .ok (.aload_n 0, 1) := by decide +kernel
theorem dX9_more_49 : decode cX9_more 49 = .ok (.getfield 66, 3) := by decide +kernel
theorem dX9_more_52 : decode cX9_more 52 = .ok (.iload_n 1, 1) := by decide +kernel
theorem dX9_more_53 : decode cX9_more 53 = .ok (.iaload, 1) := by decide +kernel
theorem dX9_more_54 : decode cX9_more 54 = .ok (.iconst 4, 1) := by decide +kernel
theorem dX9_more_55 : decode cX9_more 55 = .ok (.if_icmp .ne 6, 3) := by decide +kernel
theorem dX9_more_58 : decode cX9_more 58 = .ok (.bipush (-2), 2) := by decide +kernel
theorem dX9_more_60 : decode cX9_more 60 = .ok (.ireturn, 1) := by decide +kernel
theorem dX9_more_61 : decode cX9_more 61 = .ok (.aload_n 0, 1) := by decide +kernel
theorem dX9_more_62 : decode cX9_more 62 = .ok (.getfield 59, 3) := by decide +kernel
theorem dX9_more_65 : decode cX9_more 65 = .ok (.iload_n 1, 1) := by decide +kernel
theorem dX9_more_66 : decode cX9_more 66 = .ok (.dup2, 1) := by decide +kernel
theorem dX9_more_67 : decode cX9_more 67 = .ok (.laload, 1) := by decide +kernel
theorem dX9_more_68 : decode cX9_more 68 = .ok (.lconst 1, 1) := by decide +kernel
theorem dX9_more_69 : decode cX9_more 69 = .ok (.iload_n 2, 1) := by decide +kernel
theorem dX9_more_70 : decode cX9_more 70 = .ok (.lshl, 1) := by decide +kernel
theorem dX9_more_71 : decode cX9_more 71 = .ok (.lor, 1) := by decide +kernel
theorem dX9_more_72 : decode cX9_more 72 = .ok (.lastore, 1) := by decide +kernel
theorem dX9_more_73 : decode cX9_more 73 = .ok (.aload_n 0, 1) := by decide +kernel
theorem dX9_more_74 : decode cX9_more 74 = .ok (.getfield 66, 3) := by decide +kernel
theorem dX9_more_77 : decode cX9_more 77 = .ok (.iload_n 1, 1) := by decide +kernel
theorem dX9_more_78 : decode cX9_more 78 = .ok (.dup2, 1) := by decide +kernel
theorem dX9_more_79 : decode cX9_more 79 = .ok (.iaload, 1) := by decide +kernel
theorem dX9_more_80 : decode cX9_more 80 = .ok (.iconst 1, 1) := by decide +kernel
theorem dX9_more_81 : decode cX9_more 81 = .ok (.iadd, 1) := by decide +kernel
theorem dX9_more_82 : decode cX9_more 82 = .ok (.iastore, 1) := by decide +kernel
theorem dX9_more_83 : decode cX9_more 83 = .ok (.aload_n 0, 1) := by decide +kernel
theorem dX9_more_84 : decode cX9_more 84 = .ok (.getfield 66, 3) := by decide +kernel
theorem dX9_more_87 : decode cX9_more 87 = .ok (.iload_n 1, 1) := by decide +kernel
theorem dX9_more_88 : decode cX9_more 88 = .ok (.iaload, 1) := by decide +kernel
theorem dX9_more_89 : decode cX9_more 89 = .ok (.ireturn, 1) := by decide +kernel
theorem dX9_hasDays_0 : decode cX9_hasDays 0 = .ok (.aload_n 0, 1) := by decide +kernel
theorem dX9_hasDays_1 : decode cX9_hasDays 1 = .ok (.getfield 69, 3) := by decide +kernel
theorem dX9_hasDays_4 : decode cX9_hasDays 4 = .ok (.iload_n 1, 1) := by decide +kernel
theorem dX9_hasDays_5 : decode cX9_hasDays 5 = .ok (.iaload, 1) := by decide +kernel
theorem dX9_hasDays_6 : decode cX9_hasDays 6 = .ok (.iconst 1, 1) := by decide +kernel
theorem dX9_hasDays_7 : decode cX9_hasDays 7 = .ok (.if_icmp .lt 17, 3) := by decide +kernel
theorem dX9_hasDays_10 : decode cX9_hasDays 10 = .ok (.aload_n 0, 1) := by decide +kernel
theorem dX9_hasDays_11 : decode cX9_hasDays 11 = .ok (.getfield 69, 3) := by decide +kernel
theorem dX9_hasDays_14 : decode cX9_hasDays 14 = .ok (.iload_n 1, 1) := by decide +kernel
theorem dX9_hasDays_15 : decode cX9_hasDays 15 = .ok (.iaload, 1) := by decide +kernel
theorem dX9_hasDays_16 : decode cX9_hasDays 16 = .ok (.iconst 3, 1) := by decide +kernel
theorem dX9_hasDays_17 : decode cX9_hasDays 17 = .ok (.if_icmp .gt 7, 3) := by decide +kernel
theorem dX9_hasDays_20 : decode cX9_hasDays 20 = .ok (.iconst 1, 1) := by decide +kernel
theorem dX9_hasDays_21 : decode cX9_hasDays 21 = .ok (.goto 4, 3) := by decide +kernel
theorem dX9_hasDays_24 : decode cX9_hasDays 24 = .ok (.iconst 0, 1) := by decide +kernel
theorem dX9_hasDays_25 : decode cX9_hasDays 25 = .ok (.ireturn, 1) := by decide +kernel
theorem dX9_counts_0 : decode cX9_counts 0 = .ok (.iload_n 1, 1) := by decide +kernel
theorem dX9_counts_1 : decode cX9_counts 1 = .ok (.iload_n 2, 1) := by decide +kernel
theorem dX9_counts_2 : decode cX9_counts 2 = .ok (.if_icmp .eq 34, 3) := by decide +kernel
theorem dX9_counts_5 : decode cX9_counts 5 = .ok (.aload_n 0, 1) := by decide +kernel
theorem dX9_counts_6 : decode cX9_counts 6 = .ok (.iload_n 1, 1) := by decide +kernel
theorem dX9_counts_7 : decode cX9_counts 7 = .ok (.invokevirtual 121, 3) := by decide +kernel
theorem dX9_counts_10 : decode cX9_counts 10 = .ok (.ifCond .eq 26, 3) := by decide +kernel
theorem dX9_counts_13 : decode cX9_counts 13 = .ok (.iload_n 3, 1) := by decide +kernel
theorem dX9_counts_14 : decode cX9_counts 14 = .ok (.ifCond .eq 18, 3) := by decide +kernel
theorem dX9_counts_17 : decode cX9_counts 17 = .ok (.aload_n 0, 1) := by decide +kernel
theorem dX9_counts_18 : decode cX9_counts 18 = .ok (.getfield 69, 3) := by decide +kernel
theorem dX9_counts_21 : decode cX9_counts 21 = .ok (.iload_n 1, 1) := by decide +kernel
theorem dX9_counts_22 : decode cX9_counts 22 = .ok (.iaload, 1) := by decide +kernel
theorem dX9_counts_23 : decode cX9_counts 23 = .ok (.iconst 1, 1) := by decide +kernel
theorem dX9_counts_24 : decode cX9_counts 24 = .ok (.if_icmp .ne 8, 3) := by decide +kernel
theorem dX9_counts_27 : decode cX9_counts 27 = .ok (.iload_n 1, 1) := by decide +kernel
theorem dX9_counts_28 : decode cX9_counts 28 = .ok (.iload_n 2, 1) := by decide +kernel
theorem dX9_counts_29 : decode cX9_counts 29 = .ok (.if_icmp .ge 7, 3) := by decide +kernel
theorem dX9_counts_32 : decode cX9_counts 32 = .ok (.iconst 1, 1) := by decide +kernel
theorem dX9_counts_33 : decode cX9_counts 33 = .ok (.goto 4, 3) := by decide +kernel
theorem dX9_counts_36 : decode cX9_counts 36 = .ok (.iconst 0, 1) := by decide +kernel
theorem dX9_counts_37 : decode cX9_counts 37 = .ok (.ireturn, 1) := by decide +kernel
theorem dX9_lasts_0 : decode cX9_lasts 0 = .ok (.iload_n 1, 1) := by decide +kernel
theorem dX9_lasts_1 : decode cX9_lasts 1 = .ok (.iload_n 2, 1) := by decide +kernel
theorem dX9_lasts_2 : decode cX9_lasts 2 = .ok (.if_icmp .ne 32, 3) := by decide +kernel
theorem dX9_lasts_5 : decode cX9_lasts 5 = .ok (.iload_n 3, 1) := by decide +kernel
theorem dX9_lasts_6 : decode cX9_lasts 6 = .ok (.ifCond .lt 26, 3) := by decide +kernel
theorem dX9_lasts_9 : decode cX9_lasts 9 = .ok (.iload 5, 2) := by decide +kernel
theorem dX9_lasts_11 : decode cX9_lasts 11 = .ok (.iload_n 3, 1) := by decide +kernel
theorem dX9_lasts_12 : decode cX9_lasts 12 = .ok (.if_icmp .lt 20, 3) := by decide +kernel
theorem dX9_lasts_15 : decode cX9_lasts 15 = .ok (.iload 5, 2) := by decide +kernel
theorem dX9_lasts_17 : decode cX9_lasts 17 = .ok (.iload_n 3, 1) := by decide +kernel
theorem dX9_lasts_18 : decode cX9_lasts 18 = .ok (.aload_n 0, 1) := by decide +kernel
theorem dX9_lasts_19 : decode cX9_lasts 19 = .ok (.getfield 50, 3) := by decide +kernel
theorem dX9_lasts_22 : decode cX9_lasts 22 = .ok (.iload_n 2, 1) := by decide +kernel
theorem dX9_lasts_23 : decode cX9_lasts 23 = .ok (.iaload, 1) := by decide +kernel
theorem dX9_lasts_24 : decode cX9_lasts 24 = .ok (.iadd, 1) := by decide +kernel
theorem dX9_lasts_25 : decode cX9_lasts 25 = .ok (.if_icmp .ge 7, 3) := by decide +kernel
theorem dX9_lasts_28 : decode cX9_lasts 28 = .ok (.iconst 1, 1) := by decide +kernel
theorem dX9_lasts_29 : decode cX9_lasts 29 = .ok (.goto 4, 3) := by decide +kernel
theorem dX9_lasts_32 : decode cX9_lasts 32 = .ok (.iconst 0, 1) := by decide +kernel
theorem dX9_lasts_33 : decode cX9_lasts 33 = .ok (.ireturn, 1) := by decide +kernel
theorem dX9_lasts_34 : decode cX9_lasts 34 = .ok (.aload_n 0, 1) := by decide +kernel
theorem dX9_lasts_35 : decode cX9_lasts 35 = .ok (.iload_n 1, 1) := by decide +kernel
theorem dX9_lasts_36 : decode cX9_lasts 36 = .ok (.iload_n 2, 1) := by decide +kernel
theorem dX9_lasts_37 : decode cX9_lasts 37 = .ok (.iload 4, 2) := by decide +kernel
theorem dX9_lasts_39 : decode cX9_lasts 39 = .ok (.invokevirtual 124, 3) := by decide +kernel
theorem dX9_lasts_42 : decode cX9_lasts 42 = .ok (.ifCond .eq 29, 3) := by decide +kernel
theorem dX9_lasts_45 : decode cX9_lasts 45 = .ok (.iload 5, 2) := by decide +kernel
theorem dX9_lasts_47 : decode cX9_lasts 47 = .ok (.aload_n 0, 1) := by decide +kernel
theorem dX9_lasts_48 : decode cX9_lasts 48 = .ok (.getfield 72, 3) := by decide +kernel
theorem dX9_lasts_51 : decode cX9_lasts 51 = .ok (.iload_n 1, 1) := by decide +kernel
theorem dX9_lasts_52 : decode cX9_lasts 52 = .ok (.iaload, 1) := by decide +kernel
theorem dX9_lasts_53 : decode cX9_lasts 53 = .ok (.if_icmp .lt 18, 3) := by decide +kernel
theorem dX9_lasts_56 : decode cX9_lasts 56 = .ok (.iload 5, 2) := by decide +kernel
theorem dX9_lasts_58 : decode cX9_lasts 58 = .ok (.aload_n 0, 1) := by decide +kernel
theorem dX9_lasts_59 : decode cX9_lasts 59 = .ok (.getfield 75, 3) := by decide +kernel
theorem dX9_lasts_62 : decode cX9_lasts 62 = .ok (.iload_n 1, 1) := by decide +kernel
theorem dX9_lasts_63 : decode cX9_lasts 63 = .ok (.iaload, 1) := by decide +kernel
theorem dX9_lasts_64 : decode cX9_lasts 64 = .ok (.if_icmp .gt 7, 3) := by decide +kernel
theorem dX9_lasts_67 : decode cX9_lasts 67 = .ok (.iconst 1, 1) := by decide +kernel
theorem dX9_lasts_68 : decode cX9_lasts 68 = .ok (.goto 4, 3) := by decide +kernel
theorem dX9_lasts_71 : decode cX9_lasts 71 = .ok (.iconst 0, 1) := by decide +kernel
theorem dX9_lasts_72 : decode cX9_lasts 72 = .ok (.ireturn, 1) := by decide +kernel
theorem dX9_taken_0 : decode cX9_taken 0 = .ok (.iconst 0, 1) := by decide +kernel
theorem dX9_taken_1 : decode cX9_taken 1 = .ok (.istore 6, 2) := by decide +kernel
theorem dX9_taken_3 : decode cX9_taken 3 = .ok (.iconst 0, 1) := by decide +kernel
theorem dX9_taken_4 : decode cX9_taken 4 = .ok (.istore 7, 2) := by decide +kernel
theorem dX9_taken_6 : decode cX9_taken 6 = .ok (.iload 7, 2) := by decide +kernel
theorem dX9_taken_8 : decode cX9_taken 8 = .ok (.aload_n 0, 1) := by decide +kernel
theorem dX9_taken_9 : decode cX9_taken 9 = .ok (.getfield 107, 3) := by decide +kernel
theorem dX9_taken_12 : decode cX9_taken 12 = .ok (.if_icmp .ge 154, 3) := by decide +kernel
theorem dX9_taken_15 : decode cX9_taken 15 = .ok (.aload_n 0, 1) := by decide +kernel
theorem dX9_taken_16 : decode cX9_taken 16 = .ok (.iload 7, 2) := by decide +kernel
theorem dX9_taken_18 : decode cX9_taken 18 = .ok (.iload_n 1, 1) := by decide +kernel
theorem dX9_taken_19 : decode cX9_taken 19 = .ok (.invokevirtual 117, 3) := by decide +kernel
theorem dX9_taken_22 : decode cX9_taken 22 = .ok (.ifCond .eq 138, 3) := by decide +kernel
theorem dX9_taken_25 : decode cX9_taken 25 = .ok (.aload_n 0, 1) := by decide +kernel
theorem dX9_taken_26 : decode cX9_taken 26 = .ok (.iload 7, 2) := by decide +kernel
theorem dX9_taken_28 : decode cX9_taken 28 = .ok (.iload_n 2, 1) := by decide +kernel
theorem dX9_taken_29 : decode cX9_taken 29 = .ok (.iload_n 3, 1) := by decide +kernel
theorem dX9_taken_30 : decode cX9_taken 30 = .ok (.iload 4, 2) := by decide +kernel
theorem dX9_taken_32 : decode cX9_taken 32 = .ok (.iload 5, 2) := by decide +kernel
theorem dX9_taken_34 : decode cX9_taken 34 = .ok (.invokevirtual 128, 3) := by decide +kernel
theorem dX9_taken_37 : decode cX9_taken 37 = .ok (.ifCond .eq 123, 3) := by decide +kernel
theorem dX9_taken_40 : decode cX9_taken 40 = .ok (.aload_n 0, 1) := by decide +kernel
theorem dX9_taken_41 : decode cX9_taken 41 = .ok (.getfield 81, 3) := by decide +kernel
theorem dX9_taken_44 : decode cX9_taken 44 = .ok (.iload 7, 2) := by decide +kernel
theorem dX9_taken_46 : decode cX9_taken 46 = .ok (.iaload, 1) := by decide +kernel
theorem dX9_taken_47 : decode cX9_taken 47 = .ok (.istore 8, 2) := by decide +kernel
theorem dX9_taken_49 : decode cX9_taken 49 = .ok (.iload 8, 2) := by decide +kernel
theorem dX9_taken_51 : decode cX9_taken 51 = .ok (.ifCond .lt 32, 3) := by decide +kernel
theorem dX9_taken_54 : decode cX9_taken 54 = .ok (.aload_n 0, 1) := by decide +kernel
theorem dX9_taken_55 : decode cX9_taken 55 = .ok (.iload 8, 2) := by decide +kernel
theorem dX9_taken_57 : decode cX9_taken 57 = .ok (.iload_n 1, 1) := by decide +kernel
theorem dX9_taken_58 : decode cX9_taken 58 = .ok (.invokevirtual 117, 3) := by decide +kernel
theorem dX9_taken_61 : decode cX9_taken 61 = .ok (.ifCond .eq 22, 3) := by decide +kernel
theorem dX9_taken_64 : decode cX9_taken 64 = .ok (.aload_n 0, 1) := by decide +kernel
theorem dX9_taken_65 : decode cX9_taken 65 = .ok (.iload 8, 2) := by decide +kernel
theorem dX9_taken_67 : decode cX9_taken 67 = .ok (.iload_n 2, 1) := by decide +kernel
theorem dX9_taken_68 : decode cX9_taken 68 = .ok (.iload_n 3, 1) := by decide +kernel
theorem dX9_taken_69 : decode cX9_taken 69 = .ok (.iload 4, 2) := by decide +kernel
theorem dX9_taken_71 : decode cX9_taken 71 = .ok (.iload 5, 2) := by decide +kernel
theorem dX9_taken_73 : decode cX9_taken 73 = .ok (.invokevirtual 128, 3) := by decide +kernel
theorem dX9_taken_76 : decode cX9_taken 76 = .ok (.ifCond .eq 7, 3) := by decide +kernel
theorem dX9_taken_79 : decode cX9_taken 79 = .ok (.iconst 1, 1) := by decide +kernel
theorem dX9_taken_80 : decode cX9_taken 80 = .ok (.goto 4, 3) := by decide +kernel
theorem dX9_taken_83 : decode cX9_taken 83 = .ok (.iconst 0, 1) := by decide +kernel
theorem dX9_taken_84 : decode cX9_taken 84 = .ok (.istore 9, 2) := by decide +kernel
theorem dX9_taken_86 : decode cX9_taken 86 = .ok (.iload 9, 2) := by decide +kernel
theorem dX9_taken_88 : decode cX9_taken 88 = .ok (.ifCond .eq 48, 3) := by decide +kernel
theorem dX9_taken_91 : decode cX9_taken 91 = .ok (.aload_n 0, 1) := by decide +kernel
theorem dX9_taken_92 : decode cX9_taken 92 = .ok (.getfield 47, 3) := by decide +kernel
theorem dX9_taken_95 : decode cX9_taken 95 = .ok (.iload 8, 2) := by decide +kernel
theorem dX9_taken_97 : decode cX9_taken 97 = .ok (.iaload, 1) := by decide +kernel
theorem dX9_taken_98 : decode cX9_taken 98 = .ok (.aload_n 0, 1) := by decide +kernel
theorem dX9_taken_99 : decode cX9_taken 99 = .ok (.getfield 47, 3) := by decide +kernel
theorem dX9_taken_102 : decode cX9_taken 102 = .ok (.iload 7, 2) := by decide +kernel
theorem dX9_taken_104 : decode cX9_taken 104 = .ok (.iaload, 1) := by decide +kernel
theorem dX9_taken_105 : decode cX9_taken 105 = .ok (.if_icmp .gt 27, 3) := by decide +kernel
theorem dX9_taken_108 : decode cX9_taken 108 = .ok (.aload_n 0, 1) := by decide +kernel
theorem dX9_taken_109 : decode cX9_taken 109 = .ok (.getfield 47, 3) := by decide +kernel
theorem dX9_taken_112 : decode cX9_taken 112 = .ok (.iload 8, 2) := by decide +kernel
theorem dX9_taken_114 : decode cX9_taken 114 = .ok (.iaload, 1) := by decide +kernel
theorem dX9_taken_115 : decode cX9_taken 115 = .ok (.aload_n 0, 1) := by decide +kernel
theorem dX9_taken_116 : decode cX9_taken 116 = .ok (.getfield 47, 3) := by decide +kernel
theorem dX9_taken_119 : decode cX9_taken 119 = .ok (.iload 7, 2) := by decide +kernel
theorem dX9_taken_121 : decode cX9_taken 121 = .ok (.iaload, 1) := by decide +kernel
theorem dX9_taken_122 : decode cX9_taken 122 = .ok (.if_icmp .ne 14, 3) := by decide +kernel
theorem dX9_taken_125 : decode cX9_taken 125 = .ok (.iload 8, 2) := by decide +kernel
theorem dX9_taken_127 : decode cX9_taken 127 = .ok (.iload 7, 2) := by decide +kernel
theorem dX9_taken_129 : decode cX9_taken 129 = .ok (.if_icmp .ge 7, 3) := by decide +kernel
theorem dX9_taken_132 : decode cX9_taken 132 = .ok (.iconst 1, 1) := by decide +kernel
theorem dX9_taken_133 : decode cX9_taken 133 = .ok (.goto 4, 3) := by decide +kernel
theorem dX9_taken_136 : decode cX9_taken 136 = .ok (.iconst 0, 1) := by decide +kernel
theorem dX9_taken_137 : decode cX9_taken 137 = .ok (.istore 10, 2) := by decide +kernel
theorem dX9_taken_139 : decode cX9_taken 139 = .ok (.iload 6, 2) := by decide +kernel
theorem dX9_taken_141 : decode cX9_taken 141 = .ok (.iload 10, 2) := by decide +kernel
theorem dX9_taken_143 : decode cX9_taken 143 = .ok (.ifCond .eq 7, 3) := by decide +kernel
theorem dX9_taken_146 : decode cX9_taken 146 = .ok (.iconst 0, 1) := by decide +kernel
theorem dX9_taken_147 : decode cX9_taken 147 = .ok (.goto 10, 3) := by decide +kernel
theorem dX9_taken_150 : decode cX9_taken 150 = .ok (.aload_n 0, 1) := by decide +kernel
theorem dX9_taken_151 : decode cX9_taken 151 = .ok (.getfield 47, 3) := by decide +kernel
theorem dX9_taken_154 : decode cX9_taken 154 = .ok (.iload 7, 2) := by decide +kernel
theorem dX9_taken_156 : decode cX9_taken 156 = .ok (.iaload, 1) := by decide +kernel
theorem dX9_taken_157 : decode cX9_taken 157 = .ok (.iadd, 1) := by decide +kernel
theorem dX9_taken_158 : decode cX9_taken 158 = .ok (.istore 6, 2) := by decide +kernel
theorem dX9_taken_160 : decode cX9_taken 160 = .ok (.iinc 7 1, 3) := by decide +kernel
theorem dX9_taken_163 : decode cX9_taken 163 = .ok (.goto (-157), 3) := by decide +kernel
theorem dX9_taken_166 : decode cX9_taken 166 = .ok (.iload 6, 2) := by decide +kernel
theorem dX9_taken_168 : decode cX9_taken 168 = .ok (.ireturn, 1) := by decide +kernel
theorem dX9_shutOn_0 : decode cX9_shutOn 0 = .ok (.lconst 0, 1) := by decide +kernel
theorem dX9_shutOn_1 : decode cX9_shutOn 1 = .ok (.lstore 5, 2) := by decide +kernel
theorem dX9_shutOn_3 : decode cX9_shutOn 3 = .ok (.iconst 0, 1) := by decide +kernel
theorem dX9_shutOn_4 : decode cX9_shutOn 4 = .ok (.istore 7, 2) := by decide +kernel
theorem dX9_shutOn_6 : decode cX9_shutOn 6 = .ok (.iload 7, 2) := by decide +kernel
theorem dX9_shutOn_8 : decode cX9_shutOn 8 = .ok (.aload_n 0, 1) := by decide +kernel
theorem dX9_shutOn_9 : decode cX9_shutOn 9 = .ok (.getfield 101, 3) := by decide +kernel
theorem dX9_shutOn_12 : decode cX9_shutOn 12 = .ok (.if_icmp .ge 43, 3) := by decide +kernel
theorem dX9_shutOn_15 : decode cX9_shutOn 15 = .ok (.lload 5, 2) := by decide +kernel
theorem dX9_shutOn_17 : decode cX9_shutOn 17 = .ok (.aload_n 0, 1) := by decide +kernel
theorem dX9_shutOn_18 : decode cX9_shutOn 18 = .ok (.iload 7, 2) := by decide +kernel
theorem dX9_shutOn_20 : decode cX9_shutOn 20 = .ok (.iload_n 1, 1) := by decide +kernel
theorem dX9_shutOn_21 : decode cX9_shutOn 21 = .ok (.iload_n 2, 1) := by decide +kernel
theorem dX9_shutOn_22 : decode cX9_shutOn 22 = .ok (.iload_n 3, 1) := by decide +kernel
theorem dX9_shutOn_23 : decode cX9_shutOn 23 = .ok (.iload 4, 2) := by decide +kernel
theorem dX9_shutOn_25 : decode cX9_shutOn 25 = .ok (.invokevirtual 132, 3) := by decide +kernel
theorem dX9_shutOn_28 : decode cX9_shutOn 28 = .ok (.aload_n 0, 1) := by decide +kernel
theorem dX9_shutOn_29 : decode cX9_shutOn 29 = .ok (.getfield 16, 3) := by decide +kernel
theorem dX9_shutOn_32 : decode cX9_shutOn 32 = .ok (.iload 7, 2) := by decide +kernel
theorem dX9_shutOn_34 : decode cX9_shutOn 34 = .ok (.iaload, 1) := by decide +kernel
theorem dX9_shutOn_35 : decode cX9_shutOn 35 = .ok (.if_icmp .lt 10, 3) := by decide +kernel
theorem dX9_shutOn_38 : decode cX9_shutOn 38 = .ok (.lconst 1, 1) := by decide +kernel
theorem dX9_shutOn_39 : decode cX9_shutOn 39 = .ok (.iload 7, 2) := by decide +kernel
theorem dX9_shutOn_41 : decode cX9_shutOn 41 = .ok (.lshl, 1) := by decide +kernel
theorem dX9_shutOn_42 : decode cX9_shutOn 42 = .ok (.goto 4, 3) := by decide +kernel
theorem dX9_shutOn_45 : decode cX9_shutOn 45 = .ok (.lconst 0, 1) := by decide +kernel
theorem dX9_shutOn_46 : decode cX9_shutOn 46 = .ok (.lor, 1) := by decide +kernel
theorem dX9_shutOn_47 : decode cX9_shutOn 47 = .ok (.lstore 5, 2) := by decide +kernel
theorem dX9_shutOn_49 : decode cX9_shutOn 49 = .ok (.iinc 7 1, 3) := by decide +kernel
theorem dX9_shutOn_52 : decode cX9_shutOn 52 = .ok (.goto (-46), 3) := by decide +kernel
theorem dX9_shutOn_55 : decode cX9_shutOn 55 = .ok (.lload 5, 2) := by decide +kernel
theorem dX9_shutOn_57 : decode cX9_shutOn 57 = .ok (.lreturn, 1) := by decide +kernel
theorem dX9_minutesOf_0 : decode cX9_minutesOf 0 = .ok (.iconst 0, 1) := by decide +kernel
theorem dX9_minutesOf_1 : decode cX9_minutesOf 1 = .ok (.istore 5, 2) := by decide +kernel
theorem dX9_minutesOf_3 : decode cX9_minutesOf 3 = .ok (.iload 5, 2) := by decide +kernel
theorem dX9_minutesOf_5 : decode cX9_minutesOf 5 = .ok (.bipush 20, 2) := by decide +kernel
theorem dX9_minutesOf_7 : decode cX9_minutesOf 7 = .ok (.if_icmp .ge 28, 3) := by decide +kernel
theorem dX9_minutesOf_10 : decode cX9_minutesOf 10 = .ok (.aload_n 0, 1) := by decide +kernel
theorem dX9_minutesOf_11 : decode cX9_minutesOf 11 = .ok (.getfield 94, 3) := by decide +kernel
theorem dX9_minutesOf_14 : decode cX9_minutesOf 14 = .ok (.iload 5, 2) := by decide +kernel
theorem dX9_minutesOf_16 : decode cX9_minutesOf 16 = .ok (.iload 5, 2) := by decide +kernel
theorem dX9_minutesOf_18 : decode cX9_minutesOf 18 = .ok (.iload_n 1, 1) := by decide +kernel
theorem dX9_minutesOf_19 : decode cX9_minutesOf 19 = .ok (.if_icmp .ne 7, 3) := by decide +kernel
theorem dX9_minutesOf_22 : decode cX9_minutesOf 22 = .ok (.iconst 0, 1) := by decide +kernel
theorem dX9_minutesOf_23 : decode cX9_minutesOf 23 = .ok (.goto 5, 3) := by decide +kernel
theorem dX9_minutesOf_26 : decode cX9_minutesOf 26 = .ok (.ldc 136, 2) := by decide +kernel
theorem dX9_minutesOf_28 : decode cX9_minutesOf 28 = .ok (.iastore, 1) := by decide +kernel
theorem dX9_minutesOf_29 : decode cX9_minutesOf 29 = .ok (.iinc 5 1, 3) := by decide +kernel
theorem dX9_minutesOf_32 : decode cX9_minutesOf 32 = .ok (.goto (-29), 3) := by decide +kernel
theorem dX9_minutesOf_35 : decode cX9_minutesOf 35 = .ok (.iconst 1, 1) := by decide +kernel
theorem dX9_minutesOf_36 : decode cX9_minutesOf 36 = .ok (.istore 5, 2) := by decide +kernel
theorem dX9_minutesOf_38 : decode cX9_minutesOf 38 = .ok (.iload 5, 2) := by decide +kernel
theorem dX9_minutesOf_40 : decode cX9_minutesOf 40 = .ok (.ifCond .eq 235, 3) := by decide +kernel
theorem dX9_minutesOf_43 : decode cX9_minutesOf 43 = .ok (.iconst 0, 1) := by decide +kernel
theorem dX9_minutesOf_44 : decode cX9_minutesOf 44 = .ok (.istore 5, 2) := by decide +kernel
theorem dX9_minutesOf_46 : decode cX9_minutesOf 46 = .ok (.iconst 0, 1) := by decide +kernel
theorem dX9_minutesOf_47 : decode cX9_minutesOf 47 = .ok (.istore 6, 2) := by decide +kernel
theorem dX9_minutesOf_49 : decode cX9_minutesOf 49 = .ok (.iload 6, 2) := by decide +kernel
theorem dX9_minutesOf_51 : decode cX9_minutesOf 51 = .ok (.aload_n 0, 1) := by decide +kernel
theorem dX9_minutesOf_52 : decode cX9_minutesOf 52 = .ok (.getfield 101, 3) := by decide +kernel
theorem dX9_minutesOf_55 : decode cX9_minutesOf 55 = .ok (.if_icmp .ge 217, 3) := by decide +kernel
theorem dX9_minutesOf_58 : decode cX9_minutesOf 58 = .ok (.lload_n 3, 1) := by decide +kernel
theorem dX9_minutesOf_59 : decode cX9_minutesOf 59 = .ok (.iload 6, 2) := by decide +kernel
theorem dX9_minutesOf_61 : decode cX9_minutesOf 61 = .ok (.lshr, 1) := by decide +kernel
theorem dX9_minutesOf_62 : decode cX9_minutesOf 62 = .ok (.lconst 1, 1) := by decide +kernel
theorem dX9_minutesOf_63 : decode cX9_minutesOf 63 = .ok (.land, 1) := by decide +kernel
theorem dX9_minutesOf_64 : decode cX9_minutesOf 64 = .ok (.lconst 0, 1) := by decide +kernel
theorem dX9_minutesOf_65 : decode cX9_minutesOf 65 = .ok (.lcmp, 1) := by decide +kernel
theorem dX9_minutesOf_66 : decode cX9_minutesOf 66 = .ok (.ifCond .ne 200, 3) := by decide +kernel
theorem dX9_minutesOf_69 : decode cX9_minutesOf 69 = .ok (.aload_n 0, 1) := by decide +kernel
theorem dX9_minutesOf_70 : decode cX9_minutesOf 70 = .ok (.getfield 94, 3) := by decide +kernel
theorem dX9_minutesOf_73 : decode cX9_minutesOf 73 = .ok (.aload_n 0, 1) := by decide +kernel
theorem dX9_minutesOf_74 : decode cX9_minutesOf 74 = .ok (.getfield 9, 3) := by decide +kernel
theorem dX9_minutesOf_77 : decode cX9_minutesOf 77 = .ok (.iload 6, 2) := by decide +kernel
theorem dX9_minutesOf_79 : decode cX9_minutesOf 79 = .ok (.iaload, 1) := by decide +kernel
theorem dX9_minutesOf_80 : decode cX9_minutesOf 80 = .ok (.iaload, 1) := by decide +kernel
theorem dX9_minutesOf_81 : decode cX9_minutesOf 81 = .ok (.aload_n 0, 1) := by decide +kernel
theorem dX9_minutesOf_82 : decode cX9_minutesOf 82 = .ok (.getfield 94, 3) := by decide +kernel
theorem dX9_minutesOf_85 : decode cX9_minutesOf 85 = .ok (.aload_n 0, 1) := by decide +kernel
theorem dX9_minutesOf_86 : decode cX9_minutesOf 86 = .ok (.getfield 13, 3) := by decide +kernel
theorem dX9_minutesOf_89 : decode cX9_minutesOf 89 = .ok (.iload 6, 2) := by decide +kernel
theorem dX9_minutesOf_91 : decode cX9_minutesOf 91 = .ok (.iaload, 1) := by decide +kernel
theorem dX9_minutesOf_92 : decode cX9_minutesOf 92 = .ok (.iaload, 1) := by decide +kernel
theorem dX9_minutesOf_93 : decode cX9_minutesOf 93 = .ok (.if_icmp .ge 18, 3) := by decide +kernel
theorem dX9_minutesOf_96 : decode cX9_minutesOf 96 = .ok (.aload_n 0, 1) := by decide +kernel
theorem dX9_minutesOf_97 : decode cX9_minutesOf 97 = .ok (.getfield 94, 3) := by decide +kernel
theorem dX9_minutesOf_100 : decode cX9_minutesOf 100 = .ok (.aload_n 0, 1) := by decide +kernel
theorem dX9_minutesOf_101 : decode cX9_minutesOf 101 = .ok (.getfield 9, 3) := by decide +kernel
theorem dX9_minutesOf_104 : decode cX9_minutesOf 104 = .ok (.iload 6, 2) := by decide +kernel
theorem dX9_minutesOf_106 : decode cX9_minutesOf 106 = .ok (.iaload, 1) := by decide +kernel
theorem dX9_minutesOf_107 : decode cX9_minutesOf 107 = .ok (.iaload, 1) := by decide +kernel
theorem dX9_minutesOf_108 : decode cX9_minutesOf 108 = .ok (.goto 15, 3) := by decide +kernel
theorem dX9_minutesOf_111 : decode cX9_minutesOf 111 = .ok (.aload_n 0, 1) := by decide +kernel
theorem dX9_minutesOf_112 : decode cX9_minutesOf 112 = .ok (.getfield 94, 3) := by decide +kernel
theorem dX9_minutesOf_115 : decode cX9_minutesOf 115 = .ok (.aload_n 0, 1) := by decide +kernel
theorem dX9_minutesOf_116 : decode cX9_minutesOf 116 = .ok (.getfield 13, 3) := by decide +kernel
theorem dX9_minutesOf_119 : decode cX9_minutesOf 119 = .ok (.iload 6, 2) := by decide +kernel
theorem dX9_minutesOf_121 : decode cX9_minutesOf 121 = .ok (.iaload, 1) := by decide +kernel
theorem dX9_minutesOf_122 : decode cX9_minutesOf 122 = .ok (.iaload, 1) := by decide +kernel
theorem dX9_minutesOf_123 : decode cX9_minutesOf 123 = .ok (.istore 7, 2) := by decide +kernel
theorem dX9_minutesOf_125 : decode cX9_minutesOf 125 = .ok (.iload 7, 2) := by decide +kernel
theorem dX9_minutesOf_127 : decode cX9_minutesOf 127 = .ok (.aload_n 0, 1) := by decide +kernel
theorem dX9_minutesOf_128 : decode cX9_minutesOf 128 = .ok (.getfield 22, 3) := by decide +kernel
theorem dX9_minutesOf_131 : decode cX9_minutesOf 131 = .ok (.iload 6, 2) := by decide +kernel
theorem dX9_minutesOf_133 : decode cX9_minutesOf 133 = .ok (.iaload, 1) := by decide +kernel
theorem dX9_minutesOf_134 : decode cX9_minutesOf 134 = .ok (.iadd, 1) := by decide +kernel
theorem dX9_minutesOf_135 : decode cX9_minutesOf 135 = .ok (.istore 8, 2) := by decide +kernel
theorem dX9_minutesOf_137 : decode cX9_minutesOf 137 = .ok (.aload_n 0, 1) := by decide +kernel
theorem dX9_minutesOf_138 : decode cX9_minutesOf 138 = .ok (.getfield 94, 3) := by decide +kernel
theorem dX9_minutesOf_141 : decode cX9_minutesOf 141 = .ok (.aload_n 0, 1) := by decide +kernel
theorem dX9_minutesOf_142 : decode cX9_minutesOf 142 = .ok (.getfield 9, 3) := by decide +kernel
theorem dX9_minutesOf_145 : decode cX9_minutesOf 145 = .ok (.iload 6, 2) := by decide +kernel
theorem dX9_minutesOf_147 : decode cX9_minutesOf 147 = .ok (.iaload, 1) := by decide +kernel
theorem dX9_minutesOf_148 : decode cX9_minutesOf 148 = .ok (.iaload, 1) := by decide +kernel
theorem dX9_minutesOf_149 : decode cX9_minutesOf 149 = .ok (.iload 8, 2) := by decide +kernel
theorem dX9_minutesOf_151 : decode cX9_minutesOf 151 = .ok (.if_icmp .gt 20, 3) := by decide +kernel
theorem dX9_minutesOf_154 : decode cX9_minutesOf 154 = .ok (.aload_n 0, 1) := by decide +kernel
theorem dX9_minutesOf_155 : decode cX9_minutesOf 155 = .ok (.getfield 94, 3) := by decide +kernel
theorem dX9_minutesOf_158 : decode cX9_minutesOf 158 = .ok (.aload_n 0, 1) := by decide +kernel
theorem dX9_minutesOf_159 : decode cX9_minutesOf 159 = .ok (.getfield 13, 3) := by decide +kernel
theorem dX9_minutesOf_162 : decode cX9_minutesOf 162 = .ok (.iload 6, 2) := by decide +kernel
theorem dX9_minutesOf_164 : decode cX9_minutesOf 164 = .ok (.iaload, 1) := by decide +kernel
theorem dX9_minutesOf_165 : decode cX9_minutesOf 165 = .ok (.iaload, 1) := by decide +kernel
theorem dX9_minutesOf_166 : decode cX9_minutesOf 166 = .ok (.iload 8, 2) := by decide +kernel
theorem dX9_minutesOf_168 : decode cX9_minutesOf 168 = .ok (.if_icmp .le 98, 3) := by decide +kernel
theorem dX9_minutesOf_171 : decode cX9_minutesOf 171 = .ok (.aload_n 0, 1) := by decide +kernel
theorem dX9_minutesOf_172 : decode cX9_minutesOf 172 = .ok (.getfield 94, 3) := by decide +kernel
theorem dX9_minutesOf_175 : decode cX9_minutesOf 175 = .ok (.aload_n 0, 1) := by decide +kernel
theorem dX9_minutesOf_176 : decode cX9_minutesOf 176 = .ok (.getfield 9, 3) := by decide +kernel
theorem dX9_minutesOf_179 : decode cX9_minutesOf 179 = .ok (.iload 6, 2) := by decide +kernel
theorem dX9_minutesOf_181 : decode cX9_minutesOf 181 = .ok (.iaload, 1) := by decide +kernel
theorem dX9_minutesOf_182 : decode cX9_minutesOf 182 = .ok (.aload_n 0, 1) := by decide +kernel
theorem dX9_minutesOf_183 : decode cX9_minutesOf 183 = .ok (.getfield 94, 3) := by decide +kernel
theorem dX9_minutesOf_186 : decode cX9_minutesOf 186 = .ok (.aload_n 0, 1) := by decide +kernel
theorem dX9_minutesOf_187 : decode cX9_minutesOf 187 = .ok (.getfield 9, 3) := by decide +kernel
theorem dX9_minutesOf_190 : decode cX9_minutesOf 190 = .ok (.iload 6, 2) := by decide +kernel
theorem dX9_minutesOf_192 : decode cX9_minutesOf 192 = .ok (.iaload, 1) := by decide +kernel
theorem dX9_minutesOf_193 : decode cX9_minutesOf 193 = .ok (.iaload, 1) := by decide +kernel
theorem dX9_minutesOf_194 : decode cX9_minutesOf 194 = .ok (.iload 8, 2) := by decide +kernel
theorem dX9_minutesOf_196 : decode cX9_minutesOf 196 = .ok (.if_icmp .le 8, 3) := by decide +kernel
theorem dX9_minutesOf_199 : decode cX9_minutesOf 199 = .ok (.iload 8, 2) := by decide +kernel
theorem dX9_minutesOf_201 : decode cX9_minutesOf 201 = .ok (.goto 15, 3) := by decide +kernel
theorem dX9_minutesOf_204 : decode cX9_minutesOf 204 = .ok (.aload_n 0, 1) := by decide +kernel
theorem dX9_minutesOf_205 : decode cX9_minutesOf 205 = .ok (.getfield 94, 3) := by decide +kernel
theorem dX9_minutesOf_208 : decode cX9_minutesOf 208 = .ok (.aload_n 0, 1) := by decide +kernel
theorem dX9_minutesOf_209 : decode cX9_minutesOf 209 = .ok (.getfield 9, 3) := by decide +kernel
theorem dX9_minutesOf_212 : decode cX9_minutesOf 212 = .ok (.iload 6, 2) := by decide +kernel
theorem dX9_minutesOf_214 : decode cX9_minutesOf 214 = .ok (.iaload, 1) := by decide +kernel
theorem dX9_minutesOf_215 : decode cX9_minutesOf 215 = .ok (.iaload, 1) := by decide +kernel
theorem dX9_minutesOf_216 : decode cX9_minutesOf 216 = .ok (.iastore, 1) := by decide +kernel
theorem dX9_minutesOf_217 : decode cX9_minutesOf 217 = .ok (.aload_n 0, 1) := by decide +kernel
theorem dX9_minutesOf_218 : decode cX9_minutesOf 218 = .ok (.getfield 94, 3) := by decide +kernel
theorem dX9_minutesOf_221 : decode cX9_minutesOf 221 = .ok (.aload_n 0, 1) := by decide +kernel
theorem dX9_minutesOf_222 : decode cX9_minutesOf 222 = .ok (.getfield 13, 3) := by decide +kernel
theorem dX9_minutesOf_225 : decode cX9_minutesOf 225 = .ok (.iload 6, 2) := by decide +kernel
theorem dX9_minutesOf_227 : decode cX9_minutesOf 227 = .ok (.iaload, 1) := by decide +kernel
theorem dX9_minutesOf_228 : decode cX9_minutesOf 228 = .ok (.aload_n 0, 1) := by decide +kernel
theorem dX9_minutesOf_229 : decode cX9_minutesOf 229 = .ok (.getfield 94, 3) := by decide +kernel
theorem dX9_minutesOf_232 : decode cX9_minutesOf 232 = .ok (.aload_n 0, 1) := by decide +kernel
theorem dX9_minutesOf_233 : decode cX9_minutesOf 233 = .ok (.getfield 13, 3) := by decide +kernel
theorem dX9_minutesOf_236 : decode cX9_minutesOf 236 = .ok (.iload 6, 2) := by decide +kernel
theorem dX9_minutesOf_238 : decode cX9_minutesOf 238 = .ok (.iaload, 1) := by decide +kernel
theorem dX9_minutesOf_239 : decode cX9_minutesOf 239 = .ok (.iaload, 1) := by decide +kernel
theorem dX9_minutesOf_240 : decode cX9_minutesOf 240 = .ok (.iload 8, 2) := by decide +kernel
theorem dX9_minutesOf_242 : decode cX9_minutesOf 242 = .ok (.if_icmp .le 8, 3) := by decide +kernel
theorem dX9_minutesOf_245 : decode cX9_minutesOf 245 = .ok (.iload 8, 2) := by decide +kernel
theorem dX9_minutesOf_247 : decode cX9_minutesOf 247 = .ok (.goto 15, 3) := by decide +kernel
theorem dX9_minutesOf_250 : decode cX9_minutesOf 250 = .ok (.aload_n 0, 1) := by decide +kernel
theorem dX9_minutesOf_251 : decode cX9_minutesOf 251 = .ok (.getfield 94, 3) := by decide +kernel
theorem dX9_minutesOf_254 : decode cX9_minutesOf 254 = .ok (.aload_n 0, 1) := by decide +kernel
theorem dX9_minutesOf_255 : decode cX9_minutesOf 255 = .ok (.getfield 13, 3) := by decide +kernel
theorem dX9_minutesOf_258 : decode cX9_minutesOf 258 = .ok (.iload 6, 2) := by decide +kernel
theorem dX9_minutesOf_260 : decode cX9_minutesOf 260 = .ok (.iaload, 1) := by decide +kernel
theorem dX9_minutesOf_261 : decode cX9_minutesOf 261 = .ok (.iaload, 1) := by decide +kernel
theorem dX9_minutesOf_262 : decode cX9_minutesOf 262 = .ok (.iastore, 1) := by decide +kernel
theorem dX9_minutesOf_263 : decode cX9_minutesOf 263 = .ok (.iconst 1, 1) := by decide +kernel
theorem dX9_minutesOf_264 : decode cX9_minutesOf 264 = .ok (.istore 5, 2) := by decide +kernel
theorem dX9_minutesOf_266 : decode cX9_minutesOf 266 = .ok (.iinc 6 1, 3) := by decide +kernel
theorem dX9_minutesOf_269 : decode cX9_minutesOf 269 = .ok (.goto (-220), 3) := by decide +kernel
theorem dX9_minutesOf_272 : decode cX9_minutesOf 272 = .ok (.goto (-234), 3) := by decide +kernel
theorem dX9_minutesOf_275 : decode cX9_minutesOf 275 = .ok (.aload_n 0, 1) := by decide +kernel
theorem dX9_minutesOf_276 : decode cX9_minutesOf 276 = .ok (.getfield 94, 3) := by decide +kernel
theorem dX9_minutesOf_279 : decode cX9_minutesOf 279 = .ok (.iload_n 2, 1) := by decide +kernel
theorem dX9_minutesOf_280 : decode cX9_minutesOf 280 = .ok (.iaload, 1) := by decide +kernel
theorem dX9_minutesOf_281 : decode cX9_minutesOf 281 = .ok (.ireturn, 1) := by decide +kernel
theorem dX9_broken_0 : decode cX9_broken 0 = .ok (.aload_n 0, 1) := by decide +kernel
theorem dX9_broken_1 : decode cX9_broken 1 = .ok (.iload_n 1, 1) := by decide +kernel
theorem dX9_broken_2 : decode cX9_broken 2 = .ok (.putfield 137, 3) := by decide +kernel
theorem dX9_broken_5 : decode cX9_broken 5 = .ok (.aload_n 0, 1) := by decide +kernel
theorem dX9_broken_6 : decode cX9_broken 6 = .ok (.iload_n 2, 1) := by decide +kernel
theorem dX9_broken_7 : decode cX9_broken 7 = .ok (.putfield 140, 3) := by decide +kernel
theorem dX9_broken_10 : decode cX9_broken 10 = .ok (.iconst 1, 1) := by decide +kernel
theorem dX9_broken_11 : decode cX9_broken 11 = .ok (.ireturn, 1) := by decide +kernel
theorem dX9_notice_0 : decode cX9_notice 0 = .ok (.aload_n 0, 1) := by decide +kernel
theorem dX9_notice_1 : decode cX9_notice 1 = .ok (.getfield 44, 3) := by decide +kernel
theorem dX9_notice_4 : decode cX9_notice 4 = .ok (.iload_n 1, 1) := by decide +kernel
theorem dX9_notice_5 : decode cX9_notice 5 = .ok (.iaload, 1) := by decide +kernel
theorem dX9_notice_6 : decode cX9_notice 6 = .ok (.iconst 1, 1) := by decide +kernel
theorem dX9_notice_7 : decode cX9_notice 7 = .ok (.if_icmp .ne 8, 3) := by decide +kernel
theorem dX9_notice_10 : decode cX9_notice 10 = .ok (.bipush 30, 2) := by decide +kernel
theorem dX9_notice_12 : decode cX9_notice 12 = .ok (.goto 18, 3) := by decide +kernel
theorem dX9_notice_15 : decode cX9_notice 15 = .ok (.aload_n 0, 1) := by decide +kernel
theorem dX9_notice_16 : decode cX9_notice 16 = .ok (.getfield 44, 3) := by decide +kernel
theorem dX9_notice_19 : decode cX9_notice 19 = .ok (.iload_n 1, 1) := by decide +kernel
theorem dX9_notice_20 : decode cX9_notice 20 = .ok (.iaload, 1) := by decide +kernel
theorem dX9_notice_21 : decode cX9_notice 21 = .ok (.iconst 3, 1) := by decide +kernel
theorem dX9_notice_22 : decode cX9_notice 22 = .ok (.if_icmp .ne 7, 3) := by decide +kernel
theorem dX9_notice_25 : decode cX9_notice 25 = .ok (.iconst 0, 1) := by decide +kernel
theorem dX9_notice_26 : decode cX9_notice 26 = .ok (.goto 4, 3) := by decide +kernel
theorem dX9_notice_29 : decode cX9_notice 29 = .ok (.iconst 3, 1) := by decide +kernel
theorem dX9_notice_30 : decode cX9_notice 30 = .ok (.ireturn, 1) := by decide +kernel
theorem dX9_breaksFeast_0 : decode cX9_breaksFeast 0 = .ok (.iload_n 2, 1) := by decide +kernel
theorem dX9_breaksFeast_1 : decode cX9_breaksFeast 1 = .ok (.istore_n 3, 1) := by decide +kernel
theorem dX9_breaksFeast_2 : decode cX9_breaksFeast 2 = .ok (.iload_n 3, 1) := by decide +kernel
theorem dX9_breaksFeast_3 : decode cX9_breaksFeast 3 = .ok (.iload_n 2, 1) := by decide +kernel
theorem dX9_breaksFeast_4 : decode cX9_breaksFeast 4 = .ok (.aload_n 0, 1) := by decide +kernel
theorem dX9_breaksFeast_5 : decode cX9_breaksFeast 5 = .ok (.getfield 50, 3) := by decide +kernel
theorem dX9_breaksFeast_8 : decode cX9_breaksFeast 8 = .ok (.iload_n 1, 1) := by decide +kernel
theorem dX9_breaksFeast_9 : decode cX9_breaksFeast 9 = .ok (.iaload, 1) := by decide +kernel
theorem dX9_breaksFeast_10 : decode cX9_breaksFeast 10 = .ok (.iadd, 1) := by decide +kernel
theorem dX9_breaksFeast_11 : decode cX9_breaksFeast 11 = .ok (.if_icmp .ge 65, 3) := by decide +kernel
theorem dX9_breaksFeast_14 : decode cX9_breaksFeast 14 = .ok (.iconst 0, 1) := by decide +kernel
theorem dX9_breaksFeast_15 : decode cX9_breaksFeast 15 = .ok (.istore 4, 2) := by decide +kernel
theorem dX9_breaksFeast_17 : decode cX9_breaksFeast 17 = .ok (.iload 4, 2) := by decide +kernel
theorem dX9_breaksFeast_19 : decode cX9_breaksFeast 19 = .ok (.aload_n 0, 1) := by decide +kernel
theorem dX9_breaksFeast_20 : decode cX9_breaksFeast 20 = .ok (.getfield 101, 3) := by decide +kernel
theorem dX9_breaksFeast_23 : decode cX9_breaksFeast 23 = .ok (.if_icmp .ge 47, 3) := by decide +kernel
theorem dX9_breaksFeast_26 : decode cX9_breaksFeast 26 = .ok (.aload_n 0, 1) := by decide +kernel
theorem dX9_breaksFeast_27 : decode cX9_breaksFeast 27 = .ok (.getfield 37, 3) := by decide +kernel
theorem dX9_breaksFeast_30 : decode cX9_breaksFeast 30 = .ok (.iload_n 3, 1) := by decide +kernel
theorem dX9_breaksFeast_31 : decode cX9_breaksFeast 31 = .ok (.baload, 1) := by decide +kernel
theorem dX9_breaksFeast_32 : decode cX9_breaksFeast 32 = .ok (.ifCond .eq 38, 3) := by decide +kernel
theorem dX9_breaksFeast_35 : decode cX9_breaksFeast 35 = .ok (.aload_n 0, 1) := by decide +kernel
theorem dX9_breaksFeast_36 : decode cX9_breaksFeast 36 = .ok (.iload_n 1, 1) := by decide +kernel
theorem dX9_breaksFeast_37 : decode cX9_breaksFeast 37 = .ok (.iload 4, 2) := by decide +kernel
theorem dX9_breaksFeast_39 : decode cX9_breaksFeast 39 = .ok (.invokevirtual 117, 3) := by decide +kernel
theorem dX9_breaksFeast_42 : decode cX9_breaksFeast 42 = .ok (.ifCond .eq 22, 3) := by decide +kernel
theorem dX9_breaksFeast_45 : decode cX9_breaksFeast 45 = .ok (.aload_n 0, 1) := by decide +kernel
theorem dX9_breaksFeast_46 : decode cX9_breaksFeast 46 = .ok (.getfield 19, 3) := by decide +kernel
theorem dX9_breaksFeast_49 : decode cX9_breaksFeast 49 = .ok (.iload 4, 2) := by decide +kernel
theorem dX9_breaksFeast_51 : decode cX9_breaksFeast 51 = .ok (.iaload, 1) := by decide +kernel
theorem dX9_breaksFeast_52 : decode cX9_breaksFeast 52 = .ok (.iconst 2, 1) := by decide +kernel
theorem dX9_breaksFeast_53 : decode cX9_breaksFeast 53 = .ok (.if_icmp .ne 11, 3) := by decide +kernel
theorem dX9_breaksFeast_56 : decode cX9_breaksFeast 56 = .ok (.aload_n 0, 1) := by decide +kernel
theorem dX9_breaksFeast_57 : decode cX9_breaksFeast 57 = .ok (.iload_n 3, 1) := by decide +kernel
theorem dX9_breaksFeast_58 : decode cX9_breaksFeast 58 = .ok (.iload 4, 2) := by decide +kernel
theorem dX9_breaksFeast_60 : decode cX9_breaksFeast 60 = .ok (.invokevirtual 143, 3) := by decide +kernel
theorem dX9_breaksFeast_63 : decode cX9_breaksFeast 63 = .ok (.ireturn, 1) := by decide +kernel
theorem dX9_breaksFeast_64 : decode cX9_breaksFeast 64 = .ok (.iinc 4 1, 3) := by decide +kernel
theorem dX9_breaksFeast_67 : decode cX9_breaksFeast 67 = .ok (.goto (-50), 3) := by decide +kernel
theorem dX9_breaksFeast_70 : decode cX9_breaksFeast 70 = .ok (.iinc 3 1, 3) := by decide +kernel
theorem dX9_breaksFeast_73 : decode cX9_breaksFeast 73 = .ok (.goto (-71), 3) := by decide +kernel
theorem dX9_breaksFeast_76 : decode cX9_breaksFeast 76 = .ok (.iconst 0, 1) := by decide +kernel
theorem dX9_breaksFeast_77 : decode cX9_breaksFeast 77 = .ok (.ireturn, 1) := by decide +kernel
theorem dX9_breaksLanes_0 : decode cX9_breaksLanes 0 = .ok (.iload_n 2, 1) := by decide +kernel
theorem dX9_breaksLanes_1 : decode cX9_breaksLanes 1 = .ok (.istore 4, 2) := by decide +kernel
theorem dX9_breaksLanes_3 : decode cX9_breaksLanes 3 = .ok (.iload 4, 2) := by decide +kernel
theorem dX9_breaksLanes_5 : decode cX9_breaksLanes 5 = .ok (.iload_n 2, 1) := by decide +kernel
theorem dX9_breaksLanes_6 : decode cX9_breaksLanes 6 = .ok (.aload_n 0, 1) := by decide +kernel
theorem dX9_breaksLanes_7 : decode cX9_breaksLanes 7 = .ok (.getfield 50, 3) := by decide +kernel
theorem dX9_breaksLanes_10 : decode cX9_breaksLanes 10 = .ok (.iload_n 1, 1) := by decide +kernel
theorem dX9_breaksLanes_11 : decode cX9_breaksLanes 11 = .ok (.iaload, 1) := by decide +kernel
theorem dX9_breaksLanes_12 : decode cX9_breaksLanes 12 = .ok (.iadd, 1) := by decide +kernel
theorem dX9_breaksLanes_13 : decode cX9_breaksLanes 13 = .ok (.if_icmp .ge 67, 3) := by decide +kernel
theorem dX9_breaksLanes_16 : decode cX9_breaksLanes 16 = .ok (.iconst 0, 1) := by decide +kernel
theorem dX9_breaksLanes_17 : decode cX9_breaksLanes 17 = .ok (.istore 5, 2) := by decide +kernel
theorem dX9_breaksLanes_19 : decode cX9_breaksLanes 19 = .ok (.iload 5, 2) := by decide +kernel
theorem dX9_breaksLanes_21 : decode cX9_breaksLanes 21 = .ok (.aload_n 0, 1) := by decide +kernel
theorem dX9_breaksLanes_22 : decode cX9_breaksLanes 22 = .ok (.getfield 101, 3) := by decide +kernel
theorem dX9_breaksLanes_25 : decode cX9_breaksLanes 25 = .ok (.if_icmp .ge 49, 3) := by decide +kernel
theorem dX9_breaksLanes_28 : decode cX9_breaksLanes 28 = .ok (.aload_n 0, 1) := by decide +kernel
theorem dX9_breaksLanes_29 : decode cX9_breaksLanes 29 = .ok (.iload_n 1, 1) := by decide +kernel
theorem dX9_breaksLanes_30 : decode cX9_breaksLanes 30 = .ok (.iload 5, 2) := by decide +kernel
theorem dX9_breaksLanes_32 : decode cX9_breaksLanes 32 = .ok (.invokevirtual 117, 3) := by decide +kernel
theorem dX9_breaksLanes_35 : decode cX9_breaksLanes 35 = .ok (.ifCond .eq 33, 3) := by decide +kernel
theorem dX9_breaksLanes_38 : decode cX9_breaksLanes 38 = .ok (.aload_n 0, 1) := by decide +kernel
theorem dX9_breaksLanes_39 : decode cX9_breaksLanes 39 = .ok (.iload 5, 2) := by decide +kernel
theorem dX9_breaksLanes_41 : decode cX9_breaksLanes 41 = .ok (.iload_n 1, 1) := by decide +kernel
theorem dX9_breaksLanes_42 : decode cX9_breaksLanes 42 = .ok (.iload_n 2, 1) := by decide +kernel
theorem dX9_breaksLanes_43 : decode cX9_breaksLanes 43 = .ok (.iload_n 3, 1) := by decide +kernel
theorem dX9_breaksLanes_44 : decode cX9_breaksLanes 44 = .ok (.iload 4, 2) := by decide +kernel
theorem dX9_breaksLanes_46 : decode cX9_breaksLanes 46 = .ok (.invokevirtual 132, 3) := by decide +kernel
theorem dX9_breaksLanes_49 : decode cX9_breaksLanes 49 = .ok (.aload_n 0, 1) := by decide +kernel
theorem dX9_breaksLanes_50 : decode cX9_breaksLanes 50 = .ok (.getfield 16, 3) := by decide +kernel
theorem dX9_breaksLanes_53 : decode cX9_breaksLanes 53 = .ok (.iload 5, 2) := by decide +kernel
theorem dX9_breaksLanes_55 : decode cX9_breaksLanes 55 = .ok (.iaload, 1) := by decide +kernel
theorem dX9_breaksLanes_56 : decode cX9_breaksLanes 56 = .ok (.if_icmp .le 12, 3) := by decide +kernel
theorem dX9_breaksLanes_59 : decode cX9_breaksLanes 59 = .ok (.aload_n 0, 1) := by decide +kernel
theorem dX9_breaksLanes_60 : decode cX9_breaksLanes 60 = .ok (.iload 4, 2) := by decide +kernel
theorem dX9_breaksLanes_62 : decode cX9_breaksLanes 62 = .ok (.iload 5, 2) := by decide +kernel
theorem dX9_breaksLanes_64 : decode cX9_breaksLanes 64 = .ok (.invokevirtual 143, 3) := by decide +kernel
theorem dX9_breaksLanes_67 : decode cX9_breaksLanes 67 = .ok (.ireturn, 1) := by decide +kernel
theorem dX9_breaksLanes_68 : decode cX9_breaksLanes 68 = .ok (.iinc 5 1, 3) := by decide +kernel
theorem dX9_breaksLanes_71 : decode cX9_breaksLanes 71 = .ok (.goto (-52), 3) := by decide +kernel
theorem dX9_breaksLanes_74 : decode cX9_breaksLanes 74 = .ok (.iinc 4 1, 3) := by decide +kernel
theorem dX9_breaksLanes_77 : decode cX9_breaksLanes 77 = .ok (.goto (-74), 3) := by decide +kernel
theorem dX9_breaksLanes_80 : decode cX9_breaksLanes 80 = .ok (.iconst 0, 1) := by decide +kernel
theorem dX9_breaksLanes_81 : decode cX9_breaksLanes 81 = .ok (.ireturn, 1) := by decide +kernel
theorem dX9_breaksDepth_0 : decode cX9_breaksDepth 0 = .ok (.iload_n 2, 1) := by decide +kernel
theorem dX9_breaksDepth_1 : decode cX9_breaksDepth 1 = .ok (.istore 4, 2) := by decide +kernel
theorem dX9_breaksDepth_3 : decode cX9_breaksDepth 3 = .ok (.iload 4, 2) := by decide +kernel
theorem dX9_breaksDepth_5 : decode cX9_breaksDepth 5 = .ok (.iload_n 2, 1) := by decide +kernel
theorem dX9_breaksDepth_6 : decode cX9_breaksDepth 6 = .ok (.aload_n 0, 1) := by decide +kernel
theorem dX9_breaksDepth_7 : decode cX9_breaksDepth 7 = .ok (.getfield 50, 3) := by decide +kernel
theorem dX9_breaksDepth_10 : decode cX9_breaksDepth 10 = .ok (.iload_n 1, 1) := by decide +kernel
theorem dX9_breaksDepth_11 : decode cX9_breaksDepth 11 = .ok (.iaload, 1) := by decide +kernel
theorem dX9_breaksDepth_12 : decode cX9_breaksDepth 12 = .ok (.iadd, 1) := by decide +kernel
theorem dX9_breaksDepth_13 : decode cX9_breaksDepth 13 = .ok (.if_icmp .ge 138, 3) := by decide +kernel
theorem dX9_breaksDepth_16 : decode cX9_breaksDepth 16 = .ok (.iconst 0, 1) := by decide +kernel
theorem dX9_breaksDepth_17 : decode cX9_breaksDepth 17 = .ok (.istore 5, 2) := by decide +kernel
theorem dX9_breaksDepth_19 : decode cX9_breaksDepth 19 = .ok (.iload 5, 2) := by decide +kernel
theorem dX9_breaksDepth_21 : decode cX9_breaksDepth 21 = .ok (.aload_n 0, 1) := by decide +kernel
theorem dX9_breaksDepth_22 : decode cX9_breaksDepth 22 = .ok (.getfield 101, 3) := by decide +kernel
theorem dX9_breaksDepth_25 : decode cX9_breaksDepth 25 = .ok (.if_icmp .ge 120, 3) := by decide +kernel
theorem dX9_breaksDepth_28 : decode cX9_breaksDepth 28 = .ok (.iconst 0, 1) := by decide +kernel
theorem dX9_breaksDepth_29 : decode cX9_breaksDepth 29 = .ok (.istore 6, 2) := by decide +kernel
theorem dX9_breaksDepth_31 : decode cX9_breaksDepth 31 = .ok (.iload 6, 2) := by decide +kernel
theorem dX9_breaksDepth_33 : decode cX9_breaksDepth 33 = .ok (.aload_n 0, 1) := by decide +kernel
theorem dX9_breaksDepth_34 : decode cX9_breaksDepth 34 = .ok (.getfield 107, 3) := by decide +kernel
theorem dX9_breaksDepth_37 : decode cX9_breaksDepth 37 = .ok (.if_icmp .ge 102, 3) := by decide +kernel
theorem dX9_breaksDepth_40 : decode cX9_breaksDepth 40 = .ok (.aload_n 0, 1) := by decide +kernel
theorem dX9_breaksDepth_41 : decode cX9_breaksDepth 41 = .ok (.iload_n 1, 1) := by decide +kernel
theorem dX9_breaksDepth_42 : decode cX9_breaksDepth 42 = .ok (.iload 5, 2) := by decide +kernel
theorem dX9_breaksDepth_44 : decode cX9_breaksDepth 44 = .ok (.invokevirtual 117, 3) := by decide +kernel
theorem dX9_breaksDepth_47 : decode cX9_breaksDepth 47 = .ok (.ifCond .eq 92, 3) := by decide +kernel
theorem dX9_breaksDepth_50 : decode cX9_breaksDepth 50 = .ok (.iload 6, 2) := by decide +kernel
theorem dX9_breaksDepth_52 : decode cX9_breaksDepth 52 = .ok (.iload_n 1, 1) := by decide +kernel
theorem dX9_breaksDepth_53 : decode cX9_breaksDepth 53 = .ok (.if_icmp .eq 80, 3) := by decide +kernel
theorem dX9_breaksDepth_56 : decode cX9_breaksDepth 56 = .ok (.aload_n 0, 1) := by decide +kernel
theorem dX9_breaksDepth_57 : decode cX9_breaksDepth 57 = .ok (.iload 6, 2) := by decide +kernel
theorem dX9_breaksDepth_59 : decode cX9_breaksDepth 59 = .ok (.iload 5, 2) := by decide +kernel
theorem dX9_breaksDepth_61 : decode cX9_breaksDepth 61 = .ok (.invokevirtual 117, 3) := by decide +kernel
theorem dX9_breaksDepth_64 : decode cX9_breaksDepth 64 = .ok (.ifCond .eq 69, 3) := by decide +kernel
theorem dX9_breaksDepth_67 : decode cX9_breaksDepth 67 = .ok (.aload_n 0, 1) := by decide +kernel
theorem dX9_breaksDepth_68 : decode cX9_breaksDepth 68 = .ok (.getfield 41, 3) := by decide +kernel
theorem dX9_breaksDepth_71 : decode cX9_breaksDepth 71 = .ok (.iload 6, 2) := by decide +kernel
theorem dX9_breaksDepth_73 : decode cX9_breaksDepth 73 = .ok (.iaload, 1) := by decide +kernel
theorem dX9_breaksDepth_74 : decode cX9_breaksDepth 74 = .ok (.aload_n 0, 1) := by decide +kernel
theorem dX9_breaksDepth_75 : decode cX9_breaksDepth 75 = .ok (.getfield 41, 3) := by decide +kernel
theorem dX9_breaksDepth_78 : decode cX9_breaksDepth 78 = .ok (.iload_n 1, 1) := by decide +kernel
theorem dX9_breaksDepth_79 : decode cX9_breaksDepth 79 = .ok (.iaload, 1) := by decide +kernel
theorem dX9_breaksDepth_80 : decode cX9_breaksDepth 80 = .ok (.if_icmp .eq 53, 3) := by decide +kernel
theorem dX9_breaksDepth_83 : decode cX9_breaksDepth 83 = .ok (.aload_n 0, 1) := by decide +kernel
theorem dX9_breaksDepth_84 : decode cX9_breaksDepth 84 = .ok (.getfield 53, 3) := by decide +kernel
theorem dX9_breaksDepth_87 : decode cX9_breaksDepth 87 = .ok (.iload 6, 2) := by decide +kernel
theorem dX9_breaksDepth_89 : decode cX9_breaksDepth 89 = .ok (.iaload, 1) := by decide +kernel
theorem dX9_breaksDepth_90 : decode cX9_breaksDepth 90 = .ok (.aload_n 0, 1) := by decide +kernel
theorem dX9_breaksDepth_91 : decode cX9_breaksDepth 91 = .ok (.getfield 53, 3) := by decide +kernel
theorem dX9_breaksDepth_94 : decode cX9_breaksDepth 94 = .ok (.iload_n 1, 1) := by decide +kernel
theorem dX9_breaksDepth_95 : decode cX9_breaksDepth 95 = .ok (.iaload, 1) := by decide +kernel
theorem dX9_breaksDepth_96 : decode cX9_breaksDepth 96 = .ok (.if_icmp .ne 37, 3) := by decide +kernel
theorem dX9_breaksDepth_99 : decode cX9_breaksDepth 99 = .ok (.aload_n 0, 1) := by decide +kernel
theorem dX9_breaksDepth_100 : decode cX9_breaksDepth 100 = .ok (.getfield 81, 3) := by decide +kernel
theorem dX9_breaksDepth_103 : decode cX9_breaksDepth 103 = .ok (.iload_n 1, 1) := by decide +kernel
theorem dX9_breaksDepth_104 : decode cX9_breaksDepth 104 = .ok (.iaload, 1) := by decide +kernel
theorem dX9_breaksDepth_105 : decode cX9_breaksDepth 105 = .ok (.iload 6, 2) := by decide +kernel
theorem dX9_breaksDepth_107 : decode cX9_breaksDepth 107 = .ok (.if_icmp .eq 26, 3) := by decide +kernel
theorem dX9_breaksDepth_110 : decode cX9_breaksDepth 110 = .ok (.aload_n 0, 1) := by decide +kernel
theorem dX9_breaksDepth_111 : decode cX9_breaksDepth 111 = .ok (.iload 6, 2) := by decide +kernel
theorem dX9_breaksDepth_113 : decode cX9_breaksDepth 113 = .ok (.iload_n 1, 1) := by decide +kernel
theorem dX9_breaksDepth_114 : decode cX9_breaksDepth 114 = .ok (.iload_n 2, 1) := by decide +kernel
theorem dX9_breaksDepth_115 : decode cX9_breaksDepth 115 = .ok (.iload_n 3, 1) := by decide +kernel
theorem dX9_breaksDepth_116 : decode cX9_breaksDepth 116 = .ok (.iload 4, 2) := by decide +kernel
theorem dX9_breaksDepth_118 : decode cX9_breaksDepth 118 = .ok (.invokevirtual 128, 3) := by decide +kernel
theorem dX9_breaksDepth_121 : decode cX9_breaksDepth 121 = .ok (.ifCond .eq 12, 3) := by decide +kernel
theorem dX9_breaksDepth_124 : decode cX9_breaksDepth 124 = .ok (.aload_n 0, 1) := by decide +kernel
theorem dX9_breaksDepth_125 : decode cX9_breaksDepth 125 = .ok (.iload 4, 2) := by decide +kernel
theorem dX9_breaksDepth_127 : decode cX9_breaksDepth 127 = .ok (.iload 5, 2) := by decide +kernel
theorem dX9_breaksDepth_129 : decode cX9_breaksDepth 129 = .ok (.invokevirtual 143, 3) := by decide +kernel
theorem dX9_breaksDepth_132 : decode cX9_breaksDepth 132 = .ok (.ireturn, 1) := by decide +kernel
theorem dX9_breaksDepth_133 : decode cX9_breaksDepth 133 = .ok (.iinc 6 1, 3) := by decide +kernel
theorem dX9_breaksDepth_136 : decode cX9_breaksDepth 136 = .ok (.goto (-105), 3) := by decide +kernel
theorem dX9_breaksDepth_139 : decode cX9_breaksDepth 139 = .ok (.iinc 5 1, 3) := by decide +kernel
theorem dX9_breaksDepth_142 : decode cX9_breaksDepth 142 = .ok (.goto (-123), 3) := by decide +kernel
theorem dX9_breaksDepth_145 : decode cX9_breaksDepth 145 = .ok (.iinc 4 1, 3) := by decide +kernel
theorem dX9_breaksDepth_148 : decode cX9_breaksDepth 148 = .ok (.goto (-145), 3) := by decide +kernel
theorem dX9_breaksDepth_151 : decode cX9_breaksDepth 151 = .ok (.iconst 0, 1) := by decide +kernel
theorem dX9_breaksDepth_152 : decode cX9_breaksDepth 152 = .ok (.ireturn, 1) := by decide +kernel
theorem dX9_breaksRest_0 : decode cX9_breaksRest 0 = .ok (.iload_n 2, 1) := by decide +kernel
theorem dX9_breaksRest_1 : decode cX9_breaksRest 1 = .ok (.aload_n 0, 1) := by decide +kernel
theorem dX9_breaksRest_2 : decode cX9_breaksRest 2 = .ok (.getfield 50, 3) := by decide +kernel
theorem dX9_breaksRest_5 : decode cX9_breaksRest 5 = .ok (.iload_n 1, 1) := by decide +kernel
theorem dX9_breaksRest_6 : decode cX9_breaksRest 6 = .ok (.iaload, 1) := by decide +kernel
theorem dX9_breaksRest_7 : decode cX9_breaksRest 7 = .ok (.iadd, 1) := by decide +kernel
theorem dX9_breaksRest_8 : decode cX9_breaksRest 8 = .ok (.iconst 1, 1) := by decide +kernel
theorem dX9_breaksRest_9 : decode cX9_breaksRest 9 = .ok (.isub, 1) := by decide +kernel
theorem dX9_breaksRest_10 : decode cX9_breaksRest 10 = .ok (.istore 4, 2) := by decide +kernel
theorem dX9_breaksRest_12 : decode cX9_breaksRest 12 = .ok (.iconst 0, 1) := by decide +kernel
theorem dX9_breaksRest_13 : decode cX9_breaksRest 13 = .ok (.istore 5, 2) := by decide +kernel
theorem dX9_breaksRest_15 : decode cX9_breaksRest 15 = .ok (.iload 5, 2) := by decide +kernel
theorem dX9_breaksRest_17 : decode cX9_breaksRest 17 = .ok (.aload_n 0, 1) := by decide +kernel
theorem dX9_breaksRest_18 : decode cX9_breaksRest 18 = .ok (.getfield 101, 3) := by decide +kernel
theorem dX9_breaksRest_21 : decode cX9_breaksRest 21 = .ok (.if_icmp .ge 185, 3) := by decide +kernel
theorem dX9_breaksRest_24 : decode cX9_breaksRest 24 = .ok (.iconst 0, 1) := by decide +kernel
theorem dX9_breaksRest_25 : decode cX9_breaksRest 25 = .ok (.istore 6, 2) := by decide +kernel
theorem dX9_breaksRest_27 : decode cX9_breaksRest 27 = .ok (.iload 6, 2) := by decide +kernel
theorem dX9_breaksRest_29 : decode cX9_breaksRest 29 = .ok (.aload_n 0, 1) := by decide +kernel
theorem dX9_breaksRest_30 : decode cX9_breaksRest 30 = .ok (.getfield 107, 3) := by decide +kernel
theorem dX9_breaksRest_33 : decode cX9_breaksRest 33 = .ok (.if_icmp .ge 167, 3) := by decide +kernel
theorem dX9_breaksRest_36 : decode cX9_breaksRest 36 = .ok (.aload_n 0, 1) := by decide +kernel
theorem dX9_breaksRest_37 : decode cX9_breaksRest 37 = .ok (.iload_n 1, 1) := by decide +kernel
theorem dX9_breaksRest_38 : decode cX9_breaksRest 38 = .ok (.iload 5, 2) := by decide +kernel
theorem dX9_breaksRest_40 : decode cX9_breaksRest 40 = .ok (.invokevirtual 117, 3) := by decide +kernel
theorem dX9_breaksRest_43 : decode cX9_breaksRest 43 = .ok (.ifCond .eq 157, 3) := by decide +kernel
theorem dX9_breaksRest_46 : decode cX9_breaksRest 46 = .ok (.aload_n 0, 1) := by decide +kernel
theorem dX9_breaksRest_47 : decode cX9_breaksRest 47 = .ok (.iload 6, 2) := by decide +kernel
theorem dX9_breaksRest_49 : decode cX9_breaksRest 49 = .ok (.iload_n 1, 1) := by decide +kernel
theorem dX9_breaksRest_50 : decode cX9_breaksRest 50 = .ok (.iload_n 3, 1) := by decide +kernel
theorem dX9_breaksRest_51 : decode cX9_breaksRest 51 = .ok (.invokevirtual 124, 3) := by decide +kernel
theorem dX9_breaksRest_54 : decode cX9_breaksRest 54 = .ok (.ifCond .eq 140, 3) := by decide +kernel
theorem dX9_breaksRest_57 : decode cX9_breaksRest 57 = .ok (.aload_n 0, 1) := by decide +kernel
theorem dX9_breaksRest_58 : decode cX9_breaksRest 58 = .ok (.iload 6, 2) := by decide +kernel
theorem dX9_breaksRest_60 : decode cX9_breaksRest 60 = .ok (.iload 5, 2) := by decide +kernel
theorem dX9_breaksRest_62 : decode cX9_breaksRest 62 = .ok (.invokevirtual 117, 3) := by decide +kernel
theorem dX9_breaksRest_65 : decode cX9_breaksRest 65 = .ok (.ifCond .eq 129, 3) := by decide +kernel
theorem dX9_breaksRest_68 : decode cX9_breaksRest 68 = .ok (.aload_n 0, 1) := by decide +kernel
theorem dX9_breaksRest_69 : decode cX9_breaksRest 69 = .ok (.getfield 44, 3) := by decide +kernel
theorem dX9_breaksRest_72 : decode cX9_breaksRest 72 = .ok (.iload_n 1, 1) := by decide +kernel
theorem dX9_breaksRest_73 : decode cX9_breaksRest 73 = .ok (.iaload, 1) := by decide +kernel
theorem dX9_breaksRest_74 : decode cX9_breaksRest 74 = .ok (.iconst 3, 1) := by decide +kernel
theorem dX9_breaksRest_75 : decode cX9_breaksRest 75 = .ok (.if_icmp .eq 37, 3) := by decide +kernel
theorem dX9_breaksRest_78 : decode cX9_breaksRest 78 = .ok (.aload_n 0, 1) := by decide +kernel
theorem dX9_breaksRest_79 : decode cX9_breaksRest 79 = .ok (.getfield 75, 3) := by decide +kernel
theorem dX9_breaksRest_82 : decode cX9_breaksRest 82 = .ok (.iload 6, 2) := by decide +kernel
theorem dX9_breaksRest_84 : decode cX9_breaksRest 84 = .ok (.iaload, 1) := by decide +kernel
theorem dX9_breaksRest_85 : decode cX9_breaksRest 85 = .ok (.iload_n 2, 1) := by decide +kernel
theorem dX9_breaksRest_86 : decode cX9_breaksRest 86 = .ok (.if_icmp .ge 26, 3) := by decide +kernel
theorem dX9_breaksRest_89 : decode cX9_breaksRest 89 = .ok (.aload_n 0, 1) := by decide +kernel
theorem dX9_breaksRest_90 : decode cX9_breaksRest 90 = .ok (.getfield 75, 3) := by decide +kernel
theorem dX9_breaksRest_93 : decode cX9_breaksRest 93 = .ok (.iload 6, 2) := by decide +kernel
theorem dX9_breaksRest_95 : decode cX9_breaksRest 95 = .ok (.iaload, 1) := by decide +kernel
theorem dX9_breaksRest_96 : decode cX9_breaksRest 96 = .ok (.aload_n 0, 1) := by decide +kernel
theorem dX9_breaksRest_97 : decode cX9_breaksRest 97 = .ok (.getfield 25, 3) := by decide +kernel
theorem dX9_breaksRest_100 : decode cX9_breaksRest 100 = .ok (.iload 5, 2) := by decide +kernel
theorem dX9_breaksRest_102 : decode cX9_breaksRest 102 = .ok (.iaload, 1) := by decide +kernel
theorem dX9_breaksRest_103 : decode cX9_breaksRest 103 = .ok (.iadd, 1) := by decide +kernel
theorem dX9_breaksRest_104 : decode cX9_breaksRest 104 = .ok (.iload_n 2, 1) := by decide +kernel
theorem dX9_breaksRest_105 : decode cX9_breaksRest 105 = .ok (.if_icmp .lt 7, 3) := by decide +kernel
theorem dX9_breaksRest_108 : decode cX9_breaksRest 108 = .ok (.iconst 1, 1) := by decide +kernel
theorem dX9_breaksRest_109 : decode cX9_breaksRest 109 = .ok (.goto 4, 3) := by decide +kernel
theorem dX9_breaksRest_112 : decode cX9_breaksRest 112 = .ok (.iconst 0, 1) := by decide +kernel
theorem dX9_breaksRest_113 : decode cX9_breaksRest 113 = .ok (.istore 7, 2) := by decide +kernel
theorem dX9_breaksRest_115 : decode cX9_breaksRest 115 = .ok (.aload_n 0, 1) := by decide +kernel
theorem dX9_breaksRest_116 : decode cX9_breaksRest 116 = .ok (.getfield 44, 3) := by decide +kernel
theorem dX9_breaksRest_119 : decode cX9_breaksRest 119 = .ok (.iload 6, 2) := by decide +kernel
theorem dX9_breaksRest_121 : decode cX9_breaksRest 121 = .ok (.iaload, 1) := by decide +kernel
theorem dX9_breaksRest_122 : decode cX9_breaksRest 122 = .ok (.iconst 3, 1) := by decide +kernel
theorem dX9_breaksRest_123 : decode cX9_breaksRest 123 = .ok (.if_icmp .eq 50, 3) := by decide +kernel
theorem dX9_breaksRest_126 : decode cX9_breaksRest 126 = .ok (.aload_n 0, 1) := by decide +kernel
theorem dX9_breaksRest_127 : decode cX9_breaksRest 127 = .ok (.getfield 69, 3) := by decide +kernel
theorem dX9_breaksRest_130 : decode cX9_breaksRest 130 = .ok (.iload 6, 2) := by decide +kernel
theorem dX9_breaksRest_132 : decode cX9_breaksRest 132 = .ok (.iaload, 1) := by decide +kernel
theorem dX9_breaksRest_133 : decode cX9_breaksRest 133 = .ok (.iconst 3, 1) := by decide +kernel
theorem dX9_breaksRest_134 : decode cX9_breaksRest 134 = .ok (.if_icmp .eq 39, 3) := by decide +kernel
theorem dX9_breaksRest_137 : decode cX9_breaksRest 137 = .ok (.aload_n 0, 1) := by decide +kernel
theorem dX9_breaksRest_138 : decode cX9_breaksRest 138 = .ok (.getfield 72, 3) := by decide +kernel
theorem dX9_breaksRest_141 : decode cX9_breaksRest 141 = .ok (.iload 6, 2) := by decide +kernel
theorem dX9_breaksRest_143 : decode cX9_breaksRest 143 = .ok (.iaload, 1) := by decide +kernel
theorem dX9_breaksRest_144 : decode cX9_breaksRest 144 = .ok (.iload 4, 2) := by decide +kernel
theorem dX9_breaksRest_146 : decode cX9_breaksRest 146 = .ok (.if_icmp .le 27, 3) := by decide +kernel
theorem dX9_breaksRest_149 : decode cX9_breaksRest 149 = .ok (.aload_n 0, 1) := by decide +kernel
theorem dX9_breaksRest_150 : decode cX9_breaksRest 150 = .ok (.getfield 72, 3) := by decide +kernel
theorem dX9_breaksRest_153 : decode cX9_breaksRest 153 = .ok (.iload 6, 2) := by decide +kernel
theorem dX9_breaksRest_155 : decode cX9_breaksRest 155 = .ok (.iaload, 1) := by decide +kernel
theorem dX9_breaksRest_156 : decode cX9_breaksRest 156 = .ok (.iload 4, 2) := by decide +kernel
theorem dX9_breaksRest_158 : decode cX9_breaksRest 158 = .ok (.aload_n 0, 1) := by decide +kernel
theorem dX9_breaksRest_159 : decode cX9_breaksRest 159 = .ok (.getfield 25, 3) := by decide +kernel
theorem dX9_breaksRest_162 : decode cX9_breaksRest 162 = .ok (.iload 5, 2) := by decide +kernel
theorem dX9_breaksRest_164 : decode cX9_breaksRest 164 = .ok (.iaload, 1) := by decide +kernel
theorem dX9_breaksRest_165 : decode cX9_breaksRest 165 = .ok (.iadd, 1) := by decide +kernel
theorem dX9_breaksRest_166 : decode cX9_breaksRest 166 = .ok (.if_icmp .gt 7, 3) := by decide +kernel
theorem dX9_breaksRest_169 : decode cX9_breaksRest 169 = .ok (.iconst 1, 1) := by decide +kernel
theorem dX9_breaksRest_170 : decode cX9_breaksRest 170 = .ok (.goto 4, 3) := by decide +kernel
theorem dX9_breaksRest_173 : decode cX9_breaksRest 173 = .ok (.iconst 0, 1) := by decide +kernel
theorem dX9_breaksRest_174 : decode cX9_breaksRest 174 = .ok (.istore 8, 2) := by decide +kernel
theorem dX9_breaksRest_176 : decode cX9_breaksRest 176 = .ok (.iload 7, 2) := by decide +kernel
theorem dX9_breaksRest_178 : decode cX9_breaksRest 178 = .ok (.ifCond .ne 8, 3) := by decide +kernel
theorem dX9_breaksRest_181 : decode cX9_breaksRest 181 = .ok (.iload 8, 2) := by decide +kernel
theorem dX9_breaksRest_183 : decode cX9_breaksRest 183 = .ok (.ifCond .eq 11, 3) := by decide +kernel
theorem dX9_breaksRest_186 : decode cX9_breaksRest 186 = .ok (.aload_n 0, 1) := by decide +kernel
theorem dX9_breaksRest_187 : decode cX9_breaksRest 187 = .ok (.iload_n 2, 1) := by decide +kernel
theorem dX9_breaksRest_188 : decode cX9_breaksRest 188 = .ok (.iload 5, 2) := by decide +kernel
theorem dX9_breaksRest_190 : decode cX9_breaksRest 190 = .ok (.invokevirtual 143, 3) := by decide +kernel
theorem dX9_breaksRest_193 : decode cX9_breaksRest 193 = .ok (.ireturn, 1) := by decide +kernel
theorem dX9_breaksRest_194 : decode cX9_breaksRest 194 = .ok (.iinc 6 1, 3) := by decide +kernel
theorem dX9_breaksRest_197 : decode cX9_breaksRest 197 = .ok (.goto (-170), 3) := by decide +kernel
theorem dX9_breaksRest_200 : decode cX9_breaksRest 200 = .ok (.iinc 5 1, 3) := by decide +kernel
theorem dX9_breaksRest_203 : decode cX9_breaksRest 203 = .ok (.goto (-188), 3) := by decide +kernel
theorem dX9_breaksRest_206 : decode cX9_breaksRest 206 = .ok (.iconst 0, 1) := by decide +kernel
theorem dX9_breaksRest_207 : decode cX9_breaksRest 207 = .ok (.ireturn, 1) := by decide +kernel
theorem dX9_breaksWays_0 : decode cX9_breaksWays 0 = .ok (.iload_n 2, 1) := by decide +kernel
theorem dX9_breaksWays_1 : decode cX9_breaksWays 1 = .ok (.istore 4, 2) := by decide +kernel
theorem dX9_breaksWays_3 : decode cX9_breaksWays 3 = .ok (.iload 4, 2) := by decide +kernel
theorem dX9_breaksWays_5 : decode cX9_breaksWays 5 = .ok (.iload_n 2, 1) := by decide +kernel
theorem dX9_breaksWays_6 : decode cX9_breaksWays 6 = .ok (.aload_n 0, 1) := by decide +kernel
theorem dX9_breaksWays_7 : decode cX9_breaksWays 7 = .ok (.getfield 50, 3) := by decide +kernel
theorem dX9_breaksWays_10 : decode cX9_breaksWays 10 = .ok (.iload_n 1, 1) := by decide +kernel
theorem dX9_breaksWays_11 : decode cX9_breaksWays 11 = .ok (.iaload, 1) := by decide +kernel
theorem dX9_breaksWays_12 : decode cX9_breaksWays 12 = .ok (.iadd, 1) := by decide +kernel
theorem dX9_breaksWays_13 : decode cX9_breaksWays 13 = .ok (.if_icmp .ge 126, 3) := by decide +kernel
theorem dX9_breaksWays_16 : decode cX9_breaksWays 16 = .ok (.aload_n 0, 1) := by decide +kernel
theorem dX9_breaksWays_17 : decode cX9_breaksWays 17 = .ok (.iload_n 1, 1) := by decide +kernel
theorem dX9_breaksWays_18 : decode cX9_breaksWays 18 = .ok (.iconst (-1), 1) := by decide +kernel
theorem dX9_breaksWays_19 : decode cX9_breaksWays 19 = .ok (.iload_n 3, 1) := by decide +kernel
theorem dX9_breaksWays_20 : decode cX9_breaksWays 20 = .ok (.iload 4, 2) := by decide +kernel
theorem dX9_breaksWays_22 : decode cX9_breaksWays 22 = .ok (.invokevirtual 146, 3) := by decide +kernel
theorem dX9_breaksWays_25 : decode cX9_breaksWays 25 = .ok (.lstore 5, 2) := by decide +kernel
theorem dX9_breaksWays_27 : decode cX9_breaksWays 27 = .ok (.aload_n 0, 1) := by decide +kernel
theorem dX9_breaksWays_28 : decode cX9_breaksWays 28 = .ok (.iload_n 1, 1) := by decide +kernel
theorem dX9_breaksWays_29 : decode cX9_breaksWays 29 = .ok (.iload_n 2, 1) := by decide +kernel
theorem dX9_breaksWays_30 : decode cX9_breaksWays 30 = .ok (.iload_n 3, 1) := by decide +kernel
theorem dX9_breaksWays_31 : decode cX9_breaksWays 31 = .ok (.iload 4, 2) := by decide +kernel
theorem dX9_breaksWays_33 : decode cX9_breaksWays 33 = .ok (.invokevirtual 146, 3) := by decide +kernel
theorem dX9_breaksWays_36 : decode cX9_breaksWays 36 = .ok (.lstore 7, 2) := by decide +kernel
theorem dX9_breaksWays_38 : decode cX9_breaksWays 38 = .ok (.iconst 0, 1) := by decide +kernel
theorem dX9_breaksWays_39 : decode cX9_breaksWays 39 = .ok (.istore 9, 2) := by decide +kernel
theorem dX9_breaksWays_41 : decode cX9_breaksWays 41 = .ok (.iload 9, 2) := by decide +kernel
theorem dX9_breaksWays_43 : decode cX9_breaksWays 43 = .ok (.aload_n 0, 1) := by decide +kernel
theorem dX9_breaksWays_44 : decode cX9_breaksWays 44 = .ok (.getfield 104, 3) := by decide +kernel
theorem dX9_breaksWays_47 : decode cX9_breaksWays 47 = .ok (.if_icmp .ge 86, 3) := by decide +kernel
theorem dX9_breaksWays_50 : decode cX9_breaksWays 50 = .ok (.lload 7, 2) := by decide +kernel
theorem dX9_breaksWays_52 : decode cX9_breaksWays 52 = .ok (.lload 5, 2) := by decide +kernel
theorem dX9_breaksWays_54 : decode cX9_breaksWays 54 = .ok (.lcmp, 1) := by decide +kernel
theorem dX9_breaksWays_55 : decode cX9_breaksWays 55 = .ok (.ifCond .eq 78, 3) := by decide +kernel
theorem dX9_breaksWays_58 : decode cX9_breaksWays 58 = .ok (.aload_n 0, 1) := by decide +kernel
theorem dX9_breaksWays_59 : decode cX9_breaksWays 59 = .ok (.aload_n 0, 1) := by decide +kernel
theorem dX9_breaksWays_60 : decode cX9_breaksWays 60 = .ok (.getfield 28, 3) := by decide +kernel
theorem dX9_breaksWays_63 : decode cX9_breaksWays 63 = .ok (.iload 9, 2) := by decide +kernel
theorem dX9_breaksWays_65 : decode cX9_breaksWays 65 = .ok (.iaload, 1) := by decide +kernel
theorem dX9_breaksWays_66 : decode cX9_breaksWays 66 = .ok (.aload_n 0, 1) := by decide +kernel
theorem dX9_breaksWays_67 : decode cX9_breaksWays 67 = .ok (.getfield 31, 3) := by decide +kernel
theorem dX9_breaksWays_70 : decode cX9_breaksWays 70 = .ok (.iload 9, 2) := by decide +kernel
theorem dX9_breaksWays_72 : decode cX9_breaksWays 72 = .ok (.iaload, 1) := by decide +kernel
theorem dX9_breaksWays_73 : decode cX9_breaksWays 73 = .ok (.lload 7, 2) := by decide +kernel
theorem dX9_breaksWays_75 : decode cX9_breaksWays 75 = .ok (.invokevirtual 150, 3) := by decide +kernel
theorem dX9_breaksWays_78 : decode cX9_breaksWays 78 = .ok (.aload_n 0, 1) := by decide +kernel
theorem dX9_breaksWays_79 : decode cX9_breaksWays 79 = .ok (.getfield 34, 3) := by decide +kernel
theorem dX9_breaksWays_82 : decode cX9_breaksWays 82 = .ok (.iload 9, 2) := by decide +kernel
theorem dX9_breaksWays_84 : decode cX9_breaksWays 84 = .ok (.iaload, 1) := by decide +kernel
theorem dX9_breaksWays_85 : decode cX9_breaksWays 85 = .ok (.if_icmp .le 42, 3) := by decide +kernel
theorem dX9_breaksWays_88 : decode cX9_breaksWays 88 = .ok (.aload_n 0, 1) := by decide +kernel
theorem dX9_breaksWays_89 : decode cX9_breaksWays 89 = .ok (.aload_n 0, 1) := by decide +kernel
theorem dX9_breaksWays_90 : decode cX9_breaksWays 90 = .ok (.getfield 28, 3) := by decide +kernel
theorem dX9_breaksWays_93 : decode cX9_breaksWays 93 = .ok (.iload 9, 2) := by decide +kernel
theorem dX9_breaksWays_95 : decode cX9_breaksWays 95 = .ok (.iaload, 1) := by decide +kernel
theorem dX9_breaksWays_96 : decode cX9_breaksWays 96 = .ok (.aload_n 0, 1) := by decide +kernel
theorem dX9_breaksWays_97 : decode cX9_breaksWays 97 = .ok (.getfield 31, 3) := by decide +kernel
theorem dX9_breaksWays_100 : decode cX9_breaksWays 100 = .ok (.iload 9, 2) := by decide +kernel
theorem dX9_breaksWays_102 : decode cX9_breaksWays 102 = .ok (.iaload, 1) := by decide +kernel
theorem dX9_breaksWays_103 : decode cX9_breaksWays 103 = .ok (.lload 5, 2) := by decide +kernel
theorem dX9_breaksWays_105 : decode cX9_breaksWays 105 = .ok (.invokevirtual 150, 3) := by decide +kernel
theorem dX9_breaksWays_108 : decode cX9_breaksWays 108 = .ok (.aload_n 0, 1) := by decide +kernel
theorem dX9_breaksWays_109 : decode cX9_breaksWays 109 = .ok (.getfield 34, 3) := by decide +kernel
theorem dX9_breaksWays_112 : decode cX9_breaksWays 112 = .ok (.iload 9, 2) := by decide +kernel
theorem dX9_breaksWays_114 : decode cX9_breaksWays 114 = .ok (.iaload, 1) := by decide +kernel
theorem dX9_breaksWays_115 : decode cX9_breaksWays 115 = .ok (.if_icmp .gt 12, 3) := by decide +kernel
theorem dX9_breaksWays_118 : decode cX9_breaksWays 118 = .ok (.aload_n 0, 1) := by decide +kernel
theorem dX9_breaksWays_119 : decode cX9_breaksWays 119 = .ok (.iload 4, 2) := by decide +kernel
theorem dX9_breaksWays_121 : decode cX9_breaksWays 121 = .ok (.iload 9, 2) := by decide +kernel
theorem dX9_breaksWays_123 : decode cX9_breaksWays 123 = .ok (.invokevirtual 143, 3) := by decide +kernel
theorem dX9_breaksWays_126 : decode cX9_breaksWays 126 = .ok (.ireturn, 1) := by decide +kernel
theorem dX9_breaksWays_127 : decode cX9_breaksWays 127 = .ok (.iinc 9 1, 3) := by decide +kernel
theorem dX9_breaksWays_130 : decode cX9_breaksWays 130 = .ok (.goto (-89), 3) := by decide +kernel
theorem dX9_breaksWays_133 : decode cX9_breaksWays 133 = .ok (.iinc 4 1, 3) := by decide +kernel
theorem dX9_breaksWays_136 : decode cX9_breaksWays 136 = .ok (.goto (-133), 3) := by decide +kernel
theorem dX9_breaksWays_139 : decode cX9_breaksWays 139 = .ok (.iconst 0, 1) := by decide +kernel
theorem dX9_breaksWays_140 : decode cX9_breaksWays 140 = .ok (.ireturn, 1) := by decide +kernel
theorem dX9_rule_0 : decode cX9_rule 0 = .ok (.iload_n 3, 1) := by decide +kernel
theorem dX9_rule_1 : decode cX9_rule 1 = .ok (.iconst 1, 1) := by decide +kernel
theorem dX9_rule_2 : decode cX9_rule 2 = .ok (.if_icmp .gt 36, 3) := by decide +kernel
theorem dX9_rule_5 : decode cX9_rule 5 = .ok (.iload_n 2, 1) := by decide +kernel
theorem dX9_rule_6 : decode cX9_rule 6 = .ok (.aload_n 0, 1) := by decide +kernel
theorem dX9_rule_7 : decode cX9_rule 7 = .ok (.getfield 154, 3) := by decide +kernel
theorem dX9_rule_10 : decode cX9_rule 10 = .ok (.aload_n 0, 1) := by decide +kernel
theorem dX9_rule_11 : decode cX9_rule 11 = .ok (.iload_n 1, 1) := by decide +kernel
theorem dX9_rule_12 : decode cX9_rule 12 = .ok (.invokevirtual 157, 3) := by decide +kernel
theorem dX9_rule_15 : decode cX9_rule 15 = .ok (.iadd, 1) := by decide +kernel
theorem dX9_rule_16 : decode cX9_rule 16 = .ok (.if_icmp .ge 22, 3) := by decide +kernel
theorem dX9_rule_19 : decode cX9_rule 19 = .ok (.aload_n 0, 1) := by decide +kernel
theorem dX9_rule_20 : decode cX9_rule 20 = .ok (.iload_n 2, 1) := by decide +kernel
theorem dX9_rule_21 : decode cX9_rule 21 = .ok (.aload_n 0, 1) := by decide +kernel
theorem dX9_rule_22 : decode cX9_rule 22 = .ok (.iload_n 1, 1) := by decide +kernel
theorem dX9_rule_23 : decode cX9_rule 23 = .ok (.invokevirtual 161, 3) := by decide +kernel
theorem dX9_rule_26 : decode cX9_rule 26 = .ok (.invokevirtual 143, 3) := by decide +kernel
theorem dX9_rule_29 : decode cX9_rule 29 = .ok (.ifCond .eq 7, 3) := by decide +kernel
theorem dX9_rule_32 : decode cX9_rule 32 = .ok (.iconst 1, 1) := by decide +kernel
theorem dX9_rule_33 : decode cX9_rule 33 = .ok (.goto 4, 3) := by decide +kernel
theorem dX9_rule_36 : decode cX9_rule 36 = .ok (.iconst 0, 1) := by decide +kernel
theorem dX9_rule_37 : decode cX9_rule 37 = .ok (.ireturn, 1) := by decide +kernel
theorem dX9_rule_38 : decode cX9_rule 38 = .ok (.iload_n 2, 1) := by decide +kernel
theorem dX9_rule_39 : decode cX9_rule 39 = .ok (.aload_n 0, 1) := by decide +kernel
theorem dX9_rule_40 : decode cX9_rule 40 = .ok (.getfield 50, 3) := by decide +kernel
theorem dX9_rule_43 : decode cX9_rule 43 = .ok (.iload_n 1, 1) := by decide +kernel
theorem dX9_rule_44 : decode cX9_rule 44 = .ok (.iaload, 1) := by decide +kernel
theorem dX9_rule_45 : decode cX9_rule 45 = .ok (.iadd, 1) := by decide +kernel
theorem dX9_rule_46 : decode cX9_rule 46 = .ok (.iconst 1, 1) := by decide +kernel
theorem dX9_rule_47 : decode cX9_rule 47 = .ok (.isub, 1) := by decide +kernel
theorem dX9_rule_48 : decode cX9_rule 48 = .ok (.sipush 399, 3) := by decide +kernel
theorem dX9_rule_51 : decode cX9_rule 51 = .ok (.if_icmp .le 24, 3) := by decide +kernel
theorem dX9_rule_54 : decode cX9_rule 54 = .ok (.aload_n 0, 1) := by decide +kernel
theorem dX9_rule_55 : decode cX9_rule 55 = .ok (.sipush 400, 3) := by decide +kernel
theorem dX9_rule_58 : decode cX9_rule 58 = .ok (.aload_n 0, 1) := by decide +kernel
theorem dX9_rule_59 : decode cX9_rule 59 = .ok (.iload_n 1, 1) := by decide +kernel
theorem dX9_rule_60 : decode cX9_rule 60 = .ok (.invokevirtual 161, 3) := by decide +kernel
theorem dX9_rule_63 : decode cX9_rule 63 = .ok (.invokevirtual 143, 3) := by decide +kernel
theorem dX9_rule_66 : decode cX9_rule 66 = .ok (.ifCond .eq 7, 3) := by decide +kernel
theorem dX9_rule_69 : decode cX9_rule 69 = .ok (.iconst 2, 1) := by decide +kernel
theorem dX9_rule_70 : decode cX9_rule 70 = .ok (.goto 4, 3) := by decide +kernel
theorem dX9_rule_73 : decode cX9_rule 73 = .ok (.iconst 0, 1) := by decide +kernel
theorem dX9_rule_74 : decode cX9_rule 74 = .ok (.ireturn, 1) := by decide +kernel
theorem dX9_rule_75 : decode cX9_rule 75 = .ok (.aload_n 0, 1) := by decide +kernel
theorem dX9_rule_76 : decode cX9_rule 76 = .ok (.iload_n 1, 1) := by decide +kernel
theorem dX9_rule_77 : decode cX9_rule 77 = .ok (.iload_n 2, 1) := by decide +kernel
theorem dX9_rule_78 : decode cX9_rule 78 = .ok (.invokevirtual 164, 3) := by decide +kernel
theorem dX9_rule_81 : decode cX9_rule 81 = .ok (.ifCond .eq 7, 3) := by decide +kernel
theorem dX9_rule_84 : decode cX9_rule 84 = .ok (.iconst 3, 1) := by decide +kernel
theorem dX9_rule_85 : decode cX9_rule 85 = .ok (.goto 66, 3) := by decide +kernel
theorem dX9_rule_88 : decode cX9_rule 88 = .ok (.aload_n 0, 1) := by decide +kernel
theorem dX9_rule_89 : decode cX9_rule 89 = .ok (.iload_n 1, 1) := by decide +kernel
theorem dX9_rule_90 : decode cX9_rule 90 = .ok (.iload_n 2, 1) := by decide +kernel
theorem dX9_rule_91 : decode cX9_rule 91 = .ok (.iload 4, 2) := by decide +kernel
theorem dX9_rule_93 : decode cX9_rule 93 = .ok (.invokevirtual 167, 3) := by decide +kernel
theorem dX9_rule_96 : decode cX9_rule 96 = .ok (.ifCond .eq 7, 3) := by decide +kernel
theorem dX9_rule_99 : decode cX9_rule 99 = .ok (.iconst 4, 1) := by decide +kernel
theorem dX9_rule_100 : decode cX9_rule 100 = .ok (.goto 51, 3) := by decide +kernel
theorem dX9_rule_103 : decode cX9_rule 103 = .ok (.aload_n 0, 1) := by decide +kernel
theorem dX9_rule_104 : decode cX9_rule 104 = .ok (.iload_n 1, 1) := by decide +kernel
theorem dX9_rule_105 : decode cX9_rule 105 = .ok (.iload_n 2, 1) := by decide +kernel
theorem dX9_rule_106 : decode cX9_rule 106 = .ok (.iload 4, 2) := by decide +kernel
theorem dX9_rule_108 : decode cX9_rule 108 = .ok (.invokevirtual 170, 3) := by decide +kernel
theorem dX9_rule_111 : decode cX9_rule 111 = .ok (.ifCond .eq 7, 3) := by decide +kernel
theorem dX9_rule_114 : decode cX9_rule 114 = .ok (.iconst 5, 1) := by decide +kernel
theorem dX9_rule_115 : decode cX9_rule 115 = .ok (.goto 36, 3) := by decide +kernel
theorem dX9_rule_118 : decode cX9_rule 118 = .ok (.aload_n 0, 1) := by decide +kernel
theorem dX9_rule_119 : decode cX9_rule 119 = .ok (.iload_n 1, 1) := by decide +kernel
theorem dX9_rule_120 : decode cX9_rule 120 = .ok (.iload_n 2, 1) := by decide +kernel
theorem dX9_rule_121 : decode cX9_rule 121 = .ok (.iload 4, 2) := by decide +kernel
theorem dX9_rule_123 : decode cX9_rule 123 = .ok (.invokevirtual 173, 3) := by decide +kernel
theorem dX9_rule_126 : decode cX9_rule 126 = .ok (.ifCond .eq 8, 3) := by decide +kernel
theorem dX9_rule_129 : decode cX9_rule 129 = .ok (.bipush 6, 2) := by decide +kernel
theorem dX9_rule_131 : decode cX9_rule 131 = .ok (.goto 20, 3) := by decide +kernel
theorem dX9_rule_134 : decode cX9_rule 134 = .ok (.aload_n 0, 1) := by decide +kernel
theorem dX9_rule_135 : decode cX9_rule 135 = .ok (.iload_n 1, 1) := by decide +kernel
theorem dX9_rule_136 : decode cX9_rule 136 = .ok (.iload_n 2, 1) := by decide +kernel
theorem dX9_rule_137 : decode cX9_rule 137 = .ok (.iload 4, 2) := by decide +kernel
theorem dX9_rule_139 : decode cX9_rule 139 = .ok (.invokevirtual 176, 3) := by decide +kernel
theorem dX9_rule_142 : decode cX9_rule 142 = .ok (.ifCond .eq 8, 3) := by decide +kernel
theorem dX9_rule_145 : decode cX9_rule 145 = .ok (.bipush 7, 2) := by decide +kernel
theorem dX9_rule_147 : decode cX9_rule 147 = .ok (.goto 4, 3) := by decide +kernel
theorem dX9_rule_150 : decode cX9_rule 150 = .ok (.iconst 0, 1) := by decide +kernel
theorem dX9_rule_151 : decode cX9_rule 151 = .ok (.ireturn, 1) := by decide +kernel
theorem dX9_lowest_0 : decode cX9_lowest 0 = .ok (.iconst 0, 1) := by decide +kernel
theorem dX9_lowest_1 : decode cX9_lowest 1 = .ok (.istore_n 2, 1) := by decide +kernel
theorem dX9_lowest_2 : decode cX9_lowest 2 = .ok (.aload_n 0, 1) := by decide +kernel
theorem dX9_lowest_3 : decode cX9_lowest 3 = .ok (.iload_n 1, 1) := by decide +kernel
theorem dX9_lowest_4 : decode cX9_lowest 4 = .ok (.iload_n 2, 1) := by decide +kernel
theorem dX9_lowest_5 : decode cX9_lowest 5 = .ok (.invokevirtual 117, 3) := by decide +kernel
theorem dX9_lowest_8 : decode cX9_lowest 8 = .ok (.ifCond .ne 9, 3) := by decide +kernel
theorem dX9_lowest_11 : decode cX9_lowest 11 = .ok (.iinc 2 1, 3) := by decide +kernel
theorem dX9_lowest_14 : decode cX9_lowest 14 = .ok (.goto (-12), 3) := by decide +kernel
theorem dX9_lowest_17 : decode cX9_lowest 17 = .ok (.iload_n 2, 1) := by decide +kernel
theorem dX9_lowest_18 : decode cX9_lowest 18 = .ok (.ireturn, 1) := by decide +kernel
theorem dX9_refusal_0 : decode cX9_refusal 0 = .ok (.aload_n 0, 1) := by decide +kernel
theorem dX9_refusal_1 : decode cX9_refusal 1 = .ok (.getfield 69, 3) := by decide +kernel
theorem dX9_refusal_4 : decode cX9_refusal 4 = .ok (.iload_n 1, 1) := by decide +kernel
theorem dX9_refusal_5 : decode cX9_refusal 5 = .ok (.iaload, 1) := by decide +kernel
theorem dX9_refusal_6 : decode cX9_refusal 6 = .ok (.iconst 1, 1) := by decide +kernel
theorem dX9_refusal_7 : decode cX9_refusal 7 = .ok (.if_icmp .gt 13, 3) := by decide +kernel
theorem dX9_refusal_10 : decode cX9_refusal 10 = .ok (.aload_n 0, 1) := by decide +kernel
theorem dX9_refusal_11 : decode cX9_refusal 11 = .ok (.getfield 44, 3) := by decide +kernel
theorem dX9_refusal_14 : decode cX9_refusal 14 = .ok (.iload_n 1, 1) := by decide +kernel
theorem dX9_refusal_15 : decode cX9_refusal 15 = .ok (.iaload, 1) := by decide +kernel
theorem dX9_refusal_16 : decode cX9_refusal 16 = .ok (.iconst 2, 1) := by decide +kernel
theorem dX9_refusal_17 : decode cX9_refusal 17 = .ok (.if_icmp .ne 8, 3) := by decide +kernel
theorem dX9_refusal_20 : decode cX9_refusal 20 = .ok (.bipush (-3), 2) := by decide +kernel
theorem dX9_refusal_22 : decode cX9_refusal 22 = .ok (.goto 4, 3) := by decide +kernel
theorem dX9_refusal_25 : decode cX9_refusal 25 = .ok (.iconst 0, 1) := by decide +kernel
theorem dX9_refusal_26 : decode cX9_refusal 26 = .ok (.ireturn, 1) := by decide +kernel
theorem dX9_look_0 : decode cX9_look 0 = .ok (.aload_n 0, 1) := by decide +kernel
theorem dX9_look_1 : decode cX9_look 1 = .ok (.iload_n 1, 1) := by decide +kernel
theorem dX9_look_2 : decode cX9_look 2 = .ok (.iload_n 2, 1) := by decide +kernel
theorem dX9_look_3 : decode cX9_look 3 = .ok (.iconst 1, 1) := by decide +kernel
theorem dX9_look_4 : decode cX9_look 4 = .ok (.iconst 0, 1) := by decide +kernel
theorem dX9_look_5 : decode cX9_look 5 = .ok (.invokevirtual 179, 3) := by decide +kernel
theorem dX9_look_8 : decode cX9_look 8 = .ok (.istore_n 3, 1) := by decide +kernel
theorem dX9_look_9 : decode cX9_look 9 = .ok (.iload_n 3, 1) := by decide +kernel
theorem dX9_look_10 : decode cX9_look 10 = .ok (.ifCond .le 19, 3) := by decide +kernel
theorem dX9_look_13 : decode cX9_look 13 = .ok (.aload_n 0, 1) := by decide +kernel
theorem dX9_look_14 : decode cX9_look 14 = .ok (.aload_n 0, 1) := by decide +kernel
theorem dX9_look_15 : decode cX9_look 15 = .ok (.getfield 137, 3) := by decide +kernel
theorem dX9_look_18 : decode cX9_look 18 = .ok (.putfield 87, 3) := by decide +kernel
theorem dX9_look_21 : decode cX9_look 21 = .ok (.aload_n 0, 1) := by decide +kernel
theorem dX9_look_22 : decode cX9_look 22 = .ok (.aload_n 0, 1) := by decide +kernel
theorem dX9_look_23 : decode cX9_look 23 = .ok (.getfield 140, 3) := by decide +kernel
theorem dX9_look_26 : decode cX9_look 26 = .ok (.putfield 91, 3) := by decide +kernel
theorem dX9_look_29 : decode cX9_look 29 = .ok (.iload_n 3, 1) := by decide +kernel
theorem dX9_look_30 : decode cX9_look 30 = .ok (.ireturn, 1) := by decide +kernel
theorem dX9_may_0 : decode cX9_may 0 = .ok (.aload_n 0, 1) := by decide +kernel
theorem dX9_may_1 : decode cX9_may 1 = .ok (.iload_n 1, 1) := by decide +kernel
theorem dX9_may_2 : decode cX9_may 2 = .ok (.invokevirtual 114, 3) := by decide +kernel
theorem dX9_may_5 : decode cX9_may 5 = .ok (.ifCond .eq 14, 3) := by decide +kernel
theorem dX9_may_8 : decode cX9_may 8 = .ok (.iload_n 2, 1) := by decide +kernel
theorem dX9_may_9 : decode cX9_may 9 = .ok (.iconst 0, 1) := by decide +kernel
theorem dX9_may_10 : decode cX9_may 10 = .ok (.sipush 399, 3) := by decide +kernel
theorem dX9_may_13 : decode cX9_may 13 = .ok (.invokestatic 97, 3) := by decide +kernel
theorem dX9_may_16 : decode cX9_may 16 = .ok (.ifCond .ne 5, 3) := by decide +kernel
theorem dX9_may_19 : decode cX9_may 19 = .ok (.iconst (-1), 1) := by decide +kernel
theorem dX9_may_20 : decode cX9_may 20 = .ok (.ireturn, 1) := by decide +kernel
theorem dX9_may_21 : decode cX9_may 21 = .ok (.aload_n 0, 1) := by decide +kernel
theorem dX9_may_22 : decode cX9_may 22 = .ok (.iload_n 1, 1) := by decide +kernel
theorem dX9_may_23 : decode cX9_may 23 = .ok (.invokevirtual 183, 3) := by decide +kernel
theorem dX9_may_26 : decode cX9_may 26 = .ok (.ifCond .eq 8, 3) := by decide +kernel
theorem dX9_may_29 : decode cX9_may 29 = .ok (.bipush (-3), 2) := by decide +kernel
theorem dX9_may_31 : decode cX9_may 31 = .ok (.goto 9, 3) := by decide +kernel
theorem dX9_may_34 : decode cX9_may 34 = .ok (.aload_n 0, 1) := by decide +kernel
theorem dX9_may_35 : decode cX9_may 35 = .ok (.iload_n 1, 1) := by decide +kernel
theorem dX9_may_36 : decode cX9_may 36 = .ok (.iload_n 2, 1) := by decide +kernel
theorem dX9_may_37 : decode cX9_may 37 = .ok (.invokevirtual 186, 3) := by decide +kernel
theorem dX9_may_40 : decode cX9_may 40 = .ok (.ireturn, 1) := by decide +kernel
theorem dX9_why_0 : decode cX9_why 0 = .ok (.iload_n 1, 1) := by decide +kernel
theorem dX9_why_1 : decode cX9_why 1 = .ok (.ifCond .ne 10, 3) := by decide +kernel
theorem dX9_why_4 : decode cX9_why 4 = .ok (.aload_n 0, 1) := by decide +kernel
theorem dX9_why_5 : decode cX9_why 5 = .ok (.getfield 87, 3) := by decide +kernel
theorem dX9_why_8 : decode cX9_why 8 = .ok (.goto 16, 3) := by decide +kernel
theorem dX9_why_11 : decode cX9_why 11 = .ok (.iload_n 1, 1) := by decide +kernel
theorem dX9_why_12 : decode cX9_why 12 = .ok (.iconst 1, 1) := by decide +kernel
theorem dX9_why_13 : decode cX9_why 13 = .ok (.if_icmp .ne 10, 3) := by decide +kernel
theorem dX9_why_16 : decode cX9_why 16 = .ok (.aload_n 0, 1) := by decide +kernel
theorem dX9_why_17 : decode cX9_why 17 = .ok (.getfield 91, 3) := by decide +kernel
theorem dX9_why_20 : decode cX9_why 20 = .ok (.goto 4, 3) := by decide +kernel
theorem dX9_why_23 : decode cX9_why 23 = .ok (.iconst (-1), 1) := by decide +kernel
theorem dX9_why_24 : decode cX9_why 24 = .ok (.ireturn, 1) := by decide +kernel
theorem dX9_first_0 : decode cX9_first 0 = .ok (.aload_n 0, 1) := by decide +kernel
theorem dX9_first_1 : decode cX9_first 1 = .ok (.iload_n 1, 1) := by decide +kernel
theorem dX9_first_2 : decode cX9_first 2 = .ok (.invokevirtual 114, 3) := by decide +kernel
theorem dX9_first_5 : decode cX9_first 5 = .ok (.ifCond .eq 25, 3) := by decide +kernel
theorem dX9_first_8 : decode cX9_first 8 = .ok (.iload_n 2, 1) := by decide +kernel
theorem dX9_first_9 : decode cX9_first 9 = .ok (.iconst 0, 1) := by decide +kernel
theorem dX9_first_10 : decode cX9_first 10 = .ok (.sipush 399, 3) := by decide +kernel
theorem dX9_first_13 : decode cX9_first 13 = .ok (.invokestatic 97, 3) := by decide +kernel
theorem dX9_first_16 : decode cX9_first 16 = .ok (.ifCond .eq 14, 3) := by decide +kernel
theorem dX9_first_19 : decode cX9_first 19 = .ok (.iload_n 3, 1) := by decide +kernel
theorem dX9_first_20 : decode cX9_first 20 = .ok (.iconst 1, 1) := by decide +kernel
theorem dX9_first_21 : decode cX9_first 21 = .ok (.sipush 200, 3) := by decide +kernel
theorem dX9_first_24 : decode cX9_first 24 = .ok (.invokestatic 97, 3) := by decide +kernel
theorem dX9_first_27 : decode cX9_first 27 = .ok (.ifCond .ne 5, 3) := by decide +kernel
theorem dX9_first_30 : decode cX9_first 30 = .ok (.iconst (-1), 1) := by decide +kernel
theorem dX9_first_31 : decode cX9_first 31 = .ok (.ireturn, 1) := by decide +kernel
theorem dX9_first_32 : decode cX9_first 32 = .ok (.aload_n 0, 1) := by decide +kernel
theorem dX9_first_33 : decode cX9_first 33 = .ok (.iload_n 1, 1) := by decide +kernel
theorem dX9_first_34 : decode cX9_first 34 = .ok (.invokevirtual 183, 3) := by decide +kernel
theorem dX9_first_37 : decode cX9_first 37 = .ok (.ifCond .eq 6, 3) := by decide +kernel
theorem dX9_first_40 : decode cX9_first 40 = .ok (.bipush (-3), 2) := by decide +kernel
theorem dX9_first_42 : decode cX9_first 42 = .ok (.ireturn, 1) := by decide +kernel
theorem dX9_first_43 : decode cX9_first 43 = .ok (.aload_n 0, 1) := by decide +kernel
theorem dX9_first_44 : decode cX9_first 44 = .ok (.iload_n 1, 1) := by decide +kernel
theorem dX9_first_45 : decode cX9_first 45 = .ok (.iload_n 2, 1) := by decide +kernel
theorem dX9_first_46 : decode cX9_first 46 = .ok (.invokevirtual 186, 3) := by decide +kernel
theorem dX9_first_49 : decode cX9_first 49 = .ok (.ifCond .ne 5, 3) := by decide +kernel
theorem dX9_first_52 : decode cX9_first 52 = .ok (.iload_n 2, 1) := by decide +kernel
theorem dX9_first_53 : decode cX9_first 53 = .ok (.ireturn, 1) := by decide +kernel
theorem dX9_first_54 : decode cX9_first 54 = .ok (.iload_n 2, 1) := by decide +kernel
theorem dX9_first_55 : decode cX9_first 55 = .ok (.iconst 1, 1) := by decide +kernel
theorem dX9_first_56 : decode cX9_first 56 = .ok (.iadd, 1) := by decide +kernel
theorem dX9_first_57 : decode cX9_first 57 = .ok (.istore 4, 2) := by decide +kernel
theorem dX9_first_59 : decode cX9_first 59 = .ok (.iload 4, 2) := by decide +kernel
theorem dX9_first_61 : decode cX9_first 61 = .ok (.iload_n 2, 1) := by decide +kernel
theorem dX9_first_62 : decode cX9_first 62 = .ok (.iload_n 3, 1) := by decide +kernel
theorem dX9_first_63 : decode cX9_first 63 = .ok (.iadd, 1) := by decide +kernel
theorem dX9_first_64 : decode cX9_first 64 = .ok (.if_icmp .ge 32, 3) := by decide +kernel
theorem dX9_first_67 : decode cX9_first 67 = .ok (.iload 4, 2) := by decide +kernel
theorem dX9_first_69 : decode cX9_first 69 = .ok (.sipush 399, 3) := by decide +kernel
theorem dX9_first_72 : decode cX9_first 72 = .ok (.if_icmp .gt 24, 3) := by decide +kernel
theorem dX9_first_75 : decode cX9_first 75 = .ok (.aload_n 0, 1) := by decide +kernel
theorem dX9_first_76 : decode cX9_first 76 = .ok (.iload_n 1, 1) := by decide +kernel
theorem dX9_first_77 : decode cX9_first 77 = .ok (.iload 4, 2) := by decide +kernel
theorem dX9_first_79 : decode cX9_first 79 = .ok (.iconst 1, 1) := by decide +kernel
theorem dX9_first_80 : decode cX9_first 80 = .ok (.iconst 0, 1) := by decide +kernel
theorem dX9_first_81 : decode cX9_first 81 = .ok (.invokevirtual 179, 3) := by decide +kernel
theorem dX9_first_84 : decode cX9_first 84 = .ok (.ifCond .ne 6, 3) := by decide +kernel
theorem dX9_first_87 : decode cX9_first 87 = .ok (.iload 4, 2) := by decide +kernel
theorem dX9_first_89 : decode cX9_first 89 = .ok (.ireturn, 1) := by decide +kernel
theorem dX9_first_90 : decode cX9_first 90 = .ok (.iinc 4 1, 3) := by decide +kernel
theorem dX9_first_93 : decode cX9_first 93 = .ok (.goto (-34), 3) := by decide +kernel
theorem dX9_first_96 : decode cX9_first 96 = .ok (.bipush (-5), 2) := by decide +kernel
theorem dX9_first_98 : decode cX9_first 98 = .ok (.ireturn, 1) := by decide +kernel
theorem dX9_put_0 : decode cX9_put 0 = .ok (.aload_n 0, 1) := by decide +kernel
theorem dX9_put_1 : decode cX9_put 1 = .ok (.getfield 72, 3) := by decide +kernel
theorem dX9_put_4 : decode cX9_put 4 = .ok (.iload_n 1, 1) := by decide +kernel
theorem dX9_put_5 : decode cX9_put 5 = .ok (.iload_n 2, 1) := by decide +kernel
theorem dX9_put_6 : decode cX9_put 6 = .ok (.iastore, 1) := by decide +kernel
theorem dX9_put_7 : decode cX9_put 7 = .ok (.aload_n 0, 1) := by decide +kernel
theorem dX9_put_8 : decode cX9_put 8 = .ok (.getfield 75, 3) := by decide +kernel
theorem dX9_put_11 : decode cX9_put 11 = .ok (.iload_n 1, 1) := by decide +kernel
theorem dX9_put_12 : decode cX9_put 12 = .ok (.iload_n 2, 1) := by decide +kernel
theorem dX9_put_13 : decode cX9_put 13 = .ok (.aload_n 0, 1) := by decide +kernel
theorem dX9_put_14 : decode cX9_put 14 = .ok (.getfield 50, 3) := by decide +kernel
theorem dX9_put_17 : decode cX9_put 17 = .ok (.iload_n 1, 1) := by decide +kernel
theorem dX9_put_18 : decode cX9_put 18 = .ok (.iaload, 1) := by decide +kernel
theorem dX9_put_19 : decode cX9_put 19 = .ok (.iadd, 1) := by decide +kernel
theorem dX9_put_20 : decode cX9_put 20 = .ok (.iconst 1, 1) := by decide +kernel
theorem dX9_put_21 : decode cX9_put 21 = .ok (.isub, 1) := by decide +kernel
theorem dX9_put_22 : decode cX9_put 22 = .ok (.iastore, 1) := by decide +kernel
theorem dX9_put_23 : decode cX9_put 23 = .ok (.aload_n 0, 1) := by decide +kernel
theorem dX9_put_24 : decode cX9_put 24 = .ok (.getfield 69, 3) := by decide +kernel
theorem dX9_put_27 : decode cX9_put 27 = .ok (.iload_n 1, 1) := by decide +kernel
theorem dX9_put_28 : decode cX9_put 28 = .ok (.iload_n 2, 1) := by decide +kernel
theorem dX9_put_29 : decode cX9_put 29 = .ok (.aload_n 0, 1) := by decide +kernel
theorem dX9_put_30 : decode cX9_put 30 = .ok (.getfield 154, 3) := by decide +kernel
theorem dX9_put_33 : decode cX9_put 33 = .ok (.if_icmp .ne 7, 3) := by decide +kernel
theorem dX9_put_36 : decode cX9_put 36 = .ok (.iconst 2, 1) := by decide +kernel
theorem dX9_put_37 : decode cX9_put 37 = .ok (.goto 4, 3) := by decide +kernel
theorem dX9_put_40 : decode cX9_put 40 = .ok (.iconst 1, 1) := by decide +kernel
theorem dX9_put_41 : decode cX9_put 41 = .ok (.iastore, 1) := by decide +kernel
theorem dX9_put_42 : decode cX9_put 42 = .ok (.return_, 1) := by decide +kernel
theorem dX9_permit_0 : decode cX9_permit 0 = .ok (.aload_n 0, 1) := by decide +kernel
theorem dX9_permit_1 : decode cX9_permit 1 = .ok (.iload_n 1, 1) := by decide +kernel
theorem dX9_permit_2 : decode cX9_permit 2 = .ok (.invokevirtual 114, 3) := by decide +kernel
theorem dX9_permit_5 : decode cX9_permit 5 = .ok (.ifCond .eq 14, 3) := by decide +kernel
theorem dX9_permit_8 : decode cX9_permit 8 = .ok (.iload_n 2, 1) := by decide +kernel
theorem dX9_permit_9 : decode cX9_permit 9 = .ok (.iconst 0, 1) := by decide +kernel
theorem dX9_permit_10 : decode cX9_permit 10 = .ok (.sipush 399, 3) := by decide +kernel
theorem dX9_permit_13 : decode cX9_permit 13 = .ok (.invokestatic 97, 3) := by decide +kernel
theorem dX9_permit_16 : decode cX9_permit 16 = .ok (.ifCond .ne 5, 3) := by decide +kernel
theorem dX9_permit_19 : decode cX9_permit 19 = .ok (.iconst (-1), 1) := by decide +kernel
theorem dX9_permit_20 : decode cX9_permit 20 = .ok (.ireturn, 1) := by decide +kernel
theorem dX9_permit_21 : decode cX9_permit 21 = .ok (.aload_n 0, 1) := by decide +kernel
theorem dX9_permit_22 : decode cX9_permit 22 = .ok (.iload_n 1, 1) := by decide +kernel
theorem dX9_permit_23 : decode cX9_permit 23 = .ok (.invokevirtual 183, 3) := by decide +kernel
theorem dX9_permit_26 : decode cX9_permit 26 = .ok (.ifCond .eq 6, 3) := by decide +kernel
theorem dX9_permit_29 : decode cX9_permit 29 = .ok (.bipush (-3), 2) := by decide +kernel
theorem dX9_permit_31 : decode cX9_permit 31 = .ok (.ireturn, 1) := by decide +kernel
theorem dX9_permit_32 : decode cX9_permit 32 = .ok (.aload_n 0, 1) := by decide +kernel
theorem dX9_permit_33 : decode cX9_permit 33 = .ok (.iload_n 1, 1) := by decide +kernel
theorem dX9_permit_34 : decode cX9_permit 34 = .ok (.iload_n 2, 1) := by decide +kernel
theorem dX9_permit_35 : decode cX9_permit 35 = .ok (.invokevirtual 186, 3) := by decide +kernel
theorem dX9_permit_38 : decode cX9_permit 38 = .ok (.istore_n 3, 1) := by decide +kernel
theorem dX9_permit_39 : decode cX9_permit 39 = .ok (.iload_n 3, 1) := by decide +kernel
theorem dX9_permit_40 : decode cX9_permit 40 = .ok (.ifCond .le 8, 3) := by decide +kernel
theorem dX9_permit_43 : decode cX9_permit 43 = .ok (.bipush (-10), 2) := by decide +kernel
theorem dX9_permit_45 : decode cX9_permit 45 = .ok (.iload_n 3, 1) := by decide +kernel
theorem dX9_permit_46 : decode cX9_permit 46 = .ok (.isub, 1) := by decide +kernel
theorem dX9_permit_47 : decode cX9_permit 47 = .ok (.ireturn, 1) := by decide +kernel
theorem dX9_permit_48 : decode cX9_permit 48 = .ok (.aload_n 0, 1) := by decide +kernel
theorem dX9_permit_49 : decode cX9_permit 49 = .ok (.iload_n 1, 1) := by decide +kernel
theorem dX9_permit_50 : decode cX9_permit 50 = .ok (.iload_n 2, 1) := by decide +kernel
theorem dX9_permit_51 : decode cX9_permit 51 = .ok (.invokevirtual 190, 3) := by decide +kernel
theorem dX9_permit_54 : decode cX9_permit 54 = .ok (.iconst 0, 1) := by decide +kernel
theorem dX9_permit_55 : decode cX9_permit 55 = .ok (.ireturn, 1) := by decide +kernel
theorem dX9_draw_0 : decode cX9_draw 0 = .ok (.aload_n 0, 1) := by decide +kernel
theorem dX9_draw_1 : decode cX9_draw 1 = .ok (.getfield 69, 3) := by decide +kernel
theorem dX9_draw_4 : decode cX9_draw 4 = .ok (.iload_n 1, 1) := by decide +kernel
theorem dX9_draw_5 : decode cX9_draw 5 = .ok (.iconst 4, 1) := by decide +kernel
theorem dX9_draw_6 : decode cX9_draw 6 = .ok (.iastore, 1) := by decide +kernel
theorem dX9_draw_7 : decode cX9_draw 7 = .ok (.aload_n 0, 1) := by decide +kernel
theorem dX9_draw_8 : decode cX9_draw 8 = .ok (.getfield 72, 3) := by decide +kernel
theorem dX9_draw_11 : decode cX9_draw 11 = .ok (.iload_n 1, 1) := by decide +kernel
theorem dX9_draw_12 : decode cX9_draw 12 = .ok (.iconst (-1), 1) := by decide +kernel
theorem dX9_draw_13 : decode cX9_draw 13 = .ok (.iastore, 1) := by decide +kernel
theorem dX9_draw_14 : decode cX9_draw 14 = .ok (.aload_n 0, 1) := by decide +kernel
theorem dX9_draw_15 : decode cX9_draw 15 = .ok (.getfield 75, 3) := by decide +kernel
theorem dX9_draw_18 : decode cX9_draw 18 = .ok (.iload_n 1, 1) := by decide +kernel
theorem dX9_draw_19 : decode cX9_draw 19 = .ok (.iconst (-1), 1) := by decide +kernel
theorem dX9_draw_20 : decode cX9_draw 20 = .ok (.iastore, 1) := by decide +kernel
theorem dX9_draw_21 : decode cX9_draw 21 = .ok (.aload_n 0, 1) := by decide +kernel
theorem dX9_draw_22 : decode cX9_draw 22 = .ok (.getfield 81, 3) := by decide +kernel
theorem dX9_draw_25 : decode cX9_draw 25 = .ok (.iload_n 1, 1) := by decide +kernel
theorem dX9_draw_26 : decode cX9_draw 26 = .ok (.iaload, 1) := by decide +kernel
theorem dX9_draw_27 : decode cX9_draw 27 = .ok (.ifCond .lt 22, 3) := by decide +kernel
theorem dX9_draw_30 : decode cX9_draw 30 = .ok (.aload_n 0, 1) := by decide +kernel
theorem dX9_draw_31 : decode cX9_draw 31 = .ok (.getfield 81, 3) := by decide +kernel
theorem dX9_draw_34 : decode cX9_draw 34 = .ok (.aload_n 0, 1) := by decide +kernel
theorem dX9_draw_35 : decode cX9_draw 35 = .ok (.getfield 81, 3) := by decide +kernel
theorem dX9_draw_38 : decode cX9_draw 38 = .ok (.iload_n 1, 1) := by decide +kernel
theorem dX9_draw_39 : decode cX9_draw 39 = .ok (.iaload, 1) := by decide +kernel
theorem dX9_draw_40 : decode cX9_draw 40 = .ok (.iconst (-1), 1) := by decide +kernel
theorem dX9_draw_41 : decode cX9_draw 41 = .ok (.iastore, 1) := by decide +kernel
theorem dX9_draw_42 : decode cX9_draw 42 = .ok (.aload_n 0, 1) := by decide +kernel
theorem dX9_draw_43 : decode cX9_draw 43 = .ok (.getfield 81, 3) := by decide +kernel
theorem dX9_draw_46 : decode cX9_draw 46 = .ok (.iload_n 1, 1) := by decide +kernel
theorem dX9_draw_47 : decode cX9_draw 47 = .ok (.iconst (-1), 1) := by decide +kernel
theorem dX9_draw_48 : decode cX9_draw 48 = .ok (.iastore, 1) := by decide +kernel
theorem dX9_draw_49 : decode cX9_draw 49 = .ok (.return_, 1) := by decide +kernel
theorem dX9_withdraw_0 : decode cX9_withdraw 0 = .ok (.aload_n 0, 1) := by decide +kernel
theorem dX9_withdraw_1 : decode cX9_withdraw 1 = .ok (.iload_n 1, 1) := by decide +kernel
theorem dX9_withdraw_2 : decode cX9_withdraw 2 = .ok (.invokevirtual 114, 3) := by decide +kernel
theorem dX9_withdraw_5 : decode cX9_withdraw 5 = .ok (.ifCond .ne 5, 3) := by decide +kernel
theorem dX9_withdraw_8 : decode cX9_withdraw 8 = .ok (.iconst (-1), 1) := by decide +kernel
theorem dX9_withdraw_9 : decode cX9_withdraw 9 = .ok (.ireturn, 1) := by decide +kernel
theorem dX9_withdraw_10 : decode cX9_withdraw 10 = .ok (.aload_n 0, 1) := by decide +kernel
theorem dX9_withdraw_11 : decode cX9_withdraw 11 = .ok (.getfield 69, 3) := by decide +kernel
theorem dX9_withdraw_14 : decode cX9_withdraw 14 = .ok (.iload_n 1, 1) := by decide +kernel
theorem dX9_withdraw_15 : decode cX9_withdraw 15 = .ok (.iaload, 1) := by decide +kernel
theorem dX9_withdraw_16 : decode cX9_withdraw 16 = .ok (.iconst 1, 1) := by decide +kernel
theorem dX9_withdraw_17 : decode cX9_withdraw 17 = .ok (.if_icmp .le 6, 3) := by decide +kernel
theorem dX9_withdraw_20 : decode cX9_withdraw 20 = .ok (.bipush (-3), 2) := by decide +kernel
theorem dX9_withdraw_22 : decode cX9_withdraw 22 = .ok (.ireturn, 1) := by decide +kernel
theorem dX9_withdraw_23 : decode cX9_withdraw 23 = .ok (.aload_n 0, 1) := by decide +kernel
theorem dX9_withdraw_24 : decode cX9_withdraw 24 = .ok (.iload_n 1, 1) := by decide +kernel
theorem dX9_withdraw_25 : decode cX9_withdraw 25 = .ok (.invokevirtual 194, 3) := by decide +kernel
theorem dX9_withdraw_28 : decode cX9_withdraw 28 = .ok (.iconst 1, 1) := by decide +kernel
theorem dX9_withdraw_29 : decode cX9_withdraw 29 = .ok (.ireturn, 1) := by decide +kernel
theorem dX9_day_0 : decode cX9_day 0 = .ok (.iload_n 1, 1) := by decide +kernel
theorem dX9_day_1 : decode cX9_day 1 = .ok (.iconst 1, 1) := by decide +kernel
theorem dX9_day_2 : decode cX9_day 2 = .ok (.bipush 100, 2) := by decide +kernel
theorem dX9_day_4 : decode cX9_day 4 = .ok (.invokestatic 97, 3) := by decide +kernel
theorem dX9_day_7 : decode cX9_day 7 = .ok (.ifCond .eq 15, 3) := by decide +kernel
theorem dX9_day_10 : decode cX9_day 10 = .ok (.aload_n 0, 1) := by decide +kernel
theorem dX9_day_11 : decode cX9_day 11 = .ok (.getfield 154, 3) := by decide +kernel
theorem dX9_day_14 : decode cX9_day 14 = .ok (.iload_n 1, 1) := by decide +kernel
theorem dX9_day_15 : decode cX9_day 15 = .ok (.iadd, 1) := by decide +kernel
theorem dX9_day_16 : decode cX9_day 16 = .ok (.sipush 399, 3) := by decide +kernel
theorem dX9_day_19 : decode cX9_day 19 = .ok (.if_icmp .le 5, 3) := by decide +kernel
theorem dX9_day_22 : decode cX9_day 22 = .ok (.iconst (-1), 1) := by decide +kernel
theorem dX9_day_23 : decode cX9_day 23 = .ok (.ireturn, 1) := by decide +kernel
theorem dX9_day_24 : decode cX9_day 24 = .ok (.iconst 0, 1) := by decide +kernel
theorem dX9_day_25 : decode cX9_day 25 = .ok (.istore_n 2, 1) := by decide +kernel
theorem dX9_day_26 : decode cX9_day 26 = .ok (.iload_n 2, 1) := by decide +kernel
theorem dX9_day_27 : decode cX9_day 27 = .ok (.iload_n 1, 1) := by decide +kernel
theorem dX9_day_28 : decode cX9_day 28 = .ok (.if_icmp .ge 100, 3) := by decide +kernel
theorem dX9_day_31 : decode cX9_day 31 = .ok (.aload_n 0, 1) := by decide +kernel
theorem dX9_day_32 : decode cX9_day 32 = .ok (.dup, 1) := by decide +kernel
theorem dX9_day_33 : decode cX9_day 33 = .ok (.getfield 154, 3) := by decide +kernel
theorem dX9_day_36 : decode cX9_day 36 = .ok (.iconst 1, 1) := by decide +kernel
theorem dX9_day_37 : decode cX9_day 37 = .ok (.iadd, 1) := by decide +kernel
theorem dX9_day_38 : decode cX9_day 38 = .ok (.putfield 154, 3) := by decide +kernel
theorem dX9_day_41 : decode cX9_day 41 = .ok (.iconst 0, 1) := by decide +kernel
theorem dX9_day_42 : decode cX9_day 42 = .ok (.istore_n 3, 1) := by decide +kernel
theorem dX9_day_43 : decode cX9_day 43 = .ok (.iload_n 3, 1) := by decide +kernel
theorem dX9_day_44 : decode cX9_day 44 = .ok (.aload_n 0, 1) := by decide +kernel
theorem dX9_day_45 : decode cX9_day 45 = .ok (.getfield 107, 3) := by decide +kernel
theorem dX9_day_48 : decode cX9_day 48 = .ok (.if_icmp .ge 74, 3) := by decide +kernel
theorem dX9_day_51 : decode cX9_day 51 = .ok (.aload_n 0, 1) := by decide +kernel
theorem dX9_day_52 : decode cX9_day 52 = .ok (.getfield 69, 3) := by decide +kernel
theorem dX9_day_55 : decode cX9_day 55 = .ok (.iload_n 3, 1) := by decide +kernel
theorem dX9_day_56 : decode cX9_day 56 = .ok (.iaload, 1) := by decide +kernel
theorem dX9_day_57 : decode cX9_day 57 = .ok (.iconst 2, 1) := by decide +kernel
theorem dX9_day_58 : decode cX9_day 58 = .ok (.if_icmp .ne 28, 3) := by decide +kernel
theorem dX9_day_61 : decode cX9_day 61 = .ok (.aload_n 0, 1) := by decide +kernel
theorem dX9_day_62 : decode cX9_day 62 = .ok (.getfield 75, 3) := by decide +kernel
theorem dX9_day_65 : decode cX9_day 65 = .ok (.iload_n 3, 1) := by decide +kernel
theorem dX9_day_66 : decode cX9_day 66 = .ok (.iaload, 1) := by decide +kernel
theorem dX9_day_67 : decode cX9_day 67 = .ok (.aload_n 0, 1) := by decide +kernel
theorem dX9_day_68 : decode cX9_day 68 = .ok (.getfield 154, 3) := by decide +kernel
theorem dX9_day_71 : decode cX9_day 71 = .ok (.iconst 1, 1) := by decide +kernel
theorem dX9_day_72 : decode cX9_day 72 = .ok (.isub, 1) := by decide +kernel
theorem dX9_day_73 : decode cX9_day 73 = .ok (.if_icmp .ne 13, 3) := by decide +kernel
theorem dX9_day_76 : decode cX9_day 76 = .ok (.aload_n 0, 1) := by decide +kernel
theorem dX9_day_77 : decode cX9_day 77 = .ok (.getfield 69, 3) := by decide +kernel
theorem dX9_day_80 : decode cX9_day 80 = .ok (.iload_n 3, 1) := by decide +kernel
theorem dX9_day_81 : decode cX9_day 81 = .ok (.iconst 3, 1) := by decide +kernel
theorem dX9_day_82 : decode cX9_day 82 = .ok (.iastore, 1) := by decide +kernel
theorem dX9_day_83 : decode cX9_day 83 = .ok (.goto 33, 3) := by decide +kernel
theorem dX9_day_86 : decode cX9_day 86 = .ok (.aload_n 0, 1) := by decide +kernel
theorem dX9_day_87 : decode cX9_day 87 = .ok (.getfield 69, 3) := by decide +kernel
theorem dX9_day_90 : decode cX9_day 90 = .ok (.iload_n 3, 1) := by decide +kernel
theorem dX9_day_91 : decode cX9_day 91 = .ok (.iaload, 1) := by decide +kernel
theorem dX9_day_92 : decode cX9_day 92 = .ok (.iconst 1, 1) := by decide +kernel
theorem dX9_day_93 : decode cX9_day 93 = .ok (.if_icmp .ne 23, 3) := by decide +kernel
theorem dX9_day_96 : decode cX9_day 96 = .ok (.aload_n 0, 1) := by decide +kernel
theorem dX9_day_97 : decode cX9_day 97 = .ok (.getfield 72, 3) := by decide +kernel
theorem dX9_day_100 : decode cX9_day 100 = .ok (.iload_n 3, 1) := by decide +kernel
theorem dX9_day_101 : decode cX9_day 101 = .ok (.iaload, 1) := by decide +kernel
theorem dX9_day_102 : decode cX9_day 102 = .ok (.aload_n 0, 1) := by decide +kernel
theorem dX9_day_103 : decode cX9_day 103 = .ok (.getfield 154, 3) := by decide +kernel
theorem dX9_day_106 : decode cX9_day 106 = .ok (.if_icmp .ne 10, 3) := by decide +kernel
theorem dX9_day_109 : decode cX9_day 109 = .ok (.aload_n 0, 1) := by decide +kernel
theorem dX9_day_110 : decode cX9_day 110 = .ok (.getfield 69, 3) := by decide +kernel
theorem dX9_day_113 : decode cX9_day 113 = .ok (.iload_n 3, 1) := by decide +kernel
theorem dX9_day_114 : decode cX9_day 114 = .ok (.iconst 2, 1) := by decide +kernel
theorem dX9_day_115 : decode cX9_day 115 = .ok (.iastore, 1) := by decide +kernel
theorem dX9_day_116 : decode cX9_day 116 = .ok (.iinc 3 1, 3) := by decide +kernel
theorem dX9_day_119 : decode cX9_day 119 = .ok (.goto (-76), 3) := by decide +kernel
theorem dX9_day_122 : decode cX9_day 122 = .ok (.iinc 2 1, 3) := by decide +kernel
theorem dX9_day_125 : decode cX9_day 125 = .ok (.goto (-99), 3) := by decide +kernel
theorem dX9_day_128 : decode cX9_day 128 = .ok (.aload_n 0, 1) := by decide +kernel
theorem dX9_day_129 : decode cX9_day 129 = .ok (.getfield 154, 3) := by decide +kernel
theorem dX9_day_132 : decode cX9_day 132 = .ok (.ireturn, 1) := by decide +kernel
theorem dX9_moveAll_0 : decode cX9_moveAll 0 = .ok (.iconst 0, 1) := by decide +kernel
theorem dX9_moveAll_1 : decode cX9_moveAll 1 = .ok (.istore_n 1, 1) := by decide +kernel
theorem dX9_moveAll_2 : decode cX9_moveAll 2 = .ok (.iconst 0, 1) := by decide +kernel
theorem dX9_moveAll_3 : decode cX9_moveAll 3 = .ok (.istore_n 2, 1) := by decide +kernel
theorem dX9_moveAll_4 : decode cX9_moveAll 4 = .ok (.iload_n 2, 1) := by decide +kernel
theorem dX9_moveAll_5 : decode cX9_moveAll 5 = .ok (.aload_n 0, 1) := by decide +kernel
theorem dX9_moveAll_6 : decode cX9_moveAll 6 = .ok (.getfield 107, 3) := by decide +kernel
theorem dX9_moveAll_9 : decode cX9_moveAll 9 = .ok (.if_icmp .ge 102, 3) := by decide +kernel
theorem dX9_moveAll_12 : decode cX9_moveAll 12 = .ok (.aload_n 0, 1) := by decide +kernel
theorem dX9_moveAll_13 : decode cX9_moveAll 13 = .ok (.getfield 69, 3) := by decide +kernel
theorem dX9_moveAll_16 : decode cX9_moveAll 16 = .ok (.iload_n 2, 1) := by decide +kernel
theorem dX9_moveAll_17 : decode cX9_moveAll 17 = .ok (.iaload, 1) := by decide +kernel
theorem dX9_moveAll_18 : decode cX9_moveAll 18 = .ok (.iconst 1, 1) := by decide +kernel
theorem dX9_moveAll_19 : decode cX9_moveAll 19 = .ok (.if_icmp .ne 86, 3) := by decide +kernel
theorem dX9_moveAll_22 : decode cX9_moveAll 22 = .ok (.aload_n 0, 1) := by decide +kernel
theorem dX9_moveAll_23 : decode cX9_moveAll 23 = .ok (.iload_n 2, 1) := by decide +kernel
theorem dX9_moveAll_24 : decode cX9_moveAll 24 = .ok (.aload_n 0, 1) := by decide +kernel
theorem dX9_moveAll_25 : decode cX9_moveAll 25 = .ok (.getfield 72, 3) := by decide +kernel
theorem dX9_moveAll_28 : decode cX9_moveAll 28 = .ok (.iload_n 2, 1) := by decide +kernel
theorem dX9_moveAll_29 : decode cX9_moveAll 29 = .ok (.iaload, 1) := by decide +kernel
theorem dX9_moveAll_30 : decode cX9_moveAll 30 = .ok (.iconst 3, 1) := by decide +kernel
theorem dX9_moveAll_31 : decode cX9_moveAll 31 = .ok (.iconst 1, 1) := by decide +kernel
theorem dX9_moveAll_32 : decode cX9_moveAll 32 = .ok (.invokevirtual 179, 3) := by decide +kernel
theorem dX9_moveAll_35 : decode cX9_moveAll 35 = .ok (.ifCond .le 70, 3) := by decide +kernel
theorem dX9_moveAll_38 : decode cX9_moveAll 38 = .ok (.aload_n 0, 1) := by decide +kernel
theorem dX9_moveAll_39 : decode cX9_moveAll 39 = .ok (.getfield 72, 3) := by decide +kernel
theorem dX9_moveAll_42 : decode cX9_moveAll 42 = .ok (.iload_n 2, 1) := by decide +kernel
theorem dX9_moveAll_43 : decode cX9_moveAll 43 = .ok (.iaload, 1) := by decide +kernel
theorem dX9_moveAll_44 : decode cX9_moveAll 44 = .ok (.iconst 1, 1) := by decide +kernel
theorem dX9_moveAll_45 : decode cX9_moveAll 45 = .ok (.iadd, 1) := by decide +kernel
theorem dX9_moveAll_46 : decode cX9_moveAll 46 = .ok (.istore_n 3, 1) := by decide +kernel
theorem dX9_moveAll_47 : decode cX9_moveAll 47 = .ok (.iload_n 3, 1) := by decide +kernel
theorem dX9_moveAll_48 : decode cX9_moveAll 48 = .ok (.sipush 399, 3) := by decide +kernel
theorem dX9_moveAll_51 : decode cX9_moveAll 51 = .ok (.if_icmp .gt 20, 3) := by decide +kernel
theorem dX9_moveAll_54 : decode cX9_moveAll 54 = .ok (.aload_n 0, 1) := by decide +kernel
theorem dX9_moveAll_55 : decode cX9_moveAll 55 = .ok (.iload_n 2, 1) := by decide +kernel
theorem dX9_moveAll_56 : decode cX9_moveAll 56 = .ok (.iload_n 3, 1) := by decide +kernel
theorem dX9_moveAll_57 : decode cX9_moveAll 57 = .ok (.iconst 2, 1) := by decide +kernel
theorem dX9_moveAll_58 : decode cX9_moveAll 58 = .ok (.iconst 1, 1) := by decide +kernel
theorem dX9_moveAll_59 : decode cX9_moveAll 59 = .ok (.invokevirtual 179, 3) := by decide +kernel
theorem dX9_moveAll_62 : decode cX9_moveAll 62 = .ok (.ifCond .le 9, 3) := by decide +kernel
theorem dX9_moveAll_65 : decode cX9_moveAll 65 = .ok (.iinc 3 1, 3) := by decide +kernel
theorem dX9_moveAll_68 : decode cX9_moveAll 68 = .ok (.goto (-21), 3) := by decide +kernel
theorem dX9_moveAll_71 : decode cX9_moveAll 71 = .ok (.iinc 1 1, 3) := by decide +kernel
theorem dX9_moveAll_74 : decode cX9_moveAll 74 = .ok (.iload_n 3, 1) := by decide +kernel
theorem dX9_moveAll_75 : decode cX9_moveAll 75 = .ok (.sipush 399, 3) := by decide +kernel
theorem dX9_moveAll_78 : decode cX9_moveAll 78 = .ok (.if_icmp .le 11, 3) := by decide +kernel
theorem dX9_moveAll_81 : decode cX9_moveAll 81 = .ok (.aload_n 0, 1) := by decide +kernel
theorem dX9_moveAll_82 : decode cX9_moveAll 82 = .ok (.iload_n 2, 1) := by decide +kernel
theorem dX9_moveAll_83 : decode cX9_moveAll 83 = .ok (.invokevirtual 194, 3) := by decide +kernel
theorem dX9_moveAll_86 : decode cX9_moveAll 86 = .ok (.goto 19, 3) := by decide +kernel
theorem dX9_moveAll_89 : decode cX9_moveAll 89 = .ok (.aload_n 0, 1) := by decide +kernel
theorem dX9_moveAll_90 : decode cX9_moveAll 90 = .ok (.iload_n 2, 1) := by decide +kernel
theorem dX9_moveAll_91 : decode cX9_moveAll 91 = .ok (.iload_n 3, 1) := by decide +kernel
theorem dX9_moveAll_92 : decode cX9_moveAll 92 = .ok (.invokevirtual 190, 3) := by decide +kernel
theorem dX9_moveAll_95 : decode cX9_moveAll 95 = .ok (.aload_n 0, 1) := by decide +kernel
theorem dX9_moveAll_96 : decode cX9_moveAll 96 = .ok (.getfield 84, 3) := by decide +kernel
theorem dX9_moveAll_99 : decode cX9_moveAll 99 = .ok (.iload_n 2, 1) := by decide +kernel
theorem dX9_moveAll_100 : decode cX9_moveAll 100 = .ok (.dup2, 1) := by decide +kernel
theorem dX9_moveAll_101 : decode cX9_moveAll 101 = .ok (.iaload, 1) := by decide +kernel
theorem dX9_moveAll_102 : decode cX9_moveAll 102 = .ok (.iconst 1, 1) := by decide +kernel
theorem dX9_moveAll_103 : decode cX9_moveAll 103 = .ok (.iadd, 1) := by decide +kernel
theorem dX9_moveAll_104 : decode cX9_moveAll 104 = .ok (.iastore, 1) := by decide +kernel
theorem dX9_moveAll_105 : decode cX9_moveAll 105 = .ok (.iinc 2 1, 3) := by decide +kernel
theorem dX9_moveAll_108 : decode cX9_moveAll 108 = .ok (.goto (-104), 3) := by decide +kernel
theorem dX9_moveAll_111 : decode cX9_moveAll 111 = .ok (.iload_n 1, 1) := by decide +kernel
theorem dX9_moveAll_112 : decode cX9_moveAll 112 = .ok (.ireturn, 1) := by decide +kernel
theorem dX9_over_0 : decode cX9_over 0 = .ok (.aload_n 0, 1) := by decide +kernel
theorem dX9_over_1 : decode cX9_over 1 = .ok (.iload_n 1, 1) := by decide +kernel
theorem dX9_over_2 : decode cX9_over 2 = .ok (.invokevirtual 114, 3) := by decide +kernel
theorem dX9_over_5 : decode cX9_over 5 = .ok (.ifCond .eq 13, 3) := by decide +kernel
theorem dX9_over_8 : decode cX9_over 8 = .ok (.iload_n 2, 1) := by decide +kernel
theorem dX9_over_9 : decode cX9_over 9 = .ok (.iconst 1, 1) := by decide +kernel
theorem dX9_over_10 : decode cX9_over 10 = .ok (.bipush 30, 2) := by decide +kernel
theorem dX9_over_12 : decode cX9_over 12 = .ok (.invokestatic 97, 3) := by decide +kernel
theorem dX9_over_15 : decode cX9_over 15 = .ok (.ifCond .ne 5, 3) := by decide +kernel
theorem dX9_over_18 : decode cX9_over 18 = .ok (.iconst (-1), 1) := by decide +kernel
theorem dX9_over_19 : decode cX9_over 19 = .ok (.ireturn, 1) := by decide +kernel
theorem dX9_over_20 : decode cX9_over 20 = .ok (.aload_n 0, 1) := by decide +kernel
theorem dX9_over_21 : decode cX9_over 21 = .ok (.getfield 69, 3) := by decide +kernel
theorem dX9_over_24 : decode cX9_over 24 = .ok (.iload_n 1, 1) := by decide +kernel
theorem dX9_over_25 : decode cX9_over 25 = .ok (.iaload, 1) := by decide +kernel
theorem dX9_over_26 : decode cX9_over 26 = .ok (.iconst 2, 1) := by decide +kernel
theorem dX9_over_27 : decode cX9_over 27 = .ok (.if_icmp .eq 6, 3) := by decide +kernel
theorem dX9_over_30 : decode cX9_over 30 = .ok (.bipush (-3), 2) := by decide +kernel
theorem dX9_over_32 : decode cX9_over 32 = .ok (.ireturn, 1) := by decide +kernel
theorem dX9_over_33 : decode cX9_over 33 = .ok (.aload_n 0, 1) := by decide +kernel
theorem dX9_over_34 : decode cX9_over 34 = .ok (.getfield 75, 3) := by decide +kernel
theorem dX9_over_37 : decode cX9_over 37 = .ok (.iload_n 1, 1) := by decide +kernel
theorem dX9_over_38 : decode cX9_over 38 = .ok (.iaload, 1) := by decide +kernel
theorem dX9_over_39 : decode cX9_over 39 = .ok (.iload_n 2, 1) := by decide +kernel
theorem dX9_over_40 : decode cX9_over 40 = .ok (.iadd, 1) := by decide +kernel
theorem dX9_over_41 : decode cX9_over 41 = .ok (.sipush 399, 3) := by decide +kernel
theorem dX9_over_44 : decode cX9_over 44 = .ok (.if_icmp .ge 14, 3) := by decide +kernel
theorem dX9_over_47 : decode cX9_over 47 = .ok (.aload_n 0, 1) := by decide +kernel
theorem dX9_over_48 : decode cX9_over 48 = .ok (.getfield 75, 3) := by decide +kernel
theorem dX9_over_51 : decode cX9_over 51 = .ok (.iload_n 1, 1) := by decide +kernel
theorem dX9_over_52 : decode cX9_over 52 = .ok (.iaload, 1) := by decide +kernel
theorem dX9_over_53 : decode cX9_over 53 = .ok (.iload_n 2, 1) := by decide +kernel
theorem dX9_over_54 : decode cX9_over 54 = .ok (.iadd, 1) := by decide +kernel
theorem dX9_over_55 : decode cX9_over 55 = .ok (.goto 6, 3) := by decide +kernel
theorem dX9_over_58 : decode cX9_over 58 = .ok (.sipush 399, 3) := by decide +kernel
theorem dX9_over_61 : decode cX9_over 61 = .ok (.istore_n 3, 1) := by decide +kernel
theorem dX9_over_62 : decode cX9_over 62 = .ok (.aload_n 0, 1) := by decide +kernel
theorem dX9_over_63 : decode cX9_over 63 = .ok (.getfield 78, 3) := by decide +kernel
theorem dX9_over_66 : decode cX9_over 66 = .ok (.iload_n 1, 1) := by decide +kernel
theorem dX9_over_67 : decode cX9_over 67 = .ok (.dup2, 1) := by decide +kernel
theorem dX9_over_68 : decode cX9_over 68 = .ok (.iaload, 1) := by decide +kernel
theorem dX9_over_69 : decode cX9_over 69 = .ok (.iload_n 3, 1) := by decide +kernel
theorem dX9_over_70 : decode cX9_over 70 = .ok (.aload_n 0, 1) := by decide +kernel
theorem dX9_over_71 : decode cX9_over 71 = .ok (.getfield 75, 3) := by decide +kernel
theorem dX9_over_74 : decode cX9_over 74 = .ok (.iload_n 1, 1) := by decide +kernel
theorem dX9_over_75 : decode cX9_over 75 = .ok (.iaload, 1) := by decide +kernel
theorem dX9_over_76 : decode cX9_over 76 = .ok (.isub, 1) := by decide +kernel
theorem dX9_over_77 : decode cX9_over 77 = .ok (.iadd, 1) := by decide +kernel
theorem dX9_over_78 : decode cX9_over 78 = .ok (.iastore, 1) := by decide +kernel
theorem dX9_over_79 : decode cX9_over 79 = .ok (.aload_n 0, 1) := by decide +kernel
theorem dX9_over_80 : decode cX9_over 80 = .ok (.getfield 75, 3) := by decide +kernel
theorem dX9_over_83 : decode cX9_over 83 = .ok (.iload_n 1, 1) := by decide +kernel
theorem dX9_over_84 : decode cX9_over 84 = .ok (.iload_n 3, 1) := by decide +kernel
theorem dX9_over_85 : decode cX9_over 85 = .ok (.iastore, 1) := by decide +kernel
theorem dX9_over_86 : decode cX9_over 86 = .ok (.aload_n 0, 1) := by decide +kernel
theorem dX9_over_87 : decode cX9_over 87 = .ok (.invokevirtual 198, 3) := by decide +kernel
theorem dX9_over_90 : decode cX9_over 90 = .ok (.ireturn, 1) := by decide +kernel
theorem dX9_crash_0 : decode cX9_crash 0 = .ok (.aload_n 0, 1) := by decide +kernel
theorem dX9_crash_1 : decode cX9_crash 1 = .ok (.iload_n 1, 1) := by decide +kernel
theorem dX9_crash_2 : decode cX9_crash 2 = .ok (.invokevirtual 114, 3) := by decide +kernel
theorem dX9_crash_5 : decode cX9_crash 5 = .ok (.ifCond .ne 5, 3) := by decide +kernel
theorem dX9_crash_8 : decode cX9_crash 8 = .ok (.iconst (-1), 1) := by decide +kernel
theorem dX9_crash_9 : decode cX9_crash 9 = .ok (.ireturn, 1) := by decide +kernel
theorem dX9_crash_10 : decode cX9_crash 10 = .ok (.aload_n 0, 1) := by decide +kernel
theorem dX9_crash_11 : decode cX9_crash 11 = .ok (.getfield 44, 3) := by decide +kernel
theorem dX9_crash_14 : decode cX9_crash 14 = .ok (.iload_n 1, 1) := by decide +kernel
theorem dX9_crash_15 : decode cX9_crash 15 = .ok (.iaload, 1) := by decide +kernel
theorem dX9_crash_16 : decode cX9_crash 16 = .ok (.iconst 2, 1) := by decide +kernel
theorem dX9_crash_17 : decode cX9_crash 17 = .ok (.if_icmp .ne 12, 3) := by decide +kernel
theorem dX9_crash_20 : decode cX9_crash 20 = .ok (.aload_n 0, 1) := by decide +kernel
theorem dX9_crash_21 : decode cX9_crash 21 = .ok (.getfield 69, 3) := by decide +kernel
theorem dX9_crash_24 : decode cX9_crash 24 = .ok (.iload_n 1, 1) := by decide +kernel
theorem dX9_crash_25 : decode cX9_crash 25 = .ok (.iaload, 1) := by decide +kernel
theorem dX9_crash_26 : decode cX9_crash 26 = .ok (.ifCond .eq 6, 3) := by decide +kernel
theorem dX9_crash_29 : decode cX9_crash 29 = .ok (.bipush (-3), 2) := by decide +kernel
theorem dX9_crash_31 : decode cX9_crash 31 = .ok (.ireturn, 1) := by decide +kernel
theorem dX9_crash_32 : decode cX9_crash 32 = .ok (.aload_n 0, 1) := by decide +kernel
theorem dX9_crash_33 : decode cX9_crash 33 = .ok (.getfield 72, 3) := by decide +kernel
theorem dX9_crash_36 : decode cX9_crash 36 = .ok (.iload_n 1, 1) := by decide +kernel
theorem dX9_crash_37 : decode cX9_crash 37 = .ok (.aload_n 0, 1) := by decide +kernel
theorem dX9_crash_38 : decode cX9_crash 38 = .ok (.getfield 154, 3) := by decide +kernel
theorem dX9_crash_41 : decode cX9_crash 41 = .ok (.iastore, 1) := by decide +kernel
theorem dX9_crash_42 : decode cX9_crash 42 = .ok (.aload_n 0, 1) := by decide +kernel
theorem dX9_crash_43 : decode cX9_crash 43 = .ok (.getfield 75, 3) := by decide +kernel
theorem dX9_crash_46 : decode cX9_crash 46 = .ok (.iload_n 1, 1) := by decide +kernel
theorem dX9_crash_47 : decode cX9_crash 47 = .ok (.aload_n 0, 1) := by decide +kernel
theorem dX9_crash_48 : decode cX9_crash 48 = .ok (.getfield 154, 3) := by decide +kernel
theorem dX9_crash_51 : decode cX9_crash 51 = .ok (.aload_n 0, 1) := by decide +kernel
theorem dX9_crash_52 : decode cX9_crash 52 = .ok (.getfield 50, 3) := by decide +kernel
theorem dX9_crash_55 : decode cX9_crash 55 = .ok (.iload_n 1, 1) := by decide +kernel
theorem dX9_crash_56 : decode cX9_crash 56 = .ok (.iaload, 1) := by decide +kernel
theorem dX9_crash_57 : decode cX9_crash 57 = .ok (.iadd, 1) := by decide +kernel
theorem dX9_crash_58 : decode cX9_crash 58 = .ok (.iconst 1, 1) := by decide +kernel
theorem dX9_crash_59 : decode cX9_crash 59 = .ok (.isub, 1) := by decide +kernel
theorem dX9_crash_60 : decode cX9_crash 60 = .ok (.sipush 399, 3) := by decide +kernel
theorem dX9_crash_63 : decode cX9_crash 63 = .ok (.if_icmp .ge 19, 3) := by decide +kernel
theorem dX9_crash_66 : decode cX9_crash 66 = .ok (.aload_n 0, 1) := by decide +kernel
theorem dX9_crash_67 : decode cX9_crash 67 = .ok (.getfield 154, 3) := by decide +kernel
theorem dX9_crash_70 : decode cX9_crash 70 = .ok (.aload_n 0, 1) := by decide +kernel
theorem dX9_crash_71 : decode cX9_crash 71 = .ok (.getfield 50, 3) := by decide +kernel
theorem dX9_crash_74 : decode cX9_crash 74 = .ok (.iload_n 1, 1) := by decide +kernel
theorem dX9_crash_75 : decode cX9_crash 75 = .ok (.iaload, 1) := by decide +kernel
theorem dX9_crash_76 : decode cX9_crash 76 = .ok (.iadd, 1) := by decide +kernel
theorem dX9_crash_77 : decode cX9_crash 77 = .ok (.iconst 1, 1) := by decide +kernel
theorem dX9_crash_78 : decode cX9_crash 78 = .ok (.isub, 1) := by decide +kernel
theorem dX9_crash_79 : decode cX9_crash 79 = .ok (.goto 6, 3) := by decide +kernel
theorem dX9_crash_82 : decode cX9_crash 82 = .ok (.sipush 399, 3) := by decide +kernel
theorem dX9_crash_85 : decode cX9_crash 85 = .ok (.iastore, 1) := by decide +kernel
theorem dX9_crash_86 : decode cX9_crash 86 = .ok (.aload_n 0, 1) := by decide +kernel
theorem dX9_crash_87 : decode cX9_crash 87 = .ok (.getfield 69, 3) := by decide +kernel
theorem dX9_crash_90 : decode cX9_crash 90 = .ok (.iload_n 1, 1) := by decide +kernel
theorem dX9_crash_91 : decode cX9_crash 91 = .ok (.iconst 2, 1) := by decide +kernel
theorem dX9_crash_92 : decode cX9_crash 92 = .ok (.iastore, 1) := by decide +kernel
theorem dX9_crash_93 : decode cX9_crash 93 = .ok (.aload_n 0, 1) := by decide +kernel
theorem dX9_crash_94 : decode cX9_crash 94 = .ok (.invokevirtual 198, 3) := by decide +kernel
theorem dX9_crash_97 : decode cX9_crash 97 = .ok (.ireturn, 1) := by decide +kernel
theorem dX9_join_0 : decode cX9_join 0 = .ok (.aload_n 0, 1) := by decide +kernel
theorem dX9_join_1 : decode cX9_join 1 = .ok (.iload_n 1, 1) := by decide +kernel
theorem dX9_join_2 : decode cX9_join 2 = .ok (.invokevirtual 114, 3) := by decide +kernel
theorem dX9_join_5 : decode cX9_join 5 = .ok (.ifCond .eq 16, 3) := by decide +kernel
theorem dX9_join_8 : decode cX9_join 8 = .ok (.aload_n 0, 1) := by decide +kernel
theorem dX9_join_9 : decode cX9_join 9 = .ok (.iload_n 2, 1) := by decide +kernel
theorem dX9_join_10 : decode cX9_join 10 = .ok (.invokevirtual 114, 3) := by decide +kernel
theorem dX9_join_13 : decode cX9_join 13 = .ok (.ifCond .eq 8, 3) := by decide +kernel
theorem dX9_join_16 : decode cX9_join 16 = .ok (.iload_n 1, 1) := by decide +kernel
theorem dX9_join_17 : decode cX9_join 17 = .ok (.iload_n 2, 1) := by decide +kernel
theorem dX9_join_18 : decode cX9_join 18 = .ok (.if_icmp .ne 5, 3) := by decide +kernel
theorem dX9_join_21 : decode cX9_join 21 = .ok (.iconst (-1), 1) := by decide +kernel
theorem dX9_join_22 : decode cX9_join 22 = .ok (.ireturn, 1) := by decide +kernel
theorem dX9_join_23 : decode cX9_join 23 = .ok (.aload_n 0, 1) := by decide +kernel
theorem dX9_join_24 : decode cX9_join 24 = .ok (.getfield 44, 3) := by decide +kernel
theorem dX9_join_27 : decode cX9_join 27 = .ok (.iload_n 1, 1) := by decide +kernel
theorem dX9_join_28 : decode cX9_join 28 = .ok (.iaload, 1) := by decide +kernel
theorem dX9_join_29 : decode cX9_join 29 = .ok (.iconst 1, 1) := by decide +kernel
theorem dX9_join_30 : decode cX9_join 30 = .ok (.if_icmp .ne 83, 3) := by decide +kernel
theorem dX9_join_33 : decode cX9_join 33 = .ok (.aload_n 0, 1) := by decide +kernel
theorem dX9_join_34 : decode cX9_join 34 = .ok (.getfield 44, 3) := by decide +kernel
theorem dX9_join_37 : decode cX9_join 37 = .ok (.iload_n 2, 1) := by decide +kernel
theorem dX9_join_38 : decode cX9_join 38 = .ok (.iaload, 1) := by decide +kernel
theorem dX9_join_39 : decode cX9_join 39 = .ok (.iconst 1, 1) := by decide +kernel
theorem dX9_join_40 : decode cX9_join 40 = .ok (.if_icmp .ne 73, 3) := by decide +kernel
theorem dX9_join_43 : decode cX9_join 43 = .ok (.aload_n 0, 1) := by decide +kernel
theorem dX9_join_44 : decode cX9_join 44 = .ok (.getfield 41, 3) := by decide +kernel
theorem dX9_join_47 : decode cX9_join 47 = .ok (.iload_n 1, 1) := by decide +kernel
theorem dX9_join_48 : decode cX9_join 48 = .ok (.iaload, 1) := by decide +kernel
theorem dX9_join_49 : decode cX9_join 49 = .ok (.aload_n 0, 1) := by decide +kernel
theorem dX9_join_50 : decode cX9_join 50 = .ok (.getfield 41, 3) := by decide +kernel
theorem dX9_join_53 : decode cX9_join 53 = .ok (.iload_n 2, 1) := by decide +kernel
theorem dX9_join_54 : decode cX9_join 54 = .ok (.iaload, 1) := by decide +kernel
theorem dX9_join_55 : decode cX9_join 55 = .ok (.if_icmp .eq 58, 3) := by decide +kernel
theorem dX9_join_58 : decode cX9_join 58 = .ok (.aload_n 0, 1) := by decide +kernel
theorem dX9_join_59 : decode cX9_join 59 = .ok (.getfield 69, 3) := by decide +kernel
theorem dX9_join_62 : decode cX9_join 62 = .ok (.iload_n 1, 1) := by decide +kernel
theorem dX9_join_63 : decode cX9_join 63 = .ok (.iaload, 1) := by decide +kernel
theorem dX9_join_64 : decode cX9_join 64 = .ok (.iconst 1, 1) := by decide +kernel
theorem dX9_join_65 : decode cX9_join 65 = .ok (.if_icmp .gt 48, 3) := by decide +kernel
theorem dX9_join_68 : decode cX9_join 68 = .ok (.aload_n 0, 1) := by decide +kernel
theorem dX9_join_69 : decode cX9_join 69 = .ok (.getfield 69, 3) := by decide +kernel
theorem dX9_join_72 : decode cX9_join 72 = .ok (.iload_n 2, 1) := by decide +kernel
theorem dX9_join_73 : decode cX9_join 73 = .ok (.iaload, 1) := by decide +kernel
theorem dX9_join_74 : decode cX9_join 74 = .ok (.iconst 1, 1) := by decide +kernel
theorem dX9_join_75 : decode cX9_join 75 = .ok (.if_icmp .gt 38, 3) := by decide +kernel
theorem dX9_join_78 : decode cX9_join 78 = .ok (.aload_n 0, 1) := by decide +kernel
theorem dX9_join_79 : decode cX9_join 79 = .ok (.getfield 59, 3) := by decide +kernel
theorem dX9_join_82 : decode cX9_join 82 = .ok (.iload_n 1, 1) := by decide +kernel
theorem dX9_join_83 : decode cX9_join 83 = .ok (.laload, 1) := by decide +kernel
theorem dX9_join_84 : decode cX9_join 84 = .ok (.aload_n 0, 1) := by decide +kernel
theorem dX9_join_85 : decode cX9_join 85 = .ok (.getfield 59, 3) := by decide +kernel
theorem dX9_join_88 : decode cX9_join 88 = .ok (.iload_n 2, 1) := by decide +kernel
theorem dX9_join_89 : decode cX9_join 89 = .ok (.laload, 1) := by decide +kernel
theorem dX9_join_90 : decode cX9_join 90 = .ok (.lcmp, 1) := by decide +kernel
theorem dX9_join_91 : decode cX9_join 91 = .ok (.ifCond .ne 22, 3) := by decide +kernel
theorem dX9_join_94 : decode cX9_join 94 = .ok (.aload_n 0, 1) := by decide +kernel
theorem dX9_join_95 : decode cX9_join 95 = .ok (.getfield 53, 3) := by decide +kernel
theorem dX9_join_98 : decode cX9_join 98 = .ok (.iload_n 1, 1) := by decide +kernel
theorem dX9_join_99 : decode cX9_join 99 = .ok (.iaload, 1) := by decide +kernel
theorem dX9_join_100 : decode cX9_join 100 = .ok (.aload_n 0, 1) := by decide +kernel
theorem dX9_join_101 : decode cX9_join 101 = .ok (.getfield 53, 3) := by decide +kernel
theorem dX9_join_104 : decode cX9_join 104 = .ok (.iload_n 2, 1) := by decide +kernel
theorem dX9_join_105 : decode cX9_join 105 = .ok (.iaload, 1) := by decide +kernel
theorem dX9_join_106 : decode cX9_join 106 = .ok (.if_icmp .eq 7, 3) := by decide +kernel
theorem dX9_join_109 : decode cX9_join 109 = .ok (.iconst 1, 1) := by decide +kernel
theorem dX9_join_110 : decode cX9_join 110 = .ok (.goto 4, 3) := by decide +kernel
theorem dX9_join_113 : decode cX9_join 113 = .ok (.iconst 0, 1) := by decide +kernel
theorem dX9_join_114 : decode cX9_join 114 = .ok (.istore_n 3, 1) := by decide +kernel
theorem dX9_join_115 : decode cX9_join 115 = .ok (.iload_n 3, 1) := by decide +kernel
theorem dX9_join_116 : decode cX9_join 116 = .ok (.ifCond .eq 21, 3) := by decide +kernel
theorem dX9_join_119 : decode cX9_join 119 = .ok (.aload_n 0, 1) := by decide +kernel
theorem dX9_join_120 : decode cX9_join 120 = .ok (.getfield 81, 3) := by decide +kernel
theorem dX9_join_123 : decode cX9_join 123 = .ok (.iload_n 1, 1) := by decide +kernel
theorem dX9_join_124 : decode cX9_join 124 = .ok (.iaload, 1) := by decide +kernel
theorem dX9_join_125 : decode cX9_join 125 = .ok (.ifCond .ge 12, 3) := by decide +kernel
theorem dX9_join_128 : decode cX9_join 128 = .ok (.aload_n 0, 1) := by decide +kernel
theorem dX9_join_129 : decode cX9_join 129 = .ok (.getfield 81, 3) := by decide +kernel
theorem dX9_join_132 : decode cX9_join 132 = .ok (.iload_n 2, 1) := by decide +kernel
theorem dX9_join_133 : decode cX9_join 133 = .ok (.iaload, 1) := by decide +kernel
theorem dX9_join_134 : decode cX9_join 134 = .ok (.ifCond .lt 6, 3) := by decide +kernel
theorem dX9_join_137 : decode cX9_join 137 = .ok (.bipush (-3), 2) := by decide +kernel
theorem dX9_join_139 : decode cX9_join 139 = .ok (.ireturn, 1) := by decide +kernel
theorem dX9_join_140 : decode cX9_join 140 = .ok (.aload_n 0, 1) := by decide +kernel
theorem dX9_join_141 : decode cX9_join 141 = .ok (.getfield 81, 3) := by decide +kernel
theorem dX9_join_144 : decode cX9_join 144 = .ok (.iload_n 1, 1) := by decide +kernel
theorem dX9_join_145 : decode cX9_join 145 = .ok (.iload_n 2, 1) := by decide +kernel
theorem dX9_join_146 : decode cX9_join 146 = .ok (.iastore, 1) := by decide +kernel
theorem dX9_join_147 : decode cX9_join 147 = .ok (.aload_n 0, 1) := by decide +kernel
theorem dX9_join_148 : decode cX9_join 148 = .ok (.getfield 81, 3) := by decide +kernel
theorem dX9_join_151 : decode cX9_join 151 = .ok (.iload_n 2, 1) := by decide +kernel
theorem dX9_join_152 : decode cX9_join 152 = .ok (.iload_n 1, 1) := by decide +kernel
theorem dX9_join_153 : decode cX9_join 153 = .ok (.iastore, 1) := by decide +kernel
theorem dX9_join_154 : decode cX9_join 154 = .ok (.iconst 1, 1) := by decide +kernel
theorem dX9_join_155 : decode cX9_join 155 = .ok (.ireturn, 1) := by decide +kernel
theorem dX9_ranks_0 : decode cX9_ranks 0 = .ok (.iconst 0, 1) := by decide +kernel
theorem dX9_ranks_1 : decode cX9_ranks 1 = .ok (.istore_n 2, 1) := by decide +kernel
theorem dX9_ranks_2 : decode cX9_ranks 2 = .ok (.iconst 0, 1) := by decide +kernel
theorem dX9_ranks_3 : decode cX9_ranks 3 = .ok (.istore_n 3, 1) := by decide +kernel
theorem dX9_ranks_4 : decode cX9_ranks 4 = .ok (.iload_n 3, 1) := by decide +kernel
theorem dX9_ranks_5 : decode cX9_ranks 5 = .ok (.aload_n 0, 1) := by decide +kernel
theorem dX9_ranks_6 : decode cX9_ranks 6 = .ok (.getfield 101, 3) := by decide +kernel
theorem dX9_ranks_9 : decode cX9_ranks 9 = .ok (.if_icmp .ge 31, 3) := by decide +kernel
theorem dX9_ranks_12 : decode cX9_ranks 12 = .ok (.iload_n 2, 1) := by decide +kernel
theorem dX9_ranks_13 : decode cX9_ranks 13 = .ok (.aload_n 0, 1) := by decide +kernel
theorem dX9_ranks_14 : decode cX9_ranks 14 = .ok (.iload_n 1, 1) := by decide +kernel
theorem dX9_ranks_15 : decode cX9_ranks 15 = .ok (.iload_n 3, 1) := by decide +kernel
theorem dX9_ranks_16 : decode cX9_ranks 16 = .ok (.invokevirtual 117, 3) := by decide +kernel
theorem dX9_ranks_19 : decode cX9_ranks 19 = .ok (.ifCond .eq 12, 3) := by decide +kernel
theorem dX9_ranks_22 : decode cX9_ranks 22 = .ok (.aload_n 0, 1) := by decide +kernel
theorem dX9_ranks_23 : decode cX9_ranks 23 = .ok (.getfield 19, 3) := by decide +kernel
theorem dX9_ranks_26 : decode cX9_ranks 26 = .ok (.iload_n 3, 1) := by decide +kernel
theorem dX9_ranks_27 : decode cX9_ranks 27 = .ok (.iaload, 1) := by decide +kernel
theorem dX9_ranks_28 : decode cX9_ranks 28 = .ok (.goto 4, 3) := by decide +kernel
theorem dX9_ranks_31 : decode cX9_ranks 31 = .ok (.iconst 0, 1) := by decide +kernel
theorem dX9_ranks_32 : decode cX9_ranks 32 = .ok (.iadd, 1) := by decide +kernel
theorem dX9_ranks_33 : decode cX9_ranks 33 = .ok (.istore_n 2, 1) := by decide +kernel
theorem dX9_ranks_34 : decode cX9_ranks 34 = .ok (.iinc 3 1, 3) := by decide +kernel
theorem dX9_ranks_37 : decode cX9_ranks 37 = .ok (.goto (-33), 3) := by decide +kernel
theorem dX9_ranks_40 : decode cX9_ranks 40 = .ok (.iload_n 2, 1) := by decide +kernel
theorem dX9_ranks_41 : decode cX9_ranks 41 = .ok (.ireturn, 1) := by decide +kernel
theorem dX9_cost_0 : decode cX9_cost 0 = .ok (.aload_n 0, 1) := by decide +kernel
theorem dX9_cost_1 : decode cX9_cost 1 = .ok (.getfield 50, 3) := by decide +kernel
theorem dX9_cost_4 : decode cX9_cost 4 = .ok (.iload_n 1, 1) := by decide +kernel
theorem dX9_cost_5 : decode cX9_cost 5 = .ok (.iaload, 1) := by decide +kernel
theorem dX9_cost_6 : decode cX9_cost 6 = .ok (.aload_n 0, 1) := by decide +kernel
theorem dX9_cost_7 : decode cX9_cost 7 = .ok (.getfield 66, 3) := by decide +kernel
theorem dX9_cost_10 : decode cX9_cost 10 = .ok (.iload_n 1, 1) := by decide +kernel
theorem dX9_cost_11 : decode cX9_cost 11 = .ok (.iaload, 1) := by decide +kernel
theorem dX9_cost_12 : decode cX9_cost 12 = .ok (.bipush 20, 2) := by decide +kernel
theorem dX9_cost_14 : decode cX9_cost 14 = .ok (.iconst 5, 1) := by decide +kernel
theorem dX9_cost_15 : decode cX9_cost 15 = .ok (.aload_n 0, 1) := by decide +kernel
theorem dX9_cost_16 : decode cX9_cost 16 = .ok (.getfield 47, 3) := by decide +kernel
theorem dX9_cost_19 : decode cX9_cost 19 = .ok (.iload_n 1, 1) := by decide +kernel
theorem dX9_cost_20 : decode cX9_cost 20 = .ok (.iaload, 1) := by decide +kernel
theorem dX9_cost_21 : decode cX9_cost 21 = .ok (.imul, 1) := by decide +kernel
theorem dX9_cost_22 : decode cX9_cost 22 = .ok (.iadd, 1) := by decide +kernel
theorem dX9_cost_23 : decode cX9_cost 23 = .ok (.imul, 1) := by decide +kernel
theorem dX9_cost_24 : decode cX9_cost 24 = .ok (.bipush 10, 2) := by decide +kernel
theorem dX9_cost_26 : decode cX9_cost 26 = .ok (.aload_n 0, 1) := by decide +kernel
theorem dX9_cost_27 : decode cX9_cost 27 = .ok (.iload_n 1, 1) := by decide +kernel
theorem dX9_cost_28 : decode cX9_cost 28 = .ok (.invokevirtual 202, 3) := by decide +kernel
theorem dX9_cost_31 : decode cX9_cost 31 = .ok (.imul, 1) := by decide +kernel
theorem dX9_cost_32 : decode cX9_cost 32 = .ok (.iadd, 1) := by decide +kernel
theorem dX9_cost_33 : decode cX9_cost 33 = .ok (.imul, 1) := by decide +kernel
theorem dX9_cost_34 : decode cX9_cost 34 = .ok (.ireturn, 1) := by decide +kernel
theorem dX9_pays_0 : decode cX9_pays 0 = .ok (.aload_n 0, 1) := by decide +kernel
theorem dX9_pays_1 : decode cX9_pays 1 = .ok (.getfield 81, 3) := by decide +kernel
theorem dX9_pays_4 : decode cX9_pays 4 = .ok (.iload_n 1, 1) := by decide +kernel
theorem dX9_pays_5 : decode cX9_pays 5 = .ok (.iaload, 1) := by decide +kernel
theorem dX9_pays_6 : decode cX9_pays 6 = .ok (.istore_n 2, 1) := by decide +kernel
theorem dX9_pays_7 : decode cX9_pays 7 = .ok (.iload_n 2, 1) := by decide +kernel
theorem dX9_pays_8 : decode cX9_pays 8 = .ok (.ifCond .ge 9, 3) := by decide +kernel
theorem dX9_pays_11 : decode cX9_pays 11 = .ok (.aload_n 0, 1) := by decide +kernel
theorem dX9_pays_12 : decode cX9_pays 12 = .ok (.iload_n 1, 1) := by decide +kernel
theorem dX9_pays_13 : decode cX9_pays 13 = .ok (.invokevirtual 205, 3) := by decide +kernel
theorem dX9_pays_16 : decode cX9_pays 16 = .ok (.ireturn, 1) := by decide +kernel
theorem dX9_pays_17 : decode cX9_pays 17 = .ok (.aload_n 0, 1) := by decide +kernel
theorem dX9_pays_18 : decode cX9_pays 18 = .ok (.iload_n 1, 1) := by decide +kernel
theorem dX9_pays_19 : decode cX9_pays 19 = .ok (.invokevirtual 205, 3) := by decide +kernel
theorem dX9_pays_22 : decode cX9_pays 22 = .ok (.istore_n 3, 1) := by decide +kernel
theorem dX9_pays_23 : decode cX9_pays 23 = .ok (.aload_n 0, 1) := by decide +kernel
theorem dX9_pays_24 : decode cX9_pays 24 = .ok (.iload_n 2, 1) := by decide +kernel
theorem dX9_pays_25 : decode cX9_pays 25 = .ok (.invokevirtual 205, 3) := by decide +kernel
theorem dX9_pays_28 : decode cX9_pays 28 = .ok (.istore 4, 2) := by decide +kernel
theorem dX9_pays_30 : decode cX9_pays 30 = .ok (.iload_n 3, 1) := by decide +kernel
theorem dX9_pays_31 : decode cX9_pays 31 = .ok (.iload 4, 2) := by decide +kernel
theorem dX9_pays_33 : decode cX9_pays 33 = .ok (.if_icmp .le 13, 3) := by decide +kernel
theorem dX9_pays_36 : decode cX9_pays 36 = .ok (.iload_n 3, 1) := by decide +kernel
theorem dX9_pays_37 : decode cX9_pays 37 = .ok (.iload 4, 2) := by decide +kernel
theorem dX9_pays_39 : decode cX9_pays 39 = .ok (.iconst 4, 1) := by decide +kernel
theorem dX9_pays_40 : decode cX9_pays 40 = .ok (.idiv, 1) := by decide +kernel
theorem dX9_pays_41 : decode cX9_pays 41 = .ok (.iadd, 1) := by decide +kernel
theorem dX9_pays_42 : decode cX9_pays 42 = .ok (.i2l, 1) := by decide +kernel
theorem dX9_pays_43 : decode cX9_pays 43 = .ok (.goto 10, 3) := by decide +kernel
theorem dX9_pays_46 : decode cX9_pays 46 = .ok (.iload 4, 2) := by decide +kernel
theorem dX9_pays_48 : decode cX9_pays 48 = .ok (.iload_n 3, 1) := by decide +kernel
theorem dX9_pays_49 : decode cX9_pays 49 = .ok (.iconst 4, 1) := by decide +kernel
theorem dX9_pays_50 : decode cX9_pays 50 = .ok (.idiv, 1) := by decide +kernel
theorem dX9_pays_51 : decode cX9_pays 51 = .ok (.iadd, 1) := by decide +kernel
theorem dX9_pays_52 : decode cX9_pays 52 = .ok (.i2l, 1) := by decide +kernel
theorem dX9_pays_53 : decode cX9_pays 53 = .ok (.lstore 5, 2) := by decide +kernel
theorem dX9_pays_55 : decode cX9_pays 55 = .ok (.iload 4, 2) := by decide +kernel
theorem dX9_pays_57 : decode cX9_pays 57 = .ok (.i2l, 1) := by decide +kernel
theorem dX9_pays_58 : decode cX9_pays 58 = .ok (.lload 5, 2) := by decide +kernel
theorem dX9_pays_60 : decode cX9_pays 60 = .ok (.lmul, 1) := by decide +kernel
theorem dX9_pays_61 : decode cX9_pays 61 = .ok (.iload_n 3, 1) := by decide +kernel
theorem dX9_pays_62 : decode cX9_pays 62 = .ok (.iload 4, 2) := by decide +kernel
theorem dX9_pays_64 : decode cX9_pays 64 = .ok (.iadd, 1) := by decide +kernel
theorem dX9_pays_65 : decode cX9_pays 65 = .ok (.i2l, 1) := by decide +kernel
theorem dX9_pays_66 : decode cX9_pays 66 = .ok (.ldiv, 1) := by decide +kernel
theorem dX9_pays_67 : decode cX9_pays 67 = .ok (.lstore 7, 2) := by decide +kernel
theorem dX9_pays_69 : decode cX9_pays 69 = .ok (.iload_n 1, 1) := by decide +kernel
theorem dX9_pays_70 : decode cX9_pays 70 = .ok (.iload_n 2, 1) := by decide +kernel
theorem dX9_pays_71 : decode cX9_pays 71 = .ok (.if_icmp .ge 11, 3) := by decide +kernel
theorem dX9_pays_74 : decode cX9_pays 74 = .ok (.lload 5, 2) := by decide +kernel
theorem dX9_pays_76 : decode cX9_pays 76 = .ok (.lload 7, 2) := by decide +kernel
theorem dX9_pays_78 : decode cX9_pays 78 = .ok (.lsub, 1) := by decide +kernel
theorem dX9_pays_79 : decode cX9_pays 79 = .ok (.goto 14, 3) := by decide +kernel
theorem dX9_pays_82 : decode cX9_pays 82 = .ok (.iload_n 3, 1) := by decide +kernel
theorem dX9_pays_83 : decode cX9_pays 83 = .ok (.i2l, 1) := by decide +kernel
theorem dX9_pays_84 : decode cX9_pays 84 = .ok (.lload 5, 2) := by decide +kernel
theorem dX9_pays_86 : decode cX9_pays 86 = .ok (.lmul, 1) := by decide +kernel
theorem dX9_pays_87 : decode cX9_pays 87 = .ok (.iload_n 3, 1) := by decide +kernel
theorem dX9_pays_88 : decode cX9_pays 88 = .ok (.iload 4, 2) := by decide +kernel
theorem dX9_pays_90 : decode cX9_pays 90 = .ok (.iadd, 1) := by decide +kernel
theorem dX9_pays_91 : decode cX9_pays 91 = .ok (.i2l, 1) := by decide +kernel
theorem dX9_pays_92 : decode cX9_pays 92 = .ok (.ldiv, 1) := by decide +kernel
theorem dX9_pays_93 : decode cX9_pays 93 = .ok (.l2i, 1) := by decide +kernel
theorem dX9_pays_94 : decode cX9_pays 94 = .ok (.ireturn, 1) := by decide +kernel
theorem dX9_delay_0 : decode cX9_delay 0 = .ok (.aload_n 0, 1) := by decide +kernel
theorem dX9_delay_1 : decode cX9_delay 1 = .ok (.iload_n 1, 1) := by decide +kernel
theorem dX9_delay_2 : decode cX9_delay 2 = .ok (.invokevirtual 121, 3) := by decide +kernel
theorem dX9_delay_5 : decode cX9_delay 5 = .ok (.ifCond .eq 41, 3) := by decide +kernel
theorem dX9_delay_8 : decode cX9_delay 8 = .ok (.aload_n 0, 1) := by decide +kernel
theorem dX9_delay_9 : decode cX9_delay 9 = .ok (.getfield 72, 3) := by decide +kernel
theorem dX9_delay_12 : decode cX9_delay 12 = .ok (.iload_n 1, 1) := by decide +kernel
theorem dX9_delay_13 : decode cX9_delay 13 = .ok (.iaload, 1) := by decide +kernel
theorem dX9_delay_14 : decode cX9_delay 14 = .ok (.aload_n 0, 1) := by decide +kernel
theorem dX9_delay_15 : decode cX9_delay 15 = .ok (.getfield 56, 3) := by decide +kernel
theorem dX9_delay_18 : decode cX9_delay 18 = .ok (.iload_n 1, 1) := by decide +kernel
theorem dX9_delay_19 : decode cX9_delay 19 = .ok (.iaload, 1) := by decide +kernel
theorem dX9_delay_20 : decode cX9_delay 20 = .ok (.if_icmp .le 26, 3) := by decide +kernel
theorem dX9_delay_23 : decode cX9_delay 23 = .ok (.aload_n 0, 1) := by decide +kernel
theorem dX9_delay_24 : decode cX9_delay 24 = .ok (.getfield 72, 3) := by decide +kernel
theorem dX9_delay_27 : decode cX9_delay 27 = .ok (.iload_n 1, 1) := by decide +kernel
theorem dX9_delay_28 : decode cX9_delay 28 = .ok (.iaload, 1) := by decide +kernel
theorem dX9_delay_29 : decode cX9_delay 29 = .ok (.aload_n 0, 1) := by decide +kernel
theorem dX9_delay_30 : decode cX9_delay 30 = .ok (.getfield 56, 3) := by decide +kernel
theorem dX9_delay_33 : decode cX9_delay 33 = .ok (.iload_n 1, 1) := by decide +kernel
theorem dX9_delay_34 : decode cX9_delay 34 = .ok (.iaload, 1) := by decide +kernel
theorem dX9_delay_35 : decode cX9_delay 35 = .ok (.isub, 1) := by decide +kernel
theorem dX9_delay_36 : decode cX9_delay 36 = .ok (.aload_n 0, 1) := by decide +kernel
theorem dX9_delay_37 : decode cX9_delay 37 = .ok (.getfield 47, 3) := by decide +kernel
theorem dX9_delay_40 : decode cX9_delay 40 = .ok (.iload_n 1, 1) := by decide +kernel
theorem dX9_delay_41 : decode cX9_delay 41 = .ok (.iaload, 1) := by decide +kernel
theorem dX9_delay_42 : decode cX9_delay 42 = .ok (.imul, 1) := by decide +kernel
theorem dX9_delay_43 : decode cX9_delay 43 = .ok (.goto 4, 3) := by decide +kernel
theorem dX9_delay_46 : decode cX9_delay 46 = .ok (.iconst 0, 1) := by decide +kernel
theorem dX9_delay_47 : decode cX9_delay 47 = .ok (.ireturn, 1) := by decide +kernel
theorem dX9_about_0 : decode cX9_about 0 = .ok (.aload_n 0, 1) := by decide +kernel
theorem dX9_about_1 : decode cX9_about 1 = .ok (.iload_n 1, 1) := by decide +kernel
theorem dX9_about_2 : decode cX9_about 2 = .ok (.invokevirtual 114, 3) := by decide +kernel
theorem dX9_about_5 : decode cX9_about 5 = .ok (.ifCond .ne 6, 3) := by decide +kernel
theorem dX9_about_8 : decode cX9_about 8 = .ok (.bipush (-5), 2) := by decide +kernel
theorem dX9_about_10 : decode cX9_about 10 = .ok (.ireturn, 1) := by decide +kernel
theorem dX9_about_11 : decode cX9_about 11 = .ok (.iload_n 2, 1) := by decide +kernel
theorem dX9_about_12 : decode cX9_about 12 = .ok (.tableswitch 146 0 10 #[60, 67, 74, 81, 88, 94, 100, 119, 125, 132, 139], 60) := by decide +kernel
theorem dX9_about_72 : decode cX9_about 72 = .ok (.aload_n 0, 1) := by decide +kernel
theorem dX9_about_73 : decode cX9_about 73 = .ok (.getfield 69, 3) := by decide +kernel
theorem dX9_about_76 : decode cX9_about 76 = .ok (.iload_n 1, 1) := by decide +kernel
theorem dX9_about_77 : decode cX9_about 77 = .ok (.iaload, 1) := by decide +kernel
theorem dX9_about_78 : decode cX9_about 78 = .ok (.ireturn, 1) := by decide +kernel
theorem dX9_about_79 : decode cX9_about 79 = .ok (.aload_n 0, 1) := by decide +kernel
theorem dX9_about_80 : decode cX9_about 80 = .ok (.getfield 72, 3) := by decide +kernel
theorem dX9_about_83 : decode cX9_about 83 = .ok (.iload_n 1, 1) := by decide +kernel
theorem dX9_about_84 : decode cX9_about 84 = .ok (.iaload, 1) := by decide +kernel
theorem dX9_about_85 : decode cX9_about 85 = .ok (.ireturn, 1) := by decide +kernel
theorem dX9_about_86 : decode cX9_about 86 = .ok (.aload_n 0, 1) := by decide +kernel
theorem dX9_about_87 : decode cX9_about 87 = .ok (.getfield 75, 3) := by decide +kernel
theorem dX9_about_90 : decode cX9_about 90 = .ok (.iload_n 1, 1) := by decide +kernel
theorem dX9_about_91 : decode cX9_about 91 = .ok (.iaload, 1) := by decide +kernel
theorem dX9_about_92 : decode cX9_about 92 = .ok (.ireturn, 1) := by decide +kernel
theorem dX9_about_93 : decode cX9_about 93 = .ok (.aload_n 0, 1) := by decide +kernel
theorem dX9_about_94 : decode cX9_about 94 = .ok (.getfield 78, 3) := by decide +kernel
theorem dX9_about_97 : decode cX9_about 97 = .ok (.iload_n 1, 1) := by decide +kernel
theorem dX9_about_98 : decode cX9_about 98 = .ok (.iaload, 1) := by decide +kernel
theorem dX9_about_99 : decode cX9_about 99 = .ok (.ireturn, 1) := by decide +kernel
theorem dX9_about_100 : decode cX9_about 100 = .ok (.aload_n 0, 1) := by decide +kernel
theorem dX9_about_101 : decode cX9_about 101 = .ok (.iload_n 1, 1) := by decide +kernel
theorem dX9_about_102 : decode cX9_about 102 = .ok (.invokevirtual 205, 3) := by decide +kernel
theorem dX9_about_105 : decode cX9_about 105 = .ok (.ireturn, 1) := by decide +kernel
theorem dX9_about_106 : decode cX9_about 106 = .ok (.aload_n 0, 1) := by decide +kernel
theorem dX9_about_107 : decode cX9_about 107 = .ok (.iload_n 1, 1) := by decide +kernel
theorem dX9_about_108 : decode cX9_about 108 = .ok (.invokevirtual 208, 3) := by decide +kernel
theorem dX9_about_111 : decode cX9_about 111 = .ok (.ireturn, 1) := by decide +kernel
theorem dX9_about_112 : decode cX9_about 112 = .ok (.aload_n 0, 1) := by decide +kernel
theorem dX9_about_113 : decode cX9_about 113 = .ok (.getfield 78, 3) := by decide +kernel
theorem dX9_about_116 : decode cX9_about 116 = .ok (.iload_n 1, 1) := by decide +kernel
theorem dX9_about_117 : decode cX9_about 117 = .ok (.iaload, 1) := by decide +kernel
theorem dX9_about_118 : decode cX9_about 118 = .ok (.bipush 10, 2) := by decide +kernel
theorem dX9_about_120 : decode cX9_about 120 = .ok (.aload_n 0, 1) := by decide +kernel
theorem dX9_about_121 : decode cX9_about 121 = .ok (.iload_n 1, 1) := by decide +kernel
theorem dX9_about_122 : decode cX9_about 122 = .ok (.invokevirtual 202, 3) := by decide +kernel
theorem dX9_about_125 : decode cX9_about 125 = .ok (.imul, 1) := by decide +kernel
theorem dX9_about_126 : decode cX9_about 126 = .ok (.bipush 10, 2) := by decide +kernel
theorem dX9_about_128 : decode cX9_about 128 = .ok (.iadd, 1) := by decide +kernel
theorem dX9_about_129 : decode cX9_about 129 = .ok (.imul, 1) := by decide +kernel
theorem dX9_about_130 : decode cX9_about 130 = .ok (.ireturn, 1) := by decide +kernel
theorem dX9_about_131 : decode cX9_about 131 = .ok (.aload_n 0, 1) := by decide +kernel
theorem dX9_about_132 : decode cX9_about 132 = .ok (.iload_n 1, 1) := by decide +kernel
theorem dX9_about_133 : decode cX9_about 133 = .ok (.invokevirtual 211, 3) := by decide +kernel
theorem dX9_about_136 : decode cX9_about 136 = .ok (.ireturn, 1) := by decide +kernel
theorem dX9_about_137 : decode cX9_about 137 = .ok (.aload_n 0, 1) := by decide +kernel
theorem dX9_about_138 : decode cX9_about 138 = .ok (.getfield 81, 3) := by decide +kernel
theorem dX9_about_141 : decode cX9_about 141 = .ok (.iload_n 1, 1) := by decide +kernel
theorem dX9_about_142 : decode cX9_about 142 = .ok (.iaload, 1) := by decide +kernel
theorem dX9_about_143 : decode cX9_about 143 = .ok (.ireturn, 1) := by decide +kernel
theorem dX9_about_144 : decode cX9_about 144 = .ok (.aload_n 0, 1) := by decide +kernel
theorem dX9_about_145 : decode cX9_about 145 = .ok (.getfield 66, 3) := by decide +kernel
theorem dX9_about_148 : decode cX9_about 148 = .ok (.iload_n 1, 1) := by decide +kernel
theorem dX9_about_149 : decode cX9_about 149 = .ok (.iaload, 1) := by decide +kernel
theorem dX9_about_150 : decode cX9_about 150 = .ok (.ireturn, 1) := by decide +kernel
theorem dX9_about_151 : decode cX9_about 151 = .ok (.aload_n 0, 1) := by decide +kernel
theorem dX9_about_152 : decode cX9_about 152 = .ok (.getfield 84, 3) := by decide +kernel
theorem dX9_about_155 : decode cX9_about 155 = .ok (.iload_n 1, 1) := by decide +kernel
theorem dX9_about_156 : decode cX9_about 156 = .ok (.iaload, 1) := by decide +kernel
theorem dX9_about_157 : decode cX9_about 157 = .ok (.ireturn, 1) := by decide +kernel
theorem dX9_about_158 : decode cX9_about 158 = .ok (.bipush (-5), 2) := by decide +kernel
theorem dX9_about_160 : decode cX9_about 160 = .ok (.ireturn, 1) := by decide +kernel
theorem dX9_lanes_0 : decode cX9_lanes 0 = .ok (.aload_n 0, 1) := by decide +kernel
theorem dX9_lanes_1 : decode cX9_lanes 1 = .ok (.iload_n 1, 1) := by decide +kernel
theorem dX9_lanes_2 : decode cX9_lanes 2 = .ok (.invokevirtual 110, 3) := by decide +kernel
theorem dX9_lanes_5 : decode cX9_lanes 5 = .ok (.ifCond .eq 26, 3) := by decide +kernel
theorem dX9_lanes_8 : decode cX9_lanes 8 = .ok (.iload_n 2, 1) := by decide +kernel
theorem dX9_lanes_9 : decode cX9_lanes 9 = .ok (.iconst 0, 1) := by decide +kernel
theorem dX9_lanes_10 : decode cX9_lanes 10 = .ok (.sipush 399, 3) := by decide +kernel
theorem dX9_lanes_13 : decode cX9_lanes 13 = .ok (.invokestatic 97, 3) := by decide +kernel
theorem dX9_lanes_16 : decode cX9_lanes 16 = .ok (.ifCond .eq 15, 3) := by decide +kernel
theorem dX9_lanes_19 : decode cX9_lanes 19 = .ok (.aload_n 0, 1) := by decide +kernel
theorem dX9_lanes_20 : decode cX9_lanes 20 = .ok (.iload_n 1, 1) := by decide +kernel
theorem dX9_lanes_21 : decode cX9_lanes 21 = .ok (.iconst (-1), 1) := by decide +kernel
theorem dX9_lanes_22 : decode cX9_lanes 22 = .ok (.iconst (-1), 1) := by decide +kernel
theorem dX9_lanes_23 : decode cX9_lanes 23 = .ok (.iconst 0, 1) := by decide +kernel
theorem dX9_lanes_24 : decode cX9_lanes 24 = .ok (.iload_n 2, 1) := by decide +kernel
theorem dX9_lanes_25 : decode cX9_lanes 25 = .ok (.invokevirtual 132, 3) := by decide +kernel
theorem dX9_lanes_28 : decode cX9_lanes 28 = .ok (.goto 4, 3) := by decide +kernel
theorem dX9_lanes_31 : decode cX9_lanes 31 = .ok (.iconst (-1), 1) := by decide +kernel
theorem dX9_lanes_32 : decode cX9_lanes 32 = .ok (.ireturn, 1) := by decide +kernel
theorem dX9_way_0 : decode cX9_way 0 = .ok (.iload_n 1, 1) := by decide +kernel
theorem dX9_way_1 : decode cX9_way 1 = .ok (.ifCond .lt 22, 3) := by decide +kernel
theorem dX9_way_4 : decode cX9_way 4 = .ok (.iload_n 1, 1) := by decide +kernel
theorem dX9_way_5 : decode cX9_way 5 = .ok (.aload_n 0, 1) := by decide +kernel
theorem dX9_way_6 : decode cX9_way 6 = .ok (.getfield 104, 3) := by decide +kernel
theorem dX9_way_9 : decode cX9_way 9 = .ok (.if_icmp .ge 14, 3) := by decide +kernel
theorem dX9_way_12 : decode cX9_way 12 = .ok (.iload_n 2, 1) := by decide +kernel
theorem dX9_way_13 : decode cX9_way 13 = .ok (.iconst 0, 1) := by decide +kernel
theorem dX9_way_14 : decode cX9_way 14 = .ok (.sipush 399, 3) := by decide +kernel
theorem dX9_way_17 : decode cX9_way 17 = .ok (.invokestatic 97, 3) := by decide +kernel
theorem dX9_way_20 : decode cX9_way 20 = .ok (.ifCond .ne 5, 3) := by decide +kernel
theorem dX9_way_23 : decode cX9_way 23 = .ok (.iconst (-1), 1) := by decide +kernel
theorem dX9_way_24 : decode cX9_way 24 = .ok (.ireturn, 1) := by decide +kernel
theorem dX9_way_25 : decode cX9_way 25 = .ok (.aload_n 0, 1) := by decide +kernel
theorem dX9_way_26 : decode cX9_way 26 = .ok (.aload_n 0, 1) := by decide +kernel
theorem dX9_way_27 : decode cX9_way 27 = .ok (.getfield 28, 3) := by decide +kernel
theorem dX9_way_30 : decode cX9_way 30 = .ok (.iload_n 1, 1) := by decide +kernel
theorem dX9_way_31 : decode cX9_way 31 = .ok (.iaload, 1) := by decide +kernel
theorem dX9_way_32 : decode cX9_way 32 = .ok (.aload_n 0, 1) := by decide +kernel
theorem dX9_way_33 : decode cX9_way 33 = .ok (.getfield 31, 3) := by decide +kernel
theorem dX9_way_36 : decode cX9_way 36 = .ok (.iload_n 1, 1) := by decide +kernel
theorem dX9_way_37 : decode cX9_way 37 = .ok (.iaload, 1) := by decide +kernel
theorem dX9_way_38 : decode cX9_way 38 = .ok (.aload_n 0, 1) := by decide +kernel
theorem dX9_way_39 : decode cX9_way 39 = .ok (.iconst (-1), 1) := by decide +kernel
theorem dX9_way_40 : decode cX9_way 40 = .ok (.iconst (-1), 1) := by decide +kernel
theorem dX9_way_41 : decode cX9_way 41 = .ok (.iconst 0, 1) := by decide +kernel
theorem dX9_way_42 : decode cX9_way 42 = .ok (.iload_n 2, 1) := by decide +kernel
theorem dX9_way_43 : decode cX9_way 43 = .ok (.invokevirtual 146, 3) := by decide +kernel
theorem dX9_way_46 : decode cX9_way 46 = .ok (.invokevirtual 150, 3) := by decide +kernel
theorem dX9_way_49 : decode cX9_way 49 = .ok (.istore_n 3, 1) := by decide +kernel
theorem dX9_way_50 : decode cX9_way 50 = .ok (.iload_n 3, 1) := by decide +kernel
theorem dX9_way_51 : decode cX9_way 51 = .ok (.ldc 136, 2) := by decide +kernel
theorem dX9_way_53 : decode cX9_way 53 = .ok (.if_icmp .lt 8, 3) := by decide +kernel
theorem dX9_way_56 : decode cX9_way 56 = .ok (.bipush (-5), 2) := by decide +kernel
theorem dX9_way_58 : decode cX9_way 58 = .ok (.goto 4, 3) := by decide +kernel
theorem dX9_way_61 : decode cX9_way 61 = .ok (.iload_n 3, 1) := by decide +kernel
theorem dX9_way_62 : decode cX9_way 62 = .ok (.ireturn, 1) := by decide +kernel
theorem dX9_shut_0 : decode cX9_shut 0 = .ok (.iload_n 1, 1) := by decide +kernel
theorem dX9_shut_1 : decode cX9_shut 1 = .ok (.iconst 0, 1) := by decide +kernel
theorem dX9_shut_2 : decode cX9_shut 2 = .ok (.sipush 399, 3) := by decide +kernel
theorem dX9_shut_5 : decode cX9_shut 5 = .ok (.invokestatic 97, 3) := by decide +kernel
theorem dX9_shut_8 : decode cX9_shut 8 = .ok (.ifCond .ne 5, 3) := by decide +kernel
theorem dX9_shut_11 : decode cX9_shut 11 = .ok (.iconst (-1), 1) := by decide +kernel
theorem dX9_shut_12 : decode cX9_shut 12 = .ok (.ireturn, 1) := by decide +kernel
theorem dX9_shut_13 : decode cX9_shut 13 = .ok (.iconst 0, 1) := by decide +kernel
theorem dX9_shut_14 : decode cX9_shut 14 = .ok (.istore_n 2, 1) := by decide +kernel
theorem dX9_shut_15 : decode cX9_shut 15 = .ok (.iconst 0, 1) := by decide +kernel
theorem dX9_shut_16 : decode cX9_shut 16 = .ok (.istore_n 3, 1) := by decide +kernel
theorem dX9_shut_17 : decode cX9_shut 17 = .ok (.iload_n 3, 1) := by decide +kernel
theorem dX9_shut_18 : decode cX9_shut 18 = .ok (.aload_n 0, 1) := by decide +kernel
theorem dX9_shut_19 : decode cX9_shut 19 = .ok (.getfield 104, 3) := by decide +kernel
theorem dX9_shut_22 : decode cX9_shut 22 = .ok (.if_icmp .ge 50, 3) := by decide +kernel
theorem dX9_shut_25 : decode cX9_shut 25 = .ok (.iload_n 2, 1) := by decide +kernel
theorem dX9_shut_26 : decode cX9_shut 26 = .ok (.aload_n 0, 1) := by decide +kernel
theorem dX9_shut_27 : decode cX9_shut 27 = .ok (.aload_n 0, 1) := by decide +kernel
theorem dX9_shut_28 : decode cX9_shut 28 = .ok (.getfield 28, 3) := by decide +kernel
theorem dX9_shut_31 : decode cX9_shut 31 = .ok (.iload_n 3, 1) := by decide +kernel
theorem dX9_shut_32 : decode cX9_shut 32 = .ok (.iaload, 1) := by decide +kernel
theorem dX9_shut_33 : decode cX9_shut 33 = .ok (.aload_n 0, 1) := by decide +kernel
theorem dX9_shut_34 : decode cX9_shut 34 = .ok (.getfield 31, 3) := by decide +kernel
theorem dX9_shut_37 : decode cX9_shut 37 = .ok (.iload_n 3, 1) := by decide +kernel
theorem dX9_shut_38 : decode cX9_shut 38 = .ok (.iaload, 1) := by decide +kernel
theorem dX9_shut_39 : decode cX9_shut 39 = .ok (.aload_n 0, 1) := by decide +kernel
theorem dX9_shut_40 : decode cX9_shut 40 = .ok (.iconst (-1), 1) := by decide +kernel
theorem dX9_shut_41 : decode cX9_shut 41 = .ok (.iconst (-1), 1) := by decide +kernel
theorem dX9_shut_42 : decode cX9_shut 42 = .ok (.iconst 0, 1) := by decide +kernel
theorem dX9_shut_43 : decode cX9_shut 43 = .ok (.iload_n 1, 1) := by decide +kernel
theorem dX9_shut_44 : decode cX9_shut 44 = .ok (.invokevirtual 146, 3) := by decide +kernel
theorem dX9_shut_47 : decode cX9_shut 47 = .ok (.invokevirtual 150, 3) := by decide +kernel
theorem dX9_shut_50 : decode cX9_shut 50 = .ok (.aload_n 0, 1) := by decide +kernel
theorem dX9_shut_51 : decode cX9_shut 51 = .ok (.getfield 34, 3) := by decide +kernel
theorem dX9_shut_54 : decode cX9_shut 54 = .ok (.iload_n 3, 1) := by decide +kernel
theorem dX9_shut_55 : decode cX9_shut 55 = .ok (.iaload, 1) := by decide +kernel
theorem dX9_shut_56 : decode cX9_shut 56 = .ok (.if_icmp .le 7, 3) := by decide +kernel
theorem dX9_shut_59 : decode cX9_shut 59 = .ok (.iconst 1, 1) := by decide +kernel
theorem dX9_shut_60 : decode cX9_shut 60 = .ok (.goto 4, 3) := by decide +kernel
theorem dX9_shut_63 : decode cX9_shut 63 = .ok (.iconst 0, 1) := by decide +kernel
theorem dX9_shut_64 : decode cX9_shut 64 = .ok (.iadd, 1) := by decide +kernel
theorem dX9_shut_65 : decode cX9_shut 65 = .ok (.istore_n 2, 1) := by decide +kernel
theorem dX9_shut_66 : decode cX9_shut 66 = .ok (.iinc 3 1, 3) := by decide +kernel
theorem dX9_shut_69 : decode cX9_shut 69 = .ok (.goto (-52), 3) := by decide +kernel
theorem dX9_shut_72 : decode cX9_shut 72 = .ok (.iload_n 2, 1) := by decide +kernel
theorem dX9_shut_73 : decode cX9_shut 73 = .ok (.ireturn, 1) := by decide +kernel
theorem dX9_price_0 : decode cX9_price 0 = .ok (.iconst 0, 1) := by decide +kernel
theorem dX9_price_1 : decode cX9_price 1 = .ok (.istore_n 1, 1) := by decide +kernel
theorem dX9_price_2 : decode cX9_price 2 = .ok (.iconst 0, 1) := by decide +kernel
theorem dX9_price_3 : decode cX9_price 3 = .ok (.istore_n 2, 1) := by decide +kernel
theorem dX9_price_4 : decode cX9_price 4 = .ok (.iload_n 2, 1) := by decide +kernel
theorem dX9_price_5 : decode cX9_price 5 = .ok (.aload_n 0, 1) := by decide +kernel
theorem dX9_price_6 : decode cX9_price 6 = .ok (.getfield 107, 3) := by decide +kernel
theorem dX9_price_9 : decode cX9_price 9 = .ok (.if_icmp .ge 32, 3) := by decide +kernel
theorem dX9_price_12 : decode cX9_price 12 = .ok (.iload_n 1, 1) := by decide +kernel
theorem dX9_price_13 : decode cX9_price 13 = .ok (.aload_n 0, 1) := by decide +kernel
theorem dX9_price_14 : decode cX9_price 14 = .ok (.getfield 69, 3) := by decide +kernel
theorem dX9_price_17 : decode cX9_price 17 = .ok (.iload_n 2, 1) := by decide +kernel
theorem dX9_price_18 : decode cX9_price 18 = .ok (.iaload, 1) := by decide +kernel
theorem dX9_price_19 : decode cX9_price 19 = .ok (.ifCond .ne 9, 3) := by decide +kernel
theorem dX9_price_22 : decode cX9_price 22 = .ok (.sipush 500, 3) := by decide +kernel
theorem dX9_price_25 : decode cX9_price 25 = .ok (.goto 8, 3) := by decide +kernel
theorem dX9_price_28 : decode cX9_price 28 = .ok (.aload_n 0, 1) := by decide +kernel
theorem dX9_price_29 : decode cX9_price 29 = .ok (.iload_n 2, 1) := by decide +kernel
theorem dX9_price_30 : decode cX9_price 30 = .ok (.invokevirtual 211, 3) := by decide +kernel
theorem dX9_price_33 : decode cX9_price 33 = .ok (.iadd, 1) := by decide +kernel
theorem dX9_price_34 : decode cX9_price 34 = .ok (.istore_n 1, 1) := by decide +kernel
theorem dX9_price_35 : decode cX9_price 35 = .ok (.iinc 2 1, 3) := by decide +kernel
theorem dX9_price_38 : decode cX9_price 38 = .ok (.goto (-34), 3) := by decide +kernel
theorem dX9_price_41 : decode cX9_price 41 = .ok (.iload_n 1, 1) := by decide +kernel
theorem dX9_price_42 : decode cX9_price 42 = .ok (.ireturn, 1) := by decide +kernel
theorem dX9_othersKeep_0 : decode cX9_othersKeep 0 = .ok (.iconst 0, 1) := by decide +kernel
theorem dX9_othersKeep_1 : decode cX9_othersKeep 1 = .ok (.istore_n 2, 1) := by decide +kernel
theorem dX9_othersKeep_2 : decode cX9_othersKeep 2 = .ok (.iload_n 2, 1) := by decide +kernel
theorem dX9_othersKeep_3 : decode cX9_othersKeep 3 = .ok (.aload_n 0, 1) := by decide +kernel
theorem dX9_othersKeep_4 : decode cX9_othersKeep 4 = .ok (.getfield 107, 3) := by decide +kernel
theorem dX9_othersKeep_7 : decode cX9_othersKeep 7 = .ok (.if_icmp .ge 42, 3) := by decide +kernel
theorem dX9_othersKeep_10 : decode cX9_othersKeep 10 = .ok (.iload_n 2, 1) := by decide +kernel
theorem dX9_othersKeep_11 : decode cX9_othersKeep 11 = .ok (.iload_n 1, 1) := by decide +kernel
theorem dX9_othersKeep_12 : decode cX9_othersKeep 12 = .ok (.if_icmp .eq 31, 3) := by decide +kernel
theorem dX9_othersKeep_15 : decode cX9_othersKeep 15 = .ok (.aload_n 0, 1) := by decide +kernel
theorem dX9_othersKeep_16 : decode cX9_othersKeep 16 = .ok (.getfield 69, 3) := by decide +kernel
theorem dX9_othersKeep_19 : decode cX9_othersKeep 19 = .ok (.iload_n 2, 1) := by decide +kernel
theorem dX9_othersKeep_20 : decode cX9_othersKeep 20 = .ok (.iaload, 1) := by decide +kernel
theorem dX9_othersKeep_21 : decode cX9_othersKeep 21 = .ok (.iconst 1, 1) := by decide +kernel
theorem dX9_othersKeep_22 : decode cX9_othersKeep 22 = .ok (.if_icmp .ne 21, 3) := by decide +kernel
theorem dX9_othersKeep_25 : decode cX9_othersKeep 25 = .ok (.aload_n 0, 1) := by decide +kernel
theorem dX9_othersKeep_26 : decode cX9_othersKeep 26 = .ok (.iload_n 2, 1) := by decide +kernel
theorem dX9_othersKeep_27 : decode cX9_othersKeep 27 = .ok (.aload_n 0, 1) := by decide +kernel
theorem dX9_othersKeep_28 : decode cX9_othersKeep 28 = .ok (.getfield 72, 3) := by decide +kernel
theorem dX9_othersKeep_31 : decode cX9_othersKeep 31 = .ok (.iload_n 2, 1) := by decide +kernel
theorem dX9_othersKeep_32 : decode cX9_othersKeep 32 = .ok (.iaload, 1) := by decide +kernel
theorem dX9_othersKeep_33 : decode cX9_othersKeep 33 = .ok (.iconst 3, 1) := by decide +kernel
theorem dX9_othersKeep_34 : decode cX9_othersKeep 34 = .ok (.iconst 0, 1) := by decide +kernel
theorem dX9_othersKeep_35 : decode cX9_othersKeep 35 = .ok (.invokevirtual 179, 3) := by decide +kernel
theorem dX9_othersKeep_38 : decode cX9_othersKeep 38 = .ok (.ifCond .le 5, 3) := by decide +kernel
theorem dX9_othersKeep_41 : decode cX9_othersKeep 41 = .ok (.iconst 0, 1) := by decide +kernel
theorem dX9_othersKeep_42 : decode cX9_othersKeep 42 = .ok (.ireturn, 1) := by decide +kernel
theorem dX9_othersKeep_43 : decode cX9_othersKeep 43 = .ok (.iinc 2 1, 3) := by decide +kernel
theorem dX9_othersKeep_46 : decode cX9_othersKeep 46 = .ok (.goto (-44), 3) := by decide +kernel
theorem dX9_othersKeep_49 : decode cX9_othersKeep 49 = .ok (.iconst 1, 1) := by decide +kernel
theorem dX9_othersKeep_50 : decode cX9_othersKeep 50 = .ok (.ireturn, 1) := by decide +kernel
theorem dX9_betters_0 : decode cX9_betters 0 = .ok (.iconst 0, 1) := by decide +kernel
theorem dX9_betters_1 : decode cX9_betters 1 = .ok (.istore_n 1, 1) := by decide +kernel
theorem dX9_betters_2 : decode cX9_betters 2 = .ok (.iload_n 1, 1) := by decide +kernel
theorem dX9_betters_3 : decode cX9_betters 3 = .ok (.aload_n 0, 1) := by decide +kernel
theorem dX9_betters_4 : decode cX9_betters 4 = .ok (.getfield 107, 3) := by decide +kernel
theorem dX9_betters_7 : decode cX9_betters 7 = .ok (.if_icmp .ge 83, 3) := by decide +kernel
theorem dX9_betters_10 : decode cX9_betters 10 = .ok (.aload_n 0, 1) := by decide +kernel
theorem dX9_betters_11 : decode cX9_betters 11 = .ok (.getfield 69, 3) := by decide +kernel
theorem dX9_betters_14 : decode cX9_betters 14 = .ok (.iload_n 1, 1) := by decide +kernel
theorem dX9_betters_15 : decode cX9_betters 15 = .ok (.iaload, 1) := by decide +kernel
theorem dX9_betters_16 : decode cX9_betters 16 = .ok (.iconst 1, 1) := by decide +kernel
theorem dX9_betters_17 : decode cX9_betters 17 = .ok (.if_icmp .ne 67, 3) := by decide +kernel
theorem dX9_betters_20 : decode cX9_betters 20 = .ok (.aload_n 0, 1) := by decide +kernel
theorem dX9_betters_21 : decode cX9_betters 21 = .ok (.iload_n 1, 1) := by decide +kernel
theorem dX9_betters_22 : decode cX9_betters 22 = .ok (.invokevirtual 211, 3) := by decide +kernel
theorem dX9_betters_25 : decode cX9_betters 25 = .ok (.ifCond .le 59, 3) := by decide +kernel
theorem dX9_betters_28 : decode cX9_betters 28 = .ok (.aload_n 0, 1) := by decide +kernel
theorem dX9_betters_29 : decode cX9_betters 29 = .ok (.getfield 72, 3) := by decide +kernel
theorem dX9_betters_32 : decode cX9_betters 32 = .ok (.iload_n 1, 1) := by decide +kernel
theorem dX9_betters_33 : decode cX9_betters 33 = .ok (.iaload, 1) := by decide +kernel
theorem dX9_betters_34 : decode cX9_betters 34 = .ok (.istore_n 2, 1) := by decide +kernel
theorem dX9_betters_35 : decode cX9_betters 35 = .ok (.aload_n 0, 1) := by decide +kernel
theorem dX9_betters_36 : decode cX9_betters 36 = .ok (.getfield 154, 3) := by decide +kernel
theorem dX9_betters_39 : decode cX9_betters 39 = .ok (.istore_n 3, 1) := by decide +kernel
theorem dX9_betters_40 : decode cX9_betters 40 = .ok (.iload_n 3, 1) := by decide +kernel
theorem dX9_betters_41 : decode cX9_betters 41 = .ok (.iload_n 2, 1) := by decide +kernel
theorem dX9_betters_42 : decode cX9_betters 42 = .ok (.if_icmp .ge 42, 3) := by decide +kernel
theorem dX9_betters_45 : decode cX9_betters 45 = .ok (.aload_n 0, 1) := by decide +kernel
theorem dX9_betters_46 : decode cX9_betters 46 = .ok (.iload_n 1, 1) := by decide +kernel
theorem dX9_betters_47 : decode cX9_betters 47 = .ok (.iload_n 3, 1) := by decide +kernel
theorem dX9_betters_48 : decode cX9_betters 48 = .ok (.iconst 1, 1) := by decide +kernel
theorem dX9_betters_49 : decode cX9_betters 49 = .ok (.iconst 0, 1) := by decide +kernel
theorem dX9_betters_50 : decode cX9_betters 50 = .ok (.invokevirtual 179, 3) := by decide +kernel
theorem dX9_betters_53 : decode cX9_betters 53 = .ok (.ifCond .ne 25, 3) := by decide +kernel
theorem dX9_betters_56 : decode cX9_betters 56 = .ok (.aload_n 0, 1) := by decide +kernel
theorem dX9_betters_57 : decode cX9_betters 57 = .ok (.iload_n 1, 1) := by decide +kernel
theorem dX9_betters_58 : decode cX9_betters 58 = .ok (.iload_n 3, 1) := by decide +kernel
theorem dX9_betters_59 : decode cX9_betters 59 = .ok (.invokevirtual 190, 3) := by decide +kernel
theorem dX9_betters_62 : decode cX9_betters 62 = .ok (.aload_n 0, 1) := by decide +kernel
theorem dX9_betters_63 : decode cX9_betters 63 = .ok (.iload_n 1, 1) := by decide +kernel
theorem dX9_betters_64 : decode cX9_betters 64 = .ok (.invokevirtual 214, 3) := by decide +kernel
theorem dX9_betters_67 : decode cX9_betters 67 = .ok (.ifCond .eq 5, 3) := by decide +kernel
theorem dX9_betters_70 : decode cX9_betters 70 = .ok (.iconst 1, 1) := by decide +kernel
theorem dX9_betters_71 : decode cX9_betters 71 = .ok (.ireturn, 1) := by decide +kernel
theorem dX9_betters_72 : decode cX9_betters 72 = .ok (.aload_n 0, 1) := by decide +kernel
theorem dX9_betters_73 : decode cX9_betters 73 = .ok (.iload_n 1, 1) := by decide +kernel
theorem dX9_betters_74 : decode cX9_betters 74 = .ok (.iload_n 2, 1) := by decide +kernel
theorem dX9_betters_75 : decode cX9_betters 75 = .ok (.invokevirtual 190, 3) := by decide +kernel
theorem dX9_betters_78 : decode cX9_betters 78 = .ok (.iinc 3 1, 3) := by decide +kernel
theorem dX9_betters_81 : decode cX9_betters 81 = .ok (.goto (-41), 3) := by decide +kernel
theorem dX9_betters_84 : decode cX9_betters 84 = .ok (.iinc 1 1, 3) := by decide +kernel
theorem dX9_betters_87 : decode cX9_betters 87 = .ok (.goto (-85), 3) := by decide +kernel
theorem dX9_betters_90 : decode cX9_betters 90 = .ok (.iconst 0, 1) := by decide +kernel
theorem dX9_betters_91 : decode cX9_betters 91 = .ok (.ireturn, 1) := by decide +kernel
theorem dX9_better_0 : decode cX9_better 0 = .ok (.iconst 0, 1) := by decide +kernel
theorem dX9_better_1 : decode cX9_better 1 = .ok (.istore_n 1, 1) := by decide +kernel
theorem dX9_better_2 : decode cX9_better 2 = .ok (.aload_n 0, 1) := by decide +kernel
theorem dX9_better_3 : decode cX9_better 3 = .ok (.invokevirtual 217, 3) := by decide +kernel
theorem dX9_better_6 : decode cX9_better 6 = .ok (.ifCond .eq 9, 3) := by decide +kernel
theorem dX9_better_9 : decode cX9_better 9 = .ok (.iinc 1 1, 3) := by decide +kernel
theorem dX9_better_12 : decode cX9_better 12 = .ok (.goto (-10), 3) := by decide +kernel
theorem dX9_better_15 : decode cX9_better 15 = .ok (.iload_n 1, 1) := by decide +kernel
theorem dX9_better_16 : decode cX9_better 16 = .ok (.ireturn, 1) := by decide +kernel
theorem dX9_book_0 : decode cX9_book 0 = .ok (.aload_n 0, 1) := by decide +kernel
theorem dX9_book_1 : decode cX9_book 1 = .ok (.iload_n 1, 1) := by decide +kernel
theorem dX9_book_2 : decode cX9_book 2 = .ok (.invokevirtual 110, 3) := by decide +kernel
theorem dX9_book_5 : decode cX9_book 5 = .ok (.ifCond .eq 7, 3) := by decide +kernel
theorem dX9_book_8 : decode cX9_book 8 = .ok (.iload_n 2, 1) := by decide +kernel
theorem dX9_book_9 : decode cX9_book 9 = .ok (.ifCond .ge 5, 3) := by decide +kernel
theorem dX9_book_12 : decode cX9_book 12 = .ok (.iconst (-1), 1) := by decide +kernel
theorem dX9_book_13 : decode cX9_book 13 = .ok (.ireturn, 1) := by decide +kernel
theorem dX9_book_14 : decode cX9_book 14 = .ok (.iload_n 2, 1) := by decide +kernel
theorem dX9_book_15 : decode cX9_book 15 = .ok (.istore_n 3, 1) := by decide +kernel
theorem dX9_book_16 : decode cX9_book 16 = .ok (.iconst 0, 1) := by decide +kernel
theorem dX9_book_17 : decode cX9_book 17 = .ok (.istore 4, 2) := by decide +kernel
theorem dX9_book_19 : decode cX9_book 19 = .ok (.iload 4, 2) := by decide +kernel
theorem dX9_book_21 : decode cX9_book 21 = .ok (.sipush 400, 3) := by decide +kernel
theorem dX9_book_24 : decode cX9_book 24 = .ok (.if_icmp .ge 81, 3) := by decide +kernel
theorem dX9_book_27 : decode cX9_book 27 = .ok (.iconst 0, 1) := by decide +kernel
theorem dX9_book_28 : decode cX9_book 28 = .ok (.istore 5, 2) := by decide +kernel
theorem dX9_book_30 : decode cX9_book 30 = .ok (.iload 5, 2) := by decide +kernel
theorem dX9_book_32 : decode cX9_book 32 = .ok (.aload_n 0, 1) := by decide +kernel
theorem dX9_book_33 : decode cX9_book 33 = .ok (.getfield 107, 3) := by decide +kernel
theorem dX9_book_36 : decode cX9_book 36 = .ok (.if_icmp .ge 63, 3) := by decide +kernel
theorem dX9_book_39 : decode cX9_book 39 = .ok (.aload_n 0, 1) := by decide +kernel
theorem dX9_book_40 : decode cX9_book 40 = .ok (.getfield 69, 3) := by decide +kernel
theorem dX9_book_43 : decode cX9_book 43 = .ok (.iload 5, 2) := by decide +kernel
theorem dX9_book_45 : decode cX9_book 45 = .ok (.iaload, 1) := by decide +kernel
theorem dX9_book_46 : decode cX9_book 46 = .ok (.iconst 2, 1) := by decide +kernel
theorem dX9_book_47 : decode cX9_book 47 = .ok (.if_icmp .eq 14, 3) := by decide +kernel
theorem dX9_book_50 : decode cX9_book 50 = .ok (.aload_n 0, 1) := by decide +kernel
theorem dX9_book_51 : decode cX9_book 51 = .ok (.getfield 69, 3) := by decide +kernel
theorem dX9_book_54 : decode cX9_book 54 = .ok (.iload 5, 2) := by decide +kernel
theorem dX9_book_56 : decode cX9_book 56 = .ok (.iaload, 1) := by decide +kernel
theorem dX9_book_57 : decode cX9_book 57 = .ok (.iconst 3, 1) := by decide +kernel
theorem dX9_book_58 : decode cX9_book 58 = .ok (.if_icmp .ne 35, 3) := by decide +kernel
theorem dX9_book_61 : decode cX9_book 61 = .ok (.aload_n 0, 1) := by decide +kernel
theorem dX9_book_62 : decode cX9_book 62 = .ok (.iload 5, 2) := by decide +kernel
theorem dX9_book_64 : decode cX9_book 64 = .ok (.iload_n 1, 1) := by decide +kernel
theorem dX9_book_65 : decode cX9_book 65 = .ok (.invokevirtual 117, 3) := by decide +kernel
theorem dX9_book_68 : decode cX9_book 68 = .ok (.ifCond .eq 25, 3) := by decide +kernel
theorem dX9_book_71 : decode cX9_book 71 = .ok (.aload_n 0, 1) := by decide +kernel
theorem dX9_book_72 : decode cX9_book 72 = .ok (.getfield 72, 3) := by decide +kernel
theorem dX9_book_75 : decode cX9_book 75 = .ok (.iload 5, 2) := by decide +kernel
theorem dX9_book_77 : decode cX9_book 77 = .ok (.iaload, 1) := by decide +kernel
theorem dX9_book_78 : decode cX9_book 78 = .ok (.iload 4, 2) := by decide +kernel
theorem dX9_book_80 : decode cX9_book 80 = .ok (.if_icmp .ne 13, 3) := by decide +kernel
theorem dX9_book_83 : decode cX9_book 83 = .ok (.iload_n 3, 1) := by decide +kernel
theorem dX9_book_84 : decode cX9_book 84 = .ok (.ifCond .ne 6, 3) := by decide +kernel
theorem dX9_book_87 : decode cX9_book 87 = .ok (.iload 5, 2) := by decide +kernel
theorem dX9_book_89 : decode cX9_book 89 = .ok (.ireturn, 1) := by decide +kernel
theorem dX9_book_90 : decode cX9_book 90 = .ok (.iinc 3 (-1), 3) := by decide +kernel
theorem dX9_book_93 : decode cX9_book 93 = .ok (.iinc 5 1, 3) := by decide +kernel
theorem dX9_book_96 : decode cX9_book 96 = .ok (.goto (-66), 3) := by decide +kernel
theorem dX9_book_99 : decode cX9_book 99 = .ok (.iinc 4 1, 3) := by decide +kernel
theorem dX9_book_102 : decode cX9_book 102 = .ok (.goto (-83), 3) := by decide +kernel
theorem dX9_book_105 : decode cX9_book 105 = .ok (.iconst (-1), 1) := by decide +kernel
theorem dX9_book_106 : decode cX9_book 106 = .ok (.ireturn, 1) := by decide +kernel
theorem dX9_count_0 : decode cX9_count 0 = .ok (.iload_n 1, 1) := by decide +kernel
theorem dX9_count_1 : decode cX9_count 1 = .ok (.iconst 4, 1) := by decide +kernel
theorem dX9_count_2 : decode cX9_count 2 = .ok (.if_icmp .lt 9, 3) := by decide +kernel
theorem dX9_count_5 : decode cX9_count 5 = .ok (.iload_n 1, 1) := by decide +kernel
theorem dX9_count_6 : decode cX9_count 6 = .ok (.bipush 8, 2) := by decide +kernel
theorem dX9_count_8 : decode cX9_count 8 = .ok (.if_icmp .le 52, 3) := by decide +kernel
theorem dX9_count_11 : decode cX9_count 11 = .ok (.iload_n 1, 1) := by decide +kernel
theorem dX9_count_12 : decode cX9_count 12 = .ok (.ifCond .ne 10, 3) := by decide +kernel
theorem dX9_count_15 : decode cX9_count 15 = .ok (.aload_n 0, 1) := by decide +kernel
theorem dX9_count_16 : decode cX9_count 16 = .ok (.getfield 101, 3) := by decide +kernel
theorem dX9_count_19 : decode cX9_count 19 = .ok (.goto 40, 3) := by decide +kernel
theorem dX9_count_22 : decode cX9_count 22 = .ok (.iload_n 1, 1) := by decide +kernel
theorem dX9_count_23 : decode cX9_count 23 = .ok (.iconst 1, 1) := by decide +kernel
theorem dX9_count_24 : decode cX9_count 24 = .ok (.if_icmp .ne 10, 3) := by decide +kernel
theorem dX9_count_27 : decode cX9_count 27 = .ok (.aload_n 0, 1) := by decide +kernel
theorem dX9_count_28 : decode cX9_count 28 = .ok (.getfield 104, 3) := by decide +kernel
theorem dX9_count_31 : decode cX9_count 31 = .ok (.goto 28, 3) := by decide +kernel
theorem dX9_count_34 : decode cX9_count 34 = .ok (.iload_n 1, 1) := by decide +kernel
theorem dX9_count_35 : decode cX9_count 35 = .ok (.iconst 2, 1) := by decide +kernel
theorem dX9_count_36 : decode cX9_count 36 = .ok (.if_icmp .ne 10, 3) := by decide +kernel
theorem dX9_count_39 : decode cX9_count 39 = .ok (.aload_n 0, 1) := by decide +kernel
theorem dX9_count_40 : decode cX9_count 40 = .ok (.getfield 107, 3) := by decide +kernel
theorem dX9_count_43 : decode cX9_count 43 = .ok (.goto 16, 3) := by decide +kernel
theorem dX9_count_46 : decode cX9_count 46 = .ok (.iload_n 1, 1) := by decide +kernel
theorem dX9_count_47 : decode cX9_count 47 = .ok (.iconst 3, 1) := by decide +kernel
theorem dX9_count_48 : decode cX9_count 48 = .ok (.if_icmp .ne 10, 3) := by decide +kernel
theorem dX9_count_51 : decode cX9_count 51 = .ok (.aload_n 0, 1) := by decide +kernel
theorem dX9_count_52 : decode cX9_count 52 = .ok (.getfield 154, 3) := by decide +kernel
theorem dX9_count_55 : decode cX9_count 55 = .ok (.goto 4, 3) := by decide +kernel
theorem dX9_count_58 : decode cX9_count 58 = .ok (.iconst (-1), 1) := by decide +kernel
theorem dX9_count_59 : decode cX9_count 59 = .ok (.ireturn, 1) := by decide +kernel
theorem dX9_count_60 : decode cX9_count 60 = .ok (.iconst 0, 1) := by decide +kernel
theorem dX9_count_61 : decode cX9_count 61 = .ok (.istore_n 2, 1) := by decide +kernel
theorem dX9_count_62 : decode cX9_count 62 = .ok (.iconst 0, 1) := by decide +kernel
theorem dX9_count_63 : decode cX9_count 63 = .ok (.istore_n 3, 1) := by decide +kernel
theorem dX9_count_64 : decode cX9_count 64 = .ok (.iload_n 3, 1) := by decide +kernel
theorem dX9_count_65 : decode cX9_count 65 = .ok (.aload_n 0, 1) := by decide +kernel
theorem dX9_count_66 : decode cX9_count 66 = .ok (.getfield 107, 3) := by decide +kernel
theorem dX9_count_69 : decode cX9_count 69 = .ok (.if_icmp .ge 29, 3) := by decide +kernel
theorem dX9_count_72 : decode cX9_count 72 = .ok (.iload_n 2, 1) := by decide +kernel
theorem dX9_count_73 : decode cX9_count 73 = .ok (.aload_n 0, 1) := by decide +kernel
theorem dX9_count_74 : decode cX9_count 74 = .ok (.getfield 69, 3) := by decide +kernel
theorem dX9_count_77 : decode cX9_count 77 = .ok (.iload_n 3, 1) := by decide +kernel
theorem dX9_count_78 : decode cX9_count 78 = .ok (.iaload, 1) := by decide +kernel
theorem dX9_count_79 : decode cX9_count 79 = .ok (.iload_n 1, 1) := by decide +kernel
theorem dX9_count_80 : decode cX9_count 80 = .ok (.iconst 4, 1) := by decide +kernel
theorem dX9_count_81 : decode cX9_count 81 = .ok (.isub, 1) := by decide +kernel
theorem dX9_count_82 : decode cX9_count 82 = .ok (.if_icmp .ne 7, 3) := by decide +kernel
theorem dX9_count_85 : decode cX9_count 85 = .ok (.iconst 1, 1) := by decide +kernel
theorem dX9_count_86 : decode cX9_count 86 = .ok (.goto 4, 3) := by decide +kernel
theorem dX9_count_89 : decode cX9_count 89 = .ok (.iconst 0, 1) := by decide +kernel
theorem dX9_count_90 : decode cX9_count 90 = .ok (.iadd, 1) := by decide +kernel
theorem dX9_count_91 : decode cX9_count 91 = .ok (.istore_n 2, 1) := by decide +kernel
theorem dX9_count_92 : decode cX9_count 92 = .ok (.iinc 3 1, 3) := by decide +kernel
theorem dX9_count_95 : decode cX9_count 95 = .ok (.goto (-31), 3) := by decide +kernel
theorem dX9_count_98 : decode cX9_count 98 = .ok (.iload_n 2, 1) := by decide +kernel
theorem dX9_count_99 : decode cX9_count 99 = .ok (.ireturn, 1) := by decide +kernel
