theorem dX7_init_0 : decode cX7_init 0 = .ok (.aload_n 0, 1) := by decide +kernel
theorem dX7_init_1 : decode cX7_init 1 = .ok (.invokespecial 1, 3) := by decide +kernel
theorem dX7_init_4 : decode cX7_init 4 = .ok (.aload_n 0, 1) := by decide +kernel
theorem dX7_init_5 : decode cX7_init 5 = .ok (.bipush 121, 2) := by decide +kernel
theorem dX7_init_7 : decode cX7_init 7 = .ok (.newarray .byte, 2) := by decide +kernel
theorem dX7_init_9 : decode cX7_init 9 = .ok (.putfield 7, 3) := by decide +kernel
theorem dX7_init_12 : decode cX7_init 12 = .ok (.aload_n 0, 1) := by decide +kernel
theorem dX7_init_13 : decode cX7_init 13 = .ok (.iconst 1, 1) := by decide +kernel
theorem dX7_init_14 : decode cX7_init 14 = .ok (.putfield 13, 3) := by decide +kernel
theorem dX7_init_17 : decode cX7_init 17 = .ok (.aload_n 0, 1) := by decide +kernel
theorem dX7_init_18 : decode cX7_init 18 = .ok (.bipush 121, 2) := by decide +kernel
theorem dX7_init_20 : decode cX7_init 20 = .ok (.newarray .int, 2) := by decide +kernel
theorem dX7_init_22 : decode cX7_init 22 = .ok (.putfield 17, 3) := by decide +kernel
theorem dX7_init_25 : decode cX7_init 25 = .ok (.aload_n 0, 1) := by decide +kernel
theorem dX7_init_26 : decode cX7_init 26 = .ok (.sipush 8000, 3) := by decide +kernel
theorem dX7_init_29 : decode cX7_init 29 = .ok (.newarray .int, 2) := by decide +kernel
theorem dX7_init_31 : decode cX7_init 31 = .ok (.putfield 21, 3) := by decide +kernel
theorem dX7_init_34 : decode cX7_init 34 = .ok (.aload_n 0, 1) := by decide +kernel
theorem dX7_init_35 : decode cX7_init 35 = .ok (.sipush 8000, 3) := by decide +kernel
theorem dX7_init_38 : decode cX7_init 38 = .ok (.newarray .int, 2) := by decide +kernel
theorem dX7_init_40 : decode cX7_init 40 = .ok (.putfield 24, 3) := by decide +kernel
theorem dX7_init_43 : decode cX7_init 43 = .ok (.aload_n 0, 1) := by decide +kernel
theorem dX7_init_44 : decode cX7_init 44 = .ok (.sipush 8000, 3) := by decide +kernel
theorem dX7_init_47 : decode cX7_init 47 = .ok (.newarray .int, 2) := by decide +kernel
theorem dX7_init_49 : decode cX7_init 49 = .ok (.putfield 27, 3) := by decide +kernel
theorem dX7_init_52 : decode cX7_init 52 = .ok (.aload_n 0, 1) := by decide +kernel
theorem dX7_init_53 : decode cX7_init 53 = .ok (.sipush 8000, 3) := by decide +kernel
theorem dX7_init_56 : decode cX7_init 56 = .ok (.newarray .int, 2) := by decide +kernel
theorem dX7_init_58 : decode cX7_init 58 = .ok (.putfield 30, 3) := by decide +kernel
theorem dX7_init_61 : decode cX7_init 61 = .ok (.aload_n 0, 1) := by decide +kernel
theorem dX7_init_62 : decode cX7_init 62 = .ok (.sipush 8000, 3) := by decide +kernel
theorem dX7_init_65 : decode cX7_init 65 = .ok (.newarray .int, 2) := by decide +kernel
theorem dX7_init_67 : decode cX7_init 67 = .ok (.putfield 33, 3) := by decide +kernel
theorem dX7_init_70 : decode cX7_init 70 = .ok (.aload_n 0, 1) := by decide +kernel
theorem dX7_init_71 : decode cX7_init 71 = .ok (.sipush 8000, 3) := by decide +kernel
theorem dX7_init_74 : decode cX7_init 74 = .ok (.newarray .int, 2) := by decide +kernel
theorem dX7_init_76 : decode cX7_init 76 = .ok (.putfield 36, 3) := by decide +kernel
theorem dX7_init_79 : decode cX7_init 79 = .ok (.aload_n 0, 1) := by decide +kernel
theorem dX7_init_80 : decode cX7_init 80 = .ok (.sipush 8000, 3) := by decide +kernel
theorem dX7_init_83 : decode cX7_init 83 = .ok (.newarray .int, 2) := by decide +kernel
theorem dX7_init_85 : decode cX7_init 85 = .ok (.putfield 39, 3) := by decide +kernel
theorem dX7_init_88 : decode cX7_init 88 = .ok (.aload_n 0, 1) := by decide +kernel
theorem dX7_init_89 : decode cX7_init 89 = .ok (.sipush 8000, 3) := by decide +kernel
theorem dX7_init_92 : decode cX7_init 92 = .ok (.newarray .int, 2) := by decide +kernel
theorem dX7_init_94 : decode cX7_init 94 = .ok (.putfield 42, 3) := by decide +kernel
theorem dX7_init_97 : decode cX7_init 97 = .ok (.aload_n 0, 1) := by decide +kernel
theorem dX7_init_98 : decode cX7_init 98 = .ok (.sipush 8000, 3) := by decide +kernel
theorem dX7_init_101 : decode cX7_init 101 = .ok (.newarray .int, 2) := by decide +kernel
theorem dX7_init_103 : decode cX7_init 103 = .ok (.putfield 45, 3) := by decide +kernel
theorem dX7_init_106 : decode cX7_init 106 = .ok (.aload_n 0, 1) := by decide +kernel
theorem dX7_init_107 : decode cX7_init 107 = .ok (.sipush 8000, 3) := by decide +kernel
theorem dX7_init_110 : decode cX7_init 110 = .ok (.newarray .int, 2) := by decide +kernel
theorem dX7_init_112 : decode cX7_init 112 = .ok (.putfield 48, 3) := by decide +kernel
theorem dX7_init_115 : decode cX7_init 115 = .ok (.aload_n 0, 1) := by decide +kernel
theorem dX7_init_116 : decode cX7_init 116 = .ok (.bipush 121, 2) := by decide +kernel
theorem dX7_init_118 : decode cX7_init 118 = .ok (.newarray .boolean, 2) := by decide +kernel
theorem dX7_init_120 : decode cX7_init 120 = .ok (.putfield 51, 3) := by decide +kernel
theorem dX7_init_123 : decode cX7_init 123 = .ok (.aload_n 0, 1) := by decide +kernel
theorem dX7_init_124 : decode cX7_init 124 = .ok (.bipush 121, 2) := by decide +kernel
theorem dX7_init_126 : decode cX7_init 126 = .ok (.newarray .int, 2) := by decide +kernel
theorem dX7_init_128 : decode cX7_init 128 = .ok (.putfield 55, 3) := by decide +kernel
theorem dX7_init_131 : decode cX7_init 131 = .ok (.aload_n 0, 1) := by decide +kernel
theorem dX7_init_132 : decode cX7_init 132 = .ok (.sipush 8200, 3) := by decide +kernel
theorem dX7_init_135 : decode cX7_init 135 = .ok (.newarray .int, 2) := by decide +kernel
theorem dX7_init_137 : decode cX7_init 137 = .ok (.putfield 58, 3) := by decide +kernel
theorem dX7_init_140 : decode cX7_init 140 = .ok (.aload_n 0, 1) := by decide +kernel
theorem dX7_init_141 : decode cX7_init 141 = .ok (.sipush 8200, 3) := by decide +kernel
theorem dX7_init_144 : decode cX7_init 144 = .ok (.newarray .int, 2) := by decide +kernel
theorem dX7_init_146 : decode cX7_init 146 = .ok (.putfield 61, 3) := by decide +kernel
theorem dX7_init_149 : decode cX7_init 149 = .ok (.aload_n 0, 1) := by decide +kernel
theorem dX7_init_150 : decode cX7_init 150 = .ok (.sipush 8001, 3) := by decide +kernel
theorem dX7_init_153 : decode cX7_init 153 = .ok (.newarray .int, 2) := by decide +kernel
theorem dX7_init_155 : decode cX7_init 155 = .ok (.putfield 64, 3) := by decide +kernel
theorem dX7_init_158 : decode cX7_init 158 = .ok (.aload_n 0, 1) := by decide +kernel
theorem dX7_init_159 : decode cX7_init 159 = .ok (.sipush 8000, 3) := by decide +kernel
theorem dX7_init_162 : decode cX7_init 162 = .ok (.newarray .int, 2) := by decide +kernel
theorem dX7_init_164 : decode cX7_init 164 = .ok (.putfield 67, 3) := by decide +kernel
theorem dX7_init_167 : decode cX7_init 167 = .ok (.aload_n 0, 1) := by decide +kernel
theorem dX7_init_168 : decode cX7_init 168 = .ok (.bipush 122, 2) := by decide +kernel
theorem dX7_init_170 : decode cX7_init 170 = .ok (.newarray .int, 2) := by decide +kernel
theorem dX7_init_172 : decode cX7_init 172 = .ok (.putfield 70, 3) := by decide +kernel
theorem dX7_init_175 : decode cX7_init 175 = .ok (.aload_n 0, 1) := by decide +kernel
theorem dX7_init_176 : decode cX7_init 176 = .ok (.iload_n 1, 1) := by decide +kernel
theorem dX7_init_177 : decode cX7_init 177 = .ok (.iconst 1, 1) := by decide +kernel
theorem dX7_init_178 : decode cX7_init 178 = .ok (.if_icmp .ge 7, 3) := by decide +kernel
theorem dX7_init_181 : decode cX7_init 181 = .ok (.iconst 1, 1) := by decide +kernel
theorem dX7_init_182 : decode cX7_init 182 = .ok (.goto 15, 3) := by decide +kernel
theorem dX7_init_185 : decode cX7_init 185 = .ok (.iload_n 1, 1) := by decide +kernel
theorem dX7_init_186 : decode cX7_init 186 = .ok (.bipush 11, 2) := by decide +kernel
theorem dX7_init_188 : decode cX7_init 188 = .ok (.if_icmp .le 8, 3) := by decide +kernel
theorem dX7_init_191 : decode cX7_init 191 = .ok (.bipush 11, 2) := by decide +kernel
theorem dX7_init_193 : decode cX7_init 193 = .ok (.goto 4, 3) := by decide +kernel
theorem dX7_init_196 : decode cX7_init 196 = .ok (.iload_n 1, 1) := by decide +kernel
theorem dX7_init_197 : decode cX7_init 197 = .ok (.putfield 73, 3) := by decide +kernel
theorem dX7_init_200 : decode cX7_init 200 = .ok (.aload_n 0, 1) := by decide +kernel
theorem dX7_init_201 : decode cX7_init 201 = .ok (.aload_n 0, 1) := by decide +kernel
theorem dX7_init_202 : decode cX7_init 202 = .ok (.getfield 73, 3) := by decide +kernel
theorem dX7_init_205 : decode cX7_init 205 = .ok (.aload_n 0, 1) := by decide +kernel
theorem dX7_init_206 : decode cX7_init 206 = .ok (.getfield 73, 3) := by decide +kernel
theorem dX7_init_209 : decode cX7_init 209 = .ok (.imul, 1) := by decide +kernel
theorem dX7_init_210 : decode cX7_init 210 = .ok (.putfield 76, 3) := by decide +kernel
theorem dX7_init_213 : decode cX7_init 213 = .ok (.return_, 1) := by decide +kernel
theorem dX7_isCell_0 : decode cX7_isCell 0 = .ok (.iload_n 1, 1) := by decide +kernel
theorem dX7_isCell_1 : decode cX7_isCell 1 = .ok (.ifCond .lt 27, 3) := by decide +kernel
theorem dX7_isCell_4 : decode cX7_isCell 4 = .ok (.iload_n 2, 1) := by decide +kernel
theorem dX7_isCell_5 : decode cX7_isCell 5 = .ok (.ifCond .lt 23, 3) := by decide +kernel
theorem dX7_isCell_8 : decode cX7_isCell 8 = .ok (.iload_n 1, 1) := by decide +kernel
theorem dX7_isCell_9 : decode cX7_isCell 9 = .ok (.aload_n 0, 1) := by decide +kernel
theorem dX7_isCell_10 : decode cX7_isCell 10 = .ok (.getfield 73, 3) := by decide +kernel
theorem dX7_isCell_13 : decode cX7_isCell 13 = .ok (.if_icmp .ge 15, 3) := by decide +kernel
theorem dX7_isCell_16 : decode cX7_isCell 16 = .ok (.iload_n 2, 1) := by decide +kernel
theorem dX7_isCell_17 : decode cX7_isCell 17 = .ok (.aload_n 0, 1) := by decide +kernel
theorem dX7_isCell_18 : decode cX7_isCell 18 = .ok (.getfield 73, 3) := by decide +kernel
theorem dX7_isCell_21 : decode cX7_isCell 21 = .ok (.if_icmp .ge 7, 3) := by decide +kernel
theorem dX7_isCell_24 : decode cX7_isCell 24 = .ok (.iconst 1, 1) := by decide +kernel
theorem dX7_isCell_25 : decode cX7_isCell 25 = .ok (.goto 4, 3) := by decide +kernel
theorem dX7_isCell_28 : decode cX7_isCell 28 = .ok (.iconst 0, 1) := by decide +kernel
theorem dX7_isCell_29 : decode cX7_isCell 29 = .ok (.ireturn, 1) := by decide +kernel
theorem dX7_neighbour_0 : decode cX7_neighbour 0 = .ok (.iload_n 1, 1) := by decide +kernel
theorem dX7_neighbour_1 : decode cX7_neighbour 1 = .ok (.aload_n 0, 1) := by decide +kernel
theorem dX7_neighbour_2 : decode cX7_neighbour 2 = .ok (.getfield 73, 3) := by decide +kernel
theorem dX7_neighbour_5 : decode cX7_neighbour 5 = .ok (.irem, 1) := by decide +kernel
theorem dX7_neighbour_6 : decode cX7_neighbour 6 = .ok (.iload_n 2, 1) := by decide +kernel
theorem dX7_neighbour_7 : decode cX7_neighbour 7 = .ok (.ifCond .eq 8, 3) := by decide +kernel
theorem dX7_neighbour_10 : decode cX7_neighbour 10 = .ok (.iload_n 2, 1) := by decide +kernel
theorem dX7_neighbour_11 : decode cX7_neighbour 11 = .ok (.iconst 5, 1) := by decide +kernel
theorem dX7_neighbour_12 : decode cX7_neighbour 12 = .ok (.if_icmp .ne 7, 3) := by decide +kernel
theorem dX7_neighbour_15 : decode cX7_neighbour 15 = .ok (.iconst (-1), 1) := by decide +kernel
theorem dX7_neighbour_16 : decode cX7_neighbour 16 = .ok (.goto 18, 3) := by decide +kernel
theorem dX7_neighbour_19 : decode cX7_neighbour 19 = .ok (.iload_n 2, 1) := by decide +kernel
theorem dX7_neighbour_20 : decode cX7_neighbour 20 = .ok (.iconst 1, 1) := by decide +kernel
theorem dX7_neighbour_21 : decode cX7_neighbour 21 = .ok (.if_icmp .eq 8, 3) := by decide +kernel
theorem dX7_neighbour_24 : decode cX7_neighbour 24 = .ok (.iload_n 2, 1) := by decide +kernel
theorem dX7_neighbour_25 : decode cX7_neighbour 25 = .ok (.iconst 4, 1) := by decide +kernel
theorem dX7_neighbour_26 : decode cX7_neighbour 26 = .ok (.if_icmp .ne 7, 3) := by decide +kernel
theorem dX7_neighbour_29 : decode cX7_neighbour 29 = .ok (.iconst 1, 1) := by decide +kernel
theorem dX7_neighbour_30 : decode cX7_neighbour 30 = .ok (.goto 4, 3) := by decide +kernel
theorem dX7_neighbour_33 : decode cX7_neighbour 33 = .ok (.iconst 0, 1) := by decide +kernel
theorem dX7_neighbour_34 : decode cX7_neighbour 34 = .ok (.iadd, 1) := by decide +kernel
theorem dX7_neighbour_35 : decode cX7_neighbour 35 = .ok (.istore_n 3, 1) := by decide +kernel
theorem dX7_neighbour_36 : decode cX7_neighbour 36 = .ok (.iload_n 1, 1) := by decide +kernel
theorem dX7_neighbour_37 : decode cX7_neighbour 37 = .ok (.aload_n 0, 1) := by decide +kernel
theorem dX7_neighbour_38 : decode cX7_neighbour 38 = .ok (.getfield 73, 3) := by decide +kernel
theorem dX7_neighbour_41 : decode cX7_neighbour 41 = .ok (.idiv, 1) := by decide +kernel
theorem dX7_neighbour_42 : decode cX7_neighbour 42 = .ok (.iload_n 2, 1) := by decide +kernel
theorem dX7_neighbour_43 : decode cX7_neighbour 43 = .ok (.iconst 2, 1) := by decide +kernel
theorem dX7_neighbour_44 : decode cX7_neighbour 44 = .ok (.if_icmp .eq 8, 3) := by decide +kernel
theorem dX7_neighbour_47 : decode cX7_neighbour 47 = .ok (.iload_n 2, 1) := by decide +kernel
theorem dX7_neighbour_48 : decode cX7_neighbour 48 = .ok (.iconst 4, 1) := by decide +kernel
theorem dX7_neighbour_49 : decode cX7_neighbour 49 = .ok (.if_icmp .ne 7, 3) := by decide +kernel
theorem dX7_neighbour_52 : decode cX7_neighbour 52 = .ok (.iconst (-1), 1) := by decide +kernel
theorem dX7_neighbour_53 : decode cX7_neighbour 53 = .ok (.goto 18, 3) := by decide +kernel
theorem dX7_neighbour_56 : decode cX7_neighbour 56 = .ok (.iload_n 2, 1) := by decide +kernel
theorem dX7_neighbour_57 : decode cX7_neighbour 57 = .ok (.iconst 3, 1) := by decide +kernel
theorem dX7_neighbour_58 : decode cX7_neighbour 58 = .ok (.if_icmp .eq 8, 3) := by decide +kernel
theorem dX7_neighbour_61 : decode cX7_neighbour 61 = .ok (.iload_n 2, 1) := by decide +kernel
theorem dX7_neighbour_62 : decode cX7_neighbour 62 = .ok (.iconst 5, 1) := by decide +kernel
theorem dX7_neighbour_63 : decode cX7_neighbour 63 = .ok (.if_icmp .ne 7, 3) := by decide +kernel
theorem dX7_neighbour_66 : decode cX7_neighbour 66 = .ok (.iconst 1, 1) := by decide +kernel
theorem dX7_neighbour_67 : decode cX7_neighbour 67 = .ok (.goto 4, 3) := by decide +kernel
theorem dX7_neighbour_70 : decode cX7_neighbour 70 = .ok (.iconst 0, 1) := by decide +kernel
theorem dX7_neighbour_71 : decode cX7_neighbour 71 = .ok (.iadd, 1) := by decide +kernel
theorem dX7_neighbour_72 : decode cX7_neighbour 72 = .ok (.istore 4, 2) := by decide +kernel
theorem dX7_neighbour_74 : decode cX7_neighbour 74 = .ok (.aload_n 0, 1) := by decide +kernel
theorem dX7_neighbour_75 : decode cX7_neighbour 75 = .ok (.iload_n 3, 1) := by decide +kernel
theorem dX7_neighbour_76 : decode cX7_neighbour 76 = .ok (.iload 4, 2) := by decide +kernel
theorem dX7_neighbour_78 : decode cX7_neighbour 78 = .ok (.invokevirtual 79, 3) := by decide +kernel
theorem dX7_neighbour_81 : decode cX7_neighbour 81 = .ok (.ifCond .eq 15, 3) := by decide +kernel
theorem dX7_neighbour_84 : decode cX7_neighbour 84 = .ok (.aload_n 0, 1) := by decide +kernel
theorem dX7_neighbour_85 : decode cX7_neighbour 85 = .ok (.getfield 73, 3) := by decide +kernel
theorem dX7_neighbour_88 : decode cX7_neighbour 88 = .ok (.iload 4, 2) := by decide +kernel
theorem dX7_neighbour_90 : decode cX7_neighbour 90 = .ok (.imul, 1) := by decide +kernel
theorem dX7_neighbour_91 : decode cX7_neighbour 91 = .ok (.iload_n 3, 1) := by decide +kernel
theorem dX7_neighbour_92 : decode cX7_neighbour 92 = .ok (.iadd, 1) := by decide +kernel
theorem dX7_neighbour_93 : decode cX7_neighbour 93 = .ok (.goto 4, 3) := by decide +kernel
theorem dX7_neighbour_96 : decode cX7_neighbour 96 = .ok (.iconst (-1), 1) := by decide +kernel
theorem dX7_neighbour_97 : decode cX7_neighbour 97 = .ok (.ireturn, 1) := by decide +kernel
theorem dX7_forget_0 : decode cX7_forget 0 = .ok (.iconst 0, 1) := by decide +kernel
theorem dX7_forget_1 : decode cX7_forget 1 = .ok (.istore_n 1, 1) := by decide +kernel
theorem dX7_forget_2 : decode cX7_forget 2 = .ok (.iload_n 1, 1) := by decide +kernel
theorem dX7_forget_3 : decode cX7_forget 3 = .ok (.bipush 121, 2) := by decide +kernel
theorem dX7_forget_5 : decode cX7_forget 5 = .ok (.if_icmp .ge 16, 3) := by decide +kernel
theorem dX7_forget_8 : decode cX7_forget 8 = .ok (.aload_n 0, 1) := by decide +kernel
theorem dX7_forget_9 : decode cX7_forget 9 = .ok (.getfield 51, 3) := by decide +kernel
theorem dX7_forget_12 : decode cX7_forget 12 = .ok (.iload_n 1, 1) := by decide +kernel
theorem dX7_forget_13 : decode cX7_forget 13 = .ok (.iconst 0, 1) := by decide +kernel
theorem dX7_forget_14 : decode cX7_forget 14 = .ok (.bastore, 1) := by decide +kernel
theorem dX7_forget_15 : decode cX7_forget 15 = .ok (.iinc 1 1, 3) := by decide +kernel
theorem dX7_forget_18 : decode cX7_forget 18 = .ok (.goto (-16), 3) := by decide +kernel
theorem dX7_forget_21 : decode cX7_forget 21 = .ok (.aload_n 0, 1) := by decide +kernel
theorem dX7_forget_22 : decode cX7_forget 22 = .ok (.iconst 0, 1) := by decide +kernel
theorem dX7_forget_23 : decode cX7_forget 23 = .ok (.putfield 83, 3) := by decide +kernel
theorem dX7_forget_26 : decode cX7_forget 26 = .ok (.return_, 1) := by decide +kernel
theorem dX7_reach_0 : decode cX7_reach 0 = .ok (.aload_n 0, 1) := by decide +kernel
theorem dX7_reach_1 : decode cX7_reach 1 = .ok (.getfield 51, 3) := by decide +kernel
theorem dX7_reach_4 : decode cX7_reach 4 = .ok (.iload_n 1, 1) := by decide +kernel
theorem dX7_reach_5 : decode cX7_reach 5 = .ok (.baload, 1) := by decide +kernel
theorem dX7_reach_6 : decode cX7_reach 6 = .ok (.ifCond .eq 4, 3) := by decide +kernel
theorem dX7_reach_9 : decode cX7_reach 9 = .ok (.return_, 1) := by decide +kernel
theorem dX7_reach_10 : decode cX7_reach 10 = .ok (.aload_n 0, 1) := by decide +kernel
theorem dX7_reach_11 : decode cX7_reach 11 = .ok (.getfield 51, 3) := by decide +kernel
theorem dX7_reach_14 : decode cX7_reach 14 = .ok (.iload_n 1, 1) := by decide +kernel
theorem dX7_reach_15 : decode cX7_reach 15 = .ok (.iconst 1, 1) := by decide +kernel
theorem dX7_reach_16 : decode cX7_reach 16 = .ok (.bastore, 1) := by decide +kernel
theorem dX7_reach_17 : decode cX7_reach 17 = .ok (.aload_n 0, 1) := by decide +kernel
theorem dX7_reach_18 : decode cX7_reach 18 = .ok (.getfield 55, 3) := by decide +kernel
theorem dX7_reach_21 : decode cX7_reach 21 = .ok (.aload_n 0, 1) := by decide +kernel
theorem dX7_reach_22 : decode cX7_reach 22 = .ok (.getfield 83, 3) := by decide +kernel
theorem dX7_reach_25 : decode cX7_reach 25 = .ok (.iload_n 1, 1) := by decide +kernel
theorem dX7_reach_26 : decode cX7_reach 26 = .ok (.iastore, 1) := by decide +kernel
theorem dX7_reach_27 : decode cX7_reach 27 = .ok (.aload_n 0, 1) := by decide +kernel
theorem dX7_reach_28 : decode cX7_reach 28 = .ok (.dup, 1) := by decide +kernel
theorem dX7_reach_29 : decode cX7_reach 29 = .ok (.getfield 83, 3) := by decide +kernel
theorem dX7_reach_32 : decode cX7_reach 32 = .ok (.iconst 1, 1) := by decide +kernel
theorem dX7_reach_33 : decode cX7_reach 33 = .ok (.iadd, 1) := by decide +kernel
theorem dX7_reach_34 : decode cX7_reach 34 = .ok (.putfield 83, 3) := by decide +kernel
theorem dX7_reach_37 : decode cX7_reach 37 = .ok (.return_, 1) := by decide +kernel
theorem dX7_spread_0 : decode cX7_spread 0 = .ok (.iconst 0, 1) := by decide +kernel
theorem dX7_spread_1 : decode cX7_spread 1 = .ok (.istore_n 2, 1) := by decide +kernel
theorem dX7_spread_2 : decode cX7_spread 2 = .ok (.iload_n 2, 1) := by decide +kernel
theorem dX7_spread_3 : decode cX7_spread 3 = .ok (.aload_n 0, 1) := by decide +kernel
theorem dX7_spread_4 : decode cX7_spread 4 = .ok (.getfield 83, 3) := by decide +kernel
theorem dX7_spread_7 : decode cX7_spread 7 = .ok (.if_icmp .ge 58, 3) := by decide +kernel
theorem dX7_spread_10 : decode cX7_spread 10 = .ok (.iconst 0, 1) := by decide +kernel
theorem dX7_spread_11 : decode cX7_spread 11 = .ok (.istore_n 3, 1) := by decide +kernel
theorem dX7_spread_12 : decode cX7_spread 12 = .ok (.iload_n 3, 1) := by decide +kernel
theorem dX7_spread_13 : decode cX7_spread 13 = .ok (.bipush 6, 2) := by decide +kernel
theorem dX7_spread_15 : decode cX7_spread 15 = .ok (.if_icmp .ge 44, 3) := by decide +kernel
theorem dX7_spread_18 : decode cX7_spread 18 = .ok (.aload_n 0, 1) := by decide +kernel
theorem dX7_spread_19 : decode cX7_spread 19 = .ok (.aload_n 0, 1) := by decide +kernel
theorem dX7_spread_20 : decode cX7_spread 20 = .ok (.getfield 55, 3) := by decide +kernel
theorem dX7_spread_23 : decode cX7_spread 23 = .ok (.iload_n 2, 1) := by decide +kernel
theorem dX7_spread_24 : decode cX7_spread 24 = .ok (.iaload, 1) := by decide +kernel
theorem dX7_spread_25 : decode cX7_spread 25 = .ok (.iload_n 3, 1) := by decide +kernel
theorem dX7_spread_26 : decode cX7_spread 26 = .ok (.invokevirtual 86, 3) := by decide +kernel
theorem dX7_spread_29 : decode cX7_spread 29 = .ok (.istore 4, 2) := by decide +kernel
theorem dX7_spread_31 : decode cX7_spread 31 = .ok (.iload 4, 2) := by decide +kernel
theorem dX7_spread_33 : decode cX7_spread 33 = .ok (.ifCond .lt 20, 3) := by decide +kernel
theorem dX7_spread_36 : decode cX7_spread 36 = .ok (.aload_n 0, 1) := by decide +kernel
theorem dX7_spread_37 : decode cX7_spread 37 = .ok (.getfield 7, 3) := by decide +kernel
theorem dX7_spread_40 : decode cX7_spread 40 = .ok (.iload 4, 2) := by decide +kernel
theorem dX7_spread_42 : decode cX7_spread 42 = .ok (.baload, 1) := by decide +kernel
theorem dX7_spread_43 : decode cX7_spread 43 = .ok (.iload_n 1, 1) := by decide +kernel
theorem dX7_spread_44 : decode cX7_spread 44 = .ok (.if_icmp .ne 9, 3) := by decide +kernel
theorem dX7_spread_47 : decode cX7_spread 47 = .ok (.aload_n 0, 1) := by decide +kernel
theorem dX7_spread_48 : decode cX7_spread 48 = .ok (.iload 4, 2) := by decide +kernel
theorem dX7_spread_50 : decode cX7_spread 50 = .ok (.invokevirtual 90, 3) := by decide +kernel
theorem dX7_spread_53 : decode cX7_spread 53 = .ok (.iinc 3 1, 3) := by decide +kernel
theorem dX7_spread_56 : decode cX7_spread 56 = .ok (.goto (-44), 3) := by decide +kernel
theorem dX7_spread_59 : decode cX7_spread 59 = .ok (.iinc 2 1, 3) := by decide +kernel
theorem dX7_spread_62 : decode cX7_spread 62 = .ok (.goto (-60), 3) := by decide +kernel
theorem dX7_spread_65 : decode cX7_spread 65 = .ok (.return_, 1) := by decide +kernel
theorem dX7_isWon_0 : decode cX7_isWon 0 = .ok (.aload_n 0, 1) := by decide +kernel
theorem dX7_isWon_1 : decode cX7_isWon 1 = .ok (.invokevirtual 94, 3) := by decide +kernel
theorem dX7_isWon_4 : decode cX7_isWon 4 = .ok (.iconst 0, 1) := by decide +kernel
theorem dX7_isWon_5 : decode cX7_isWon 5 = .ok (.istore_n 2, 1) := by decide +kernel
theorem dX7_isWon_6 : decode cX7_isWon 6 = .ok (.iload_n 2, 1) := by decide +kernel
theorem dX7_isWon_7 : decode cX7_isWon 7 = .ok (.aload_n 0, 1) := by decide +kernel
theorem dX7_isWon_8 : decode cX7_isWon 8 = .ok (.getfield 73, 3) := by decide +kernel
theorem dX7_isWon_11 : decode cX7_isWon 11 = .ok (.if_icmp .ge 40, 3) := by decide +kernel
theorem dX7_isWon_14 : decode cX7_isWon 14 = .ok (.iload_n 1, 1) := by decide +kernel
theorem dX7_isWon_15 : decode cX7_isWon 15 = .ok (.iconst 1, 1) := by decide +kernel
theorem dX7_isWon_16 : decode cX7_isWon 16 = .ok (.if_icmp .ne 7, 3) := by decide +kernel
theorem dX7_isWon_19 : decode cX7_isWon 19 = .ok (.iload_n 2, 1) := by decide +kernel
theorem dX7_isWon_20 : decode cX7_isWon 20 = .ok (.goto 9, 3) := by decide +kernel
theorem dX7_isWon_23 : decode cX7_isWon 23 = .ok (.aload_n 0, 1) := by decide +kernel
theorem dX7_isWon_24 : decode cX7_isWon 24 = .ok (.getfield 73, 3) := by decide +kernel
theorem dX7_isWon_27 : decode cX7_isWon 27 = .ok (.iload_n 2, 1) := by decide +kernel
theorem dX7_isWon_28 : decode cX7_isWon 28 = .ok (.imul, 1) := by decide +kernel
theorem dX7_isWon_29 : decode cX7_isWon 29 = .ok (.istore_n 3, 1) := by decide +kernel
theorem dX7_isWon_30 : decode cX7_isWon 30 = .ok (.aload_n 0, 1) := by decide +kernel
theorem dX7_isWon_31 : decode cX7_isWon 31 = .ok (.getfield 7, 3) := by decide +kernel
theorem dX7_isWon_34 : decode cX7_isWon 34 = .ok (.iload_n 3, 1) := by decide +kernel
theorem dX7_isWon_35 : decode cX7_isWon 35 = .ok (.baload, 1) := by decide +kernel
theorem dX7_isWon_36 : decode cX7_isWon 36 = .ok (.iload_n 1, 1) := by decide +kernel
theorem dX7_isWon_37 : decode cX7_isWon 37 = .ok (.if_icmp .ne 8, 3) := by decide +kernel
theorem dX7_isWon_40 : decode cX7_isWon 40 = .ok (.aload_n 0, 1) := by decide +kernel
theorem dX7_isWon_41 : decode cX7_isWon 41 = .ok (.iload_n 3, 1) := by decide +kernel
theorem dX7_isWon_42 : decode cX7_isWon 42 = .ok (.invokevirtual 90, 3) := by decide +kernel
theorem dX7_isWon_45 : decode cX7_isWon 45 = .ok (.iinc 2 1, 3) := by decide +kernel
theorem dX7_isWon_48 : decode cX7_isWon 48 = .ok (.goto (-42), 3) := by decide +kernel
theorem dX7_isWon_51 : decode cX7_isWon 51 = .ok (.aload_n 0, 1) := by decide +kernel
theorem dX7_isWon_52 : decode cX7_isWon 52 = .ok (.iload_n 1, 1) := by decide +kernel
theorem dX7_isWon_53 : decode cX7_isWon 53 = .ok (.invokevirtual 97, 3) := by decide +kernel
theorem dX7_isWon_56 : decode cX7_isWon 56 = .ok (.iconst 0, 1) := by decide +kernel
theorem dX7_isWon_57 : decode cX7_isWon 57 = .ok (.istore_n 2, 1) := by decide +kernel
theorem dX7_isWon_58 : decode cX7_isWon 58 = .ok (.iconst 0, 1) := by decide +kernel
theorem dX7_isWon_59 : decode cX7_isWon 59 = .ok (.istore_n 3, 1) := by decide +kernel
theorem dX7_isWon_60 : decode cX7_isWon 60 = .ok (.iload_n 3, 1) := by decide +kernel
theorem dX7_isWon_61 : decode cX7_isWon 61 = .ok (.aload_n 0, 1) := by decide +kernel
theorem dX7_isWon_62 : decode cX7_isWon 62 = .ok (.getfield 73, 3) := by decide +kernel
theorem dX7_isWon_65 : decode cX7_isWon 65 = .ok (.if_icmp .ge 49, 3) := by decide +kernel
theorem dX7_isWon_68 : decode cX7_isWon 68 = .ok (.iload_n 2, 1) := by decide +kernel
theorem dX7_isWon_69 : decode cX7_isWon 69 = .ok (.aload_n 0, 1) := by decide +kernel
theorem dX7_isWon_70 : decode cX7_isWon 70 = .ok (.getfield 51, 3) := by decide +kernel
theorem dX7_isWon_73 : decode cX7_isWon 73 = .ok (.iload_n 1, 1) := by decide +kernel
theorem dX7_isWon_74 : decode cX7_isWon 74 = .ok (.iconst 1, 1) := by decide +kernel
theorem dX7_isWon_75 : decode cX7_isWon 75 = .ok (.if_icmp .ne 17, 3) := by decide +kernel
theorem dX7_isWon_78 : decode cX7_isWon 78 = .ok (.aload_n 0, 1) := by decide +kernel
theorem dX7_isWon_79 : decode cX7_isWon 79 = .ok (.getfield 76, 3) := by decide +kernel
theorem dX7_isWon_82 : decode cX7_isWon 82 = .ok (.aload_n 0, 1) := by decide +kernel
theorem dX7_isWon_83 : decode cX7_isWon 83 = .ok (.getfield 73, 3) := by decide +kernel
theorem dX7_isWon_86 : decode cX7_isWon 86 = .ok (.isub, 1) := by decide +kernel
theorem dX7_isWon_87 : decode cX7_isWon 87 = .ok (.iload_n 3, 1) := by decide +kernel
theorem dX7_isWon_88 : decode cX7_isWon 88 = .ok (.iadd, 1) := by decide +kernel
theorem dX7_isWon_89 : decode cX7_isWon 89 = .ok (.goto 16, 3) := by decide +kernel
theorem dX7_isWon_92 : decode cX7_isWon 92 = .ok (.aload_n 0, 1) := by decide +kernel
theorem dX7_isWon_93 : decode cX7_isWon 93 = .ok (.getfield 73, 3) := by decide +kernel
theorem dX7_isWon_96 : decode cX7_isWon 96 = .ok (.iload_n 3, 1) := by decide +kernel
theorem dX7_isWon_97 : decode cX7_isWon 97 = .ok (.imul, 1) := by decide +kernel
theorem dX7_isWon_98 : decode cX7_isWon 98 = .ok (.aload_n 0, 1) := by decide +kernel
theorem dX7_isWon_99 : decode cX7_isWon 99 = .ok (.getfield 73, 3) := by decide +kernel
theorem dX7_isWon_102 : decode cX7_isWon 102 = .ok (.iadd, 1) := by decide +kernel
theorem dX7_isWon_103 : decode cX7_isWon 103 = .ok (.iconst 1, 1) := by decide +kernel
theorem dX7_isWon_104 : decode cX7_isWon 104 = .ok (.isub, 1) := by decide +kernel
theorem dX7_isWon_105 : decode cX7_isWon 105 = .ok (.baload, 1) := by decide +kernel
theorem dX7_isWon_106 : decode cX7_isWon 106 = .ok (.ior, 1) := by decide +kernel
theorem dX7_isWon_107 : decode cX7_isWon 107 = .ok (.istore_n 2, 1) := by decide +kernel
theorem dX7_isWon_108 : decode cX7_isWon 108 = .ok (.iinc 3 1, 3) := by decide +kernel
theorem dX7_isWon_111 : decode cX7_isWon 111 = .ok (.goto (-51), 3) := by decide +kernel
theorem dX7_isWon_114 : decode cX7_isWon 114 = .ok (.iload_n 2, 1) := by decide +kernel
theorem dX7_isWon_115 : decode cX7_isWon 115 = .ok (.ireturn, 1) := by decide +kernel
theorem dX7_winner_0 : decode cX7_winner 0 = .ok (.aload_n 0, 1) := by decide +kernel
theorem dX7_winner_1 : decode cX7_winner 1 = .ok (.iconst 1, 1) := by decide +kernel
theorem dX7_winner_2 : decode cX7_winner 2 = .ok (.invokevirtual 100, 3) := by decide +kernel
theorem dX7_winner_5 : decode cX7_winner 5 = .ok (.ifCond .eq 5, 3) := by decide +kernel
theorem dX7_winner_8 : decode cX7_winner 8 = .ok (.iconst 1, 1) := by decide +kernel
theorem dX7_winner_9 : decode cX7_winner 9 = .ok (.ireturn, 1) := by decide +kernel
theorem dX7_winner_10 : decode cX7_winner 10 = .ok (.aload_n 0, 1) := by decide +kernel
theorem dX7_winner_11 : decode cX7_winner 11 = .ok (.iconst 2, 1) := by decide +kernel
theorem dX7_winner_12 : decode cX7_winner 12 = .ok (.invokevirtual 100, 3) := by decide +kernel
theorem dX7_winner_15 : decode cX7_winner 15 = .ok (.ifCond .eq 7, 3) := by decide +kernel
theorem dX7_winner_18 : decode cX7_winner 18 = .ok (.iconst 2, 1) := by decide +kernel
theorem dX7_winner_19 : decode cX7_winner 19 = .ok (.goto 4, 3) := by decide +kernel
theorem dX7_winner_22 : decode cX7_winner 22 = .ok (.iconst 0, 1) := by decide +kernel
theorem dX7_winner_23 : decode cX7_winner 23 = .ok (.ireturn, 1) := by decide +kernel
theorem dX7_empty_0 : decode cX7_empty 0 = .ok (.iconst 0, 1) := by decide +kernel
theorem dX7_empty_1 : decode cX7_empty 1 = .ok (.istore_n 1, 1) := by decide +kernel
theorem dX7_empty_2 : decode cX7_empty 2 = .ok (.iconst 0, 1) := by decide +kernel
theorem dX7_empty_3 : decode cX7_empty 3 = .ok (.istore_n 2, 1) := by decide +kernel
theorem dX7_empty_4 : decode cX7_empty 4 = .ok (.iload_n 2, 1) := by decide +kernel
theorem dX7_empty_5 : decode cX7_empty 5 = .ok (.aload_n 0, 1) := by decide +kernel
theorem dX7_empty_6 : decode cX7_empty 6 = .ok (.getfield 76, 3) := by decide +kernel
theorem dX7_empty_9 : decode cX7_empty 9 = .ok (.if_icmp .ge 26, 3) := by decide +kernel
theorem dX7_empty_12 : decode cX7_empty 12 = .ok (.iload_n 1, 1) := by decide +kernel
theorem dX7_empty_13 : decode cX7_empty 13 = .ok (.aload_n 0, 1) := by decide +kernel
theorem dX7_empty_14 : decode cX7_empty 14 = .ok (.getfield 7, 3) := by decide +kernel
theorem dX7_empty_17 : decode cX7_empty 17 = .ok (.iload_n 2, 1) := by decide +kernel
theorem dX7_empty_18 : decode cX7_empty 18 = .ok (.baload, 1) := by decide +kernel
theorem dX7_empty_19 : decode cX7_empty 19 = .ok (.ifCond .ne 7, 3) := by decide +kernel
theorem dX7_empty_22 : decode cX7_empty 22 = .ok (.iconst 1, 1) := by decide +kernel
theorem dX7_empty_23 : decode cX7_empty 23 = .ok (.goto 4, 3) := by decide +kernel
theorem dX7_empty_26 : decode cX7_empty 26 = .ok (.iconst 0, 1) := by decide +kernel
theorem dX7_empty_27 : decode cX7_empty 27 = .ok (.iadd, 1) := by decide +kernel
theorem dX7_empty_28 : decode cX7_empty 28 = .ok (.istore_n 1, 1) := by decide +kernel
theorem dX7_empty_29 : decode cX7_empty 29 = .ok (.iinc 2 1, 3) := by decide +kernel
theorem dX7_empty_32 : decode cX7_empty 32 = .ok (.goto (-28), 3) := by decide +kernel
theorem dX7_empty_35 : decode cX7_empty 35 = .ok (.iload_n 1, 1) := by decide +kernel
theorem dX7_empty_36 : decode cX7_empty 36 = .ok (.ireturn, 1) := by decide +kernel
theorem dX7_chains_0 : decode cX7_chains 0 = .ok (.iconst 0, 1) := by decide +kernel
theorem dX7_chains_1 : decode cX7_chains 1 = .ok (.istore_n 1, 1) := by decide +kernel
theorem dX7_chains_2 : decode cX7_chains 2 = .ok (.iconst 0, 1) := by decide +kernel
theorem dX7_chains_3 : decode cX7_chains 3 = .ok (.istore_n 2, 1) := by decide +kernel
theorem dX7_chains_4 : decode cX7_chains 4 = .ok (.iload_n 2, 1) := by decide +kernel
theorem dX7_chains_5 : decode cX7_chains 5 = .ok (.aload_n 0, 1) := by decide +kernel
theorem dX7_chains_6 : decode cX7_chains 6 = .ok (.getfield 76, 3) := by decide +kernel
theorem dX7_chains_9 : decode cX7_chains 9 = .ok (.if_icmp .ge 35, 3) := by decide +kernel
theorem dX7_chains_12 : decode cX7_chains 12 = .ok (.iload_n 1, 1) := by decide +kernel
theorem dX7_chains_13 : decode cX7_chains 13 = .ok (.aload_n 0, 1) := by decide +kernel
theorem dX7_chains_14 : decode cX7_chains 14 = .ok (.getfield 7, 3) := by decide +kernel
theorem dX7_chains_17 : decode cX7_chains 17 = .ok (.iload_n 2, 1) := by decide +kernel
theorem dX7_chains_18 : decode cX7_chains 18 = .ok (.baload, 1) := by decide +kernel
theorem dX7_chains_19 : decode cX7_chains 19 = .ok (.ifCond .eq 16, 3) := by decide +kernel
theorem dX7_chains_22 : decode cX7_chains 22 = .ok (.aload_n 0, 1) := by decide +kernel
theorem dX7_chains_23 : decode cX7_chains 23 = .ok (.iload_n 2, 1) := by decide +kernel
theorem dX7_chains_24 : decode cX7_chains 24 = .ok (.invokevirtual 104, 3) := by decide +kernel
theorem dX7_chains_27 : decode cX7_chains 27 = .ok (.iload_n 2, 1) := by decide +kernel
theorem dX7_chains_28 : decode cX7_chains 28 = .ok (.if_icmp .ne 7, 3) := by decide +kernel
theorem dX7_chains_31 : decode cX7_chains 31 = .ok (.iconst 1, 1) := by decide +kernel
theorem dX7_chains_32 : decode cX7_chains 32 = .ok (.goto 4, 3) := by decide +kernel
theorem dX7_chains_35 : decode cX7_chains 35 = .ok (.iconst 0, 1) := by decide +kernel
theorem dX7_chains_36 : decode cX7_chains 36 = .ok (.iadd, 1) := by decide +kernel
theorem dX7_chains_37 : decode cX7_chains 37 = .ok (.istore_n 1, 1) := by decide +kernel
theorem dX7_chains_38 : decode cX7_chains 38 = .ok (.iinc 2 1, 3) := by decide +kernel
theorem dX7_chains_41 : decode cX7_chains 41 = .ok (.goto (-37), 3) := by decide +kernel
theorem dX7_chains_44 : decode cX7_chains 44 = .ok (.iload_n 1, 1) := by decide +kernel
theorem dX7_chains_45 : decode cX7_chains 45 = .ok (.ireturn, 1) := by decide +kernel
theorem dX7_nameOf_0 : decode cX7_nameOf 0 = .ok (.aload_n 0, 1) := by decide +kernel
theorem dX7_nameOf_1 : decode cX7_nameOf 1 = .ok (.invokevirtual 94, 3) := by decide +kernel
theorem dX7_nameOf_4 : decode cX7_nameOf 4 = .ok (.aload_n 0, 1) := by decide +kernel
theorem dX7_nameOf_5 : decode cX7_nameOf 5 = .ok (.iload_n 1, 1) := by decide +kernel
theorem dX7_nameOf_6 : decode cX7_nameOf 6 = .ok (.invokevirtual 90, 3) := by decide +kernel
theorem dX7_nameOf_9 : decode cX7_nameOf 9 = .ok (.aload_n 0, 1) := by decide +kernel
theorem dX7_nameOf_10 : decode cX7_nameOf 10 = .ok (.aload_n 0, 1) := by decide +kernel
theorem dX7_nameOf_11 : decode cX7_nameOf 11 = .ok (.getfield 7, 3) := by decide +kernel
theorem dX7_nameOf_14 : decode cX7_nameOf 14 = .ok (.iload_n 1, 1) := by decide +kernel
theorem dX7_nameOf_15 : decode cX7_nameOf 15 = .ok (.baload, 1) := by decide +kernel
theorem dX7_nameOf_16 : decode cX7_nameOf 16 = .ok (.invokevirtual 97, 3) := by decide +kernel
theorem dX7_nameOf_19 : decode cX7_nameOf 19 = .ok (.iconst 0, 1) := by decide +kernel
theorem dX7_nameOf_20 : decode cX7_nameOf 20 = .ok (.istore_n 2, 1) := by decide +kernel
theorem dX7_nameOf_21 : decode cX7_nameOf 21 = .ok (.aload_n 0, 1) := by decide +kernel
theorem dX7_nameOf_22 : decode cX7_nameOf 22 = .ok (.getfield 51, 3) := by decide +kernel
theorem dX7_nameOf_25 : decode cX7_nameOf 25 = .ok (.iload_n 2, 1) := by decide +kernel
theorem dX7_nameOf_26 : decode cX7_nameOf 26 = .ok (.baload, 1) := by decide +kernel
theorem dX7_nameOf_27 : decode cX7_nameOf 27 = .ok (.ifCond .ne 9, 3) := by decide +kernel
theorem dX7_nameOf_30 : decode cX7_nameOf 30 = .ok (.iinc 2 1, 3) := by decide +kernel
theorem dX7_nameOf_33 : decode cX7_nameOf 33 = .ok (.goto (-12), 3) := by decide +kernel
theorem dX7_nameOf_36 : decode cX7_nameOf 36 = .ok (.iload_n 2, 1) := by decide +kernel
theorem dX7_nameOf_37 : decode cX7_nameOf 37 = .ok (.ireturn, 1) := by decide +kernel
theorem dX7_set_0 : decode cX7_set 0 = .ok (.aload_n 0, 1) := by decide +kernel
theorem dX7_set_1 : decode cX7_set 1 = .ok (.iload_n 1, 1) := by decide +kernel
theorem dX7_set_2 : decode cX7_set 2 = .ok (.iload_n 2, 1) := by decide +kernel
theorem dX7_set_3 : decode cX7_set 3 = .ok (.invokevirtual 79, 3) := by decide +kernel
theorem dX7_set_6 : decode cX7_set 6 = .ok (.ifCond .eq 12, 3) := by decide +kernel
theorem dX7_set_9 : decode cX7_set 9 = .ok (.iload_n 3, 1) := by decide +kernel
theorem dX7_set_10 : decode cX7_set 10 = .ok (.ifCond .lt 8, 3) := by decide +kernel
theorem dX7_set_13 : decode cX7_set 13 = .ok (.iload_n 3, 1) := by decide +kernel
theorem dX7_set_14 : decode cX7_set 14 = .ok (.iconst 2, 1) := by decide +kernel
theorem dX7_set_15 : decode cX7_set 15 = .ok (.if_icmp .le 5, 3) := by decide +kernel
theorem dX7_set_18 : decode cX7_set 18 = .ok (.iconst 0, 1) := by decide +kernel
theorem dX7_set_19 : decode cX7_set 19 = .ok (.ireturn, 1) := by decide +kernel
theorem dX7_set_20 : decode cX7_set 20 = .ok (.aload_n 0, 1) := by decide +kernel
theorem dX7_set_21 : decode cX7_set 21 = .ok (.getfield 7, 3) := by decide +kernel
theorem dX7_set_24 : decode cX7_set 24 = .ok (.aload_n 0, 1) := by decide +kernel
theorem dX7_set_25 : decode cX7_set 25 = .ok (.getfield 73, 3) := by decide +kernel
theorem dX7_set_28 : decode cX7_set 28 = .ok (.iload_n 2, 1) := by decide +kernel
theorem dX7_set_29 : decode cX7_set 29 = .ok (.imul, 1) := by decide +kernel
theorem dX7_set_30 : decode cX7_set 30 = .ok (.iload_n 1, 1) := by decide +kernel
theorem dX7_set_31 : decode cX7_set 31 = .ok (.iadd, 1) := by decide +kernel
theorem dX7_set_32 : decode cX7_set 32 = .ok (.iload_n 3, 1) := by decide +kernel
theorem dX7_set_33 : decode cX7_set 33 = .ok (.i2b, 1) := by decide +kernel
theorem dX7_set_34 : decode cX7_set 34 = .ok (.bastore, 1) := by decide +kernel
theorem dX7_set_35 : decode cX7_set 35 = .ok (.aload_n 0, 1) := by decide +kernel
theorem dX7_set_36 : decode cX7_set 36 = .ok (.iconst 0, 1) := by decide +kernel
theorem dX7_set_37 : decode cX7_set 37 = .ok (.putfield 108, 3) := by decide +kernel
theorem dX7_set_40 : decode cX7_set 40 = .ok (.iconst 1, 1) := by decide +kernel
theorem dX7_set_41 : decode cX7_set 41 = .ok (.ireturn, 1) := by decide +kernel
theorem dX7_turn_0 : decode cX7_turn 0 = .ok (.iload_n 1, 1) := by decide +kernel
theorem dX7_turn_1 : decode cX7_turn 1 = .ok (.iconst 1, 1) := by decide +kernel
theorem dX7_turn_2 : decode cX7_turn 2 = .ok (.if_icmp .eq 10, 3) := by decide +kernel
theorem dX7_turn_5 : decode cX7_turn 5 = .ok (.iload_n 1, 1) := by decide +kernel
theorem dX7_turn_6 : decode cX7_turn 6 = .ok (.iconst 2, 1) := by decide +kernel
theorem dX7_turn_7 : decode cX7_turn 7 = .ok (.if_icmp .eq 5, 3) := by decide +kernel
theorem dX7_turn_10 : decode cX7_turn 10 = .ok (.iconst 0, 1) := by decide +kernel
theorem dX7_turn_11 : decode cX7_turn 11 = .ok (.ireturn, 1) := by decide +kernel
theorem dX7_turn_12 : decode cX7_turn 12 = .ok (.aload_n 0, 1) := by decide +kernel
theorem dX7_turn_13 : decode cX7_turn 13 = .ok (.iload_n 1, 1) := by decide +kernel
theorem dX7_turn_14 : decode cX7_turn 14 = .ok (.putfield 13, 3) := by decide +kernel
theorem dX7_turn_17 : decode cX7_turn 17 = .ok (.aload_n 0, 1) := by decide +kernel
theorem dX7_turn_18 : decode cX7_turn 18 = .ok (.iconst 0, 1) := by decide +kernel
theorem dX7_turn_19 : decode cX7_turn 19 = .ok (.putfield 108, 3) := by decide +kernel
theorem dX7_turn_22 : decode cX7_turn 22 = .ok (.iconst 1, 1) := by decide +kernel
theorem dX7_turn_23 : decode cX7_turn 23 = .ok (.ireturn, 1) := by decide +kernel
theorem dX7_play_0 : decode cX7_play 0 = .ok (.aload_n 0, 1) := by decide +kernel
theorem dX7_play_1 : decode cX7_play 1 = .ok (.iload_n 1, 1) := by decide +kernel
theorem dX7_play_2 : decode cX7_play 2 = .ok (.iload_n 2, 1) := by decide +kernel
theorem dX7_play_3 : decode cX7_play 3 = .ok (.invokevirtual 79, 3) := by decide +kernel
theorem dX7_play_6 : decode cX7_play 6 = .ok (.ifCond .eq 26, 3) := by decide +kernel
theorem dX7_play_9 : decode cX7_play 9 = .ok (.aload_n 0, 1) := by decide +kernel
theorem dX7_play_10 : decode cX7_play 10 = .ok (.getfield 7, 3) := by decide +kernel
theorem dX7_play_13 : decode cX7_play 13 = .ok (.aload_n 0, 1) := by decide +kernel
theorem dX7_play_14 : decode cX7_play 14 = .ok (.getfield 73, 3) := by decide +kernel
theorem dX7_play_17 : decode cX7_play 17 = .ok (.iload_n 2, 1) := by decide +kernel
theorem dX7_play_18 : decode cX7_play 18 = .ok (.imul, 1) := by decide +kernel
theorem dX7_play_19 : decode cX7_play 19 = .ok (.iload_n 1, 1) := by decide +kernel
theorem dX7_play_20 : decode cX7_play 20 = .ok (.iadd, 1) := by decide +kernel
theorem dX7_play_21 : decode cX7_play 21 = .ok (.baload, 1) := by decide +kernel
theorem dX7_play_22 : decode cX7_play 22 = .ok (.ifCond .ne 10, 3) := by decide +kernel
theorem dX7_play_25 : decode cX7_play 25 = .ok (.aload_n 0, 1) := by decide +kernel
theorem dX7_play_26 : decode cX7_play 26 = .ok (.invokevirtual 111, 3) := by decide +kernel
theorem dX7_play_29 : decode cX7_play 29 = .ok (.ifCond .eq 5, 3) := by decide +kernel
theorem dX7_play_32 : decode cX7_play 32 = .ok (.iconst 0, 1) := by decide +kernel
theorem dX7_play_33 : decode cX7_play 33 = .ok (.ireturn, 1) := by decide +kernel
theorem dX7_play_34 : decode cX7_play 34 = .ok (.aload_n 0, 1) := by decide +kernel
theorem dX7_play_35 : decode cX7_play 35 = .ok (.getfield 7, 3) := by decide +kernel
theorem dX7_play_38 : decode cX7_play 38 = .ok (.aload_n 0, 1) := by decide +kernel
theorem dX7_play_39 : decode cX7_play 39 = .ok (.getfield 73, 3) := by decide +kernel
theorem dX7_play_42 : decode cX7_play 42 = .ok (.iload_n 2, 1) := by decide +kernel
theorem dX7_play_43 : decode cX7_play 43 = .ok (.imul, 1) := by decide +kernel
theorem dX7_play_44 : decode cX7_play 44 = .ok (.iload_n 1, 1) := by decide +kernel
theorem dX7_play_45 : decode cX7_play 45 = .ok (.iadd, 1) := by decide +kernel
theorem dX7_play_46 : decode cX7_play 46 = .ok (.aload_n 0, 1) := by decide +kernel
theorem dX7_play_47 : decode cX7_play 47 = .ok (.getfield 13, 3) := by decide +kernel
theorem dX7_play_50 : decode cX7_play 50 = .ok (.i2b, 1) := by decide +kernel
theorem dX7_play_51 : decode cX7_play 51 = .ok (.bastore, 1) := by decide +kernel
theorem dX7_play_52 : decode cX7_play 52 = .ok (.aload_n 0, 1) := by decide +kernel
theorem dX7_play_53 : decode cX7_play 53 = .ok (.getfield 17, 3) := by decide +kernel
theorem dX7_play_56 : decode cX7_play 56 = .ok (.aload_n 0, 1) := by decide +kernel
theorem dX7_play_57 : decode cX7_play 57 = .ok (.getfield 108, 3) := by decide +kernel
theorem dX7_play_60 : decode cX7_play 60 = .ok (.aload_n 0, 1) := by decide +kernel
theorem dX7_play_61 : decode cX7_play 61 = .ok (.getfield 73, 3) := by decide +kernel
theorem dX7_play_64 : decode cX7_play 64 = .ok (.iload_n 2, 1) := by decide +kernel
theorem dX7_play_65 : decode cX7_play 65 = .ok (.imul, 1) := by decide +kernel
theorem dX7_play_66 : decode cX7_play 66 = .ok (.iload_n 1, 1) := by decide +kernel
theorem dX7_play_67 : decode cX7_play 67 = .ok (.iadd, 1) := by decide +kernel
theorem dX7_play_68 : decode cX7_play 68 = .ok (.iastore, 1) := by decide +kernel
theorem dX7_play_69 : decode cX7_play 69 = .ok (.aload_n 0, 1) := by decide +kernel
theorem dX7_play_70 : decode cX7_play 70 = .ok (.dup, 1) := by decide +kernel
theorem dX7_play_71 : decode cX7_play 71 = .ok (.getfield 108, 3) := by decide +kernel
theorem dX7_play_74 : decode cX7_play 74 = .ok (.iconst 1, 1) := by decide +kernel
theorem dX7_play_75 : decode cX7_play 75 = .ok (.iadd, 1) := by decide +kernel
theorem dX7_play_76 : decode cX7_play 76 = .ok (.putfield 108, 3) := by decide +kernel
theorem dX7_play_79 : decode cX7_play 79 = .ok (.aload_n 0, 1) := by decide +kernel
theorem dX7_play_80 : decode cX7_play 80 = .ok (.iconst 3, 1) := by decide +kernel
theorem dX7_play_81 : decode cX7_play 81 = .ok (.aload_n 0, 1) := by decide +kernel
theorem dX7_play_82 : decode cX7_play 82 = .ok (.getfield 13, 3) := by decide +kernel
theorem dX7_play_85 : decode cX7_play 85 = .ok (.isub, 1) := by decide +kernel
theorem dX7_play_86 : decode cX7_play 86 = .ok (.putfield 13, 3) := by decide +kernel
theorem dX7_play_89 : decode cX7_play 89 = .ok (.iconst 1, 1) := by decide +kernel
theorem dX7_play_90 : decode cX7_play 90 = .ok (.ireturn, 1) := by decide +kernel
theorem dX7_undo_0 : decode cX7_undo 0 = .ok (.aload_n 0, 1) := by decide +kernel
theorem dX7_undo_1 : decode cX7_undo 1 = .ok (.getfield 108, 3) := by decide +kernel
theorem dX7_undo_4 : decode cX7_undo 4 = .ok (.ifCond .ne 5, 3) := by decide +kernel
theorem dX7_undo_7 : decode cX7_undo 7 = .ok (.iconst (-1), 1) := by decide +kernel
theorem dX7_undo_8 : decode cX7_undo 8 = .ok (.ireturn, 1) := by decide +kernel
theorem dX7_undo_9 : decode cX7_undo 9 = .ok (.aload_n 0, 1) := by decide +kernel
theorem dX7_undo_10 : decode cX7_undo 10 = .ok (.dup, 1) := by decide +kernel
theorem dX7_undo_11 : decode cX7_undo 11 = .ok (.getfield 108, 3) := by decide +kernel
theorem dX7_undo_14 : decode cX7_undo 14 = .ok (.iconst 1, 1) := by decide +kernel
theorem dX7_undo_15 : decode cX7_undo 15 = .ok (.isub, 1) := by decide +kernel
theorem dX7_undo_16 : decode cX7_undo 16 = .ok (.putfield 108, 3) := by decide +kernel
theorem dX7_undo_19 : decode cX7_undo 19 = .ok (.aload_n 0, 1) := by decide +kernel
theorem dX7_undo_20 : decode cX7_undo 20 = .ok (.getfield 7, 3) := by decide +kernel
theorem dX7_undo_23 : decode cX7_undo 23 = .ok (.aload_n 0, 1) := by decide +kernel
theorem dX7_undo_24 : decode cX7_undo 24 = .ok (.getfield 17, 3) := by decide +kernel
theorem dX7_undo_27 : decode cX7_undo 27 = .ok (.aload_n 0, 1) := by decide +kernel
theorem dX7_undo_28 : decode cX7_undo 28 = .ok (.getfield 108, 3) := by decide +kernel
theorem dX7_undo_31 : decode cX7_undo 31 = .ok (.iaload, 1) := by decide +kernel
theorem dX7_undo_32 : decode cX7_undo 32 = .ok (.iconst 0, 1) := by decide +kernel
theorem dX7_undo_33 : decode cX7_undo 33 = .ok (.bastore, 1) := by decide +kernel
theorem dX7_undo_34 : decode cX7_undo 34 = .ok (.aload_n 0, 1) := by decide +kernel
theorem dX7_undo_35 : decode cX7_undo 35 = .ok (.iconst 3, 1) := by decide +kernel
theorem dX7_undo_36 : decode cX7_undo 36 = .ok (.aload_n 0, 1) := by decide +kernel
theorem dX7_undo_37 : decode cX7_undo 37 = .ok (.getfield 13, 3) := by decide +kernel
theorem dX7_undo_40 : decode cX7_undo 40 = .ok (.isub, 1) := by decide +kernel
theorem dX7_undo_41 : decode cX7_undo 41 = .ok (.putfield 13, 3) := by decide +kernel
theorem dX7_undo_44 : decode cX7_undo 44 = .ok (.aload_n 0, 1) := by decide +kernel
theorem dX7_undo_45 : decode cX7_undo 45 = .ok (.getfield 17, 3) := by decide +kernel
theorem dX7_undo_48 : decode cX7_undo 48 = .ok (.aload_n 0, 1) := by decide +kernel
theorem dX7_undo_49 : decode cX7_undo 49 = .ok (.getfield 108, 3) := by decide +kernel
theorem dX7_undo_52 : decode cX7_undo 52 = .ok (.iaload, 1) := by decide +kernel
theorem dX7_undo_53 : decode cX7_undo 53 = .ok (.ireturn, 1) := by decide +kernel
theorem dX7_cell_0 : decode cX7_cell 0 = .ok (.aload_n 0, 1) := by decide +kernel
theorem dX7_cell_1 : decode cX7_cell 1 = .ok (.iload_n 1, 1) := by decide +kernel
theorem dX7_cell_2 : decode cX7_cell 2 = .ok (.iload_n 2, 1) := by decide +kernel
theorem dX7_cell_3 : decode cX7_cell 3 = .ok (.invokevirtual 79, 3) := by decide +kernel
theorem dX7_cell_6 : decode cX7_cell 6 = .ok (.ifCond .eq 19, 3) := by decide +kernel
theorem dX7_cell_9 : decode cX7_cell 9 = .ok (.aload_n 0, 1) := by decide +kernel
theorem dX7_cell_10 : decode cX7_cell 10 = .ok (.getfield 7, 3) := by decide +kernel
theorem dX7_cell_13 : decode cX7_cell 13 = .ok (.aload_n 0, 1) := by decide +kernel
theorem dX7_cell_14 : decode cX7_cell 14 = .ok (.getfield 73, 3) := by decide +kernel
theorem dX7_cell_17 : decode cX7_cell 17 = .ok (.iload_n 2, 1) := by decide +kernel
theorem dX7_cell_18 : decode cX7_cell 18 = .ok (.imul, 1) := by decide +kernel
theorem dX7_cell_19 : decode cX7_cell 19 = .ok (.iload_n 1, 1) := by decide +kernel
theorem dX7_cell_20 : decode cX7_cell 20 = .ok (.iadd, 1) := by decide +kernel
theorem dX7_cell_21 : decode cX7_cell 21 = .ok (.baload, 1) := by decide +kernel
theorem dX7_cell_22 : decode cX7_cell 22 = .ok (.goto 4, 3) := by decide +kernel
theorem dX7_cell_25 : decode cX7_cell 25 = .ok (.iconst (-1), 1) := by decide +kernel
theorem dX7_cell_26 : decode cX7_cell 26 = .ok (.ireturn, 1) := by decide +kernel
theorem dX7_chain_0 : decode cX7_chain 0 = .ok (.aload_n 0, 1) := by decide +kernel
theorem dX7_chain_1 : decode cX7_chain 1 = .ok (.iload_n 1, 1) := by decide +kernel
theorem dX7_chain_2 : decode cX7_chain 2 = .ok (.iload_n 2, 1) := by decide +kernel
theorem dX7_chain_3 : decode cX7_chain 3 = .ok (.invokevirtual 79, 3) := by decide +kernel
theorem dX7_chain_6 : decode cX7_chain 6 = .ok (.ifCond .eq 34, 3) := by decide +kernel
theorem dX7_chain_9 : decode cX7_chain 9 = .ok (.aload_n 0, 1) := by decide +kernel
theorem dX7_chain_10 : decode cX7_chain 10 = .ok (.getfield 7, 3) := by decide +kernel
theorem dX7_chain_13 : decode cX7_chain 13 = .ok (.aload_n 0, 1) := by decide +kernel
theorem dX7_chain_14 : decode cX7_chain 14 = .ok (.getfield 73, 3) := by decide +kernel
theorem dX7_chain_17 : decode cX7_chain 17 = .ok (.iload_n 2, 1) := by decide +kernel
theorem dX7_chain_18 : decode cX7_chain 18 = .ok (.imul, 1) := by decide +kernel
theorem dX7_chain_19 : decode cX7_chain 19 = .ok (.iload_n 1, 1) := by decide +kernel
theorem dX7_chain_20 : decode cX7_chain 20 = .ok (.iadd, 1) := by decide +kernel
theorem dX7_chain_21 : decode cX7_chain 21 = .ok (.baload, 1) := by decide +kernel
theorem dX7_chain_22 : decode cX7_chain 22 = .ok (.ifCond .eq 18, 3) := by decide +kernel
theorem dX7_chain_25 : decode cX7_chain 25 = .ok (.aload_n 0, 1) := by decide +kernel
theorem dX7_chain_26 : decode cX7_chain 26 = .ok (.aload_n 0, 1) := by decide +kernel
theorem dX7_chain_27 : decode cX7_chain 27 = .ok (.getfield 73, 3) := by decide +kernel
theorem dX7_chain_30 : decode cX7_chain 30 = .ok (.iload_n 2, 1) := by decide +kernel
theorem dX7_chain_31 : decode cX7_chain 31 = .ok (.imul, 1) := by decide +kernel
theorem dX7_chain_32 : decode cX7_chain 32 = .ok (.iload_n 1, 1) := by decide +kernel
theorem dX7_chain_33 : decode cX7_chain 33 = .ok (.iadd, 1) := by decide +kernel
theorem dX7_chain_34 : decode cX7_chain 34 = .ok (.invokevirtual 104, 3) := by decide +kernel
theorem dX7_chain_37 : decode cX7_chain 37 = .ok (.goto 4, 3) := by decide +kernel
theorem dX7_chain_40 : decode cX7_chain 40 = .ok (.iconst (-1), 1) := by decide +kernel
theorem dX7_chain_41 : decode cX7_chain 41 = .ok (.ireturn, 1) := by decide +kernel
theorem dX7_about_0 : decode cX7_about 0 = .ok (.iload_n 1, 1) := by decide +kernel
theorem dX7_about_1 : decode cX7_about 1 = .ok (.tableswitch 96 0 8 #[51, 56, 61, 66, 71, 76, 81, 86, 91], 51) := by decide +kernel
theorem dX7_about_52 : decode cX7_about 52 = .ok (.aload_n 0, 1) := by decide +kernel
theorem dX7_about_53 : decode cX7_about 53 = .ok (.getfield 73, 3) := by decide +kernel
theorem dX7_about_56 : decode cX7_about 56 = .ok (.ireturn, 1) := by decide +kernel
theorem dX7_about_57 : decode cX7_about 57 = .ok (.aload_n 0, 1) := by decide +kernel
theorem dX7_about_58 : decode cX7_about 58 = .ok (.getfield 13, 3) := by decide +kernel
theorem dX7_about_61 : decode cX7_about 61 = .ok (.ireturn, 1) := by decide +kernel
theorem dX7_about_62 : decode cX7_about 62 = .ok (.aload_n 0, 1) := by decide +kernel
theorem dX7_about_63 : decode cX7_about 63 = .ok (.getfield 108, 3) := by decide +kernel
theorem dX7_about_66 : decode cX7_about 66 = .ok (.ireturn, 1) := by decide +kernel
theorem dX7_about_67 : decode cX7_about 67 = .ok (.aload_n 0, 1) := by decide +kernel
theorem dX7_about_68 : decode cX7_about 68 = .ok (.invokevirtual 111, 3) := by decide +kernel
theorem dX7_about_71 : decode cX7_about 71 = .ok (.ireturn, 1) := by decide +kernel
theorem dX7_about_72 : decode cX7_about 72 = .ok (.aload_n 0, 1) := by decide +kernel
theorem dX7_about_73 : decode cX7_about 73 = .ok (.invokevirtual 115, 3) := by decide +kernel
theorem dX7_about_76 : decode cX7_about 76 = .ok (.ireturn, 1) := by decide +kernel
theorem dX7_about_77 : decode cX7_about 77 = .ok (.aload_n 0, 1) := by decide +kernel
theorem dX7_about_78 : decode cX7_about 78 = .ok (.invokevirtual 118, 3) := by decide +kernel
theorem dX7_about_81 : decode cX7_about 81 = .ok (.ireturn, 1) := by decide +kernel
theorem dX7_about_82 : decode cX7_about 82 = .ok (.aload_n 0, 1) := by decide +kernel
theorem dX7_about_83 : decode cX7_about 83 = .ok (.getfield 121, 3) := by decide +kernel
theorem dX7_about_86 : decode cX7_about 86 = .ok (.ireturn, 1) := by decide +kernel
theorem dX7_about_87 : decode cX7_about 87 = .ok (.aload_n 0, 1) := by decide +kernel
theorem dX7_about_88 : decode cX7_about 88 = .ok (.getfield 124, 3) := by decide +kernel
theorem dX7_about_91 : decode cX7_about 91 = .ok (.ireturn, 1) := by decide +kernel
theorem dX7_about_92 : decode cX7_about 92 = .ok (.aload_n 0, 1) := by decide +kernel
theorem dX7_about_93 : decode cX7_about 93 = .ok (.getfield 127, 3) := by decide +kernel
theorem dX7_about_96 : decode cX7_about 96 = .ok (.ireturn, 1) := by decide +kernel
theorem dX7_about_97 : decode cX7_about 97 = .ok (.iconst (-1), 1) := by decide +kernel
theorem dX7_about_98 : decode cX7_about 98 = .ok (.ireturn, 1) := by decide +kernel
theorem dX7_sideAt_0 : decode cX7_sideAt 0 = .ok (.aload_n 0, 1) := by decide +kernel
theorem dX7_sideAt_1 : decode cX7_sideAt 1 = .ok (.iload_n 1, 1) := by decide +kernel
theorem dX7_sideAt_2 : decode cX7_sideAt 2 = .ok (.iload_n 2, 1) := by decide +kernel
theorem dX7_sideAt_3 : decode cX7_sideAt 3 = .ok (.invokevirtual 79, 3) := by decide +kernel
theorem dX7_sideAt_6 : decode cX7_sideAt 6 = .ok (.ifCond .eq 17, 3) := by decide +kernel
theorem dX7_sideAt_9 : decode cX7_sideAt 9 = .ok (.aload_n 0, 1) := by decide +kernel
theorem dX7_sideAt_10 : decode cX7_sideAt 10 = .ok (.getfield 7, 3) := by decide +kernel
theorem dX7_sideAt_13 : decode cX7_sideAt 13 = .ok (.aload_n 0, 1) := by decide +kernel
theorem dX7_sideAt_14 : decode cX7_sideAt 14 = .ok (.getfield 73, 3) := by decide +kernel
theorem dX7_sideAt_17 : decode cX7_sideAt 17 = .ok (.iload_n 2, 1) := by decide +kernel
theorem dX7_sideAt_18 : decode cX7_sideAt 18 = .ok (.imul, 1) := by decide +kernel
theorem dX7_sideAt_19 : decode cX7_sideAt 19 = .ok (.iload_n 1, 1) := by decide +kernel
theorem dX7_sideAt_20 : decode cX7_sideAt 20 = .ok (.iadd, 1) := by decide +kernel
theorem dX7_sideAt_21 : decode cX7_sideAt 21 = .ok (.baload, 1) := by decide +kernel
theorem dX7_sideAt_22 : decode cX7_sideAt 22 = .ok (.ireturn, 1) := by decide +kernel
theorem dX7_sideAt_23 : decode cX7_sideAt 23 = .ok (.iload_n 2, 1) := by decide +kernel
theorem dX7_sideAt_24 : decode cX7_sideAt 24 = .ok (.iconst (-1), 1) := by decide +kernel
theorem dX7_sideAt_25 : decode cX7_sideAt 25 = .ok (.if_icmp .ne 17, 3) := by decide +kernel
theorem dX7_sideAt_28 : decode cX7_sideAt 28 = .ok (.iload_n 1, 1) := by decide +kernel
theorem dX7_sideAt_29 : decode cX7_sideAt 29 = .ok (.ifCond .lt 13, 3) := by decide +kernel
theorem dX7_sideAt_32 : decode cX7_sideAt 32 = .ok (.iload_n 1, 1) := by decide +kernel
theorem dX7_sideAt_33 : decode cX7_sideAt 33 = .ok (.aload_n 0, 1) := by decide +kernel
theorem dX7_sideAt_34 : decode cX7_sideAt 34 = .ok (.getfield 73, 3) := by decide +kernel
theorem dX7_sideAt_37 : decode cX7_sideAt 37 = .ok (.if_icmp .gt 5, 3) := by decide +kernel
theorem dX7_sideAt_40 : decode cX7_sideAt 40 = .ok (.iconst 1, 1) := by decide +kernel
theorem dX7_sideAt_41 : decode cX7_sideAt 41 = .ok (.ireturn, 1) := by decide +kernel
theorem dX7_sideAt_42 : decode cX7_sideAt 42 = .ok (.iload_n 2, 1) := by decide +kernel
theorem dX7_sideAt_43 : decode cX7_sideAt 43 = .ok (.aload_n 0, 1) := by decide +kernel
theorem dX7_sideAt_44 : decode cX7_sideAt 44 = .ok (.getfield 73, 3) := by decide +kernel
theorem dX7_sideAt_47 : decode cX7_sideAt 47 = .ok (.if_icmp .ne 18, 3) := by decide +kernel
theorem dX7_sideAt_50 : decode cX7_sideAt 50 = .ok (.iload_n 1, 1) := by decide +kernel
theorem dX7_sideAt_51 : decode cX7_sideAt 51 = .ok (.iconst (-1), 1) := by decide +kernel
theorem dX7_sideAt_52 : decode cX7_sideAt 52 = .ok (.if_icmp .lt 13, 3) := by decide +kernel
theorem dX7_sideAt_55 : decode cX7_sideAt 55 = .ok (.iload_n 1, 1) := by decide +kernel
theorem dX7_sideAt_56 : decode cX7_sideAt 56 = .ok (.aload_n 0, 1) := by decide +kernel
theorem dX7_sideAt_57 : decode cX7_sideAt 57 = .ok (.getfield 73, 3) := by decide +kernel
theorem dX7_sideAt_60 : decode cX7_sideAt 60 = .ok (.if_icmp .ge 5, 3) := by decide +kernel
theorem dX7_sideAt_63 : decode cX7_sideAt 63 = .ok (.iconst 1, 1) := by decide +kernel
theorem dX7_sideAt_64 : decode cX7_sideAt 64 = .ok (.ireturn, 1) := by decide +kernel
theorem dX7_sideAt_65 : decode cX7_sideAt 65 = .ok (.iload_n 1, 1) := by decide +kernel
theorem dX7_sideAt_66 : decode cX7_sideAt 66 = .ok (.iconst (-1), 1) := by decide +kernel
theorem dX7_sideAt_67 : decode cX7_sideAt 67 = .ok (.if_icmp .eq 11, 3) := by decide +kernel
theorem dX7_sideAt_70 : decode cX7_sideAt 70 = .ok (.iload_n 1, 1) := by decide +kernel
theorem dX7_sideAt_71 : decode cX7_sideAt 71 = .ok (.aload_n 0, 1) := by decide +kernel
theorem dX7_sideAt_72 : decode cX7_sideAt 72 = .ok (.getfield 73, 3) := by decide +kernel
theorem dX7_sideAt_75 : decode cX7_sideAt 75 = .ok (.if_icmp .ne 19, 3) := by decide +kernel
theorem dX7_sideAt_78 : decode cX7_sideAt 78 = .ok (.iload_n 2, 1) := by decide +kernel
theorem dX7_sideAt_79 : decode cX7_sideAt 79 = .ok (.ifCond .lt 15, 3) := by decide +kernel
theorem dX7_sideAt_82 : decode cX7_sideAt 82 = .ok (.iload_n 2, 1) := by decide +kernel
theorem dX7_sideAt_83 : decode cX7_sideAt 83 = .ok (.aload_n 0, 1) := by decide +kernel
theorem dX7_sideAt_84 : decode cX7_sideAt 84 = .ok (.getfield 73, 3) := by decide +kernel
theorem dX7_sideAt_87 : decode cX7_sideAt 87 = .ok (.if_icmp .ge 7, 3) := by decide +kernel
theorem dX7_sideAt_90 : decode cX7_sideAt 90 = .ok (.iconst 2, 1) := by decide +kernel
theorem dX7_sideAt_91 : decode cX7_sideAt 91 = .ok (.goto 4, 3) := by decide +kernel
theorem dX7_sideAt_94 : decode cX7_sideAt 94 = .ok (.iconst 0, 1) := by decide +kernel
theorem dX7_sideAt_95 : decode cX7_sideAt 95 = .ok (.ireturn, 1) := by decide +kernel
theorem dX7_isBeside_0 : decode cX7_isBeside 0 = .ok (.iload_n 2, 1) := by decide +kernel
theorem dX7_isBeside_1 : decode cX7_isBeside 1 = .ok (.iload_n 0, 1) := by decide +kernel
theorem dX7_isBeside_2 : decode cX7_isBeside 2 = .ok (.isub, 1) := by decide +kernel
theorem dX7_isBeside_3 : decode cX7_isBeside 3 = .ok (.istore 4, 2) := by decide +kernel
theorem dX7_isBeside_5 : decode cX7_isBeside 5 = .ok (.iload_n 3, 1) := by decide +kernel
theorem dX7_isBeside_6 : decode cX7_isBeside 6 = .ok (.iload_n 1, 1) := by decide +kernel
theorem dX7_isBeside_7 : decode cX7_isBeside 7 = .ok (.isub, 1) := by decide +kernel
theorem dX7_isBeside_8 : decode cX7_isBeside 8 = .ok (.istore 5, 2) := by decide +kernel
theorem dX7_isBeside_10 : decode cX7_isBeside 10 = .ok (.iload 4, 2) := by decide +kernel
theorem dX7_isBeside_12 : decode cX7_isBeside 12 = .ok (.iload 5, 2) := by decide +kernel
theorem dX7_isBeside_14 : decode cX7_isBeside 14 = .ok (.iadd, 1) := by decide +kernel
theorem dX7_isBeside_15 : decode cX7_isBeside 15 = .ok (.ifCond .ne 23, 3) := by decide +kernel
theorem dX7_isBeside_18 : decode cX7_isBeside 18 = .ok (.iload 4, 2) := by decide +kernel
theorem dX7_isBeside_20 : decode cX7_isBeside 20 = .ok (.iconst 1, 1) := by decide +kernel
theorem dX7_isBeside_21 : decode cX7_isBeside 21 = .ok (.if_icmp .eq 9, 3) := by decide +kernel
theorem dX7_isBeside_24 : decode cX7_isBeside 24 = .ok (.iload 4, 2) := by decide +kernel
theorem dX7_isBeside_26 : decode cX7_isBeside 26 = .ok (.iconst (-1), 1) := by decide +kernel
theorem dX7_isBeside_27 : decode cX7_isBeside 27 = .ok (.if_icmp .ne 7, 3) := by decide +kernel
theorem dX7_isBeside_30 : decode cX7_isBeside 30 = .ok (.iconst 1, 1) := by decide +kernel
theorem dX7_isBeside_31 : decode cX7_isBeside 31 = .ok (.goto 38, 3) := by decide +kernel
theorem dX7_isBeside_34 : decode cX7_isBeside 34 = .ok (.iconst 0, 1) := by decide +kernel
theorem dX7_isBeside_35 : decode cX7_isBeside 35 = .ok (.goto 34, 3) := by decide +kernel
theorem dX7_isBeside_38 : decode cX7_isBeside 38 = .ok (.iload 4, 2) := by decide +kernel
theorem dX7_isBeside_40 : decode cX7_isBeside 40 = .ok (.iload 5, 2) := by decide +kernel
theorem dX7_isBeside_42 : decode cX7_isBeside 42 = .ok (.imul, 1) := by decide +kernel
theorem dX7_isBeside_43 : decode cX7_isBeside 43 = .ok (.ifCond .ne 25, 3) := by decide +kernel
theorem dX7_isBeside_46 : decode cX7_isBeside 46 = .ok (.iload 4, 2) := by decide +kernel
theorem dX7_isBeside_48 : decode cX7_isBeside 48 = .ok (.iload 5, 2) := by decide +kernel
theorem dX7_isBeside_50 : decode cX7_isBeside 50 = .ok (.iadd, 1) := by decide +kernel
theorem dX7_isBeside_51 : decode cX7_isBeside 51 = .ok (.iconst 1, 1) := by decide +kernel
theorem dX7_isBeside_52 : decode cX7_isBeside 52 = .ok (.if_icmp .eq 12, 3) := by decide +kernel
theorem dX7_isBeside_55 : decode cX7_isBeside 55 = .ok (.iload 4, 2) := by decide +kernel
theorem dX7_isBeside_57 : decode cX7_isBeside 57 = .ok (.iload 5, 2) := by decide +kernel
theorem dX7_isBeside_59 : decode cX7_isBeside 59 = .ok (.iadd, 1) := by decide +kernel
theorem dX7_isBeside_60 : decode cX7_isBeside 60 = .ok (.iconst (-1), 1) := by decide +kernel
theorem dX7_isBeside_61 : decode cX7_isBeside 61 = .ok (.if_icmp .ne 7, 3) := by decide +kernel
theorem dX7_isBeside_64 : decode cX7_isBeside 64 = .ok (.iconst 1, 1) := by decide +kernel
theorem dX7_isBeside_65 : decode cX7_isBeside 65 = .ok (.goto 4, 3) := by decide +kernel
theorem dX7_isBeside_68 : decode cX7_isBeside 68 = .ok (.iconst 0, 1) := by decide +kernel
theorem dX7_isBeside_69 : decode cX7_isBeside 69 = .ok (.ireturn, 1) := by decide +kernel
theorem dX7_third_0 : decode cX7_third 0 = .ok (.iconst (-1), 1) := by decide +kernel
theorem dX7_third_1 : decode cX7_third 1 = .ok (.istore_n 1, 1) := by decide +kernel
theorem dX7_third_2 : decode cX7_third 2 = .ok (.iload_n 1, 1) := by decide +kernel
theorem dX7_third_3 : decode cX7_third 3 = .ok (.iconst 2, 1) := by decide +kernel
theorem dX7_third_4 : decode cX7_third 4 = .ok (.if_icmp .ge 99, 3) := by decide +kernel
theorem dX7_third_7 : decode cX7_third 7 = .ok (.iconst (-1), 1) := by decide +kernel
theorem dX7_third_8 : decode cX7_third 8 = .ok (.istore_n 2, 1) := by decide +kernel
theorem dX7_third_9 : decode cX7_third 9 = .ok (.iload_n 2, 1) := by decide +kernel
theorem dX7_third_10 : decode cX7_third 10 = .ok (.iconst 2, 1) := by decide +kernel
theorem dX7_third_11 : decode cX7_third 11 = .ok (.if_icmp .ge 86, 3) := by decide +kernel
theorem dX7_third_14 : decode cX7_third 14 = .ok (.aload_n 0, 1) := by decide +kernel
theorem dX7_third_15 : decode cX7_third 15 = .ok (.getfield 130, 3) := by decide +kernel
theorem dX7_third_18 : decode cX7_third 18 = .ok (.iload_n 2, 1) := by decide +kernel
theorem dX7_third_19 : decode cX7_third 19 = .ok (.iadd, 1) := by decide +kernel
theorem dX7_third_20 : decode cX7_third 20 = .ok (.istore_n 3, 1) := by decide +kernel
theorem dX7_third_21 : decode cX7_third 21 = .ok (.aload_n 0, 1) := by decide +kernel
theorem dX7_third_22 : decode cX7_third 22 = .ok (.getfield 133, 3) := by decide +kernel
theorem dX7_third_25 : decode cX7_third 25 = .ok (.iload_n 1, 1) := by decide +kernel
theorem dX7_third_26 : decode cX7_third 26 = .ok (.iadd, 1) := by decide +kernel
theorem dX7_third_27 : decode cX7_third 27 = .ok (.istore 4, 2) := by decide +kernel
theorem dX7_third_29 : decode cX7_third 29 = .ok (.aload_n 0, 1) := by decide +kernel
theorem dX7_third_30 : decode cX7_third 30 = .ok (.getfield 130, 3) := by decide +kernel
theorem dX7_third_33 : decode cX7_third 33 = .ok (.aload_n 0, 1) := by decide +kernel
theorem dX7_third_34 : decode cX7_third 34 = .ok (.getfield 133, 3) := by decide +kernel
theorem dX7_third_37 : decode cX7_third 37 = .ok (.iload_n 3, 1) := by decide +kernel
theorem dX7_third_38 : decode cX7_third 38 = .ok (.iload 4, 2) := by decide +kernel
theorem dX7_third_40 : decode cX7_third 40 = .ok (.invokestatic 136, 3) := by decide +kernel
theorem dX7_third_43 : decode cX7_third 43 = .ok (.ifCond .eq 48, 3) := by decide +kernel
theorem dX7_third_46 : decode cX7_third 46 = .ok (.aload_n 0, 1) := by decide +kernel
theorem dX7_third_47 : decode cX7_third 47 = .ok (.getfield 140, 3) := by decide +kernel
theorem dX7_third_50 : decode cX7_third 50 = .ok (.aload_n 0, 1) := by decide +kernel
theorem dX7_third_51 : decode cX7_third 51 = .ok (.getfield 143, 3) := by decide +kernel
theorem dX7_third_54 : decode cX7_third 54 = .ok (.iload_n 3, 1) := by decide +kernel
theorem dX7_third_55 : decode cX7_third 55 = .ok (.iload 4, 2) := by decide +kernel
theorem dX7_third_57 : decode cX7_third 57 = .ok (.invokestatic 136, 3) := by decide +kernel
theorem dX7_third_60 : decode cX7_third 60 = .ok (.ifCond .eq 31, 3) := by decide +kernel
theorem dX7_third_63 : decode cX7_third 63 = .ok (.iload_n 3, 1) := by decide +kernel
theorem dX7_third_64 : decode cX7_third 64 = .ok (.aload_n 0, 1) := by decide +kernel
theorem dX7_third_65 : decode cX7_third 65 = .ok (.getfield 146, 3) := by decide +kernel
theorem dX7_third_68 : decode cX7_third 68 = .ok (.if_icmp .ne 12, 3) := by decide +kernel
theorem dX7_third_71 : decode cX7_third 71 = .ok (.iload 4, 2) := by decide +kernel
theorem dX7_third_73 : decode cX7_third 73 = .ok (.aload_n 0, 1) := by decide +kernel
theorem dX7_third_74 : decode cX7_third 74 = .ok (.getfield 149, 3) := by decide +kernel
theorem dX7_third_77 : decode cX7_third 77 = .ok (.if_icmp .eq 14, 3) := by decide +kernel
theorem dX7_third_80 : decode cX7_third 80 = .ok (.aload_n 0, 1) := by decide +kernel
theorem dX7_third_81 : decode cX7_third 81 = .ok (.iload_n 3, 1) := by decide +kernel
theorem dX7_third_82 : decode cX7_third 82 = .ok (.putfield 152, 3) := by decide +kernel
theorem dX7_third_85 : decode cX7_third 85 = .ok (.aload_n 0, 1) := by decide +kernel
theorem dX7_third_86 : decode cX7_third 86 = .ok (.iload 4, 2) := by decide +kernel
theorem dX7_third_88 : decode cX7_third 88 = .ok (.putfield 155, 3) := by decide +kernel
theorem dX7_third_91 : decode cX7_third 91 = .ok (.iinc 2 1, 3) := by decide +kernel
theorem dX7_third_94 : decode cX7_third 94 = .ok (.goto (-85), 3) := by decide +kernel
theorem dX7_third_97 : decode cX7_third 97 = .ok (.iinc 1 1, 3) := by decide +kernel
theorem dX7_third_100 : decode cX7_third 100 = .ok (.goto (-98), 3) := by decide +kernel
theorem dX7_third_103 : decode cX7_third 103 = .ok (.return_, 1) := by decide +kernel
theorem dX7_walked_0 : decode cX7_walked 0 = .ok (.aload_n 0, 1) := by decide +kernel
theorem dX7_walked_1 : decode cX7_walked 1 = .ok (.iconst 0, 1) := by decide +kernel
theorem dX7_walked_2 : decode cX7_walked 2 = .ok (.putfield 130, 3) := by decide +kernel
theorem dX7_walked_5 : decode cX7_walked 5 = .ok (.aload_n 0, 1) := by decide +kernel
theorem dX7_walked_6 : decode cX7_walked 6 = .ok (.iconst (-1), 1) := by decide +kernel
theorem dX7_walked_7 : decode cX7_walked 7 = .ok (.putfield 133, 3) := by decide +kernel
theorem dX7_walked_10 : decode cX7_walked 10 = .ok (.aload_n 0, 1) := by decide +kernel
theorem dX7_walked_11 : decode cX7_walked 11 = .ok (.iconst (-1), 1) := by decide +kernel
theorem dX7_walked_12 : decode cX7_walked 12 = .ok (.putfield 140, 3) := by decide +kernel
theorem dX7_walked_15 : decode cX7_walked 15 = .ok (.aload_n 0, 1) := by decide +kernel
theorem dX7_walked_16 : decode cX7_walked 16 = .ok (.iconst 0, 1) := by decide +kernel
theorem dX7_walked_17 : decode cX7_walked 17 = .ok (.putfield 143, 3) := by decide +kernel
theorem dX7_walked_20 : decode cX7_walked 20 = .ok (.aload_n 0, 1) := by decide +kernel
theorem dX7_walked_21 : decode cX7_walked 21 = .ok (.iconst (-1), 1) := by decide +kernel
theorem dX7_walked_22 : decode cX7_walked 22 = .ok (.putfield 146, 3) := by decide +kernel
theorem dX7_walked_25 : decode cX7_walked 25 = .ok (.aload_n 0, 1) := by decide +kernel
theorem dX7_walked_26 : decode cX7_walked 26 = .ok (.iconst (-1), 1) := by decide +kernel
theorem dX7_walked_27 : decode cX7_walked 27 = .ok (.putfield 149, 3) := by decide +kernel
theorem dX7_walked_30 : decode cX7_walked 30 = .ok (.aload_n 0, 1) := by decide +kernel
theorem dX7_walked_31 : decode cX7_walked 31 = .ok (.invokevirtual 158, 3) := by decide +kernel
theorem dX7_walked_34 : decode cX7_walked 34 = .ok (.iconst 1, 1) := by decide +kernel
theorem dX7_walked_35 : decode cX7_walked 35 = .ok (.istore_n 2, 1) := by decide +kernel
theorem dX7_walked_36 : decode cX7_walked 36 = .ok (.iload_n 2, 1) := by decide +kernel
theorem dX7_walked_37 : decode cX7_walked 37 = .ok (.iload_n 1, 1) := by decide +kernel
theorem dX7_walked_38 : decode cX7_walked 38 = .ok (.if_icmp .gt 111, 3) := by decide +kernel
theorem dX7_walked_41 : decode cX7_walked 41 = .ok (.aload_n 0, 1) := by decide +kernel
theorem dX7_walked_42 : decode cX7_walked 42 = .ok (.aload_n 0, 1) := by decide +kernel
theorem dX7_walked_43 : decode cX7_walked 43 = .ok (.getfield 152, 3) := by decide +kernel
theorem dX7_walked_46 : decode cX7_walked 46 = .ok (.aload_n 0, 1) := by decide +kernel
theorem dX7_walked_47 : decode cX7_walked 47 = .ok (.getfield 155, 3) := by decide +kernel
theorem dX7_walked_50 : decode cX7_walked 50 = .ok (.invokevirtual 161, 3) := by decide +kernel
theorem dX7_walked_53 : decode cX7_walked 53 = .ok (.ifCond .eq 96, 3) := by decide +kernel
theorem dX7_walked_56 : decode cX7_walked 56 = .ok (.aload_n 0, 1) := by decide +kernel
theorem dX7_walked_57 : decode cX7_walked 57 = .ok (.aload_n 0, 1) := by decide +kernel
theorem dX7_walked_58 : decode cX7_walked 58 = .ok (.getfield 152, 3) := by decide +kernel
theorem dX7_walked_61 : decode cX7_walked 61 = .ok (.aload_n 0, 1) := by decide +kernel
theorem dX7_walked_62 : decode cX7_walked 62 = .ok (.getfield 155, 3) := by decide +kernel
theorem dX7_walked_65 : decode cX7_walked 65 = .ok (.invokevirtual 161, 3) := by decide +kernel
theorem dX7_walked_68 : decode cX7_walked 68 = .ok (.iconst 1, 1) := by decide +kernel
theorem dX7_walked_69 : decode cX7_walked 69 = .ok (.if_icmp .ne 38, 3) := by decide +kernel
theorem dX7_walked_72 : decode cX7_walked 72 = .ok (.aload_n 0, 1) := by decide +kernel
theorem dX7_walked_73 : decode cX7_walked 73 = .ok (.aload_n 0, 1) := by decide +kernel
theorem dX7_walked_74 : decode cX7_walked 74 = .ok (.getfield 130, 3) := by decide +kernel
theorem dX7_walked_77 : decode cX7_walked 77 = .ok (.putfield 146, 3) := by decide +kernel
theorem dX7_walked_80 : decode cX7_walked 80 = .ok (.aload_n 0, 1) := by decide +kernel
theorem dX7_walked_81 : decode cX7_walked 81 = .ok (.aload_n 0, 1) := by decide +kernel
theorem dX7_walked_82 : decode cX7_walked 82 = .ok (.getfield 133, 3) := by decide +kernel
theorem dX7_walked_85 : decode cX7_walked 85 = .ok (.putfield 149, 3) := by decide +kernel
theorem dX7_walked_88 : decode cX7_walked 88 = .ok (.aload_n 0, 1) := by decide +kernel
theorem dX7_walked_89 : decode cX7_walked 89 = .ok (.aload_n 0, 1) := by decide +kernel
theorem dX7_walked_90 : decode cX7_walked 90 = .ok (.getfield 152, 3) := by decide +kernel
theorem dX7_walked_93 : decode cX7_walked 93 = .ok (.putfield 130, 3) := by decide +kernel
theorem dX7_walked_96 : decode cX7_walked 96 = .ok (.aload_n 0, 1) := by decide +kernel
theorem dX7_walked_97 : decode cX7_walked 97 = .ok (.aload_n 0, 1) := by decide +kernel
theorem dX7_walked_98 : decode cX7_walked 98 = .ok (.getfield 155, 3) := by decide +kernel
theorem dX7_walked_101 : decode cX7_walked 101 = .ok (.putfield 133, 3) := by decide +kernel
theorem dX7_walked_104 : decode cX7_walked 104 = .ok (.goto 35, 3) := by decide +kernel
theorem dX7_walked_107 : decode cX7_walked 107 = .ok (.aload_n 0, 1) := by decide +kernel
theorem dX7_walked_108 : decode cX7_walked 108 = .ok (.aload_n 0, 1) := by decide +kernel
theorem dX7_walked_109 : decode cX7_walked 109 = .ok (.getfield 140, 3) := by decide +kernel
theorem dX7_walked_112 : decode cX7_walked 112 = .ok (.putfield 146, 3) := by decide +kernel
theorem dX7_walked_115 : decode cX7_walked 115 = .ok (.aload_n 0, 1) := by decide +kernel
theorem dX7_walked_116 : decode cX7_walked 116 = .ok (.aload_n 0, 1) := by decide +kernel
theorem dX7_walked_117 : decode cX7_walked 117 = .ok (.getfield 143, 3) := by decide +kernel
theorem dX7_walked_120 : decode cX7_walked 120 = .ok (.putfield 149, 3) := by decide +kernel
theorem dX7_walked_123 : decode cX7_walked 123 = .ok (.aload_n 0, 1) := by decide +kernel
theorem dX7_walked_124 : decode cX7_walked 124 = .ok (.aload_n 0, 1) := by decide +kernel
theorem dX7_walked_125 : decode cX7_walked 125 = .ok (.getfield 152, 3) := by decide +kernel
theorem dX7_walked_128 : decode cX7_walked 128 = .ok (.putfield 140, 3) := by decide +kernel
theorem dX7_walked_131 : decode cX7_walked 131 = .ok (.aload_n 0, 1) := by decide +kernel
theorem dX7_walked_132 : decode cX7_walked 132 = .ok (.aload_n 0, 1) := by decide +kernel
theorem dX7_walked_133 : decode cX7_walked 133 = .ok (.getfield 155, 3) := by decide +kernel
theorem dX7_walked_136 : decode cX7_walked 136 = .ok (.putfield 143, 3) := by decide +kernel
theorem dX7_walked_139 : decode cX7_walked 139 = .ok (.aload_n 0, 1) := by decide +kernel
theorem dX7_walked_140 : decode cX7_walked 140 = .ok (.invokevirtual 158, 3) := by decide +kernel
theorem dX7_walked_143 : decode cX7_walked 143 = .ok (.iinc 2 1, 3) := by decide +kernel
theorem dX7_walked_146 : decode cX7_walked 146 = .ok (.goto (-110), 3) := by decide +kernel
theorem dX7_walked_149 : decode cX7_walked 149 = .ok (.iload_n 2, 1) := by decide +kernel
theorem dX7_walked_150 : decode cX7_walked 150 = .ok (.ireturn, 1) := by decide +kernel
theorem dX7_walk_0 : decode cX7_walk 0 = .ok (.aload_n 0, 1) := by decide +kernel
theorem dX7_walk_1 : decode cX7_walk 1 = .ok (.invokevirtual 115, 3) := by decide +kernel
theorem dX7_walk_4 : decode cX7_walk 4 = .ok (.ifCond .le 7, 3) := by decide +kernel
theorem dX7_walk_7 : decode cX7_walk 7 = .ok (.iconst (-1), 1) := by decide +kernel
theorem dX7_walk_8 : decode cX7_walk 8 = .ok (.goto 9, 3) := by decide +kernel
theorem dX7_walk_11 : decode cX7_walk 11 = .ok (.aload_n 0, 1) := by decide +kernel
theorem dX7_walk_12 : decode cX7_walk 12 = .ok (.ldc 164, 2) := by decide +kernel
theorem dX7_walk_14 : decode cX7_walk 14 = .ok (.invokevirtual 165, 3) := by decide +kernel
theorem dX7_walk_17 : decode cX7_walk 17 = .ok (.ireturn, 1) := by decide +kernel
theorem dX7_step_0 : decode cX7_step 0 = .ok (.iload_n 1, 1) := by decide +kernel
theorem dX7_step_1 : decode cX7_step 1 = .ok (.ifCond .lt 30, 3) := by decide +kernel
theorem dX7_step_4 : decode cX7_step 4 = .ok (.iload_n 2, 1) := by decide +kernel
theorem dX7_step_5 : decode cX7_step 5 = .ok (.ifCond .lt 26, 3) := by decide +kernel
theorem dX7_step_8 : decode cX7_step 8 = .ok (.iload_n 2, 1) := by decide +kernel
theorem dX7_step_9 : decode cX7_step 9 = .ok (.iconst 2, 1) := by decide +kernel
theorem dX7_step_10 : decode cX7_step 10 = .ok (.if_icmp .gt 21, 3) := by decide +kernel
theorem dX7_step_13 : decode cX7_step 13 = .ok (.aload_n 0, 1) := by decide +kernel
theorem dX7_step_14 : decode cX7_step 14 = .ok (.invokevirtual 115, 3) := by decide +kernel
theorem dX7_step_17 : decode cX7_step 17 = .ok (.ifCond .gt 14, 3) := by decide +kernel
theorem dX7_step_20 : decode cX7_step 20 = .ok (.aload_n 0, 1) := by decide +kernel
theorem dX7_step_21 : decode cX7_step 21 = .ok (.iload_n 1, 1) := by decide +kernel
theorem dX7_step_22 : decode cX7_step 22 = .ok (.invokevirtual 165, 3) := by decide +kernel
theorem dX7_step_25 : decode cX7_step 25 = .ok (.iload_n 1, 1) := by decide +kernel
theorem dX7_step_26 : decode cX7_step 26 = .ok (.iconst 1, 1) := by decide +kernel
theorem dX7_step_27 : decode cX7_step 27 = .ok (.iadd, 1) := by decide +kernel
theorem dX7_step_28 : decode cX7_step 28 = .ok (.if_icmp .eq 6, 3) := by decide +kernel
theorem dX7_step_31 : decode cX7_step 31 = .ok (.bipush (-3), 2) := by decide +kernel
theorem dX7_step_33 : decode cX7_step 33 = .ok (.ireturn, 1) := by decide +kernel
theorem dX7_step_34 : decode cX7_step 34 = .ok (.iload_n 2, 1) := by decide +kernel
theorem dX7_step_35 : decode cX7_step 35 = .ok (.ifCond .ne 10, 3) := by decide +kernel
theorem dX7_step_38 : decode cX7_step 38 = .ok (.aload_n 0, 1) := by decide +kernel
theorem dX7_step_39 : decode cX7_step 39 = .ok (.getfield 152, 3) := by decide +kernel
theorem dX7_step_42 : decode cX7_step 42 = .ok (.goto 27, 3) := by decide +kernel
theorem dX7_step_45 : decode cX7_step 45 = .ok (.iload_n 2, 1) := by decide +kernel
theorem dX7_step_46 : decode cX7_step 46 = .ok (.iconst 1, 1) := by decide +kernel
theorem dX7_step_47 : decode cX7_step 47 = .ok (.if_icmp .ne 10, 3) := by decide +kernel
theorem dX7_step_50 : decode cX7_step 50 = .ok (.aload_n 0, 1) := by decide +kernel
theorem dX7_step_51 : decode cX7_step 51 = .ok (.getfield 155, 3) := by decide +kernel
theorem dX7_step_54 : decode cX7_step 54 = .ok (.goto 15, 3) := by decide +kernel
theorem dX7_step_57 : decode cX7_step 57 = .ok (.aload_n 0, 1) := by decide +kernel
theorem dX7_step_58 : decode cX7_step 58 = .ok (.aload_n 0, 1) := by decide +kernel
theorem dX7_step_59 : decode cX7_step 59 = .ok (.getfield 152, 3) := by decide +kernel
theorem dX7_step_62 : decode cX7_step 62 = .ok (.aload_n 0, 1) := by decide +kernel
theorem dX7_step_63 : decode cX7_step 63 = .ok (.getfield 155, 3) := by decide +kernel
theorem dX7_step_66 : decode cX7_step 66 = .ok (.invokevirtual 161, 3) := by decide +kernel
theorem dX7_step_69 : decode cX7_step 69 = .ok (.ireturn, 1) := by decide +kernel
theorem dX7_makeNode_0 : decode cX7_makeNode 0 = .ok (.aload_n 0, 1) := by decide +kernel
theorem dX7_makeNode_1 : decode cX7_makeNode 1 = .ok (.getfield 21, 3) := by decide +kernel
theorem dX7_makeNode_4 : decode cX7_makeNode 4 = .ok (.aload_n 0, 1) := by decide +kernel
theorem dX7_makeNode_5 : decode cX7_makeNode 5 = .ok (.getfield 121, 3) := by decide +kernel
theorem dX7_makeNode_8 : decode cX7_makeNode 8 = .ok (.iload_n 1, 1) := by decide +kernel
theorem dX7_makeNode_9 : decode cX7_makeNode 9 = .ok (.iastore, 1) := by decide +kernel
theorem dX7_makeNode_10 : decode cX7_makeNode 10 = .ok (.aload_n 0, 1) := by decide +kernel
theorem dX7_makeNode_11 : decode cX7_makeNode 11 = .ok (.getfield 24, 3) := by decide +kernel
theorem dX7_makeNode_14 : decode cX7_makeNode 14 = .ok (.aload_n 0, 1) := by decide +kernel
theorem dX7_makeNode_15 : decode cX7_makeNode 15 = .ok (.getfield 121, 3) := by decide +kernel
theorem dX7_makeNode_18 : decode cX7_makeNode 18 = .ok (.iload_n 2, 1) := by decide +kernel
theorem dX7_makeNode_19 : decode cX7_makeNode 19 = .ok (.iastore, 1) := by decide +kernel
theorem dX7_makeNode_20 : decode cX7_makeNode 20 = .ok (.aload_n 0, 1) := by decide +kernel
theorem dX7_makeNode_21 : decode cX7_makeNode 21 = .ok (.getfield 33, 3) := by decide +kernel
theorem dX7_makeNode_24 : decode cX7_makeNode 24 = .ok (.aload_n 0, 1) := by decide +kernel
theorem dX7_makeNode_25 : decode cX7_makeNode 25 = .ok (.getfield 121, 3) := by decide +kernel
theorem dX7_makeNode_28 : decode cX7_makeNode 28 = .ok (.iconst (-1), 1) := by decide +kernel
theorem dX7_makeNode_29 : decode cX7_makeNode 29 = .ok (.iastore, 1) := by decide +kernel
theorem dX7_makeNode_30 : decode cX7_makeNode 30 = .ok (.aload_n 0, 1) := by decide +kernel
theorem dX7_makeNode_31 : decode cX7_makeNode 31 = .ok (.getfield 36, 3) := by decide +kernel
theorem dX7_makeNode_34 : decode cX7_makeNode 34 = .ok (.aload_n 0, 1) := by decide +kernel
theorem dX7_makeNode_35 : decode cX7_makeNode 35 = .ok (.getfield 121, 3) := by decide +kernel
theorem dX7_makeNode_38 : decode cX7_makeNode 38 = .ok (.iconst 0, 1) := by decide +kernel
theorem dX7_makeNode_39 : decode cX7_makeNode 39 = .ok (.iastore, 1) := by decide +kernel
theorem dX7_makeNode_40 : decode cX7_makeNode 40 = .ok (.iload_n 1, 1) := by decide +kernel
theorem dX7_makeNode_41 : decode cX7_makeNode 41 = .ok (.ifCond .ge 7, 3) := by decide +kernel
theorem dX7_makeNode_44 : decode cX7_makeNode 44 = .ok (.iconst 0, 1) := by decide +kernel
theorem dX7_makeNode_45 : decode cX7_makeNode 45 = .ok (.goto 26, 3) := by decide +kernel
theorem dX7_makeNode_48 : decode cX7_makeNode 48 = .ok (.aload_n 0, 1) := by decide +kernel
theorem dX7_makeNode_49 : decode cX7_makeNode 49 = .ok (.aload_n 0, 1) := by decide +kernel
theorem dX7_makeNode_50 : decode cX7_makeNode 50 = .ok (.getfield 7, 3) := by decide +kernel
theorem dX7_makeNode_53 : decode cX7_makeNode 53 = .ok (.iload_n 1, 1) := by decide +kernel
theorem dX7_makeNode_54 : decode cX7_makeNode 54 = .ok (.baload, 1) := by decide +kernel
theorem dX7_makeNode_55 : decode cX7_makeNode 55 = .ok (.invokevirtual 100, 3) := by decide +kernel
theorem dX7_makeNode_58 : decode cX7_makeNode 58 = .ok (.ifCond .eq 12, 3) := by decide +kernel
theorem dX7_makeNode_61 : decode cX7_makeNode 61 = .ok (.aload_n 0, 1) := by decide +kernel
theorem dX7_makeNode_62 : decode cX7_makeNode 62 = .ok (.getfield 7, 3) := by decide +kernel
theorem dX7_makeNode_65 : decode cX7_makeNode 65 = .ok (.iload_n 1, 1) := by decide +kernel
theorem dX7_makeNode_66 : decode cX7_makeNode 66 = .ok (.baload, 1) := by decide +kernel
theorem dX7_makeNode_67 : decode cX7_makeNode 67 = .ok (.goto 4, 3) := by decide +kernel
theorem dX7_makeNode_70 : decode cX7_makeNode 70 = .ok (.iconst 0, 1) := by decide +kernel
theorem dX7_makeNode_71 : decode cX7_makeNode 71 = .ok (.istore_n 3, 1) := by decide +kernel
theorem dX7_makeNode_72 : decode cX7_makeNode 72 = .ok (.aload_n 0, 1) := by decide +kernel
theorem dX7_makeNode_73 : decode cX7_makeNode 73 = .ok (.getfield 27, 3) := by decide +kernel
theorem dX7_makeNode_76 : decode cX7_makeNode 76 = .ok (.aload_n 0, 1) := by decide +kernel
theorem dX7_makeNode_77 : decode cX7_makeNode 77 = .ok (.getfield 121, 3) := by decide +kernel
theorem dX7_makeNode_80 : decode cX7_makeNode 80 = .ok (.iload_n 3, 1) := by decide +kernel
theorem dX7_makeNode_81 : decode cX7_makeNode 81 = .ok (.ifCond .ne 7, 3) := by decide +kernel
theorem dX7_makeNode_84 : decode cX7_makeNode 84 = .ok (.iconst 1, 1) := by decide +kernel
theorem dX7_makeNode_85 : decode cX7_makeNode 85 = .ok (.goto 17, 3) := by decide +kernel
theorem dX7_makeNode_88 : decode cX7_makeNode 88 = .ok (.iload_n 3, 1) := by decide +kernel
theorem dX7_makeNode_89 : decode cX7_makeNode 89 = .ok (.aload_n 0, 1) := by decide +kernel
theorem dX7_makeNode_90 : decode cX7_makeNode 90 = .ok (.getfield 168, 3) := by decide +kernel
theorem dX7_makeNode_93 : decode cX7_makeNode 93 = .ok (.if_icmp .ne 7, 3) := by decide +kernel
theorem dX7_makeNode_96 : decode cX7_makeNode 96 = .ok (.iconst 0, 1) := by decide +kernel
theorem dX7_makeNode_97 : decode cX7_makeNode 97 = .ok (.goto 5, 3) := by decide +kernel
theorem dX7_makeNode_100 : decode cX7_makeNode 100 = .ok (.ldc 171, 2) := by decide +kernel
theorem dX7_makeNode_102 : decode cX7_makeNode 102 = .ok (.iastore, 1) := by decide +kernel
theorem dX7_makeNode_103 : decode cX7_makeNode 103 = .ok (.aload_n 0, 1) := by decide +kernel
theorem dX7_makeNode_104 : decode cX7_makeNode 104 = .ok (.getfield 30, 3) := by decide +kernel
theorem dX7_makeNode_107 : decode cX7_makeNode 107 = .ok (.aload_n 0, 1) := by decide +kernel
theorem dX7_makeNode_108 : decode cX7_makeNode 108 = .ok (.getfield 121, 3) := by decide +kernel
theorem dX7_makeNode_111 : decode cX7_makeNode 111 = .ok (.iload_n 3, 1) := by decide +kernel
theorem dX7_makeNode_112 : decode cX7_makeNode 112 = .ok (.ifCond .ne 7, 3) := by decide +kernel
theorem dX7_makeNode_115 : decode cX7_makeNode 115 = .ok (.iconst 1, 1) := by decide +kernel
theorem dX7_makeNode_116 : decode cX7_makeNode 116 = .ok (.goto 17, 3) := by decide +kernel
theorem dX7_makeNode_119 : decode cX7_makeNode 119 = .ok (.iload_n 3, 1) := by decide +kernel
theorem dX7_makeNode_120 : decode cX7_makeNode 120 = .ok (.aload_n 0, 1) := by decide +kernel
theorem dX7_makeNode_121 : decode cX7_makeNode 121 = .ok (.getfield 168, 3) := by decide +kernel
theorem dX7_makeNode_124 : decode cX7_makeNode 124 = .ok (.if_icmp .ne 8, 3) := by decide +kernel
theorem dX7_makeNode_127 : decode cX7_makeNode 127 = .ok (.ldc 171, 2) := by decide +kernel
theorem dX7_makeNode_129 : decode cX7_makeNode 129 = .ok (.goto 4, 3) := by decide +kernel
theorem dX7_makeNode_132 : decode cX7_makeNode 132 = .ok (.iconst 0, 1) := by decide +kernel
theorem dX7_makeNode_133 : decode cX7_makeNode 133 = .ok (.iastore, 1) := by decide +kernel
theorem dX7_makeNode_134 : decode cX7_makeNode 134 = .ok (.aload_n 0, 1) := by decide +kernel
theorem dX7_makeNode_135 : decode cX7_makeNode 135 = .ok (.dup, 1) := by decide +kernel
theorem dX7_makeNode_136 : decode cX7_makeNode 136 = .ok (.getfield 121, 3) := by decide +kernel
theorem dX7_makeNode_139 : decode cX7_makeNode 139 = .ok (.iconst 1, 1) := by decide +kernel
theorem dX7_makeNode_140 : decode cX7_makeNode 140 = .ok (.iadd, 1) := by decide +kernel
theorem dX7_makeNode_141 : decode cX7_makeNode 141 = .ok (.putfield 121, 3) := by decide +kernel
theorem dX7_makeNode_144 : decode cX7_makeNode 144 = .ok (.return_, 1) := by decide +kernel
theorem dX7_reckon_0 : decode cX7_reckon 0 = .ok (.ldc 171, 2) := by decide +kernel
theorem dX7_reckon_2 : decode cX7_reckon 2 = .ok (.istore_n 3, 1) := by decide +kernel
theorem dX7_reckon_3 : decode cX7_reckon 3 = .ok (.ldc 171, 2) := by decide +kernel
theorem dX7_reckon_5 : decode cX7_reckon 5 = .ok (.istore 4, 2) := by decide +kernel
theorem dX7_reckon_7 : decode cX7_reckon 7 = .ok (.lconst 0, 1) := by decide +kernel
theorem dX7_reckon_8 : decode cX7_reckon 8 = .ok (.lstore 5, 2) := by decide +kernel
theorem dX7_reckon_10 : decode cX7_reckon 10 = .ok (.lconst 0, 1) := by decide +kernel
theorem dX7_reckon_11 : decode cX7_reckon 11 = .ok (.lstore 7, 2) := by decide +kernel
theorem dX7_reckon_13 : decode cX7_reckon 13 = .ok (.aload_n 0, 1) := by decide +kernel
theorem dX7_reckon_14 : decode cX7_reckon 14 = .ok (.getfield 33, 3) := by decide +kernel
theorem dX7_reckon_17 : decode cX7_reckon 17 = .ok (.iload_n 1, 1) := by decide +kernel
theorem dX7_reckon_18 : decode cX7_reckon 18 = .ok (.iaload, 1) := by decide +kernel
theorem dX7_reckon_19 : decode cX7_reckon 19 = .ok (.istore 9, 2) := by decide +kernel
theorem dX7_reckon_21 : decode cX7_reckon 21 = .ok (.iload 9, 2) := by decide +kernel
theorem dX7_reckon_23 : decode cX7_reckon 23 = .ok (.aload_n 0, 1) := by decide +kernel
theorem dX7_reckon_24 : decode cX7_reckon 24 = .ok (.getfield 33, 3) := by decide +kernel
theorem dX7_reckon_27 : decode cX7_reckon 27 = .ok (.iload_n 1, 1) := by decide +kernel
theorem dX7_reckon_28 : decode cX7_reckon 28 = .ok (.iaload, 1) := by decide +kernel
theorem dX7_reckon_29 : decode cX7_reckon 29 = .ok (.aload_n 0, 1) := by decide +kernel
theorem dX7_reckon_30 : decode cX7_reckon 30 = .ok (.getfield 36, 3) := by decide +kernel
theorem dX7_reckon_33 : decode cX7_reckon 33 = .ok (.iload_n 1, 1) := by decide +kernel
theorem dX7_reckon_34 : decode cX7_reckon 34 = .ok (.iaload, 1) := by decide +kernel
theorem dX7_reckon_35 : decode cX7_reckon 35 = .ok (.iadd, 1) := by decide +kernel
theorem dX7_reckon_36 : decode cX7_reckon 36 = .ok (.if_icmp .ge 75, 3) := by decide +kernel
theorem dX7_reckon_39 : decode cX7_reckon 39 = .ok (.aload_n 0, 1) := by decide +kernel
theorem dX7_reckon_40 : decode cX7_reckon 40 = .ok (.getfield 27, 3) := by decide +kernel
theorem dX7_reckon_43 : decode cX7_reckon 43 = .ok (.iload 9, 2) := by decide +kernel
theorem dX7_reckon_45 : decode cX7_reckon 45 = .ok (.iaload, 1) := by decide +kernel
theorem dX7_reckon_46 : decode cX7_reckon 46 = .ok (.iload_n 3, 1) := by decide +kernel
theorem dX7_reckon_47 : decode cX7_reckon 47 = .ok (.if_icmp .ge 11, 3) := by decide +kernel
theorem dX7_reckon_50 : decode cX7_reckon 50 = .ok (.aload_n 0, 1) := by decide +kernel
theorem dX7_reckon_51 : decode cX7_reckon 51 = .ok (.getfield 27, 3) := by decide +kernel
theorem dX7_reckon_54 : decode cX7_reckon 54 = .ok (.iload 9, 2) := by decide +kernel
theorem dX7_reckon_56 : decode cX7_reckon 56 = .ok (.iaload, 1) := by decide +kernel
theorem dX7_reckon_57 : decode cX7_reckon 57 = .ok (.istore_n 3, 1) := by decide +kernel
theorem dX7_reckon_58 : decode cX7_reckon 58 = .ok (.aload_n 0, 1) := by decide +kernel
theorem dX7_reckon_59 : decode cX7_reckon 59 = .ok (.getfield 30, 3) := by decide +kernel
theorem dX7_reckon_62 : decode cX7_reckon 62 = .ok (.iload 9, 2) := by decide +kernel
theorem dX7_reckon_64 : decode cX7_reckon 64 = .ok (.iaload, 1) := by decide +kernel
theorem dX7_reckon_65 : decode cX7_reckon 65 = .ok (.iload 4, 2) := by decide +kernel
theorem dX7_reckon_67 : decode cX7_reckon 67 = .ok (.if_icmp .ge 12, 3) := by decide +kernel
theorem dX7_reckon_70 : decode cX7_reckon 70 = .ok (.aload_n 0, 1) := by decide +kernel
theorem dX7_reckon_71 : decode cX7_reckon 71 = .ok (.getfield 30, 3) := by decide +kernel
theorem dX7_reckon_74 : decode cX7_reckon 74 = .ok (.iload 9, 2) := by decide +kernel
theorem dX7_reckon_76 : decode cX7_reckon 76 = .ok (.iaload, 1) := by decide +kernel
theorem dX7_reckon_77 : decode cX7_reckon 77 = .ok (.istore 4, 2) := by decide +kernel
theorem dX7_reckon_79 : decode cX7_reckon 79 = .ok (.lload 5, 2) := by decide +kernel
theorem dX7_reckon_81 : decode cX7_reckon 81 = .ok (.aload_n 0, 1) := by decide +kernel
theorem dX7_reckon_82 : decode cX7_reckon 82 = .ok (.getfield 27, 3) := by decide +kernel
theorem dX7_reckon_85 : decode cX7_reckon 85 = .ok (.iload 9, 2) := by decide +kernel
theorem dX7_reckon_87 : decode cX7_reckon 87 = .ok (.iaload, 1) := by decide +kernel
theorem dX7_reckon_88 : decode cX7_reckon 88 = .ok (.i2l, 1) := by decide +kernel
theorem dX7_reckon_89 : decode cX7_reckon 89 = .ok (.ladd, 1) := by decide +kernel
theorem dX7_reckon_90 : decode cX7_reckon 90 = .ok (.lstore 5, 2) := by decide +kernel
theorem dX7_reckon_92 : decode cX7_reckon 92 = .ok (.lload 7, 2) := by decide +kernel
theorem dX7_reckon_94 : decode cX7_reckon 94 = .ok (.aload_n 0, 1) := by decide +kernel
theorem dX7_reckon_95 : decode cX7_reckon 95 = .ok (.getfield 30, 3) := by decide +kernel
theorem dX7_reckon_98 : decode cX7_reckon 98 = .ok (.iload 9, 2) := by decide +kernel
theorem dX7_reckon_100 : decode cX7_reckon 100 = .ok (.iaload, 1) := by decide +kernel
theorem dX7_reckon_101 : decode cX7_reckon 101 = .ok (.i2l, 1) := by decide +kernel
theorem dX7_reckon_102 : decode cX7_reckon 102 = .ok (.ladd, 1) := by decide +kernel
theorem dX7_reckon_103 : decode cX7_reckon 103 = .ok (.lstore 7, 2) := by decide +kernel
theorem dX7_reckon_105 : decode cX7_reckon 105 = .ok (.iinc 9 1, 3) := by decide +kernel
theorem dX7_reckon_108 : decode cX7_reckon 108 = .ok (.goto (-87), 3) := by decide +kernel
theorem dX7_reckon_111 : decode cX7_reckon 111 = .ok (.lload 5, 2) := by decide +kernel
theorem dX7_reckon_113 : decode cX7_reckon 113 = .ok (.ldc2_w 172, 3) := by decide +kernel
theorem dX7_reckon_116 : decode cX7_reckon 116 = .ok (.lcmp, 1) := by decide +kernel
theorem dX7_reckon_117 : decode cX7_reckon 117 = .ok (.ifCond .le 8, 3) := by decide +kernel
theorem dX7_reckon_120 : decode cX7_reckon 120 = .ok (.ldc2_w 172, 3) := by decide +kernel
theorem dX7_reckon_123 : decode cX7_reckon 123 = .ok (.lstore 5, 2) := by decide +kernel
theorem dX7_reckon_125 : decode cX7_reckon 125 = .ok (.lload 7, 2) := by decide +kernel
theorem dX7_reckon_127 : decode cX7_reckon 127 = .ok (.ldc2_w 172, 3) := by decide +kernel
theorem dX7_reckon_130 : decode cX7_reckon 130 = .ok (.lcmp, 1) := by decide +kernel
theorem dX7_reckon_131 : decode cX7_reckon 131 = .ok (.ifCond .le 8, 3) := by decide +kernel
theorem dX7_reckon_134 : decode cX7_reckon 134 = .ok (.ldc2_w 172, 3) := by decide +kernel
theorem dX7_reckon_137 : decode cX7_reckon 137 = .ok (.lstore 7, 2) := by decide +kernel
theorem dX7_reckon_139 : decode cX7_reckon 139 = .ok (.aload_n 0, 1) := by decide +kernel
theorem dX7_reckon_140 : decode cX7_reckon 140 = .ok (.getfield 27, 3) := by decide +kernel
theorem dX7_reckon_143 : decode cX7_reckon 143 = .ok (.iload_n 1, 1) := by decide +kernel
theorem dX7_reckon_144 : decode cX7_reckon 144 = .ok (.iload_n 2, 1) := by decide +kernel
theorem dX7_reckon_145 : decode cX7_reckon 145 = .ok (.ifCond .eq 7, 3) := by decide +kernel
theorem dX7_reckon_148 : decode cX7_reckon 148 = .ok (.iload_n 3, 1) := by decide +kernel
theorem dX7_reckon_149 : decode cX7_reckon 149 = .ok (.goto 6, 3) := by decide +kernel
theorem dX7_reckon_152 : decode cX7_reckon 152 = .ok (.lload 5, 2) := by decide +kernel
theorem dX7_reckon_154 : decode cX7_reckon 154 = .ok (.l2i, 1) := by decide +kernel
theorem dX7_reckon_155 : decode cX7_reckon 155 = .ok (.iastore, 1) := by decide +kernel
theorem dX7_reckon_156 : decode cX7_reckon 156 = .ok (.aload_n 0, 1) := by decide +kernel
theorem dX7_reckon_157 : decode cX7_reckon 157 = .ok (.getfield 30, 3) := by decide +kernel
theorem dX7_reckon_160 : decode cX7_reckon 160 = .ok (.iload_n 1, 1) := by decide +kernel
theorem dX7_reckon_161 : decode cX7_reckon 161 = .ok (.iload_n 2, 1) := by decide +kernel
theorem dX7_reckon_162 : decode cX7_reckon 162 = .ok (.ifCond .eq 9, 3) := by decide +kernel
theorem dX7_reckon_165 : decode cX7_reckon 165 = .ok (.lload 7, 2) := by decide +kernel
theorem dX7_reckon_167 : decode cX7_reckon 167 = .ok (.l2i, 1) := by decide +kernel
theorem dX7_reckon_168 : decode cX7_reckon 168 = .ok (.goto 5, 3) := by decide +kernel
theorem dX7_reckon_171 : decode cX7_reckon 171 = .ok (.iload 4, 2) := by decide +kernel
theorem dX7_reckon_173 : decode cX7_reckon 173 = .ok (.iastore, 1) := by decide +kernel
theorem dX7_reckon_174 : decode cX7_reckon 174 = .ok (.return_, 1) := by decide +kernel
theorem dX7_best_0 : decode cX7_best 0 = .ok (.aload_n 0, 1) := by decide +kernel
theorem dX7_best_1 : decode cX7_best 1 = .ok (.getfield 33, 3) := by decide +kernel
theorem dX7_best_4 : decode cX7_best 4 = .ok (.iload_n 1, 1) := by decide +kernel
theorem dX7_best_5 : decode cX7_best 5 = .ok (.iaload, 1) := by decide +kernel
theorem dX7_best_6 : decode cX7_best 6 = .ok (.istore_n 3, 1) := by decide +kernel
theorem dX7_best_7 : decode cX7_best 7 = .ok (.aload_n 0, 1) := by decide +kernel
theorem dX7_best_8 : decode cX7_best 8 = .ok (.getfield 33, 3) := by decide +kernel
theorem dX7_best_11 : decode cX7_best 11 = .ok (.iload_n 1, 1) := by decide +kernel
theorem dX7_best_12 : decode cX7_best 12 = .ok (.iaload, 1) := by decide +kernel
theorem dX7_best_13 : decode cX7_best 13 = .ok (.istore 4, 2) := by decide +kernel
theorem dX7_best_15 : decode cX7_best 15 = .ok (.iload 4, 2) := by decide +kernel
theorem dX7_best_17 : decode cX7_best 17 = .ok (.aload_n 0, 1) := by decide +kernel
theorem dX7_best_18 : decode cX7_best 18 = .ok (.getfield 33, 3) := by decide +kernel
theorem dX7_best_21 : decode cX7_best 21 = .ok (.iload_n 1, 1) := by decide +kernel
theorem dX7_best_22 : decode cX7_best 22 = .ok (.iaload, 1) := by decide +kernel
theorem dX7_best_23 : decode cX7_best 23 = .ok (.aload_n 0, 1) := by decide +kernel
theorem dX7_best_24 : decode cX7_best 24 = .ok (.getfield 36, 3) := by decide +kernel
theorem dX7_best_27 : decode cX7_best 27 = .ok (.iload_n 1, 1) := by decide +kernel
theorem dX7_best_28 : decode cX7_best 28 = .ok (.iaload, 1) := by decide +kernel
theorem dX7_best_29 : decode cX7_best 29 = .ok (.iadd, 1) := by decide +kernel
theorem dX7_best_30 : decode cX7_best 30 = .ok (.if_icmp .ge 51, 3) := by decide +kernel
theorem dX7_best_33 : decode cX7_best 33 = .ok (.iload_n 2, 1) := by decide +kernel
theorem dX7_best_34 : decode cX7_best 34 = .ok (.ifCond .eq 22, 3) := by decide +kernel
theorem dX7_best_37 : decode cX7_best 37 = .ok (.aload_n 0, 1) := by decide +kernel
theorem dX7_best_38 : decode cX7_best 38 = .ok (.getfield 27, 3) := by decide +kernel
theorem dX7_best_41 : decode cX7_best 41 = .ok (.iload 4, 2) := by decide +kernel
theorem dX7_best_43 : decode cX7_best 43 = .ok (.iaload, 1) := by decide +kernel
theorem dX7_best_44 : decode cX7_best 44 = .ok (.aload_n 0, 1) := by decide +kernel
theorem dX7_best_45 : decode cX7_best 45 = .ok (.getfield 27, 3) := by decide +kernel
theorem dX7_best_48 : decode cX7_best 48 = .ok (.iload_n 3, 1) := by decide +kernel
theorem dX7_best_49 : decode cX7_best 49 = .ok (.iaload, 1) := by decide +kernel
theorem dX7_best_50 : decode cX7_best 50 = .ok (.if_icmp .ge 25, 3) := by decide +kernel
theorem dX7_best_53 : decode cX7_best 53 = .ok (.goto 19, 3) := by decide +kernel
theorem dX7_best_56 : decode cX7_best 56 = .ok (.aload_n 0, 1) := by decide +kernel
theorem dX7_best_57 : decode cX7_best 57 = .ok (.getfield 30, 3) := by decide +kernel
theorem dX7_best_60 : decode cX7_best 60 = .ok (.iload 4, 2) := by decide +kernel
theorem dX7_best_62 : decode cX7_best 62 = .ok (.iaload, 1) := by decide +kernel
theorem dX7_best_63 : decode cX7_best 63 = .ok (.aload_n 0, 1) := by decide +kernel
theorem dX7_best_64 : decode cX7_best 64 = .ok (.getfield 30, 3) := by decide +kernel
theorem dX7_best_67 : decode cX7_best 67 = .ok (.iload_n 3, 1) := by decide +kernel
theorem dX7_best_68 : decode cX7_best 68 = .ok (.iaload, 1) := by decide +kernel
theorem dX7_best_69 : decode cX7_best 69 = .ok (.if_icmp .ge 6, 3) := by decide +kernel
theorem dX7_best_72 : decode cX7_best 72 = .ok (.iload 4, 2) := by decide +kernel
theorem dX7_best_74 : decode cX7_best 74 = .ok (.istore_n 3, 1) := by decide +kernel
theorem dX7_best_75 : decode cX7_best 75 = .ok (.iinc 4 1, 3) := by decide +kernel
theorem dX7_best_78 : decode cX7_best 78 = .ok (.goto (-63), 3) := by decide +kernel
theorem dX7_best_81 : decode cX7_best 81 = .ok (.iload_n 3, 1) := by decide +kernel
theorem dX7_best_82 : decode cX7_best 82 = .ok (.ireturn, 1) := by decide +kernel
theorem dX7_grow_0 : decode cX7_grow 0 = .ok (.iconst 0, 1) := by decide +kernel
theorem dX7_grow_1 : decode cX7_grow 1 = .ok (.istore_n 1, 1) := by decide +kernel
theorem dX7_grow_2 : decode cX7_grow 2 = .ok (.aload_n 0, 1) := by decide +kernel
theorem dX7_grow_3 : decode cX7_grow 3 = .ok (.getfield 168, 3) := by decide +kernel
theorem dX7_grow_6 : decode cX7_grow 6 = .ok (.istore_n 2, 1) := by decide +kernel
theorem dX7_grow_7 : decode cX7_grow 7 = .ok (.aload_n 0, 1) := by decide +kernel
theorem dX7_grow_8 : decode cX7_grow 8 = .ok (.getfield 36, 3) := by decide +kernel
theorem dX7_grow_11 : decode cX7_grow 11 = .ok (.iload_n 1, 1) := by decide +kernel
theorem dX7_grow_12 : decode cX7_grow 12 = .ok (.iaload, 1) := by decide +kernel
theorem dX7_grow_13 : decode cX7_grow 13 = .ok (.ifCond .le 42, 3) := by decide +kernel
theorem dX7_grow_16 : decode cX7_grow 16 = .ok (.aload_n 0, 1) := by decide +kernel
theorem dX7_grow_17 : decode cX7_grow 17 = .ok (.iload_n 1, 1) := by decide +kernel
theorem dX7_grow_18 : decode cX7_grow 18 = .ok (.iload_n 2, 1) := by decide +kernel
theorem dX7_grow_19 : decode cX7_grow 19 = .ok (.aload_n 0, 1) := by decide +kernel
theorem dX7_grow_20 : decode cX7_grow 20 = .ok (.getfield 168, 3) := by decide +kernel
theorem dX7_grow_23 : decode cX7_grow 23 = .ok (.if_icmp .ne 7, 3) := by decide +kernel
theorem dX7_grow_26 : decode cX7_grow 26 = .ok (.iconst 1, 1) := by decide +kernel
theorem dX7_grow_27 : decode cX7_grow 27 = .ok (.goto 4, 3) := by decide +kernel
theorem dX7_grow_30 : decode cX7_grow 30 = .ok (.iconst 0, 1) := by decide +kernel
theorem dX7_grow_31 : decode cX7_grow 31 = .ok (.invokevirtual 174, 3) := by decide +kernel
theorem dX7_grow_34 : decode cX7_grow 34 = .ok (.istore_n 1, 1) := by decide +kernel
theorem dX7_grow_35 : decode cX7_grow 35 = .ok (.aload_n 0, 1) := by decide +kernel
theorem dX7_grow_36 : decode cX7_grow 36 = .ok (.getfield 7, 3) := by decide +kernel
theorem dX7_grow_39 : decode cX7_grow 39 = .ok (.aload_n 0, 1) := by decide +kernel
theorem dX7_grow_40 : decode cX7_grow 40 = .ok (.getfield 21, 3) := by decide +kernel
theorem dX7_grow_43 : decode cX7_grow 43 = .ok (.iload_n 1, 1) := by decide +kernel
theorem dX7_grow_44 : decode cX7_grow 44 = .ok (.iaload, 1) := by decide +kernel
theorem dX7_grow_45 : decode cX7_grow 45 = .ok (.iload_n 2, 1) := by decide +kernel
theorem dX7_grow_46 : decode cX7_grow 46 = .ok (.i2b, 1) := by decide +kernel
theorem dX7_grow_47 : decode cX7_grow 47 = .ok (.bastore, 1) := by decide +kernel
theorem dX7_grow_48 : decode cX7_grow 48 = .ok (.iconst 3, 1) := by decide +kernel
theorem dX7_grow_49 : decode cX7_grow 49 = .ok (.iload_n 2, 1) := by decide +kernel
theorem dX7_grow_50 : decode cX7_grow 50 = .ok (.isub, 1) := by decide +kernel
theorem dX7_grow_51 : decode cX7_grow 51 = .ok (.istore_n 2, 1) := by decide +kernel
theorem dX7_grow_52 : decode cX7_grow 52 = .ok (.goto (-45), 3) := by decide +kernel
theorem dX7_grow_55 : decode cX7_grow 55 = .ok (.aload_n 0, 1) := by decide +kernel
theorem dX7_grow_56 : decode cX7_grow 56 = .ok (.getfield 121, 3) := by decide +kernel
theorem dX7_grow_59 : decode cX7_grow 59 = .ok (.aload_n 0, 1) := by decide +kernel
theorem dX7_grow_60 : decode cX7_grow 60 = .ok (.invokevirtual 115, 3) := by decide +kernel
theorem dX7_grow_63 : decode cX7_grow 63 = .ok (.iadd, 1) := by decide +kernel
theorem dX7_grow_64 : decode cX7_grow 64 = .ok (.aload_n 0, 1) := by decide +kernel
theorem dX7_grow_65 : decode cX7_grow 65 = .ok (.getfield 178, 3) := by decide +kernel
theorem dX7_grow_68 : decode cX7_grow 68 = .ok (.if_icmp .gt 7, 3) := by decide +kernel
theorem dX7_grow_71 : decode cX7_grow 71 = .ok (.iconst 1, 1) := by decide +kernel
theorem dX7_grow_72 : decode cX7_grow 72 = .ok (.goto 4, 3) := by decide +kernel
theorem dX7_grow_75 : decode cX7_grow 75 = .ok (.iconst 0, 1) := by decide +kernel
theorem dX7_grow_76 : decode cX7_grow 76 = .ok (.istore_n 3, 1) := by decide +kernel
theorem dX7_grow_77 : decode cX7_grow 77 = .ok (.iload_n 3, 1) := by decide +kernel
theorem dX7_grow_78 : decode cX7_grow 78 = .ok (.ifCond .eq 85, 3) := by decide +kernel
theorem dX7_grow_81 : decode cX7_grow 81 = .ok (.aload_n 0, 1) := by decide +kernel
theorem dX7_grow_82 : decode cX7_grow 82 = .ok (.getfield 33, 3) := by decide +kernel
theorem dX7_grow_85 : decode cX7_grow 85 = .ok (.iload_n 1, 1) := by decide +kernel
theorem dX7_grow_86 : decode cX7_grow 86 = .ok (.aload_n 0, 1) := by decide +kernel
theorem dX7_grow_87 : decode cX7_grow 87 = .ok (.getfield 121, 3) := by decide +kernel
theorem dX7_grow_90 : decode cX7_grow 90 = .ok (.iastore, 1) := by decide +kernel
theorem dX7_grow_91 : decode cX7_grow 91 = .ok (.iconst 0, 1) := by decide +kernel
theorem dX7_grow_92 : decode cX7_grow 92 = .ok (.istore 4, 2) := by decide +kernel
theorem dX7_grow_94 : decode cX7_grow 94 = .ok (.iload 4, 2) := by decide +kernel
theorem dX7_grow_96 : decode cX7_grow 96 = .ok (.aload_n 0, 1) := by decide +kernel
theorem dX7_grow_97 : decode cX7_grow 97 = .ok (.getfield 76, 3) := by decide +kernel
theorem dX7_grow_100 : decode cX7_grow 100 = .ok (.if_icmp .ge 46, 3) := by decide +kernel
theorem dX7_grow_103 : decode cX7_grow 103 = .ok (.aload_n 0, 1) := by decide +kernel
theorem dX7_grow_104 : decode cX7_grow 104 = .ok (.getfield 7, 3) := by decide +kernel
theorem dX7_grow_107 : decode cX7_grow 107 = .ok (.iload 4, 2) := by decide +kernel
theorem dX7_grow_109 : decode cX7_grow 109 = .ok (.baload, 1) := by decide +kernel
theorem dX7_grow_110 : decode cX7_grow 110 = .ok (.ifCond .eq 6, 3) := by decide +kernel
theorem dX7_grow_113 : decode cX7_grow 113 = .ok (.goto 27, 3) := by decide +kernel
theorem dX7_grow_116 : decode cX7_grow 116 = .ok (.aload_n 0, 1) := by decide +kernel
theorem dX7_grow_117 : decode cX7_grow 117 = .ok (.getfield 7, 3) := by decide +kernel
theorem dX7_grow_120 : decode cX7_grow 120 = .ok (.iload 4, 2) := by decide +kernel
theorem dX7_grow_122 : decode cX7_grow 122 = .ok (.iload_n 2, 1) := by decide +kernel
theorem dX7_grow_123 : decode cX7_grow 123 = .ok (.i2b, 1) := by decide +kernel
theorem dX7_grow_124 : decode cX7_grow 124 = .ok (.bastore, 1) := by decide +kernel
theorem dX7_grow_125 : decode cX7_grow 125 = .ok (.aload_n 0, 1) := by decide +kernel
theorem dX7_grow_126 : decode cX7_grow 126 = .ok (.iload 4, 2) := by decide +kernel
theorem dX7_grow_128 : decode cX7_grow 128 = .ok (.iload_n 1, 1) := by decide +kernel
theorem dX7_grow_129 : decode cX7_grow 129 = .ok (.invokevirtual 181, 3) := by decide +kernel
theorem dX7_grow_132 : decode cX7_grow 132 = .ok (.aload_n 0, 1) := by decide +kernel
theorem dX7_grow_133 : decode cX7_grow 133 = .ok (.getfield 7, 3) := by decide +kernel
theorem dX7_grow_136 : decode cX7_grow 136 = .ok (.iload 4, 2) := by decide +kernel
theorem dX7_grow_138 : decode cX7_grow 138 = .ok (.iconst 0, 1) := by decide +kernel
theorem dX7_grow_139 : decode cX7_grow 139 = .ok (.bastore, 1) := by decide +kernel
theorem dX7_grow_140 : decode cX7_grow 140 = .ok (.iinc 4 1, 3) := by decide +kernel
theorem dX7_grow_143 : decode cX7_grow 143 = .ok (.goto (-49), 3) := by decide +kernel
theorem dX7_grow_146 : decode cX7_grow 146 = .ok (.aload_n 0, 1) := by decide +kernel
theorem dX7_grow_147 : decode cX7_grow 147 = .ok (.getfield 36, 3) := by decide +kernel
theorem dX7_grow_150 : decode cX7_grow 150 = .ok (.iload_n 1, 1) := by decide +kernel
theorem dX7_grow_151 : decode cX7_grow 151 = .ok (.aload_n 0, 1) := by decide +kernel
theorem dX7_grow_152 : decode cX7_grow 152 = .ok (.getfield 121, 3) := by decide +kernel
theorem dX7_grow_155 : decode cX7_grow 155 = .ok (.aload_n 0, 1) := by decide +kernel
theorem dX7_grow_156 : decode cX7_grow 156 = .ok (.getfield 33, 3) := by decide +kernel
theorem dX7_grow_159 : decode cX7_grow 159 = .ok (.iload_n 1, 1) := by decide +kernel
theorem dX7_grow_160 : decode cX7_grow 160 = .ok (.iaload, 1) := by decide +kernel
theorem dX7_grow_161 : decode cX7_grow 161 = .ok (.isub, 1) := by decide +kernel
theorem dX7_grow_162 : decode cX7_grow 162 = .ok (.iastore, 1) := by decide +kernel
theorem dX7_grow_163 : decode cX7_grow 163 = .ok (.iload_n 1, 1) := by decide +kernel
theorem dX7_grow_164 : decode cX7_grow 164 = .ok (.ifCond .lt 55, 3) := by decide +kernel
theorem dX7_grow_167 : decode cX7_grow 167 = .ok (.iload_n 3, 1) := by decide +kernel
theorem dX7_grow_168 : decode cX7_grow 168 = .ok (.ifCond .eq 21, 3) := by decide +kernel
theorem dX7_grow_171 : decode cX7_grow 171 = .ok (.aload_n 0, 1) := by decide +kernel
theorem dX7_grow_172 : decode cX7_grow 172 = .ok (.iload_n 1, 1) := by decide +kernel
theorem dX7_grow_173 : decode cX7_grow 173 = .ok (.iload_n 2, 1) := by decide +kernel
theorem dX7_grow_174 : decode cX7_grow 174 = .ok (.aload_n 0, 1) := by decide +kernel
theorem dX7_grow_175 : decode cX7_grow 175 = .ok (.getfield 168, 3) := by decide +kernel
theorem dX7_grow_178 : decode cX7_grow 178 = .ok (.if_icmp .ne 7, 3) := by decide +kernel
theorem dX7_grow_181 : decode cX7_grow 181 = .ok (.iconst 1, 1) := by decide +kernel
theorem dX7_grow_182 : decode cX7_grow 182 = .ok (.goto 4, 3) := by decide +kernel
theorem dX7_grow_185 : decode cX7_grow 185 = .ok (.iconst 0, 1) := by decide +kernel
theorem dX7_grow_186 : decode cX7_grow 186 = .ok (.invokevirtual 185, 3) := by decide +kernel
theorem dX7_grow_189 : decode cX7_grow 189 = .ok (.iload_n 1, 1) := by decide +kernel
theorem dX7_grow_190 : decode cX7_grow 190 = .ok (.ifCond .le 15, 3) := by decide +kernel
theorem dX7_grow_193 : decode cX7_grow 193 = .ok (.aload_n 0, 1) := by decide +kernel
theorem dX7_grow_194 : decode cX7_grow 194 = .ok (.getfield 7, 3) := by decide +kernel
theorem dX7_grow_197 : decode cX7_grow 197 = .ok (.aload_n 0, 1) := by decide +kernel
theorem dX7_grow_198 : decode cX7_grow 198 = .ok (.getfield 21, 3) := by decide +kernel
theorem dX7_grow_201 : decode cX7_grow 201 = .ok (.iload_n 1, 1) := by decide +kernel
theorem dX7_grow_202 : decode cX7_grow 202 = .ok (.iaload, 1) := by decide +kernel
theorem dX7_grow_203 : decode cX7_grow 203 = .ok (.iconst 0, 1) := by decide +kernel
theorem dX7_grow_204 : decode cX7_grow 204 = .ok (.bastore, 1) := by decide +kernel
theorem dX7_grow_205 : decode cX7_grow 205 = .ok (.aload_n 0, 1) := by decide +kernel
theorem dX7_grow_206 : decode cX7_grow 206 = .ok (.getfield 24, 3) := by decide +kernel
theorem dX7_grow_209 : decode cX7_grow 209 = .ok (.iload_n 1, 1) := by decide +kernel
theorem dX7_grow_210 : decode cX7_grow 210 = .ok (.iaload, 1) := by decide +kernel
theorem dX7_grow_211 : decode cX7_grow 211 = .ok (.istore_n 1, 1) := by decide +kernel
theorem dX7_grow_212 : decode cX7_grow 212 = .ok (.iconst 3, 1) := by decide +kernel
theorem dX7_grow_213 : decode cX7_grow 213 = .ok (.iload_n 2, 1) := by decide +kernel
theorem dX7_grow_214 : decode cX7_grow 214 = .ok (.isub, 1) := by decide +kernel
theorem dX7_grow_215 : decode cX7_grow 215 = .ok (.istore_n 2, 1) := by decide +kernel
theorem dX7_grow_216 : decode cX7_grow 216 = .ok (.goto (-53), 3) := by decide +kernel
theorem dX7_grow_219 : decode cX7_grow 219 = .ok (.iload_n 3, 1) := by decide +kernel
theorem dX7_grow_220 : decode cX7_grow 220 = .ok (.ireturn, 1) := by decide +kernel
theorem dX7_search_0 : decode cX7_search 0 = .ok (.iload_n 1, 1) := by decide +kernel
theorem dX7_search_1 : decode cX7_search 1 = .ok (.iconst 1, 1) := by decide +kernel
theorem dX7_search_2 : decode cX7_search 2 = .ok (.if_icmp .lt 17, 3) := by decide +kernel
theorem dX7_search_5 : decode cX7_search 5 = .ok (.iload_n 1, 1) := by decide +kernel
theorem dX7_search_6 : decode cX7_search 6 = .ok (.sipush 8000, 3) := by decide +kernel
theorem dX7_search_9 : decode cX7_search 9 = .ok (.if_icmp .gt 10, 3) := by decide +kernel
theorem dX7_search_12 : decode cX7_search 12 = .ok (.aload_n 0, 1) := by decide +kernel
theorem dX7_search_13 : decode cX7_search 13 = .ok (.invokevirtual 111, 3) := by decide +kernel
theorem dX7_search_16 : decode cX7_search 16 = .ok (.ifCond .eq 5, 3) := by decide +kernel
theorem dX7_search_19 : decode cX7_search 19 = .ok (.iconst (-1), 1) := by decide +kernel
theorem dX7_search_20 : decode cX7_search 20 = .ok (.ireturn, 1) := by decide +kernel
theorem dX7_search_21 : decode cX7_search 21 = .ok (.aload_n 0, 1) := by decide +kernel
theorem dX7_search_22 : decode cX7_search 22 = .ok (.iload_n 1, 1) := by decide +kernel
theorem dX7_search_23 : decode cX7_search 23 = .ok (.putfield 178, 3) := by decide +kernel
theorem dX7_search_26 : decode cX7_search 26 = .ok (.aload_n 0, 1) := by decide +kernel
theorem dX7_search_27 : decode cX7_search 27 = .ok (.aload_n 0, 1) := by decide +kernel
theorem dX7_search_28 : decode cX7_search 28 = .ok (.getfield 13, 3) := by decide +kernel
theorem dX7_search_31 : decode cX7_search 31 = .ok (.putfield 168, 3) := by decide +kernel
theorem dX7_search_34 : decode cX7_search 34 = .ok (.aload_n 0, 1) := by decide +kernel
theorem dX7_search_35 : decode cX7_search 35 = .ok (.iconst 0, 1) := by decide +kernel
theorem dX7_search_36 : decode cX7_search 36 = .ok (.putfield 121, 3) := by decide +kernel
theorem dX7_search_39 : decode cX7_search 39 = .ok (.aload_n 0, 1) := by decide +kernel
theorem dX7_search_40 : decode cX7_search 40 = .ok (.iconst 0, 1) := by decide +kernel
theorem dX7_search_41 : decode cX7_search 41 = .ok (.putfield 124, 3) := by decide +kernel
theorem dX7_search_44 : decode cX7_search 44 = .ok (.aload_n 0, 1) := by decide +kernel
theorem dX7_search_45 : decode cX7_search 45 = .ok (.iconst (-1), 1) := by decide +kernel
theorem dX7_search_46 : decode cX7_search 46 = .ok (.iconst (-1), 1) := by decide +kernel
theorem dX7_search_47 : decode cX7_search 47 = .ok (.invokevirtual 181, 3) := by decide +kernel
theorem dX7_search_50 : decode cX7_search 50 = .ok (.iconst 1, 1) := by decide +kernel
theorem dX7_search_51 : decode cX7_search 51 = .ok (.istore_n 2, 1) := by decide +kernel
theorem dX7_search_52 : decode cX7_search 52 = .ok (.iload_n 2, 1) := by decide +kernel
theorem dX7_search_53 : decode cX7_search 53 = .ok (.ifCond .eq 29, 3) := by decide +kernel
theorem dX7_search_56 : decode cX7_search 56 = .ok (.aload_n 0, 1) := by decide +kernel
theorem dX7_search_57 : decode cX7_search 57 = .ok (.getfield 27, 3) := by decide +kernel
theorem dX7_search_60 : decode cX7_search 60 = .ok (.iconst 0, 1) := by decide +kernel
theorem dX7_search_61 : decode cX7_search 61 = .ok (.iaload, 1) := by decide +kernel
theorem dX7_search_62 : decode cX7_search 62 = .ok (.ifCond .eq 20, 3) := by decide +kernel
theorem dX7_search_65 : decode cX7_search 65 = .ok (.aload_n 0, 1) := by decide +kernel
theorem dX7_search_66 : decode cX7_search 66 = .ok (.getfield 30, 3) := by decide +kernel
theorem dX7_search_69 : decode cX7_search 69 = .ok (.iconst 0, 1) := by decide +kernel
theorem dX7_search_70 : decode cX7_search 70 = .ok (.iaload, 1) := by decide +kernel
theorem dX7_search_71 : decode cX7_search 71 = .ok (.ifCond .eq 11, 3) := by decide +kernel
theorem dX7_search_74 : decode cX7_search 74 = .ok (.aload_n 0, 1) := by decide +kernel
theorem dX7_search_75 : decode cX7_search 75 = .ok (.invokevirtual 189, 3) := by decide +kernel
theorem dX7_search_78 : decode cX7_search 78 = .ok (.istore_n 2, 1) := by decide +kernel
theorem dX7_search_79 : decode cX7_search 79 = .ok (.goto (-27), 3) := by decide +kernel
theorem dX7_search_82 : decode cX7_search 82 = .ok (.aload_n 0, 1) := by decide +kernel
theorem dX7_search_83 : decode cX7_search 83 = .ok (.aload_n 0, 1) := by decide +kernel
theorem dX7_search_84 : decode cX7_search 84 = .ok (.getfield 27, 3) := by decide +kernel
theorem dX7_search_87 : decode cX7_search 87 = .ok (.iconst 0, 1) := by decide +kernel
theorem dX7_search_88 : decode cX7_search 88 = .ok (.iaload, 1) := by decide +kernel
theorem dX7_search_89 : decode cX7_search 89 = .ok (.ifCond .ne 10, 3) := by decide +kernel
theorem dX7_search_92 : decode cX7_search 92 = .ok (.aload_n 0, 1) := by decide +kernel
theorem dX7_search_93 : decode cX7_search 93 = .ok (.getfield 168, 3) := by decide +kernel
theorem dX7_search_96 : decode cX7_search 96 = .ok (.goto 22, 3) := by decide +kernel
theorem dX7_search_99 : decode cX7_search 99 = .ok (.aload_n 0, 1) := by decide +kernel
theorem dX7_search_100 : decode cX7_search 100 = .ok (.getfield 30, 3) := by decide +kernel
theorem dX7_search_103 : decode cX7_search 103 = .ok (.iconst 0, 1) := by decide +kernel
theorem dX7_search_104 : decode cX7_search 104 = .ok (.iaload, 1) := by decide +kernel
theorem dX7_search_105 : decode cX7_search 105 = .ok (.ifCond .ne 12, 3) := by decide +kernel
theorem dX7_search_108 : decode cX7_search 108 = .ok (.iconst 3, 1) := by decide +kernel
theorem dX7_search_109 : decode cX7_search 109 = .ok (.aload_n 0, 1) := by decide +kernel
theorem dX7_search_110 : decode cX7_search 110 = .ok (.getfield 168, 3) := by decide +kernel
theorem dX7_search_113 : decode cX7_search 113 = .ok (.isub, 1) := by decide +kernel
theorem dX7_search_114 : decode cX7_search 114 = .ok (.goto 4, 3) := by decide +kernel
theorem dX7_search_117 : decode cX7_search 117 = .ok (.iconst 0, 1) := by decide +kernel
theorem dX7_search_118 : decode cX7_search 118 = .ok (.putfield 193, 3) := by decide +kernel
theorem dX7_search_121 : decode cX7_search 121 = .ok (.aload_n 0, 1) := by decide +kernel
theorem dX7_search_122 : decode cX7_search 122 = .ok (.getfield 193, 3) := by decide +kernel
theorem dX7_search_125 : decode cX7_search 125 = .ok (.ifCond .eq 7, 3) := by decide +kernel
theorem dX7_search_128 : decode cX7_search 128 = .ok (.aload_n 0, 1) := by decide +kernel
theorem dX7_search_129 : decode cX7_search 129 = .ok (.invokevirtual 196, 3) := by decide +kernel
theorem dX7_search_132 : decode cX7_search 132 = .ok (.aload_n 0, 1) := by decide +kernel
theorem dX7_search_133 : decode cX7_search 133 = .ok (.getfield 193, 3) := by decide +kernel
theorem dX7_search_136 : decode cX7_search 136 = .ok (.ireturn, 1) := by decide +kernel
theorem dX7_isEnd_0 : decode cX7_isEnd 0 = .ok (.aload_n 0, 1) := by decide +kernel
theorem dX7_isEnd_1 : decode cX7_isEnd 1 = .ok (.getfield 27, 3) := by decide +kernel
theorem dX7_isEnd_4 : decode cX7_isEnd 4 = .ok (.iload_n 1, 1) := by decide +kernel
theorem dX7_isEnd_5 : decode cX7_isEnd 5 = .ok (.iaload, 1) := by decide +kernel
theorem dX7_isEnd_6 : decode cX7_isEnd 6 = .ok (.ifCond .ne 23, 3) := by decide +kernel
theorem dX7_isEnd_9 : decode cX7_isEnd 9 = .ok (.aload_n 0, 1) := by decide +kernel
theorem dX7_isEnd_10 : decode cX7_isEnd 10 = .ok (.getfield 30, 3) := by decide +kernel
theorem dX7_isEnd_13 : decode cX7_isEnd 13 = .ok (.iload_n 1, 1) := by decide +kernel
theorem dX7_isEnd_14 : decode cX7_isEnd 14 = .ok (.iaload, 1) := by decide +kernel
theorem dX7_isEnd_15 : decode cX7_isEnd 15 = .ok (.ldc 171, 2) := by decide +kernel
theorem dX7_isEnd_17 : decode cX7_isEnd 17 = .ok (.if_icmp .ne 12, 3) := by decide +kernel
theorem dX7_isEnd_20 : decode cX7_isEnd 20 = .ok (.aload_n 0, 1) := by decide +kernel
theorem dX7_isEnd_21 : decode cX7_isEnd 21 = .ok (.getfield 36, 3) := by decide +kernel
theorem dX7_isEnd_24 : decode cX7_isEnd 24 = .ok (.iload_n 1, 1) := by decide +kernel
theorem dX7_isEnd_25 : decode cX7_isEnd 25 = .ok (.iaload, 1) := by decide +kernel
theorem dX7_isEnd_26 : decode cX7_isEnd 26 = .ok (.ifCond .eq 32, 3) := by decide +kernel
theorem dX7_isEnd_29 : decode cX7_isEnd 29 = .ok (.aload_n 0, 1) := by decide +kernel
theorem dX7_isEnd_30 : decode cX7_isEnd 30 = .ok (.getfield 30, 3) := by decide +kernel
theorem dX7_isEnd_33 : decode cX7_isEnd 33 = .ok (.iload_n 1, 1) := by decide +kernel
theorem dX7_isEnd_34 : decode cX7_isEnd 34 = .ok (.iaload, 1) := by decide +kernel
theorem dX7_isEnd_35 : decode cX7_isEnd 35 = .ok (.ifCond .ne 27, 3) := by decide +kernel
theorem dX7_isEnd_38 : decode cX7_isEnd 38 = .ok (.aload_n 0, 1) := by decide +kernel
theorem dX7_isEnd_39 : decode cX7_isEnd 39 = .ok (.getfield 27, 3) := by decide +kernel
theorem dX7_isEnd_42 : decode cX7_isEnd 42 = .ok (.iload_n 1, 1) := by decide +kernel
theorem dX7_isEnd_43 : decode cX7_isEnd 43 = .ok (.iaload, 1) := by decide +kernel
theorem dX7_isEnd_44 : decode cX7_isEnd 44 = .ok (.ldc 171, 2) := by decide +kernel
theorem dX7_isEnd_46 : decode cX7_isEnd 46 = .ok (.if_icmp .ne 16, 3) := by decide +kernel
theorem dX7_isEnd_49 : decode cX7_isEnd 49 = .ok (.aload_n 0, 1) := by decide +kernel
theorem dX7_isEnd_50 : decode cX7_isEnd 50 = .ok (.getfield 36, 3) := by decide +kernel
theorem dX7_isEnd_53 : decode cX7_isEnd 53 = .ok (.iload_n 1, 1) := by decide +kernel
theorem dX7_isEnd_54 : decode cX7_isEnd 54 = .ok (.iaload, 1) := by decide +kernel
theorem dX7_isEnd_55 : decode cX7_isEnd 55 = .ok (.ifCond .ne 7, 3) := by decide +kernel
theorem dX7_isEnd_58 : decode cX7_isEnd 58 = .ok (.iconst 1, 1) := by decide +kernel
theorem dX7_isEnd_59 : decode cX7_isEnd 59 = .ok (.goto 4, 3) := by decide +kernel
theorem dX7_isEnd_62 : decode cX7_isEnd 62 = .ok (.iconst 0, 1) := by decide +kernel
theorem dX7_isEnd_63 : decode cX7_isEnd 63 = .ok (.ireturn, 1) := by decide +kernel
theorem dX7_isOwn_0 : decode cX7_isOwn 0 = .ok (.aload_n 0, 1) := by decide +kernel
theorem dX7_isOwn_1 : decode cX7_isOwn 1 = .ok (.getfield 168, 3) := by decide +kernel
theorem dX7_isOwn_4 : decode cX7_isOwn 4 = .ok (.istore_n 2, 1) := by decide +kernel
theorem dX7_isOwn_5 : decode cX7_isOwn 5 = .ok (.iload_n 1, 1) := by decide +kernel
theorem dX7_isOwn_6 : decode cX7_isOwn 6 = .ok (.istore_n 3, 1) := by decide +kernel
theorem dX7_isOwn_7 : decode cX7_isOwn 7 = .ok (.iload_n 3, 1) := by decide +kernel
theorem dX7_isOwn_8 : decode cX7_isOwn 8 = .ok (.ifCond .le 17, 3) := by decide +kernel
theorem dX7_isOwn_11 : decode cX7_isOwn 11 = .ok (.iconst 3, 1) := by decide +kernel
theorem dX7_isOwn_12 : decode cX7_isOwn 12 = .ok (.iload_n 2, 1) := by decide +kernel
theorem dX7_isOwn_13 : decode cX7_isOwn 13 = .ok (.isub, 1) := by decide +kernel
theorem dX7_isOwn_14 : decode cX7_isOwn 14 = .ok (.istore_n 2, 1) := by decide +kernel
theorem dX7_isOwn_15 : decode cX7_isOwn 15 = .ok (.aload_n 0, 1) := by decide +kernel
theorem dX7_isOwn_16 : decode cX7_isOwn 16 = .ok (.getfield 24, 3) := by decide +kernel
theorem dX7_isOwn_19 : decode cX7_isOwn 19 = .ok (.iload_n 3, 1) := by decide +kernel
theorem dX7_isOwn_20 : decode cX7_isOwn 20 = .ok (.iaload, 1) := by decide +kernel
theorem dX7_isOwn_21 : decode cX7_isOwn 21 = .ok (.istore_n 3, 1) := by decide +kernel
theorem dX7_isOwn_22 : decode cX7_isOwn 22 = .ok (.goto (-15), 3) := by decide +kernel
theorem dX7_isOwn_25 : decode cX7_isOwn 25 = .ok (.iload_n 2, 1) := by decide +kernel
theorem dX7_isOwn_26 : decode cX7_isOwn 26 = .ok (.aload_n 0, 1) := by decide +kernel
theorem dX7_isOwn_27 : decode cX7_isOwn 27 = .ok (.getfield 193, 3) := by decide +kernel
theorem dX7_isOwn_30 : decode cX7_isOwn 30 = .ok (.if_icmp .ne 7, 3) := by decide +kernel
theorem dX7_isOwn_33 : decode cX7_isOwn 33 = .ok (.iconst 1, 1) := by decide +kernel
theorem dX7_isOwn_34 : decode cX7_isOwn 34 = .ok (.goto 4, 3) := by decide +kernel
theorem dX7_isOwn_37 : decode cX7_isOwn 37 = .ok (.iconst 0, 1) := by decide +kernel
theorem dX7_isOwn_38 : decode cX7_isOwn 38 = .ok (.ireturn, 1) := by decide +kernel
theorem dX7_isSure_0 : decode cX7_isSure 0 = .ok (.aload_n 0, 1) := by decide +kernel
theorem dX7_isSure_1 : decode cX7_isSure 1 = .ok (.getfield 193, 3) := by decide +kernel
theorem dX7_isSure_4 : decode cX7_isSure 4 = .ok (.aload_n 0, 1) := by decide +kernel
theorem dX7_isSure_5 : decode cX7_isSure 5 = .ok (.getfield 168, 3) := by decide +kernel
theorem dX7_isSure_8 : decode cX7_isSure 8 = .ok (.if_icmp .ne 20, 3) := by decide +kernel
theorem dX7_isSure_11 : decode cX7_isSure 11 = .ok (.aload_n 0, 1) := by decide +kernel
theorem dX7_isSure_12 : decode cX7_isSure 12 = .ok (.getfield 27, 3) := by decide +kernel
theorem dX7_isSure_15 : decode cX7_isSure 15 = .ok (.iload_n 1, 1) := by decide +kernel
theorem dX7_isSure_16 : decode cX7_isSure 16 = .ok (.iaload, 1) := by decide +kernel
theorem dX7_isSure_17 : decode cX7_isSure 17 = .ok (.ifCond .ne 7, 3) := by decide +kernel
theorem dX7_isSure_20 : decode cX7_isSure 20 = .ok (.iconst 1, 1) := by decide +kernel
theorem dX7_isSure_21 : decode cX7_isSure 21 = .ok (.goto 21, 3) := by decide +kernel
theorem dX7_isSure_24 : decode cX7_isSure 24 = .ok (.iconst 0, 1) := by decide +kernel
theorem dX7_isSure_25 : decode cX7_isSure 25 = .ok (.goto 17, 3) := by decide +kernel
theorem dX7_isSure_28 : decode cX7_isSure 28 = .ok (.aload_n 0, 1) := by decide +kernel
theorem dX7_isSure_29 : decode cX7_isSure 29 = .ok (.getfield 30, 3) := by decide +kernel
theorem dX7_isSure_32 : decode cX7_isSure 32 = .ok (.iload_n 1, 1) := by decide +kernel
theorem dX7_isSure_33 : decode cX7_isSure 33 = .ok (.iaload, 1) := by decide +kernel
theorem dX7_isSure_34 : decode cX7_isSure 34 = .ok (.ifCond .ne 7, 3) := by decide +kernel
theorem dX7_isSure_37 : decode cX7_isSure 37 = .ok (.iconst 1, 1) := by decide +kernel
theorem dX7_isSure_38 : decode cX7_isSure 38 = .ok (.goto 4, 3) := by decide +kernel
theorem dX7_isSure_41 : decode cX7_isSure 41 = .ok (.iconst 0, 1) := by decide +kernel
theorem dX7_isSure_42 : decode cX7_isSure 42 = .ok (.ireturn, 1) := by decide +kernel
theorem dX7_gather_0 : decode cX7_gather 0 = .ok (.iconst 1, 1) := by decide +kernel
theorem dX7_gather_1 : decode cX7_gather 1 = .ok (.istore_n 1, 1) := by decide +kernel
theorem dX7_gather_2 : decode cX7_gather 2 = .ok (.aload_n 0, 1) := by decide +kernel
theorem dX7_gather_3 : decode cX7_gather 3 = .ok (.getfield 58, 3) := by decide +kernel
theorem dX7_gather_6 : decode cX7_gather 6 = .ok (.iconst 0, 1) := by decide +kernel
theorem dX7_gather_7 : decode cX7_gather 7 = .ok (.iconst 0, 1) := by decide +kernel
theorem dX7_gather_8 : decode cX7_gather 8 = .ok (.iastore, 1) := by decide +kernel
theorem dX7_gather_9 : decode cX7_gather 9 = .ok (.aload_n 0, 1) := by decide +kernel
theorem dX7_gather_10 : decode cX7_gather 10 = .ok (.getfield 61, 3) := by decide +kernel
theorem dX7_gather_13 : decode cX7_gather 13 = .ok (.iconst 0, 1) := by decide +kernel
theorem dX7_gather_14 : decode cX7_gather 14 = .ok (.iconst (-1), 1) := by decide +kernel
theorem dX7_gather_15 : decode cX7_gather 15 = .ok (.iastore, 1) := by decide +kernel
theorem dX7_gather_16 : decode cX7_gather 16 = .ok (.iload_n 1, 1) := by decide +kernel
theorem dX7_gather_17 : decode cX7_gather 17 = .ok (.ifCond .le 174, 3) := by decide +kernel
theorem dX7_gather_20 : decode cX7_gather 20 = .ok (.iinc 1 (-1), 3) := by decide +kernel
theorem dX7_gather_23 : decode cX7_gather 23 = .ok (.aload_n 0, 1) := by decide +kernel
theorem dX7_gather_24 : decode cX7_gather 24 = .ok (.getfield 58, 3) := by decide +kernel
theorem dX7_gather_27 : decode cX7_gather 27 = .ok (.iload_n 1, 1) := by decide +kernel
theorem dX7_gather_28 : decode cX7_gather 28 = .ok (.iaload, 1) := by decide +kernel
theorem dX7_gather_29 : decode cX7_gather 29 = .ok (.istore_n 2, 1) := by decide +kernel
theorem dX7_gather_30 : decode cX7_gather 30 = .ok (.aload_n 0, 1) := by decide +kernel
theorem dX7_gather_31 : decode cX7_gather 31 = .ok (.getfield 61, 3) := by decide +kernel
theorem dX7_gather_34 : decode cX7_gather 34 = .ok (.iload_n 1, 1) := by decide +kernel
theorem dX7_gather_35 : decode cX7_gather 35 = .ok (.iaload, 1) := by decide +kernel
theorem dX7_gather_36 : decode cX7_gather 36 = .ok (.istore_n 3, 1) := by decide +kernel
theorem dX7_gather_37 : decode cX7_gather 37 = .ok (.iload_n 2, 1) := by decide +kernel
theorem dX7_gather_38 : decode cX7_gather 38 = .ok (.ifCond .le 43, 3) := by decide +kernel
theorem dX7_gather_41 : decode cX7_gather 41 = .ok (.aload_n 0, 1) := by decide +kernel
theorem dX7_gather_42 : decode cX7_gather 42 = .ok (.getfield 39, 3) := by decide +kernel
theorem dX7_gather_45 : decode cX7_gather 45 = .ok (.aload_n 0, 1) := by decide +kernel
theorem dX7_gather_46 : decode cX7_gather 46 = .ok (.getfield 124, 3) := by decide +kernel
theorem dX7_gather_49 : decode cX7_gather 49 = .ok (.iload_n 3, 1) := by decide +kernel
theorem dX7_gather_50 : decode cX7_gather 50 = .ok (.iastore, 1) := by decide +kernel
theorem dX7_gather_51 : decode cX7_gather 51 = .ok (.aload_n 0, 1) := by decide +kernel
theorem dX7_gather_52 : decode cX7_gather 52 = .ok (.getfield 42, 3) := by decide +kernel
theorem dX7_gather_55 : decode cX7_gather 55 = .ok (.aload_n 0, 1) := by decide +kernel
theorem dX7_gather_56 : decode cX7_gather 56 = .ok (.getfield 124, 3) := by decide +kernel
theorem dX7_gather_59 : decode cX7_gather 59 = .ok (.aload_n 0, 1) := by decide +kernel
theorem dX7_gather_60 : decode cX7_gather 60 = .ok (.getfield 21, 3) := by decide +kernel
theorem dX7_gather_63 : decode cX7_gather 63 = .ok (.iload_n 2, 1) := by decide +kernel
theorem dX7_gather_64 : decode cX7_gather 64 = .ok (.iaload, 1) := by decide +kernel
theorem dX7_gather_65 : decode cX7_gather 65 = .ok (.iastore, 1) := by decide +kernel
theorem dX7_gather_66 : decode cX7_gather 66 = .ok (.aload_n 0, 1) := by decide +kernel
theorem dX7_gather_67 : decode cX7_gather 67 = .ok (.getfield 124, 3) := by decide +kernel
theorem dX7_gather_70 : decode cX7_gather 70 = .ok (.istore_n 3, 1) := by decide +kernel
theorem dX7_gather_71 : decode cX7_gather 71 = .ok (.aload_n 0, 1) := by decide +kernel
theorem dX7_gather_72 : decode cX7_gather 72 = .ok (.dup, 1) := by decide +kernel
theorem dX7_gather_73 : decode cX7_gather 73 = .ok (.getfield 124, 3) := by decide +kernel
theorem dX7_gather_76 : decode cX7_gather 76 = .ok (.iconst 1, 1) := by decide +kernel
theorem dX7_gather_77 : decode cX7_gather 77 = .ok (.iadd, 1) := by decide +kernel
theorem dX7_gather_78 : decode cX7_gather 78 = .ok (.putfield 124, 3) := by decide +kernel
theorem dX7_gather_81 : decode cX7_gather 81 = .ok (.aload_n 0, 1) := by decide +kernel
theorem dX7_gather_82 : decode cX7_gather 82 = .ok (.iload_n 2, 1) := by decide +kernel
theorem dX7_gather_83 : decode cX7_gather 83 = .ok (.invokevirtual 199, 3) := by decide +kernel
theorem dX7_gather_86 : decode cX7_gather 86 = .ok (.ifCond .eq 6, 3) := by decide +kernel
theorem dX7_gather_89 : decode cX7_gather 89 = .ok (.goto (-73), 3) := by decide +kernel
theorem dX7_gather_92 : decode cX7_gather 92 = .ok (.aload_n 0, 1) := by decide +kernel
theorem dX7_gather_93 : decode cX7_gather 93 = .ok (.getfield 33, 3) := by decide +kernel
theorem dX7_gather_96 : decode cX7_gather 96 = .ok (.iload_n 2, 1) := by decide +kernel
theorem dX7_gather_97 : decode cX7_gather 97 = .ok (.iaload, 1) := by decide +kernel
theorem dX7_gather_98 : decode cX7_gather 98 = .ok (.istore 4, 2) := by decide +kernel
theorem dX7_gather_100 : decode cX7_gather 100 = .ok (.aload_n 0, 1) := by decide +kernel
theorem dX7_gather_101 : decode cX7_gather 101 = .ok (.iload_n 2, 1) := by decide +kernel
theorem dX7_gather_102 : decode cX7_gather 102 = .ok (.invokevirtual 202, 3) := by decide +kernel
theorem dX7_gather_105 : decode cX7_gather 105 = .ok (.ifCond .eq 39, 3) := by decide +kernel
theorem dX7_gather_108 : decode cX7_gather 108 = .ok (.aload_n 0, 1) := by decide +kernel
theorem dX7_gather_109 : decode cX7_gather 109 = .ok (.iload 4, 2) := by decide +kernel
theorem dX7_gather_111 : decode cX7_gather 111 = .ok (.invokevirtual 205, 3) := by decide +kernel
theorem dX7_gather_114 : decode cX7_gather 114 = .ok (.ifCond .ne 9, 3) := by decide +kernel
theorem dX7_gather_117 : decode cX7_gather 117 = .ok (.iinc 4 1, 3) := by decide +kernel
theorem dX7_gather_120 : decode cX7_gather 120 = .ok (.goto (-12), 3) := by decide +kernel
theorem dX7_gather_123 : decode cX7_gather 123 = .ok (.aload_n 0, 1) := by decide +kernel
theorem dX7_gather_124 : decode cX7_gather 124 = .ok (.getfield 58, 3) := by decide +kernel
theorem dX7_gather_127 : decode cX7_gather 127 = .ok (.iload_n 1, 1) := by decide +kernel
theorem dX7_gather_128 : decode cX7_gather 128 = .ok (.iload 4, 2) := by decide +kernel
theorem dX7_gather_130 : decode cX7_gather 130 = .ok (.iastore, 1) := by decide +kernel
theorem dX7_gather_131 : decode cX7_gather 131 = .ok (.aload_n 0, 1) := by decide +kernel
theorem dX7_gather_132 : decode cX7_gather 132 = .ok (.getfield 61, 3) := by decide +kernel
theorem dX7_gather_135 : decode cX7_gather 135 = .ok (.iload_n 1, 1) := by decide +kernel
theorem dX7_gather_136 : decode cX7_gather 136 = .ok (.iload_n 3, 1) := by decide +kernel
theorem dX7_gather_137 : decode cX7_gather 137 = .ok (.iastore, 1) := by decide +kernel
theorem dX7_gather_138 : decode cX7_gather 138 = .ok (.iinc 1 1, 3) := by decide +kernel
theorem dX7_gather_141 : decode cX7_gather 141 = .ok (.goto 47, 3) := by decide +kernel
theorem dX7_gather_144 : decode cX7_gather 144 = .ok (.iload 4, 2) := by decide +kernel
theorem dX7_gather_146 : decode cX7_gather 146 = .ok (.aload_n 0, 1) := by decide +kernel
theorem dX7_gather_147 : decode cX7_gather 147 = .ok (.getfield 36, 3) := by decide +kernel
theorem dX7_gather_150 : decode cX7_gather 150 = .ok (.iload_n 2, 1) := by decide +kernel
theorem dX7_gather_151 : decode cX7_gather 151 = .ok (.iaload, 1) := by decide +kernel
theorem dX7_gather_152 : decode cX7_gather 152 = .ok (.iadd, 1) := by decide +kernel
theorem dX7_gather_153 : decode cX7_gather 153 = .ok (.iconst 1, 1) := by decide +kernel
theorem dX7_gather_154 : decode cX7_gather 154 = .ok (.isub, 1) := by decide +kernel
theorem dX7_gather_155 : decode cX7_gather 155 = .ok (.istore 5, 2) := by decide +kernel
theorem dX7_gather_157 : decode cX7_gather 157 = .ok (.iload 5, 2) := by decide +kernel
theorem dX7_gather_159 : decode cX7_gather 159 = .ok (.iload 4, 2) := by decide +kernel
theorem dX7_gather_161 : decode cX7_gather 161 = .ok (.if_icmp .lt 27, 3) := by decide +kernel
theorem dX7_gather_164 : decode cX7_gather 164 = .ok (.aload_n 0, 1) := by decide +kernel
theorem dX7_gather_165 : decode cX7_gather 165 = .ok (.getfield 58, 3) := by decide +kernel
theorem dX7_gather_168 : decode cX7_gather 168 = .ok (.iload_n 1, 1) := by decide +kernel
theorem dX7_gather_169 : decode cX7_gather 169 = .ok (.iload 5, 2) := by decide +kernel
theorem dX7_gather_171 : decode cX7_gather 171 = .ok (.iastore, 1) := by decide +kernel
theorem dX7_gather_172 : decode cX7_gather 172 = .ok (.aload_n 0, 1) := by decide +kernel
theorem dX7_gather_173 : decode cX7_gather 173 = .ok (.getfield 61, 3) := by decide +kernel
theorem dX7_gather_176 : decode cX7_gather 176 = .ok (.iload_n 1, 1) := by decide +kernel
theorem dX7_gather_177 : decode cX7_gather 177 = .ok (.iload_n 3, 1) := by decide +kernel
theorem dX7_gather_178 : decode cX7_gather 178 = .ok (.iastore, 1) := by decide +kernel
theorem dX7_gather_179 : decode cX7_gather 179 = .ok (.iinc 1 1, 3) := by decide +kernel
theorem dX7_gather_182 : decode cX7_gather 182 = .ok (.iinc 5 (-1), 3) := by decide +kernel
theorem dX7_gather_185 : decode cX7_gather 185 = .ok (.goto (-28), 3) := by decide +kernel
theorem dX7_gather_188 : decode cX7_gather 188 = .ok (.goto (-172), 3) := by decide +kernel
theorem dX7_gather_191 : decode cX7_gather 191 = .ok (.return_, 1) := by decide +kernel
theorem dX7_node_0 : decode cX7_node 0 = .ok (.iload_n 1, 1) := by decide +kernel
theorem dX7_node_1 : decode cX7_node 1 = .ok (.ifCond .lt 11, 3) := by decide +kernel
theorem dX7_node_4 : decode cX7_node 4 = .ok (.iload_n 1, 1) := by decide +kernel
theorem dX7_node_5 : decode cX7_node 5 = .ok (.aload_n 0, 1) := by decide +kernel
theorem dX7_node_6 : decode cX7_node 6 = .ok (.getfield 121, 3) := by decide +kernel
theorem dX7_node_9 : decode cX7_node 9 = .ok (.if_icmp .lt 5, 3) := by decide +kernel
theorem dX7_node_12 : decode cX7_node 12 = .ok (.iconst (-1), 1) := by decide +kernel
theorem dX7_node_13 : decode cX7_node 13 = .ok (.ireturn, 1) := by decide +kernel
theorem dX7_node_14 : decode cX7_node 14 = .ok (.iload_n 2, 1) := by decide +kernel
theorem dX7_node_15 : decode cX7_node 15 = .ok (.tableswitch 79 0 5 #[37, 44, 51, 58, 65, 72], 37) := by decide +kernel
theorem dX7_node_52 : decode cX7_node 52 = .ok (.aload_n 0, 1) := by decide +kernel
theorem dX7_node_53 : decode cX7_node 53 = .ok (.getfield 21, 3) := by decide +kernel
theorem dX7_node_56 : decode cX7_node 56 = .ok (.iload_n 1, 1) := by decide +kernel
theorem dX7_node_57 : decode cX7_node 57 = .ok (.iaload, 1) := by decide +kernel
theorem dX7_node_58 : decode cX7_node 58 = .ok (.ireturn, 1) := by decide +kernel
theorem dX7_node_59 : decode cX7_node 59 = .ok (.aload_n 0, 1) := by decide +kernel
theorem dX7_node_60 : decode cX7_node 60 = .ok (.getfield 24, 3) := by decide +kernel
theorem dX7_node_63 : decode cX7_node 63 = .ok (.iload_n 1, 1) := by decide +kernel
theorem dX7_node_64 : decode cX7_node 64 = .ok (.iaload, 1) := by decide +kernel
theorem dX7_node_65 : decode cX7_node 65 = .ok (.ireturn, 1) := by decide +kernel
theorem dX7_node_66 : decode cX7_node 66 = .ok (.aload_n 0, 1) := by decide +kernel
theorem dX7_node_67 : decode cX7_node 67 = .ok (.getfield 27, 3) := by decide +kernel
theorem dX7_node_70 : decode cX7_node 70 = .ok (.iload_n 1, 1) := by decide +kernel
theorem dX7_node_71 : decode cX7_node 71 = .ok (.iaload, 1) := by decide +kernel
theorem dX7_node_72 : decode cX7_node 72 = .ok (.ireturn, 1) := by decide +kernel
theorem dX7_node_73 : decode cX7_node 73 = .ok (.aload_n 0, 1) := by decide +kernel
theorem dX7_node_74 : decode cX7_node 74 = .ok (.getfield 30, 3) := by decide +kernel
theorem dX7_node_77 : decode cX7_node 77 = .ok (.iload_n 1, 1) := by decide +kernel
theorem dX7_node_78 : decode cX7_node 78 = .ok (.iaload, 1) := by decide +kernel
theorem dX7_node_79 : decode cX7_node 79 = .ok (.ireturn, 1) := by decide +kernel
theorem dX7_node_80 : decode cX7_node 80 = .ok (.aload_n 0, 1) := by decide +kernel
theorem dX7_node_81 : decode cX7_node 81 = .ok (.getfield 33, 3) := by decide +kernel
theorem dX7_node_84 : decode cX7_node 84 = .ok (.iload_n 1, 1) := by decide +kernel
theorem dX7_node_85 : decode cX7_node 85 = .ok (.iaload, 1) := by decide +kernel
theorem dX7_node_86 : decode cX7_node 86 = .ok (.ireturn, 1) := by decide +kernel
theorem dX7_node_87 : decode cX7_node 87 = .ok (.aload_n 0, 1) := by decide +kernel
theorem dX7_node_88 : decode cX7_node 88 = .ok (.getfield 36, 3) := by decide +kernel
theorem dX7_node_91 : decode cX7_node 91 = .ok (.iload_n 1, 1) := by decide +kernel
theorem dX7_node_92 : decode cX7_node 92 = .ok (.iaload, 1) := by decide +kernel
theorem dX7_node_93 : decode cX7_node 93 = .ok (.ireturn, 1) := by decide +kernel
theorem dX7_node_94 : decode cX7_node 94 = .ok (.iconst (-1), 1) := by decide +kernel
theorem dX7_node_95 : decode cX7_node 95 = .ok (.ireturn, 1) := by decide +kernel
theorem dX7_strategy_0 : decode cX7_strategy 0 = .ok (.iload_n 1, 1) := by decide +kernel
theorem dX7_strategy_1 : decode cX7_strategy 1 = .ok (.ifCond .lt 20, 3) := by decide +kernel
theorem dX7_strategy_4 : decode cX7_strategy 4 = .ok (.iload_n 1, 1) := by decide +kernel
theorem dX7_strategy_5 : decode cX7_strategy 5 = .ok (.aload_n 0, 1) := by decide +kernel
theorem dX7_strategy_6 : decode cX7_strategy 6 = .ok (.getfield 124, 3) := by decide +kernel
theorem dX7_strategy_9 : decode cX7_strategy 9 = .ok (.if_icmp .ge 12, 3) := by decide +kernel
theorem dX7_strategy_12 : decode cX7_strategy 12 = .ok (.iload_n 2, 1) := by decide +kernel
theorem dX7_strategy_13 : decode cX7_strategy 13 = .ok (.ifCond .lt 8, 3) := by decide +kernel
theorem dX7_strategy_16 : decode cX7_strategy 16 = .ok (.iload_n 2, 1) := by decide +kernel
theorem dX7_strategy_17 : decode cX7_strategy 17 = .ok (.iconst 1, 1) := by decide +kernel
theorem dX7_strategy_18 : decode cX7_strategy 18 = .ok (.if_icmp .le 6, 3) := by decide +kernel
theorem dX7_strategy_21 : decode cX7_strategy 21 = .ok (.bipush (-3), 2) := by decide +kernel
theorem dX7_strategy_23 : decode cX7_strategy 23 = .ok (.ireturn, 1) := by decide +kernel
theorem dX7_strategy_24 : decode cX7_strategy 24 = .ok (.iload_n 2, 1) := by decide +kernel
theorem dX7_strategy_25 : decode cX7_strategy 25 = .ok (.ifCond .ne 12, 3) := by decide +kernel
theorem dX7_strategy_28 : decode cX7_strategy 28 = .ok (.aload_n 0, 1) := by decide +kernel
theorem dX7_strategy_29 : decode cX7_strategy 29 = .ok (.getfield 39, 3) := by decide +kernel
theorem dX7_strategy_32 : decode cX7_strategy 32 = .ok (.iload_n 1, 1) := by decide +kernel
theorem dX7_strategy_33 : decode cX7_strategy 33 = .ok (.iaload, 1) := by decide +kernel
theorem dX7_strategy_34 : decode cX7_strategy 34 = .ok (.goto 9, 3) := by decide +kernel
theorem dX7_strategy_37 : decode cX7_strategy 37 = .ok (.aload_n 0, 1) := by decide +kernel
theorem dX7_strategy_38 : decode cX7_strategy 38 = .ok (.getfield 42, 3) := by decide +kernel
theorem dX7_strategy_41 : decode cX7_strategy 41 = .ok (.iload_n 1, 1) := by decide +kernel
theorem dX7_strategy_42 : decode cX7_strategy 42 = .ok (.iaload, 1) := by decide +kernel
theorem dX7_strategy_43 : decode cX7_strategy 43 = .ok (.ireturn, 1) := by decide +kernel
theorem dX7_load_0 : decode cX7_load 0 = .ok (.iconst 0, 1) := by decide +kernel
theorem dX7_load_1 : decode cX7_load 1 = .ok (.istore_n 1, 1) := by decide +kernel
theorem dX7_load_2 : decode cX7_load 2 = .ok (.iload_n 1, 1) := by decide +kernel
theorem dX7_load_3 : decode cX7_load 3 = .ok (.aload_n 0, 1) := by decide +kernel
theorem dX7_load_4 : decode cX7_load 4 = .ok (.getfield 124, 3) := by decide +kernel
theorem dX7_load_7 : decode cX7_load 7 = .ok (.if_icmp .ge 33, 3) := by decide +kernel
theorem dX7_load_10 : decode cX7_load 10 = .ok (.aload_n 0, 1) := by decide +kernel
theorem dX7_load_11 : decode cX7_load 11 = .ok (.getfield 45, 3) := by decide +kernel
theorem dX7_load_14 : decode cX7_load 14 = .ok (.iload_n 1, 1) := by decide +kernel
theorem dX7_load_15 : decode cX7_load 15 = .ok (.aload_n 0, 1) := by decide +kernel
theorem dX7_load_16 : decode cX7_load 16 = .ok (.getfield 39, 3) := by decide +kernel
theorem dX7_load_19 : decode cX7_load 19 = .ok (.iload_n 1, 1) := by decide +kernel
theorem dX7_load_20 : decode cX7_load 20 = .ok (.iaload, 1) := by decide +kernel
theorem dX7_load_21 : decode cX7_load 21 = .ok (.iastore, 1) := by decide +kernel
theorem dX7_load_22 : decode cX7_load 22 = .ok (.aload_n 0, 1) := by decide +kernel
theorem dX7_load_23 : decode cX7_load 23 = .ok (.getfield 48, 3) := by decide +kernel
theorem dX7_load_26 : decode cX7_load 26 = .ok (.iload_n 1, 1) := by decide +kernel
theorem dX7_load_27 : decode cX7_load 27 = .ok (.aload_n 0, 1) := by decide +kernel
theorem dX7_load_28 : decode cX7_load 28 = .ok (.getfield 42, 3) := by decide +kernel
theorem dX7_load_31 : decode cX7_load 31 = .ok (.iload_n 1, 1) := by decide +kernel
theorem dX7_load_32 : decode cX7_load 32 = .ok (.iaload, 1) := by decide +kernel
theorem dX7_load_33 : decode cX7_load 33 = .ok (.iastore, 1) := by decide +kernel
theorem dX7_load_34 : decode cX7_load 34 = .ok (.iinc 1 1, 3) := by decide +kernel
theorem dX7_load_37 : decode cX7_load 37 = .ok (.goto (-35), 3) := by decide +kernel
theorem dX7_load_40 : decode cX7_load 40 = .ok (.aload_n 0, 1) := by decide +kernel
theorem dX7_load_41 : decode cX7_load 41 = .ok (.aload_n 0, 1) := by decide +kernel
theorem dX7_load_42 : decode cX7_load 42 = .ok (.getfield 124, 3) := by decide +kernel
theorem dX7_load_45 : decode cX7_load 45 = .ok (.putfield 127, 3) := by decide +kernel
theorem dX7_load_48 : decode cX7_load 48 = .ok (.aload_n 0, 1) := by decide +kernel
theorem dX7_load_49 : decode cX7_load 49 = .ok (.getfield 127, 3) := by decide +kernel
theorem dX7_load_52 : decode cX7_load 52 = .ok (.ireturn, 1) := by decide +kernel
theorem dX7_plant_0 : decode cX7_plant 0 = .ok (.aload_n 0, 1) := by decide +kernel
theorem dX7_plant_1 : decode cX7_plant 1 = .ok (.getfield 127, 3) := by decide +kernel
theorem dX7_plant_4 : decode cX7_plant 4 = .ok (.sipush 8000, 3) := by decide +kernel
theorem dX7_plant_7 : decode cX7_plant 7 = .ok (.if_icmp .eq 16, 3) := by decide +kernel
theorem dX7_plant_10 : decode cX7_plant 10 = .ok (.iload_n 1, 1) := by decide +kernel
theorem dX7_plant_11 : decode cX7_plant 11 = .ok (.iconst (-1), 1) := by decide +kernel
theorem dX7_plant_12 : decode cX7_plant 12 = .ok (.if_icmp .lt 11, 3) := by decide +kernel
theorem dX7_plant_15 : decode cX7_plant 15 = .ok (.iload_n 1, 1) := by decide +kernel
theorem dX7_plant_16 : decode cX7_plant 16 = .ok (.aload_n 0, 1) := by decide +kernel
theorem dX7_plant_17 : decode cX7_plant 17 = .ok (.getfield 127, 3) := by decide +kernel
theorem dX7_plant_20 : decode cX7_plant 20 = .ok (.if_icmp .lt 5, 3) := by decide +kernel
theorem dX7_plant_23 : decode cX7_plant 23 = .ok (.iconst (-1), 1) := by decide +kernel
theorem dX7_plant_24 : decode cX7_plant 24 = .ok (.ireturn, 1) := by decide +kernel
theorem dX7_plant_25 : decode cX7_plant 25 = .ok (.aload_n 0, 1) := by decide +kernel
theorem dX7_plant_26 : decode cX7_plant 26 = .ok (.getfield 45, 3) := by decide +kernel
theorem dX7_plant_29 : decode cX7_plant 29 = .ok (.aload_n 0, 1) := by decide +kernel
theorem dX7_plant_30 : decode cX7_plant 30 = .ok (.getfield 127, 3) := by decide +kernel
theorem dX7_plant_33 : decode cX7_plant 33 = .ok (.iload_n 1, 1) := by decide +kernel
theorem dX7_plant_34 : decode cX7_plant 34 = .ok (.iastore, 1) := by decide +kernel
theorem dX7_plant_35 : decode cX7_plant 35 = .ok (.aload_n 0, 1) := by decide +kernel
theorem dX7_plant_36 : decode cX7_plant 36 = .ok (.getfield 48, 3) := by decide +kernel
theorem dX7_plant_39 : decode cX7_plant 39 = .ok (.aload_n 0, 1) := by decide +kernel
theorem dX7_plant_40 : decode cX7_plant 40 = .ok (.getfield 127, 3) := by decide +kernel
theorem dX7_plant_43 : decode cX7_plant 43 = .ok (.iload_n 2, 1) := by decide +kernel
theorem dX7_plant_44 : decode cX7_plant 44 = .ok (.iastore, 1) := by decide +kernel
theorem dX7_plant_45 : decode cX7_plant 45 = .ok (.aload_n 0, 1) := by decide +kernel
theorem dX7_plant_46 : decode cX7_plant 46 = .ok (.dup, 1) := by decide +kernel
theorem dX7_plant_47 : decode cX7_plant 47 = .ok (.getfield 127, 3) := by decide +kernel
theorem dX7_plant_50 : decode cX7_plant 50 = .ok (.iconst 1, 1) := by decide +kernel
theorem dX7_plant_51 : decode cX7_plant 51 = .ok (.iadd, 1) := by decide +kernel
theorem dX7_plant_52 : decode cX7_plant 52 = .ok (.putfield 127, 3) := by decide +kernel
theorem dX7_plant_55 : decode cX7_plant 55 = .ok (.aload_n 0, 1) := by decide +kernel
theorem dX7_plant_56 : decode cX7_plant 56 = .ok (.getfield 127, 3) := by decide +kernel
theorem dX7_plant_59 : decode cX7_plant 59 = .ok (.iconst 1, 1) := by decide +kernel
theorem dX7_plant_60 : decode cX7_plant 60 = .ok (.isub, 1) := by decide +kernel
theorem dX7_plant_61 : decode cX7_plant 61 = .ok (.ireturn, 1) := by decide +kernel
theorem dX7_graft_0 : decode cX7_graft 0 = .ok (.iload_n 1, 1) := by decide +kernel
theorem dX7_graft_1 : decode cX7_graft 1 = .ok (.ifCond .lt 11, 3) := by decide +kernel
theorem dX7_graft_4 : decode cX7_graft 4 = .ok (.iload_n 1, 1) := by decide +kernel
theorem dX7_graft_5 : decode cX7_graft 5 = .ok (.aload_n 0, 1) := by decide +kernel
theorem dX7_graft_6 : decode cX7_graft 6 = .ok (.getfield 127, 3) := by decide +kernel
theorem dX7_graft_9 : decode cX7_graft 9 = .ok (.if_icmp .lt 5, 3) := by decide +kernel
theorem dX7_graft_12 : decode cX7_graft 12 = .ok (.iconst 0, 1) := by decide +kernel
theorem dX7_graft_13 : decode cX7_graft 13 = .ok (.ireturn, 1) := by decide +kernel
theorem dX7_graft_14 : decode cX7_graft 14 = .ok (.aload_n 0, 1) := by decide +kernel
theorem dX7_graft_15 : decode cX7_graft 15 = .ok (.getfield 48, 3) := by decide +kernel
theorem dX7_graft_18 : decode cX7_graft 18 = .ok (.iload_n 1, 1) := by decide +kernel
theorem dX7_graft_19 : decode cX7_graft 19 = .ok (.iload_n 2, 1) := by decide +kernel
theorem dX7_graft_20 : decode cX7_graft 20 = .ok (.iastore, 1) := by decide +kernel
theorem dX7_graft_21 : decode cX7_graft 21 = .ok (.iconst 1, 1) := by decide +kernel
theorem dX7_graft_22 : decode cX7_graft 22 = .ok (.ireturn, 1) := by decide +kernel
theorem dX7_prune_0 : decode cX7_prune 0 = .ok (.iload_n 1, 1) := by decide +kernel
theorem dX7_prune_1 : decode cX7_prune 1 = .ok (.ifCond .lt 11, 3) := by decide +kernel
theorem dX7_prune_4 : decode cX7_prune 4 = .ok (.iload_n 1, 1) := by decide +kernel
theorem dX7_prune_5 : decode cX7_prune 5 = .ok (.aload_n 0, 1) := by decide +kernel
theorem dX7_prune_6 : decode cX7_prune 6 = .ok (.getfield 127, 3) := by decide +kernel
theorem dX7_prune_9 : decode cX7_prune 9 = .ok (.if_icmp .le 5, 3) := by decide +kernel
theorem dX7_prune_12 : decode cX7_prune 12 = .ok (.iconst (-1), 1) := by decide +kernel
theorem dX7_prune_13 : decode cX7_prune 13 = .ok (.ireturn, 1) := by decide +kernel
theorem dX7_prune_14 : decode cX7_prune 14 = .ok (.aload_n 0, 1) := by decide +kernel
theorem dX7_prune_15 : decode cX7_prune 15 = .ok (.iload_n 1, 1) := by decide +kernel
theorem dX7_prune_16 : decode cX7_prune 16 = .ok (.putfield 127, 3) := by decide +kernel
theorem dX7_prune_19 : decode cX7_prune 19 = .ok (.iload_n 1, 1) := by decide +kernel
theorem dX7_prune_20 : decode cX7_prune 20 = .ok (.ireturn, 1) := by decide +kernel
theorem dX7_link_0 : decode cX7_link 0 = .ok (.iconst 0, 1) := by decide +kernel
theorem dX7_link_1 : decode cX7_link 1 = .ok (.istore_n 1, 1) := by decide +kernel
theorem dX7_link_2 : decode cX7_link 2 = .ok (.iload_n 1, 1) := by decide +kernel
theorem dX7_link_3 : decode cX7_link 3 = .ok (.aload_n 0, 1) := by decide +kernel
theorem dX7_link_4 : decode cX7_link 4 = .ok (.getfield 127, 3) := by decide +kernel
theorem dX7_link_7 : decode cX7_link 7 = .ok (.if_icmp .gt 16, 3) := by decide +kernel
theorem dX7_link_10 : decode cX7_link 10 = .ok (.aload_n 0, 1) := by decide +kernel
theorem dX7_link_11 : decode cX7_link 11 = .ok (.getfield 64, 3) := by decide +kernel
theorem dX7_link_14 : decode cX7_link 14 = .ok (.iload_n 1, 1) := by decide +kernel
theorem dX7_link_15 : decode cX7_link 15 = .ok (.iconst (-1), 1) := by decide +kernel
theorem dX7_link_16 : decode cX7_link 16 = .ok (.iastore, 1) := by decide +kernel
theorem dX7_link_17 : decode cX7_link 17 = .ok (.iinc 1 1, 3) := by decide +kernel
theorem dX7_link_20 : decode cX7_link 20 = .ok (.goto (-18), 3) := by decide +kernel
theorem dX7_link_23 : decode cX7_link 23 = .ok (.aload_n 0, 1) := by decide +kernel
theorem dX7_link_24 : decode cX7_link 24 = .ok (.getfield 127, 3) := by decide +kernel
theorem dX7_link_27 : decode cX7_link 27 = .ok (.iconst 1, 1) := by decide +kernel
theorem dX7_link_28 : decode cX7_link 28 = .ok (.isub, 1) := by decide +kernel
theorem dX7_link_29 : decode cX7_link 29 = .ok (.istore_n 1, 1) := by decide +kernel
theorem dX7_link_30 : decode cX7_link 30 = .ok (.iload_n 1, 1) := by decide +kernel
theorem dX7_link_31 : decode cX7_link 31 = .ok (.ifCond .lt 42, 3) := by decide +kernel
theorem dX7_link_34 : decode cX7_link 34 = .ok (.aload_n 0, 1) := by decide +kernel
theorem dX7_link_35 : decode cX7_link 35 = .ok (.getfield 67, 3) := by decide +kernel
theorem dX7_link_38 : decode cX7_link 38 = .ok (.iload_n 1, 1) := by decide +kernel
theorem dX7_link_39 : decode cX7_link 39 = .ok (.aload_n 0, 1) := by decide +kernel
theorem dX7_link_40 : decode cX7_link 40 = .ok (.getfield 64, 3) := by decide +kernel
theorem dX7_link_43 : decode cX7_link 43 = .ok (.aload_n 0, 1) := by decide +kernel
theorem dX7_link_44 : decode cX7_link 44 = .ok (.getfield 45, 3) := by decide +kernel
theorem dX7_link_47 : decode cX7_link 47 = .ok (.iload_n 1, 1) := by decide +kernel
theorem dX7_link_48 : decode cX7_link 48 = .ok (.iaload, 1) := by decide +kernel
theorem dX7_link_49 : decode cX7_link 49 = .ok (.iconst 1, 1) := by decide +kernel
theorem dX7_link_50 : decode cX7_link 50 = .ok (.iadd, 1) := by decide +kernel
theorem dX7_link_51 : decode cX7_link 51 = .ok (.iaload, 1) := by decide +kernel
theorem dX7_link_52 : decode cX7_link 52 = .ok (.iastore, 1) := by decide +kernel
theorem dX7_link_53 : decode cX7_link 53 = .ok (.aload_n 0, 1) := by decide +kernel
theorem dX7_link_54 : decode cX7_link 54 = .ok (.getfield 64, 3) := by decide +kernel
theorem dX7_link_57 : decode cX7_link 57 = .ok (.aload_n 0, 1) := by decide +kernel
theorem dX7_link_58 : decode cX7_link 58 = .ok (.getfield 45, 3) := by decide +kernel
theorem dX7_link_61 : decode cX7_link 61 = .ok (.iload_n 1, 1) := by decide +kernel
theorem dX7_link_62 : decode cX7_link 62 = .ok (.iaload, 1) := by decide +kernel
theorem dX7_link_63 : decode cX7_link 63 = .ok (.iconst 1, 1) := by decide +kernel
theorem dX7_link_64 : decode cX7_link 64 = .ok (.iadd, 1) := by decide +kernel
theorem dX7_link_65 : decode cX7_link 65 = .ok (.iload_n 1, 1) := by decide +kernel
theorem dX7_link_66 : decode cX7_link 66 = .ok (.iastore, 1) := by decide +kernel
theorem dX7_link_67 : decode cX7_link 67 = .ok (.iinc 1 (-1), 3) := by decide +kernel
theorem dX7_link_70 : decode cX7_link 70 = .ok (.goto (-40), 3) := by decide +kernel
theorem dX7_link_73 : decode cX7_link 73 = .ok (.return_, 1) := by decide +kernel
theorem dX7_isFree_0 : decode cX7_isFree 0 = .ok (.iload_n 1, 1) := by decide +kernel
theorem dX7_isFree_1 : decode cX7_isFree 1 = .ok (.ifCond .lt 24, 3) := by decide +kernel
theorem dX7_isFree_4 : decode cX7_isFree 4 = .ok (.iload_n 1, 1) := by decide +kernel
theorem dX7_isFree_5 : decode cX7_isFree 5 = .ok (.aload_n 0, 1) := by decide +kernel
theorem dX7_isFree_6 : decode cX7_isFree 6 = .ok (.getfield 76, 3) := by decide +kernel
theorem dX7_isFree_9 : decode cX7_isFree 9 = .ok (.if_icmp .ge 16, 3) := by decide +kernel
theorem dX7_isFree_12 : decode cX7_isFree 12 = .ok (.aload_n 0, 1) := by decide +kernel
theorem dX7_isFree_13 : decode cX7_isFree 13 = .ok (.getfield 7, 3) := by decide +kernel
theorem dX7_isFree_16 : decode cX7_isFree 16 = .ok (.iload_n 1, 1) := by decide +kernel
theorem dX7_isFree_17 : decode cX7_isFree 17 = .ok (.baload, 1) := by decide +kernel
theorem dX7_isFree_18 : decode cX7_isFree 18 = .ok (.ifCond .ne 7, 3) := by decide +kernel
theorem dX7_isFree_21 : decode cX7_isFree 21 = .ok (.iconst 1, 1) := by decide +kernel
theorem dX7_isFree_22 : decode cX7_isFree 22 = .ok (.goto 4, 3) := by decide +kernel
theorem dX7_isFree_25 : decode cX7_isFree 25 = .ok (.iconst 0, 1) := by decide +kernel
theorem dX7_isFree_26 : decode cX7_isFree 26 = .ok (.ireturn, 1) := by decide +kernel
theorem dX7_wrongBehind_0 : decode cX7_wrongBehind 0 = .ok (.aload_n 0, 1) := by decide +kernel
theorem dX7_wrongBehind_1 : decode cX7_wrongBehind 1 = .ok (.getfield 64, 3) := by decide +kernel
theorem dX7_wrongBehind_4 : decode cX7_wrongBehind 4 = .ok (.iload_n 1, 1) := by decide +kernel
theorem dX7_wrongBehind_5 : decode cX7_wrongBehind 5 = .ok (.iaload, 1) := by decide +kernel
theorem dX7_wrongBehind_6 : decode cX7_wrongBehind 6 = .ok (.istore_n 3, 1) := by decide +kernel
theorem dX7_wrongBehind_7 : decode cX7_wrongBehind 7 = .ok (.iload_n 2, 1) := by decide +kernel
theorem dX7_wrongBehind_8 : decode cX7_wrongBehind 8 = .ok (.ifCond .eq 22, 3) := by decide +kernel
theorem dX7_wrongBehind_11 : decode cX7_wrongBehind 11 = .ok (.iload_n 3, 1) := by decide +kernel
theorem dX7_wrongBehind_12 : decode cX7_wrongBehind 12 = .ok (.ifCond .lt 16, 3) := by decide +kernel
theorem dX7_wrongBehind_15 : decode cX7_wrongBehind 15 = .ok (.aload_n 0, 1) := by decide +kernel
theorem dX7_wrongBehind_16 : decode cX7_wrongBehind 16 = .ok (.getfield 67, 3) := by decide +kernel
theorem dX7_wrongBehind_19 : decode cX7_wrongBehind 19 = .ok (.iload_n 3, 1) := by decide +kernel
theorem dX7_wrongBehind_20 : decode cX7_wrongBehind 20 = .ok (.iaload, 1) := by decide +kernel
theorem dX7_wrongBehind_21 : decode cX7_wrongBehind 21 = .ok (.ifCond .ge 7, 3) := by decide +kernel
theorem dX7_wrongBehind_24 : decode cX7_wrongBehind 24 = .ok (.iconst 0, 1) := by decide +kernel
theorem dX7_wrongBehind_25 : decode cX7_wrongBehind 25 = .ok (.goto 4, 3) := by decide +kernel
theorem dX7_wrongBehind_28 : decode cX7_wrongBehind 28 = .ok (.iconst 3, 1) := by decide +kernel
theorem dX7_wrongBehind_29 : decode cX7_wrongBehind 29 = .ok (.ireturn, 1) := by decide +kernel
theorem dX7_wrongBehind_30 : decode cX7_wrongBehind 30 = .ok (.aload_n 0, 1) := by decide +kernel
theorem dX7_wrongBehind_31 : decode cX7_wrongBehind 31 = .ok (.invokevirtual 94, 3) := by decide +kernel
theorem dX7_wrongBehind_34 : decode cX7_wrongBehind 34 = .ok (.aload_n 0, 1) := by decide +kernel
theorem dX7_wrongBehind_35 : decode cX7_wrongBehind 35 = .ok (.invokevirtual 115, 3) := by decide +kernel
theorem dX7_wrongBehind_38 : decode cX7_wrongBehind 38 = .ok (.istore 4, 2) := by decide +kernel
theorem dX7_wrongBehind_40 : decode cX7_wrongBehind 40 = .ok (.iconst 1, 1) := by decide +kernel
theorem dX7_wrongBehind_41 : decode cX7_wrongBehind 41 = .ok (.istore 5, 2) := by decide +kernel
theorem dX7_wrongBehind_43 : decode cX7_wrongBehind 43 = .ok (.iload_n 3, 1) := by decide +kernel
theorem dX7_wrongBehind_44 : decode cX7_wrongBehind 44 = .ok (.ifCond .lt 70, 3) := by decide +kernel
theorem dX7_wrongBehind_47 : decode cX7_wrongBehind 47 = .ok (.iload 5, 2) := by decide +kernel
theorem dX7_wrongBehind_49 : decode cX7_wrongBehind 49 = .ok (.ifCond .eq 65, 3) := by decide +kernel
theorem dX7_wrongBehind_52 : decode cX7_wrongBehind 52 = .ok (.aload_n 0, 1) := by decide +kernel
theorem dX7_wrongBehind_53 : decode cX7_wrongBehind 53 = .ok (.aload_n 0, 1) := by decide +kernel
theorem dX7_wrongBehind_54 : decode cX7_wrongBehind 54 = .ok (.getfield 48, 3) := by decide +kernel
theorem dX7_wrongBehind_57 : decode cX7_wrongBehind 57 = .ok (.iload_n 3, 1) := by decide +kernel
theorem dX7_wrongBehind_58 : decode cX7_wrongBehind 58 = .ok (.iaload, 1) := by decide +kernel
theorem dX7_wrongBehind_59 : decode cX7_wrongBehind 59 = .ok (.invokevirtual 208, 3) := by decide +kernel
theorem dX7_wrongBehind_62 : decode cX7_wrongBehind 62 = .ok (.ifCond .eq 21, 3) := by decide +kernel
theorem dX7_wrongBehind_65 : decode cX7_wrongBehind 65 = .ok (.aload_n 0, 1) := by decide +kernel
theorem dX7_wrongBehind_66 : decode cX7_wrongBehind 66 = .ok (.getfield 51, 3) := by decide +kernel
theorem dX7_wrongBehind_69 : decode cX7_wrongBehind 69 = .ok (.aload_n 0, 1) := by decide +kernel
theorem dX7_wrongBehind_70 : decode cX7_wrongBehind 70 = .ok (.getfield 48, 3) := by decide +kernel
theorem dX7_wrongBehind_73 : decode cX7_wrongBehind 73 = .ok (.iload_n 3, 1) := by decide +kernel
theorem dX7_wrongBehind_74 : decode cX7_wrongBehind 74 = .ok (.iaload, 1) := by decide +kernel
theorem dX7_wrongBehind_75 : decode cX7_wrongBehind 75 = .ok (.baload, 1) := by decide +kernel
theorem dX7_wrongBehind_76 : decode cX7_wrongBehind 76 = .ok (.ifCond .ne 7, 3) := by decide +kernel
theorem dX7_wrongBehind_79 : decode cX7_wrongBehind 79 = .ok (.iconst 1, 1) := by decide +kernel
theorem dX7_wrongBehind_80 : decode cX7_wrongBehind 80 = .ok (.goto 4, 3) := by decide +kernel
theorem dX7_wrongBehind_83 : decode cX7_wrongBehind 83 = .ok (.iconst 0, 1) := by decide +kernel
theorem dX7_wrongBehind_84 : decode cX7_wrongBehind 84 = .ok (.istore 5, 2) := by decide +kernel
theorem dX7_wrongBehind_86 : decode cX7_wrongBehind 86 = .ok (.iload 5, 2) := by decide +kernel
theorem dX7_wrongBehind_88 : decode cX7_wrongBehind 88 = .ok (.ifCond .eq 13, 3) := by decide +kernel
theorem dX7_wrongBehind_91 : decode cX7_wrongBehind 91 = .ok (.aload_n 0, 1) := by decide +kernel
theorem dX7_wrongBehind_92 : decode cX7_wrongBehind 92 = .ok (.aload_n 0, 1) := by decide +kernel
theorem dX7_wrongBehind_93 : decode cX7_wrongBehind 93 = .ok (.getfield 48, 3) := by decide +kernel
theorem dX7_wrongBehind_96 : decode cX7_wrongBehind 96 = .ok (.iload_n 3, 1) := by decide +kernel
theorem dX7_wrongBehind_97 : decode cX7_wrongBehind 97 = .ok (.iaload, 1) := by decide +kernel
theorem dX7_wrongBehind_98 : decode cX7_wrongBehind 98 = .ok (.invokevirtual 90, 3) := by decide +kernel
theorem dX7_wrongBehind_101 : decode cX7_wrongBehind 101 = .ok (.iinc 4 (-1), 3) := by decide +kernel
theorem dX7_wrongBehind_104 : decode cX7_wrongBehind 104 = .ok (.aload_n 0, 1) := by decide +kernel
theorem dX7_wrongBehind_105 : decode cX7_wrongBehind 105 = .ok (.getfield 67, 3) := by decide +kernel
theorem dX7_wrongBehind_108 : decode cX7_wrongBehind 108 = .ok (.iload_n 3, 1) := by decide +kernel
theorem dX7_wrongBehind_109 : decode cX7_wrongBehind 109 = .ok (.iaload, 1) := by decide +kernel
theorem dX7_wrongBehind_110 : decode cX7_wrongBehind 110 = .ok (.istore_n 3, 1) := by decide +kernel
theorem dX7_wrongBehind_111 : decode cX7_wrongBehind 111 = .ok (.goto (-68), 3) := by decide +kernel
theorem dX7_wrongBehind_114 : decode cX7_wrongBehind 114 = .ok (.iload 5, 2) := by decide +kernel
theorem dX7_wrongBehind_116 : decode cX7_wrongBehind 116 = .ok (.ifCond .eq 12, 3) := by decide +kernel
theorem dX7_wrongBehind_119 : decode cX7_wrongBehind 119 = .ok (.iload 4, 2) := by decide +kernel
theorem dX7_wrongBehind_121 : decode cX7_wrongBehind 121 = .ok (.ifCond .ne 7, 3) := by decide +kernel
theorem dX7_wrongBehind_124 : decode cX7_wrongBehind 124 = .ok (.iconst 0, 1) := by decide +kernel
theorem dX7_wrongBehind_125 : decode cX7_wrongBehind 125 = .ok (.goto 4, 3) := by decide +kernel
theorem dX7_wrongBehind_128 : decode cX7_wrongBehind 128 = .ok (.iconst 4, 1) := by decide +kernel
theorem dX7_wrongBehind_129 : decode cX7_wrongBehind 129 = .ok (.ireturn, 1) := by decide +kernel
theorem dX7_wrong_0 : decode cX7_wrong 0 = .ok (.aload_n 0, 1) := by decide +kernel
theorem dX7_wrong_1 : decode cX7_wrong 1 = .ok (.invokevirtual 111, 3) := by decide +kernel
theorem dX7_wrong_4 : decode cX7_wrong 4 = .ok (.istore 4, 2) := by decide +kernel
theorem dX7_wrong_6 : decode cX7_wrong 6 = .ok (.iload 4, 2) := by decide +kernel
theorem dX7_wrong_8 : decode cX7_wrong 8 = .ok (.iconst 3, 1) := by decide +kernel
theorem dX7_wrong_9 : decode cX7_wrong 9 = .ok (.iload_n 2, 1) := by decide +kernel
theorem dX7_wrong_10 : decode cX7_wrong 10 = .ok (.isub, 1) := by decide +kernel
theorem dX7_wrong_11 : decode cX7_wrong 11 = .ok (.if_icmp .ne 5, 3) := by decide +kernel
theorem dX7_wrong_14 : decode cX7_wrong 14 = .ok (.iconst 5, 1) := by decide +kernel
theorem dX7_wrong_15 : decode cX7_wrong 15 = .ok (.ireturn, 1) := by decide +kernel
theorem dX7_wrong_16 : decode cX7_wrong 16 = .ok (.iload 4, 2) := by decide +kernel
theorem dX7_wrong_18 : decode cX7_wrong 18 = .ok (.iload_n 2, 1) := by decide +kernel
theorem dX7_wrong_19 : decode cX7_wrong 19 = .ok (.if_icmp .ne 20, 3) := by decide +kernel
theorem dX7_wrong_22 : decode cX7_wrong 22 = .ok (.aload_n 0, 1) := by decide +kernel
theorem dX7_wrong_23 : decode cX7_wrong 23 = .ok (.getfield 64, 3) := by decide +kernel
theorem dX7_wrong_26 : decode cX7_wrong 26 = .ok (.iload_n 1, 1) := by decide +kernel
theorem dX7_wrong_27 : decode cX7_wrong 27 = .ok (.iconst 1, 1) := by decide +kernel
theorem dX7_wrong_28 : decode cX7_wrong 28 = .ok (.iadd, 1) := by decide +kernel
theorem dX7_wrong_29 : decode cX7_wrong 29 = .ok (.iaload, 1) := by decide +kernel
theorem dX7_wrong_30 : decode cX7_wrong 30 = .ok (.ifCond .lt 7, 3) := by decide +kernel
theorem dX7_wrong_33 : decode cX7_wrong 33 = .ok (.iconst 2, 1) := by decide +kernel
theorem dX7_wrong_34 : decode cX7_wrong 34 = .ok (.goto 4, 3) := by decide +kernel
theorem dX7_wrong_37 : decode cX7_wrong 37 = .ok (.iconst 0, 1) := by decide +kernel
theorem dX7_wrong_38 : decode cX7_wrong 38 = .ok (.ireturn, 1) := by decide +kernel
theorem dX7_wrong_39 : decode cX7_wrong 39 = .ok (.aload_n 0, 1) := by decide +kernel
theorem dX7_wrong_40 : decode cX7_wrong 40 = .ok (.iload_n 1, 1) := by decide +kernel
theorem dX7_wrong_41 : decode cX7_wrong 41 = .ok (.iconst 1, 1) := by decide +kernel
theorem dX7_wrong_42 : decode cX7_wrong 42 = .ok (.iadd, 1) := by decide +kernel
theorem dX7_wrong_43 : decode cX7_wrong 43 = .ok (.iload_n 3, 1) := by decide +kernel
theorem dX7_wrong_44 : decode cX7_wrong 44 = .ok (.invokevirtual 211, 3) := by decide +kernel
theorem dX7_wrong_47 : decode cX7_wrong 47 = .ok (.ireturn, 1) := by decide +kernel
theorem dX7_check_0 : decode cX7_check 0 = .ok (.iload_n 1, 1) := by decide +kernel
theorem dX7_check_1 : decode cX7_check 1 = .ok (.iconst 1, 1) := by decide +kernel
theorem dX7_check_2 : decode cX7_check 2 = .ok (.if_icmp .eq 8, 3) := by decide +kernel
theorem dX7_check_5 : decode cX7_check 5 = .ok (.iload_n 1, 1) := by decide +kernel
theorem dX7_check_6 : decode cX7_check 6 = .ok (.iconst 2, 1) := by decide +kernel
theorem dX7_check_7 : decode cX7_check 7 = .ok (.if_icmp .ne 10, 3) := by decide +kernel
theorem dX7_check_10 : decode cX7_check 10 = .ok (.aload_n 0, 1) := by decide +kernel
theorem dX7_check_11 : decode cX7_check 11 = .ok (.invokevirtual 111, 3) := by decide +kernel
theorem dX7_check_14 : decode cX7_check 14 = .ok (.ifCond .eq 5, 3) := by decide +kernel
theorem dX7_check_17 : decode cX7_check 17 = .ok (.iconst (-1), 1) := by decide +kernel
theorem dX7_check_18 : decode cX7_check 18 = .ok (.ireturn, 1) := by decide +kernel
theorem dX7_check_19 : decode cX7_check 19 = .ok (.aload_n 0, 1) := by decide +kernel
theorem dX7_check_20 : decode cX7_check 20 = .ok (.invokevirtual 214, 3) := by decide +kernel
theorem dX7_check_23 : decode cX7_check 23 = .ok (.aload_n 0, 1) := by decide +kernel
theorem dX7_check_24 : decode cX7_check 24 = .ok (.getfield 13, 3) := by decide +kernel
theorem dX7_check_27 : decode cX7_check 27 = .ok (.istore_n 2, 1) := by decide +kernel
theorem dX7_check_28 : decode cX7_check 28 = .ok (.aload_n 0, 1) := by decide +kernel
theorem dX7_check_29 : decode cX7_check 29 = .ok (.iconst 0, 1) := by decide +kernel
theorem dX7_check_30 : decode cX7_check 30 = .ok (.aload_n 0, 1) := by decide +kernel
theorem dX7_check_31 : decode cX7_check 31 = .ok (.getfield 13, 3) := by decide +kernel
theorem dX7_check_34 : decode cX7_check 34 = .ok (.iload_n 1, 1) := by decide +kernel
theorem dX7_check_35 : decode cX7_check 35 = .ok (.if_icmp .ne 7, 3) := by decide +kernel
theorem dX7_check_38 : decode cX7_check 38 = .ok (.iconst 1, 1) := by decide +kernel
theorem dX7_check_39 : decode cX7_check 39 = .ok (.goto 4, 3) := by decide +kernel
theorem dX7_check_42 : decode cX7_check 42 = .ok (.iconst 0, 1) := by decide +kernel
theorem dX7_check_43 : decode cX7_check 43 = .ok (.invokevirtual 211, 3) := by decide +kernel
theorem dX7_check_46 : decode cX7_check 46 = .ok (.istore_n 3, 1) := by decide +kernel
theorem dX7_check_47 : decode cX7_check 47 = .ok (.iload_n 3, 1) := by decide +kernel
theorem dX7_check_48 : decode cX7_check 48 = .ok (.ifCond .ne 12, 3) := by decide +kernel
theorem dX7_check_51 : decode cX7_check 51 = .ok (.aload_n 0, 1) := by decide +kernel
theorem dX7_check_52 : decode cX7_check 52 = .ok (.getfield 64, 3) := by decide +kernel
theorem dX7_check_55 : decode cX7_check 55 = .ok (.iconst 0, 1) := by decide +kernel
theorem dX7_check_56 : decode cX7_check 56 = .ok (.iaload, 1) := by decide +kernel
theorem dX7_check_57 : decode cX7_check 57 = .ok (.goto 4, 3) := by decide +kernel
theorem dX7_check_60 : decode cX7_check 60 = .ok (.iconst (-1), 1) := by decide +kernel
theorem dX7_check_61 : decode cX7_check 61 = .ok (.istore 4, 2) := by decide +kernel
theorem dX7_check_63 : decode cX7_check 63 = .ok (.iconst 0, 1) := by decide +kernel
theorem dX7_check_64 : decode cX7_check 64 = .ok (.istore 5, 2) := by decide +kernel
theorem dX7_check_66 : decode cX7_check 66 = .ok (.iload 4, 2) := by decide +kernel
theorem dX7_check_68 : decode cX7_check 68 = .ok (.ifCond .lt 175, 3) := by decide +kernel
theorem dX7_check_71 : decode cX7_check 71 = .ok (.iload_n 3, 1) := by decide +kernel
theorem dX7_check_72 : decode cX7_check 72 = .ok (.ifCond .ne 171, 3) := by decide +kernel
theorem dX7_check_75 : decode cX7_check 75 = .ok (.aload_n 0, 1) := by decide +kernel
theorem dX7_check_76 : decode cX7_check 76 = .ok (.aload_n 0, 1) := by decide +kernel
theorem dX7_check_77 : decode cX7_check 77 = .ok (.getfield 48, 3) := by decide +kernel
theorem dX7_check_80 : decode cX7_check 80 = .ok (.iload 4, 2) := by decide +kernel
theorem dX7_check_82 : decode cX7_check 82 = .ok (.iaload, 1) := by decide +kernel
theorem dX7_check_83 : decode cX7_check 83 = .ok (.invokevirtual 208, 3) := by decide +kernel
theorem dX7_check_86 : decode cX7_check 86 = .ok (.istore 6, 2) := by decide +kernel
theorem dX7_check_88 : decode cX7_check 88 = .ok (.iload 6, 2) := by decide +kernel
theorem dX7_check_90 : decode cX7_check 90 = .ok (.ifCond .ne 16, 3) := by decide +kernel
theorem dX7_check_93 : decode cX7_check 93 = .ok (.iconst 1, 1) := by decide +kernel
theorem dX7_check_94 : decode cX7_check 94 = .ok (.bipush 16, 2) := by decide +kernel
theorem dX7_check_96 : decode cX7_check 96 = .ok (.iload 4, 2) := by decide +kernel
theorem dX7_check_98 : decode cX7_check 98 = .ok (.iconst 1, 1) := by decide +kernel
theorem dX7_check_99 : decode cX7_check 99 = .ok (.iadd, 1) := by decide +kernel
theorem dX7_check_100 : decode cX7_check 100 = .ok (.imul, 1) := by decide +kernel
theorem dX7_check_101 : decode cX7_check 101 = .ok (.iadd, 1) := by decide +kernel
theorem dX7_check_102 : decode cX7_check 102 = .ok (.istore_n 3, 1) := by decide +kernel
theorem dX7_check_103 : decode cX7_check 103 = .ok (.goto (-37), 3) := by decide +kernel
theorem dX7_check_106 : decode cX7_check 106 = .ok (.aload_n 0, 1) := by decide +kernel
theorem dX7_check_107 : decode cX7_check 107 = .ok (.getfield 7, 3) := by decide +kernel
theorem dX7_check_110 : decode cX7_check 110 = .ok (.aload_n 0, 1) := by decide +kernel
theorem dX7_check_111 : decode cX7_check 111 = .ok (.getfield 48, 3) := by decide +kernel
theorem dX7_check_114 : decode cX7_check 114 = .ok (.iload 4, 2) := by decide +kernel
theorem dX7_check_116 : decode cX7_check 116 = .ok (.iaload, 1) := by decide +kernel
theorem dX7_check_117 : decode cX7_check 117 = .ok (.iload_n 2, 1) := by decide +kernel
theorem dX7_check_118 : decode cX7_check 118 = .ok (.i2b, 1) := by decide +kernel
theorem dX7_check_119 : decode cX7_check 119 = .ok (.bastore, 1) := by decide +kernel
theorem dX7_check_120 : decode cX7_check 120 = .ok (.aload_n 0, 1) := by decide +kernel
theorem dX7_check_121 : decode cX7_check 121 = .ok (.getfield 70, 3) := by decide +kernel
theorem dX7_check_124 : decode cX7_check 124 = .ok (.iload 5, 2) := by decide +kernel
theorem dX7_check_126 : decode cX7_check 126 = .ok (.iload 4, 2) := by decide +kernel
theorem dX7_check_128 : decode cX7_check 128 = .ok (.iastore, 1) := by decide +kernel
theorem dX7_check_129 : decode cX7_check 129 = .ok (.iinc 5 1, 3) := by decide +kernel
theorem dX7_check_132 : decode cX7_check 132 = .ok (.iconst 3, 1) := by decide +kernel
theorem dX7_check_133 : decode cX7_check 133 = .ok (.iload_n 2, 1) := by decide +kernel
theorem dX7_check_134 : decode cX7_check 134 = .ok (.isub, 1) := by decide +kernel
theorem dX7_check_135 : decode cX7_check 135 = .ok (.istore_n 2, 1) := by decide +kernel
theorem dX7_check_136 : decode cX7_check 136 = .ok (.aload_n 0, 1) := by decide +kernel
theorem dX7_check_137 : decode cX7_check 137 = .ok (.iload 4, 2) := by decide +kernel
theorem dX7_check_139 : decode cX7_check 139 = .ok (.iload_n 1, 1) := by decide +kernel
theorem dX7_check_140 : decode cX7_check 140 = .ok (.iload_n 2, 1) := by decide +kernel
theorem dX7_check_141 : decode cX7_check 141 = .ok (.iload_n 1, 1) := by decide +kernel
theorem dX7_check_142 : decode cX7_check 142 = .ok (.if_icmp .ne 7, 3) := by decide +kernel
theorem dX7_check_145 : decode cX7_check 145 = .ok (.iconst 1, 1) := by decide +kernel
theorem dX7_check_146 : decode cX7_check 146 = .ok (.goto 4, 3) := by decide +kernel
theorem dX7_check_149 : decode cX7_check 149 = .ok (.iconst 0, 1) := by decide +kernel
theorem dX7_check_150 : decode cX7_check 150 = .ok (.invokevirtual 217, 3) := by decide +kernel
theorem dX7_check_153 : decode cX7_check 153 = .ok (.istore 7, 2) := by decide +kernel
theorem dX7_check_155 : decode cX7_check 155 = .ok (.iload 7, 2) := by decide +kernel
theorem dX7_check_157 : decode cX7_check 157 = .ok (.ifCond .eq 17, 3) := by decide +kernel
theorem dX7_check_160 : decode cX7_check 160 = .ok (.iload 7, 2) := by decide +kernel
theorem dX7_check_162 : decode cX7_check 162 = .ok (.bipush 16, 2) := by decide +kernel
theorem dX7_check_164 : decode cX7_check 164 = .ok (.iload 4, 2) := by decide +kernel
theorem dX7_check_166 : decode cX7_check 166 = .ok (.iconst 1, 1) := by decide +kernel
theorem dX7_check_167 : decode cX7_check 167 = .ok (.iadd, 1) := by decide +kernel
theorem dX7_check_168 : decode cX7_check 168 = .ok (.imul, 1) := by decide +kernel
theorem dX7_check_169 : decode cX7_check 169 = .ok (.iadd, 1) := by decide +kernel
theorem dX7_check_170 : decode cX7_check 170 = .ok (.istore_n 3, 1) := by decide +kernel
theorem dX7_check_171 : decode cX7_check 171 = .ok (.goto (-105), 3) := by decide +kernel
theorem dX7_check_174 : decode cX7_check 174 = .ok (.aload_n 0, 1) := by decide +kernel
theorem dX7_check_175 : decode cX7_check 175 = .ok (.getfield 64, 3) := by decide +kernel
theorem dX7_check_178 : decode cX7_check 178 = .ok (.iload 4, 2) := by decide +kernel
theorem dX7_check_180 : decode cX7_check 180 = .ok (.iconst 1, 1) := by decide +kernel
theorem dX7_check_181 : decode cX7_check 181 = .ok (.iadd, 1) := by decide +kernel
theorem dX7_check_182 : decode cX7_check 182 = .ok (.iaload, 1) := by decide +kernel
theorem dX7_check_183 : decode cX7_check 183 = .ok (.istore 8, 2) := by decide +kernel
theorem dX7_check_185 : decode cX7_check 185 = .ok (.iload 8, 2) := by decide +kernel
theorem dX7_check_187 : decode cX7_check 187 = .ok (.ifCond .ge 49, 3) := by decide +kernel
theorem dX7_check_190 : decode cX7_check 190 = .ok (.iload 5, 2) := by decide +kernel
theorem dX7_check_192 : decode cX7_check 192 = .ok (.ifCond .le 44, 3) := by decide +kernel
theorem dX7_check_195 : decode cX7_check 195 = .ok (.iinc 5 (-1), 3) := by decide +kernel
theorem dX7_check_198 : decode cX7_check 198 = .ok (.aload_n 0, 1) := by decide +kernel
theorem dX7_check_199 : decode cX7_check 199 = .ok (.getfield 70, 3) := by decide +kernel
theorem dX7_check_202 : decode cX7_check 202 = .ok (.iload 5, 2) := by decide +kernel
theorem dX7_check_204 : decode cX7_check 204 = .ok (.iaload, 1) := by decide +kernel
theorem dX7_check_205 : decode cX7_check 205 = .ok (.istore 9, 2) := by decide +kernel
theorem dX7_check_207 : decode cX7_check 207 = .ok (.aload_n 0, 1) := by decide +kernel
theorem dX7_check_208 : decode cX7_check 208 = .ok (.getfield 7, 3) := by decide +kernel
theorem dX7_check_211 : decode cX7_check 211 = .ok (.aload_n 0, 1) := by decide +kernel
theorem dX7_check_212 : decode cX7_check 212 = .ok (.getfield 48, 3) := by decide +kernel
theorem dX7_check_215 : decode cX7_check 215 = .ok (.iload 9, 2) := by decide +kernel
theorem dX7_check_217 : decode cX7_check 217 = .ok (.iaload, 1) := by decide +kernel
theorem dX7_check_218 : decode cX7_check 218 = .ok (.iconst 0, 1) := by decide +kernel
theorem dX7_check_219 : decode cX7_check 219 = .ok (.bastore, 1) := by decide +kernel
theorem dX7_check_220 : decode cX7_check 220 = .ok (.iconst 3, 1) := by decide +kernel
theorem dX7_check_221 : decode cX7_check 221 = .ok (.iload_n 2, 1) := by decide +kernel
theorem dX7_check_222 : decode cX7_check 222 = .ok (.isub, 1) := by decide +kernel
theorem dX7_check_223 : decode cX7_check 223 = .ok (.istore_n 2, 1) := by decide +kernel
theorem dX7_check_224 : decode cX7_check 224 = .ok (.aload_n 0, 1) := by decide +kernel
theorem dX7_check_225 : decode cX7_check 225 = .ok (.getfield 67, 3) := by decide +kernel
theorem dX7_check_228 : decode cX7_check 228 = .ok (.iload 9, 2) := by decide +kernel
theorem dX7_check_230 : decode cX7_check 230 = .ok (.iaload, 1) := by decide +kernel
theorem dX7_check_231 : decode cX7_check 231 = .ok (.istore 8, 2) := by decide +kernel
theorem dX7_check_233 : decode cX7_check 233 = .ok (.goto (-48), 3) := by decide +kernel
theorem dX7_check_236 : decode cX7_check 236 = .ok (.iload 8, 2) := by decide +kernel
theorem dX7_check_238 : decode cX7_check 238 = .ok (.istore 4, 2) := by decide +kernel
theorem dX7_check_240 : decode cX7_check 240 = .ok (.goto (-174), 3) := by decide +kernel
theorem dX7_check_243 : decode cX7_check 243 = .ok (.iload 5, 2) := by decide +kernel
theorem dX7_check_245 : decode cX7_check 245 = .ok (.ifCond .le 27, 3) := by decide +kernel
theorem dX7_check_248 : decode cX7_check 248 = .ok (.iinc 5 (-1), 3) := by decide +kernel
theorem dX7_check_251 : decode cX7_check 251 = .ok (.aload_n 0, 1) := by decide +kernel
theorem dX7_check_252 : decode cX7_check 252 = .ok (.getfield 7, 3) := by decide +kernel
theorem dX7_check_255 : decode cX7_check 255 = .ok (.aload_n 0, 1) := by decide +kernel
theorem dX7_check_256 : decode cX7_check 256 = .ok (.getfield 48, 3) := by decide +kernel
theorem dX7_check_259 : decode cX7_check 259 = .ok (.aload_n 0, 1) := by decide +kernel
theorem dX7_check_260 : decode cX7_check 260 = .ok (.getfield 70, 3) := by decide +kernel
theorem dX7_check_263 : decode cX7_check 263 = .ok (.iload 5, 2) := by decide +kernel
theorem dX7_check_265 : decode cX7_check 265 = .ok (.iaload, 1) := by decide +kernel
theorem dX7_check_266 : decode cX7_check 266 = .ok (.iaload, 1) := by decide +kernel
theorem dX7_check_267 : decode cX7_check 267 = .ok (.iconst 0, 1) := by decide +kernel
theorem dX7_check_268 : decode cX7_check 268 = .ok (.bastore, 1) := by decide +kernel
theorem dX7_check_269 : decode cX7_check 269 = .ok (.goto (-26), 3) := by decide +kernel
theorem dX7_check_272 : decode cX7_check 272 = .ok (.iload_n 3, 1) := by decide +kernel
theorem dX7_check_273 : decode cX7_check 273 = .ok (.ireturn, 1) := by decide +kernel
