theorem dX0_init_0 : decode cX0_init 0 = .ok (.aload_n 0, 1) := by decide +kernel
theorem dX0_init_1 : decode cX0_init 1 = .ok (.invokespecial 3, 3) := by decide +kernel
theorem dX0_init_4 : decode cX0_init 4 = .ok (.iload_n 1, 1) := by decide +kernel
theorem dX0_init_5 : decode cX0_init 5 = .ok (.iload_n 1, 1) := by decide +kernel
theorem dX0_init_6 : decode cX0_init 6 = .ok (.imul, 1) := by decide +kernel
theorem dX0_init_7 : decode cX0_init 7 = .ok (.istore_n 2, 1) := by decide +kernel
theorem dX0_init_8 : decode cX0_init 8 = .ok (.aload_n 0, 1) := by decide +kernel
theorem dX0_init_9 : decode cX0_init 9 = .ok (.iload_n 1, 1) := by decide +kernel
theorem dX0_init_10 : decode cX0_init 10 = .ok (.putfield 9, 3) := by decide +kernel
theorem dX0_init_13 : decode cX0_init 13 = .ok (.aload_n 0, 1) := by decide +kernel
theorem dX0_init_14 : decode cX0_init 14 = .ok (.iload_n 2, 1) := by decide +kernel
theorem dX0_init_15 : decode cX0_init 15 = .ok (.newarray .int, 2) := by decide +kernel
theorem dX0_init_17 : decode cX0_init 17 = .ok (.putfield 15, 3) := by decide +kernel
theorem dX0_init_20 : decode cX0_init 20 = .ok (.aload_n 0, 1) := by decide +kernel
theorem dX0_init_21 : decode cX0_init 21 = .ok (.iload_n 2, 1) := by decide +kernel
theorem dX0_init_22 : decode cX0_init 22 = .ok (.bipush 6, 2) := by decide +kernel
theorem dX0_init_24 : decode cX0_init 24 = .ok (.imul, 1) := by decide +kernel
theorem dX0_init_25 : decode cX0_init 25 = .ok (.newarray .int, 2) := by decide +kernel
theorem dX0_init_27 : decode cX0_init 27 = .ok (.putfield 19, 3) := by decide +kernel
theorem dX0_init_30 : decode cX0_init 30 = .ok (.aload_n 0, 1) := by decide +kernel
theorem dX0_init_31 : decode cX0_init 31 = .ok (.iload_n 2, 1) := by decide +kernel
theorem dX0_init_32 : decode cX0_init 32 = .ok (.newarray .int, 2) := by decide +kernel
theorem dX0_init_34 : decode cX0_init 34 = .ok (.putfield 22, 3) := by decide +kernel
theorem dX0_init_37 : decode cX0_init 37 = .ok (.aload_n 0, 1) := by decide +kernel
theorem dX0_init_38 : decode cX0_init 38 = .ok (.iload_n 2, 1) := by decide +kernel
theorem dX0_init_39 : decode cX0_init 39 = .ok (.newarray .int, 2) := by decide +kernel
theorem dX0_init_41 : decode cX0_init 41 = .ok (.putfield 25, 3) := by decide +kernel
theorem dX0_init_44 : decode cX0_init 44 = .ok (.aload_n 0, 1) := by decide +kernel
theorem dX0_init_45 : decode cX0_init 45 = .ok (.iload_n 2, 1) := by decide +kernel
theorem dX0_init_46 : decode cX0_init 46 = .ok (.newarray .int, 2) := by decide +kernel
theorem dX0_init_48 : decode cX0_init 48 = .ok (.putfield 28, 3) := by decide +kernel
theorem dX0_init_51 : decode cX0_init 51 = .ok (.iconst 0, 1) := by decide +kernel
theorem dX0_init_52 : decode cX0_init 52 = .ok (.istore_n 3, 1) := by decide +kernel
theorem dX0_init_53 : decode cX0_init 53 = .ok (.iload_n 3, 1) := by decide +kernel
theorem dX0_init_54 : decode cX0_init 54 = .ok (.iload_n 1, 1) := by decide +kernel
theorem dX0_init_55 : decode cX0_init 55 = .ok (.if_icmp .ge 103, 3) := by decide +kernel
theorem dX0_init_58 : decode cX0_init 58 = .ok (.iconst 0, 1) := by decide +kernel
theorem dX0_init_59 : decode cX0_init 59 = .ok (.istore 4, 2) := by decide +kernel
theorem dX0_init_61 : decode cX0_init 61 = .ok (.iload 4, 2) := by decide +kernel
theorem dX0_init_63 : decode cX0_init 63 = .ok (.iload_n 1, 1) := by decide +kernel
theorem dX0_init_64 : decode cX0_init 64 = .ok (.if_icmp .ge 88, 3) := by decide +kernel
theorem dX0_init_67 : decode cX0_init 67 = .ok (.iload_n 1, 1) := by decide +kernel
theorem dX0_init_68 : decode cX0_init 68 = .ok (.iload_n 3, 1) := by decide +kernel
theorem dX0_init_69 : decode cX0_init 69 = .ok (.imul, 1) := by decide +kernel
theorem dX0_init_70 : decode cX0_init 70 = .ok (.iload 4, 2) := by decide +kernel
theorem dX0_init_72 : decode cX0_init 72 = .ok (.iadd, 1) := by decide +kernel
theorem dX0_init_73 : decode cX0_init 73 = .ok (.istore 5, 2) := by decide +kernel
theorem dX0_init_75 : decode cX0_init 75 = .ok (.aload_n 0, 1) := by decide +kernel
theorem dX0_init_76 : decode cX0_init 76 = .ok (.getfield 22, 3) := by decide +kernel
theorem dX0_init_79 : decode cX0_init 79 = .ok (.iload 5, 2) := by decide +kernel
theorem dX0_init_81 : decode cX0_init 81 = .ok (.iload_n 3, 1) := by decide +kernel
theorem dX0_init_82 : decode cX0_init 82 = .ok (.iload_n 1, 1) := by decide +kernel
theorem dX0_init_83 : decode cX0_init 83 = .ok (.invokestatic 31, 3) := by decide +kernel
theorem dX0_init_86 : decode cX0_init 86 = .ok (.iload 4, 2) := by decide +kernel
theorem dX0_init_88 : decode cX0_init 88 = .ok (.iload_n 1, 1) := by decide +kernel
theorem dX0_init_89 : decode cX0_init 89 = .ok (.invokestatic 31, 3) := by decide +kernel
theorem dX0_init_92 : decode cX0_init 92 = .ok (.iconst 2, 1) := by decide +kernel
theorem dX0_init_93 : decode cX0_init 93 = .ok (.ishl, 1) := by decide +kernel
theorem dX0_init_94 : decode cX0_init 94 = .ok (.ior, 1) := by decide +kernel
theorem dX0_init_95 : decode cX0_init 95 = .ok (.iastore, 1) := by decide +kernel
theorem dX0_init_96 : decode cX0_init 96 = .ok (.iconst 0, 1) := by decide +kernel
theorem dX0_init_97 : decode cX0_init 97 = .ok (.istore 6, 2) := by decide +kernel
theorem dX0_init_99 : decode cX0_init 99 = .ok (.iload 6, 2) := by decide +kernel
theorem dX0_init_101 : decode cX0_init 101 = .ok (.bipush 6, 2) := by decide +kernel
theorem dX0_init_103 : decode cX0_init 103 = .ok (.if_icmp .ge 43, 3) := by decide +kernel
theorem dX0_init_106 : decode cX0_init 106 = .ok (.aload_n 0, 1) := by decide +kernel
theorem dX0_init_107 : decode cX0_init 107 = .ok (.getfield 19, 3) := by decide +kernel
theorem dX0_init_110 : decode cX0_init 110 = .ok (.bipush 6, 2) := by decide +kernel
theorem dX0_init_112 : decode cX0_init 112 = .ok (.iload 5, 2) := by decide +kernel
theorem dX0_init_114 : decode cX0_init 114 = .ok (.imul, 1) := by decide +kernel
theorem dX0_init_115 : decode cX0_init 115 = .ok (.iload 6, 2) := by decide +kernel
theorem dX0_init_117 : decode cX0_init 117 = .ok (.iadd, 1) := by decide +kernel
theorem dX0_init_118 : decode cX0_init 118 = .ok (.iload_n 1, 1) := by decide +kernel
theorem dX0_init_119 : decode cX0_init 119 = .ok (.iload 4, 2) := by decide +kernel
theorem dX0_init_121 : decode cX0_init 121 = .ok (.getstatic 35, 3) := by decide +kernel
theorem dX0_init_124 : decode cX0_init 124 = .ok (.iload 6, 2) := by decide +kernel
theorem dX0_init_126 : decode cX0_init 126 = .ok (.iaload, 1) := by decide +kernel
theorem dX0_init_127 : decode cX0_init 127 = .ok (.iadd, 1) := by decide +kernel
theorem dX0_init_128 : decode cX0_init 128 = .ok (.iload_n 3, 1) := by decide +kernel
theorem dX0_init_129 : decode cX0_init 129 = .ok (.getstatic 38, 3) := by decide +kernel
theorem dX0_init_132 : decode cX0_init 132 = .ok (.iload 6, 2) := by decide +kernel
theorem dX0_init_134 : decode cX0_init 134 = .ok (.iaload, 1) := by decide +kernel
theorem dX0_init_135 : decode cX0_init 135 = .ok (.iadd, 1) := by decide +kernel
theorem dX0_init_136 : decode cX0_init 136 = .ok (.invokestatic 41, 3) := by decide +kernel
theorem dX0_init_139 : decode cX0_init 139 = .ok (.iastore, 1) := by decide +kernel
theorem dX0_init_140 : decode cX0_init 140 = .ok (.iinc 6 1, 3) := by decide +kernel
theorem dX0_init_143 : decode cX0_init 143 = .ok (.goto (-44), 3) := by decide +kernel
theorem dX0_init_146 : decode cX0_init 146 = .ok (.iinc 4 1, 3) := by decide +kernel
theorem dX0_init_149 : decode cX0_init 149 = .ok (.goto (-88), 3) := by decide +kernel
theorem dX0_init_152 : decode cX0_init 152 = .ok (.iinc 3 1, 3) := by decide +kernel
theorem dX0_init_155 : decode cX0_init 155 = .ok (.goto (-102), 3) := by decide +kernel
theorem dX0_init_158 : decode cX0_init 158 = .ok (.return_, 1) := by decide +kernel
theorem dX0_edgeMarks_0 : decode cX0_edgeMarks 0 = .ok (.iload_n 0, 1) := by decide +kernel
theorem dX0_edgeMarks_1 : decode cX0_edgeMarks 1 = .ok (.ifCond .ne 7, 3) := by decide +kernel
theorem dX0_edgeMarks_4 : decode cX0_edgeMarks 4 = .ok (.iconst 1, 1) := by decide +kernel
theorem dX0_edgeMarks_5 : decode cX0_edgeMarks 5 = .ok (.goto 4, 3) := by decide +kernel
theorem dX0_edgeMarks_8 : decode cX0_edgeMarks 8 = .ok (.iconst 0, 1) := by decide +kernel
theorem dX0_edgeMarks_9 : decode cX0_edgeMarks 9 = .ok (.iload_n 0, 1) := by decide +kernel
theorem dX0_edgeMarks_10 : decode cX0_edgeMarks 10 = .ok (.iload_n 1, 1) := by decide +kernel
theorem dX0_edgeMarks_11 : decode cX0_edgeMarks 11 = .ok (.iconst 1, 1) := by decide +kernel
theorem dX0_edgeMarks_12 : decode cX0_edgeMarks 12 = .ok (.isub, 1) := by decide +kernel
theorem dX0_edgeMarks_13 : decode cX0_edgeMarks 13 = .ok (.if_icmp .ne 7, 3) := by decide +kernel
theorem dX0_edgeMarks_16 : decode cX0_edgeMarks 16 = .ok (.iconst 2, 1) := by decide +kernel
theorem dX0_edgeMarks_17 : decode cX0_edgeMarks 17 = .ok (.goto 4, 3) := by decide +kernel
theorem dX0_edgeMarks_20 : decode cX0_edgeMarks 20 = .ok (.iconst 0, 1) := by decide +kernel
theorem dX0_edgeMarks_21 : decode cX0_edgeMarks 21 = .ok (.ior, 1) := by decide +kernel
theorem dX0_edgeMarks_22 : decode cX0_edgeMarks 22 = .ok (.ireturn, 1) := by decide +kernel
theorem dX0_numberIn_0 : decode cX0_numberIn 0 = .ok (.iload_n 1, 1) := by decide +kernel
theorem dX0_numberIn_1 : decode cX0_numberIn 1 = .ok (.ifCond .lt 17, 3) := by decide +kernel
theorem dX0_numberIn_4 : decode cX0_numberIn 4 = .ok (.iload_n 1, 1) := by decide +kernel
theorem dX0_numberIn_5 : decode cX0_numberIn 5 = .ok (.iload_n 0, 1) := by decide +kernel
theorem dX0_numberIn_6 : decode cX0_numberIn 6 = .ok (.if_icmp .ge 12, 3) := by decide +kernel
theorem dX0_numberIn_9 : decode cX0_numberIn 9 = .ok (.iload_n 2, 1) := by decide +kernel
theorem dX0_numberIn_10 : decode cX0_numberIn 10 = .ok (.ifCond .lt 8, 3) := by decide +kernel
theorem dX0_numberIn_13 : decode cX0_numberIn 13 = .ok (.iload_n 2, 1) := by decide +kernel
theorem dX0_numberIn_14 : decode cX0_numberIn 14 = .ok (.iload_n 0, 1) := by decide +kernel
theorem dX0_numberIn_15 : decode cX0_numberIn 15 = .ok (.if_icmp .lt 7, 3) := by decide +kernel
theorem dX0_numberIn_18 : decode cX0_numberIn 18 = .ok (.iconst (-1), 1) := by decide +kernel
theorem dX0_numberIn_19 : decode cX0_numberIn 19 = .ok (.goto 8, 3) := by decide +kernel
theorem dX0_numberIn_22 : decode cX0_numberIn 22 = .ok (.iload_n 0, 1) := by decide +kernel
theorem dX0_numberIn_23 : decode cX0_numberIn 23 = .ok (.iload_n 2, 1) := by decide +kernel
theorem dX0_numberIn_24 : decode cX0_numberIn 24 = .ok (.imul, 1) := by decide +kernel
theorem dX0_numberIn_25 : decode cX0_numberIn 25 = .ok (.iload_n 1, 1) := by decide +kernel
theorem dX0_numberIn_26 : decode cX0_numberIn 26 = .ok (.iadd, 1) := by decide +kernel
theorem dX0_numberIn_27 : decode cX0_numberIn 27 = .ok (.ireturn, 1) := by decide +kernel
theorem dX0_numberOf_0 : decode cX0_numberOf 0 = .ok (.aload_n 0, 1) := by decide +kernel
theorem dX0_numberOf_1 : decode cX0_numberOf 1 = .ok (.getfield 9, 3) := by decide +kernel
theorem dX0_numberOf_4 : decode cX0_numberOf 4 = .ok (.iload_n 1, 1) := by decide +kernel
theorem dX0_numberOf_5 : decode cX0_numberOf 5 = .ok (.iload_n 2, 1) := by decide +kernel
theorem dX0_numberOf_6 : decode cX0_numberOf 6 = .ok (.invokestatic 41, 3) := by decide +kernel
theorem dX0_numberOf_9 : decode cX0_numberOf 9 = .ok (.ireturn, 1) := by decide +kernel
theorem dX0_has_0 : decode cX0_has 0 = .ok (.iload_n 1, 1) := by decide +kernel
theorem dX0_has_1 : decode cX0_has 1 = .ok (.ifCond .lt 16, 3) := by decide +kernel
theorem dX0_has_4 : decode cX0_has 4 = .ok (.iload_n 1, 1) := by decide +kernel
theorem dX0_has_5 : decode cX0_has 5 = .ok (.aload_n 0, 1) := by decide +kernel
theorem dX0_has_6 : decode cX0_has 6 = .ok (.getfield 15, 3) := by decide +kernel
theorem dX0_has_9 : decode cX0_has 9 = .ok (.arraylength, 1) := by decide +kernel
theorem dX0_has_10 : decode cX0_has 10 = .ok (.if_icmp .ge 7, 3) := by decide +kernel
theorem dX0_has_13 : decode cX0_has 13 = .ok (.iconst 1, 1) := by decide +kernel
theorem dX0_has_14 : decode cX0_has 14 = .ok (.goto 4, 3) := by decide +kernel
theorem dX0_has_17 : decode cX0_has 17 = .ok (.iconst 0, 1) := by decide +kernel
theorem dX0_has_18 : decode cX0_has 18 = .ok (.ireturn, 1) := by decide +kernel
theorem dX0_isEmpty_0 : decode cX0_isEmpty 0 = .ok (.iload_n 1, 1) := by decide +kernel
theorem dX0_isEmpty_1 : decode cX0_isEmpty 1 = .ok (.ifCond .lt 25, 3) := by decide +kernel
theorem dX0_isEmpty_4 : decode cX0_isEmpty 4 = .ok (.iload_n 1, 1) := by decide +kernel
theorem dX0_isEmpty_5 : decode cX0_isEmpty 5 = .ok (.aload_n 0, 1) := by decide +kernel
theorem dX0_isEmpty_6 : decode cX0_isEmpty 6 = .ok (.getfield 15, 3) := by decide +kernel
theorem dX0_isEmpty_9 : decode cX0_isEmpty 9 = .ok (.arraylength, 1) := by decide +kernel
theorem dX0_isEmpty_10 : decode cX0_isEmpty 10 = .ok (.if_icmp .ge 16, 3) := by decide +kernel
theorem dX0_isEmpty_13 : decode cX0_isEmpty 13 = .ok (.aload_n 0, 1) := by decide +kernel
theorem dX0_isEmpty_14 : decode cX0_isEmpty 14 = .ok (.getfield 15, 3) := by decide +kernel
theorem dX0_isEmpty_17 : decode cX0_isEmpty 17 = .ok (.iload_n 1, 1) := by decide +kernel
theorem dX0_isEmpty_18 : decode cX0_isEmpty 18 = .ok (.iaload, 1) := by decide +kernel
theorem dX0_isEmpty_19 : decode cX0_isEmpty 19 = .ok (.ifCond .ne 7, 3) := by decide +kernel
theorem dX0_isEmpty_22 : decode cX0_isEmpty 22 = .ok (.iconst 1, 1) := by decide +kernel
theorem dX0_isEmpty_23 : decode cX0_isEmpty 23 = .ok (.goto 4, 3) := by decide +kernel
theorem dX0_isEmpty_26 : decode cX0_isEmpty 26 = .ok (.iconst 0, 1) := by decide +kernel
theorem dX0_isEmpty_27 : decode cX0_isEmpty 27 = .ok (.ireturn, 1) := by decide +kernel
theorem dX0_stoneAt_0 : decode cX0_stoneAt 0 = .ok (.aload_n 0, 1) := by decide +kernel
theorem dX0_stoneAt_1 : decode cX0_stoneAt 1 = .ok (.iload_n 1, 1) := by decide +kernel
theorem dX0_stoneAt_2 : decode cX0_stoneAt 2 = .ok (.invokevirtual 45, 3) := by decide +kernel
theorem dX0_stoneAt_5 : decode cX0_stoneAt 5 = .ok (.ifCond .eq 12, 3) := by decide +kernel
theorem dX0_stoneAt_8 : decode cX0_stoneAt 8 = .ok (.aload_n 0, 1) := by decide +kernel
theorem dX0_stoneAt_9 : decode cX0_stoneAt 9 = .ok (.getfield 15, 3) := by decide +kernel
theorem dX0_stoneAt_12 : decode cX0_stoneAt 12 = .ok (.iload_n 1, 1) := by decide +kernel
theorem dX0_stoneAt_13 : decode cX0_stoneAt 13 = .ok (.iaload, 1) := by decide +kernel
theorem dX0_stoneAt_14 : decode cX0_stoneAt 14 = .ok (.goto 4, 3) := by decide +kernel
theorem dX0_stoneAt_17 : decode cX0_stoneAt 17 = .ok (.iconst 0, 1) := by decide +kernel
theorem dX0_stoneAt_18 : decode cX0_stoneAt 18 = .ok (.ireturn, 1) := by decide +kernel
theorem dX0_put_0 : decode cX0_put 0 = .ok (.aload_n 0, 1) := by decide +kernel
theorem dX0_put_1 : decode cX0_put 1 = .ok (.iload_n 1, 1) := by decide +kernel
theorem dX0_put_2 : decode cX0_put 2 = .ok (.invokevirtual 45, 3) := by decide +kernel
theorem dX0_put_5 : decode cX0_put 5 = .ok (.ifCond .eq 10, 3) := by decide +kernel
theorem dX0_put_8 : decode cX0_put 8 = .ok (.aload_n 0, 1) := by decide +kernel
theorem dX0_put_9 : decode cX0_put 9 = .ok (.getfield 15, 3) := by decide +kernel
theorem dX0_put_12 : decode cX0_put 12 = .ok (.iload_n 1, 1) := by decide +kernel
theorem dX0_put_13 : decode cX0_put 13 = .ok (.iload_n 2, 1) := by decide +kernel
theorem dX0_put_14 : decode cX0_put 14 = .ok (.iastore, 1) := by decide +kernel
theorem dX0_put_15 : decode cX0_put 15 = .ok (.return_, 1) := by decide +kernel
theorem dX0_copyStones_0 : decode cX0_copyStones 0 = .ok (.aload_n 1, 1) := by decide +kernel
theorem dX0_copyStones_1 : decode cX0_copyStones 1 = .ok (.getfield 15, 3) := by decide +kernel
theorem dX0_copyStones_4 : decode cX0_copyStones 4 = .ok (.iconst 0, 1) := by decide +kernel
theorem dX0_copyStones_5 : decode cX0_copyStones 5 = .ok (.aload_n 0, 1) := by decide +kernel
theorem dX0_copyStones_6 : decode cX0_copyStones 6 = .ok (.getfield 15, 3) := by decide +kernel
theorem dX0_copyStones_9 : decode cX0_copyStones 9 = .ok (.iconst 0, 1) := by decide +kernel
theorem dX0_copyStones_10 : decode cX0_copyStones 10 = .ok (.aload_n 1, 1) := by decide +kernel
theorem dX0_copyStones_11 : decode cX0_copyStones 11 = .ok (.getfield 15, 3) := by decide +kernel
theorem dX0_copyStones_14 : decode cX0_copyStones 14 = .ok (.arraylength, 1) := by decide +kernel
theorem dX0_copyStones_15 : decode cX0_copyStones 15 = .ok (.aload_n 0, 1) := by decide +kernel
theorem dX0_copyStones_16 : decode cX0_copyStones 16 = .ok (.getfield 15, 3) := by decide +kernel
theorem dX0_copyStones_19 : decode cX0_copyStones 19 = .ok (.arraylength, 1) := by decide +kernel
theorem dX0_copyStones_20 : decode cX0_copyStones 20 = .ok (.invokestatic 49, 3) := by decide +kernel
theorem dX0_copyStones_23 : decode cX0_copyStones 23 = .ok (.invokestatic 54, 3) := by decide +kernel
theorem dX0_copyStones_26 : decode cX0_copyStones 26 = .ok (.return_, 1) := by decide +kernel
theorem dX0_countEmpty_0 : decode cX0_countEmpty 0 = .ok (.iconst 0, 1) := by decide +kernel
theorem dX0_countEmpty_1 : decode cX0_countEmpty 1 = .ok (.istore_n 1, 1) := by decide +kernel
theorem dX0_countEmpty_2 : decode cX0_countEmpty 2 = .ok (.aload_n 0, 1) := by decide +kernel
theorem dX0_countEmpty_3 : decode cX0_countEmpty 3 = .ok (.getfield 15, 3) := by decide +kernel
theorem dX0_countEmpty_6 : decode cX0_countEmpty 6 = .ok (.astore_n 2, 1) := by decide +kernel
theorem dX0_countEmpty_7 : decode cX0_countEmpty 7 = .ok (.aload_n 2, 1) := by decide +kernel
theorem dX0_countEmpty_8 : decode cX0_countEmpty 8 = .ok (.arraylength, 1) := by decide +kernel
theorem dX0_countEmpty_9 : decode cX0_countEmpty 9 = .ok (.istore_n 3, 1) := by decide +kernel
theorem dX0_countEmpty_10 : decode cX0_countEmpty 10 = .ok (.iconst 0, 1) := by decide +kernel
theorem dX0_countEmpty_11 : decode cX0_countEmpty 11 = .ok (.istore 4, 2) := by decide +kernel
theorem dX0_countEmpty_13 : decode cX0_countEmpty 13 = .ok (.iload 4, 2) := by decide +kernel
theorem dX0_countEmpty_15 : decode cX0_countEmpty 15 = .ok (.iload_n 3, 1) := by decide +kernel
theorem dX0_countEmpty_16 : decode cX0_countEmpty 16 = .ok (.if_icmp .ge 23, 3) := by decide +kernel
theorem dX0_countEmpty_19 : decode cX0_countEmpty 19 = .ok (.aload_n 2, 1) := by decide +kernel
theorem dX0_countEmpty_20 : decode cX0_countEmpty 20 = .ok (.iload 4, 2) := by decide +kernel
theorem dX0_countEmpty_22 : decode cX0_countEmpty 22 = .ok (.iaload, 1) := by decide +kernel
theorem dX0_countEmpty_23 : decode cX0_countEmpty 23 = .ok (.istore 5, 2) := by decide +kernel
theorem dX0_countEmpty_25 : decode cX0_countEmpty 25 = .ok (.iload 5, 2) := by decide +kernel
theorem dX0_countEmpty_27 : decode cX0_countEmpty 27 = .ok (.ifCond .ne 6, 3) := by decide +kernel
theorem dX0_countEmpty_30 : decode cX0_countEmpty 30 = .ok (.iinc 1 1, 3) := by decide +kernel
theorem dX0_countEmpty_33 : decode cX0_countEmpty 33 = .ok (.iinc 4 1, 3) := by decide +kernel
theorem dX0_countEmpty_36 : decode cX0_countEmpty 36 = .ok (.goto (-23), 3) := by decide +kernel
theorem dX0_countEmpty_39 : decode cX0_countEmpty 39 = .ok (.iload_n 1, 1) := by decide +kernel
theorem dX0_countEmpty_40 : decode cX0_countEmpty 40 = .ok (.ireturn, 1) := by decide +kernel
theorem dX0_sideAt_0 : decode cX0_sideAt 0 = .ok (.aload_n 0, 1) := by decide +kernel
theorem dX0_sideAt_1 : decode cX0_sideAt 1 = .ok (.iload_n 1, 1) := by decide +kernel
theorem dX0_sideAt_2 : decode cX0_sideAt 2 = .ok (.iload_n 2, 1) := by decide +kernel
theorem dX0_sideAt_3 : decode cX0_sideAt 3 = .ok (.invokevirtual 60, 3) := by decide +kernel
theorem dX0_sideAt_6 : decode cX0_sideAt 6 = .ok (.istore_n 3, 1) := by decide +kernel
theorem dX0_sideAt_7 : decode cX0_sideAt 7 = .ok (.iload_n 3, 1) := by decide +kernel
theorem dX0_sideAt_8 : decode cX0_sideAt 8 = .ok (.iconst (-1), 1) := by decide +kernel
theorem dX0_sideAt_9 : decode cX0_sideAt 9 = .ok (.if_icmp .eq 10, 3) := by decide +kernel
theorem dX0_sideAt_12 : decode cX0_sideAt 12 = .ok (.aload_n 0, 1) := by decide +kernel
theorem dX0_sideAt_13 : decode cX0_sideAt 13 = .ok (.getfield 15, 3) := by decide +kernel
theorem dX0_sideAt_16 : decode cX0_sideAt 16 = .ok (.iload_n 3, 1) := by decide +kernel
theorem dX0_sideAt_17 : decode cX0_sideAt 17 = .ok (.iaload, 1) := by decide +kernel
theorem dX0_sideAt_18 : decode cX0_sideAt 18 = .ok (.ireturn, 1) := by decide +kernel
theorem dX0_sideAt_19 : decode cX0_sideAt 19 = .ok (.iload_n 1, 1) := by decide +kernel
theorem dX0_sideAt_20 : decode cX0_sideAt 20 = .ok (.iconst (-1), 1) := by decide +kernel
theorem dX0_sideAt_21 : decode cX0_sideAt 21 = .ok (.if_icmp .lt 24, 3) := by decide +kernel
theorem dX0_sideAt_24 : decode cX0_sideAt 24 = .ok (.iload_n 1, 1) := by decide +kernel
theorem dX0_sideAt_25 : decode cX0_sideAt 25 = .ok (.aload_n 0, 1) := by decide +kernel
theorem dX0_sideAt_26 : decode cX0_sideAt 26 = .ok (.getfield 9, 3) := by decide +kernel
theorem dX0_sideAt_29 : decode cX0_sideAt 29 = .ok (.if_icmp .gt 16, 3) := by decide +kernel
theorem dX0_sideAt_32 : decode cX0_sideAt 32 = .ok (.iload_n 2, 1) := by decide +kernel
theorem dX0_sideAt_33 : decode cX0_sideAt 33 = .ok (.iconst (-1), 1) := by decide +kernel
theorem dX0_sideAt_34 : decode cX0_sideAt 34 = .ok (.if_icmp .lt 11, 3) := by decide +kernel
theorem dX0_sideAt_37 : decode cX0_sideAt 37 = .ok (.iload_n 2, 1) := by decide +kernel
theorem dX0_sideAt_38 : decode cX0_sideAt 38 = .ok (.aload_n 0, 1) := by decide +kernel
theorem dX0_sideAt_39 : decode cX0_sideAt 39 = .ok (.getfield 9, 3) := by decide +kernel
theorem dX0_sideAt_42 : decode cX0_sideAt 42 = .ok (.if_icmp .le 5, 3) := by decide +kernel
theorem dX0_sideAt_45 : decode cX0_sideAt 45 = .ok (.iconst 0, 1) := by decide +kernel
theorem dX0_sideAt_46 : decode cX0_sideAt 46 = .ok (.ireturn, 1) := by decide +kernel
theorem dX0_sideAt_47 : decode cX0_sideAt 47 = .ok (.iload_n 2, 1) := by decide +kernel
theorem dX0_sideAt_48 : decode cX0_sideAt 48 = .ok (.iconst (-1), 1) := by decide +kernel
theorem dX0_sideAt_49 : decode cX0_sideAt 49 = .ok (.if_icmp .eq 11, 3) := by decide +kernel
theorem dX0_sideAt_52 : decode cX0_sideAt 52 = .ok (.iload_n 2, 1) := by decide +kernel
theorem dX0_sideAt_53 : decode cX0_sideAt 53 = .ok (.aload_n 0, 1) := by decide +kernel
theorem dX0_sideAt_54 : decode cX0_sideAt 54 = .ok (.getfield 9, 3) := by decide +kernel
theorem dX0_sideAt_57 : decode cX0_sideAt 57 = .ok (.if_icmp .ne 14, 3) := by decide +kernel
theorem dX0_sideAt_60 : decode cX0_sideAt 60 = .ok (.iload_n 1, 1) := by decide +kernel
theorem dX0_sideAt_61 : decode cX0_sideAt 61 = .ok (.iload_n 2, 1) := by decide +kernel
theorem dX0_sideAt_62 : decode cX0_sideAt 62 = .ok (.if_icmp .ne 7, 3) := by decide +kernel
theorem dX0_sideAt_65 : decode cX0_sideAt 65 = .ok (.iconst 0, 1) := by decide +kernel
theorem dX0_sideAt_66 : decode cX0_sideAt 66 = .ok (.goto 4, 3) := by decide +kernel
theorem dX0_sideAt_69 : decode cX0_sideAt 69 = .ok (.iconst 1, 1) := by decide +kernel
theorem dX0_sideAt_70 : decode cX0_sideAt 70 = .ok (.ireturn, 1) := by decide +kernel
theorem dX0_sideAt_71 : decode cX0_sideAt 71 = .ok (.iconst 2, 1) := by decide +kernel
theorem dX0_sideAt_72 : decode cX0_sideAt 72 = .ok (.ireturn, 1) := by decide +kernel
theorem dX0_clearMarks_0 : decode cX0_clearMarks 0 = .ok (.aload_n 0, 1) := by decide +kernel
theorem dX0_clearMarks_1 : decode cX0_clearMarks 1 = .ok (.getfield 25, 3) := by decide +kernel
theorem dX0_clearMarks_4 : decode cX0_clearMarks 4 = .ok (.iconst 0, 1) := by decide +kernel
theorem dX0_clearMarks_5 : decode cX0_clearMarks 5 = .ok (.invokestatic 63, 3) := by decide +kernel
theorem dX0_clearMarks_8 : decode cX0_clearMarks 8 = .ok (.return_, 1) := by decide +kernel
theorem dX0_markEmpty_0 : decode cX0_markEmpty 0 = .ok (.aload_n 0, 1) := by decide +kernel
theorem dX0_markEmpty_1 : decode cX0_markEmpty 1 = .ok (.iload_n 1, 1) := by decide +kernel
theorem dX0_markEmpty_2 : decode cX0_markEmpty 2 = .ok (.invokevirtual 69, 3) := by decide +kernel
theorem dX0_markEmpty_5 : decode cX0_markEmpty 5 = .ok (.ifCond .eq 12, 3) := by decide +kernel
theorem dX0_markEmpty_8 : decode cX0_markEmpty 8 = .ok (.aload_n 0, 1) := by decide +kernel
theorem dX0_markEmpty_9 : decode cX0_markEmpty 9 = .ok (.getfield 25, 3) := by decide +kernel
theorem dX0_markEmpty_12 : decode cX0_markEmpty 12 = .ok (.iload_n 1, 1) := by decide +kernel
theorem dX0_markEmpty_13 : decode cX0_markEmpty 13 = .ok (.iaload, 1) := by decide +kernel
theorem dX0_markEmpty_14 : decode cX0_markEmpty 14 = .ok (.ifCond .eq 5, 3) := by decide +kernel
theorem dX0_markEmpty_17 : decode cX0_markEmpty 17 = .ok (.iconst 0, 1) := by decide +kernel
theorem dX0_markEmpty_18 : decode cX0_markEmpty 18 = .ok (.ireturn, 1) := by decide +kernel
theorem dX0_markEmpty_19 : decode cX0_markEmpty 19 = .ok (.aload_n 0, 1) := by decide +kernel
theorem dX0_markEmpty_20 : decode cX0_markEmpty 20 = .ok (.getfield 25, 3) := by decide +kernel
theorem dX0_markEmpty_23 : decode cX0_markEmpty 23 = .ok (.iload_n 1, 1) := by decide +kernel
theorem dX0_markEmpty_24 : decode cX0_markEmpty 24 = .ok (.iconst 1, 1) := by decide +kernel
theorem dX0_markEmpty_25 : decode cX0_markEmpty 25 = .ok (.iastore, 1) := by decide +kernel
theorem dX0_markEmpty_26 : decode cX0_markEmpty 26 = .ok (.iconst 1, 1) := by decide +kernel
theorem dX0_markEmpty_27 : decode cX0_markEmpty 27 = .ok (.ireturn, 1) := by decide +kernel
theorem dX0_markChain_0 : decode cX0_markChain 0 = .ok (.aload_n 0, 1) := by decide +kernel
theorem dX0_markChain_1 : decode cX0_markChain 1 = .ok (.getfield 25, 3) := by decide +kernel
theorem dX0_markChain_4 : decode cX0_markChain 4 = .ok (.iload_n 1, 1) := by decide +kernel
theorem dX0_markChain_5 : decode cX0_markChain 5 = .ok (.iaload, 1) := by decide +kernel
theorem dX0_markChain_6 : decode cX0_markChain 6 = .ok (.iload_n 2, 1) := by decide +kernel
theorem dX0_markChain_7 : decode cX0_markChain 7 = .ok (.iand, 1) := by decide +kernel
theorem dX0_markChain_8 : decode cX0_markChain 8 = .ok (.iload_n 2, 1) := by decide +kernel
theorem dX0_markChain_9 : decode cX0_markChain 9 = .ok (.if_icmp .ne 4, 3) := by decide +kernel
theorem dX0_markChain_12 : decode cX0_markChain 12 = .ok (.return_, 1) := by decide +kernel
theorem dX0_markChain_13 : decode cX0_markChain 13 = .ok (.aload_n 0, 1) := by decide +kernel
theorem dX0_markChain_14 : decode cX0_markChain 14 = .ok (.getfield 25, 3) := by decide +kernel
theorem dX0_markChain_17 : decode cX0_markChain 17 = .ok (.iload_n 1, 1) := by decide +kernel
theorem dX0_markChain_18 : decode cX0_markChain 18 = .ok (.dup2, 1) := by decide +kernel
theorem dX0_markChain_19 : decode cX0_markChain 19 = .ok (.iaload, 1) := by decide +kernel
theorem dX0_markChain_20 : decode cX0_markChain 20 = .ok (.iload_n 2, 1) := by decide +kernel
theorem dX0_markChain_21 : decode cX0_markChain 21 = .ok (.ior, 1) := by decide +kernel
theorem dX0_markChain_22 : decode cX0_markChain 22 = .ok (.iastore, 1) := by decide +kernel
theorem dX0_markChain_23 : decode cX0_markChain 23 = .ok (.aload_n 0, 1) := by decide +kernel
theorem dX0_markChain_24 : decode cX0_markChain 24 = .ok (.getfield 28, 3) := by decide +kernel
theorem dX0_markChain_27 : decode cX0_markChain 27 = .ok (.iconst 0, 1) := by decide +kernel
theorem dX0_markChain_28 : decode cX0_markChain 28 = .ok (.iload_n 1, 1) := by decide +kernel
theorem dX0_markChain_29 : decode cX0_markChain 29 = .ok (.iastore, 1) := by decide +kernel
theorem dX0_markChain_30 : decode cX0_markChain 30 = .ok (.iconst 1, 1) := by decide +kernel
theorem dX0_markChain_31 : decode cX0_markChain 31 = .ok (.istore_n 3, 1) := by decide +kernel
theorem dX0_markChain_32 : decode cX0_markChain 32 = .ok (.iconst 0, 1) := by decide +kernel
theorem dX0_markChain_33 : decode cX0_markChain 33 = .ok (.istore 4, 2) := by decide +kernel
theorem dX0_markChain_35 : decode cX0_markChain 35 = .ok (.iload 4, 2) := by decide +kernel
theorem dX0_markChain_37 : decode cX0_markChain 37 = .ok (.aload_n 0, 1) := by decide +kernel
theorem dX0_markChain_38 : decode cX0_markChain 38 = .ok (.getfield 28, 3) := by decide +kernel
theorem dX0_markChain_41 : decode cX0_markChain 41 = .ok (.arraylength, 1) := by decide +kernel
theorem dX0_markChain_42 : decode cX0_markChain 42 = .ok (.if_icmp .ge 29, 3) := by decide +kernel
theorem dX0_markChain_45 : decode cX0_markChain 45 = .ok (.iload_n 3, 1) := by decide +kernel
theorem dX0_markChain_46 : decode cX0_markChain 46 = .ok (.ifCond .le 25, 3) := by decide +kernel
theorem dX0_markChain_49 : decode cX0_markChain 49 = .ok (.iinc 3 (-1), 3) := by decide +kernel
theorem dX0_markChain_52 : decode cX0_markChain 52 = .ok (.aload_n 0, 1) := by decide +kernel
theorem dX0_markChain_53 : decode cX0_markChain 53 = .ok (.aload_n 0, 1) := by decide +kernel
theorem dX0_markChain_54 : decode cX0_markChain 54 = .ok (.getfield 28, 3) := by decide +kernel
theorem dX0_markChain_57 : decode cX0_markChain 57 = .ok (.iload_n 3, 1) := by decide +kernel
theorem dX0_markChain_58 : decode cX0_markChain 58 = .ok (.iaload, 1) := by decide +kernel
theorem dX0_markChain_59 : decode cX0_markChain 59 = .ok (.iload_n 2, 1) := by decide +kernel
theorem dX0_markChain_60 : decode cX0_markChain 60 = .ok (.iload_n 3, 1) := by decide +kernel
theorem dX0_markChain_61 : decode cX0_markChain 61 = .ok (.invokevirtual 72, 3) := by decide +kernel
theorem dX0_markChain_64 : decode cX0_markChain 64 = .ok (.istore_n 3, 1) := by decide +kernel
theorem dX0_markChain_65 : decode cX0_markChain 65 = .ok (.iinc 4 1, 3) := by decide +kernel
theorem dX0_markChain_68 : decode cX0_markChain 68 = .ok (.goto (-33), 3) := by decide +kernel
theorem dX0_markChain_71 : decode cX0_markChain 71 = .ok (.return_, 1) := by decide +kernel
theorem dX0_openAround_0 : decode cX0_openAround 0 = .ok (.iload_n 3, 1) := by decide +kernel
theorem dX0_openAround_1 : decode cX0_openAround 1 = .ok (.istore 4, 2) := by decide +kernel
theorem dX0_openAround_3 : decode cX0_openAround 3 = .ok (.iconst 0, 1) := by decide +kernel
theorem dX0_openAround_4 : decode cX0_openAround 4 = .ok (.istore 5, 2) := by decide +kernel
theorem dX0_openAround_6 : decode cX0_openAround 6 = .ok (.iload 5, 2) := by decide +kernel
theorem dX0_openAround_8 : decode cX0_openAround 8 = .ok (.bipush 6, 2) := by decide +kernel
theorem dX0_openAround_10 : decode cX0_openAround 10 = .ok (.if_icmp .ge 91, 3) := by decide +kernel
theorem dX0_openAround_13 : decode cX0_openAround 13 = .ok (.aload_n 0, 1) := by decide +kernel
theorem dX0_openAround_14 : decode cX0_openAround 14 = .ok (.getfield 19, 3) := by decide +kernel
theorem dX0_openAround_17 : decode cX0_openAround 17 = .ok (.bipush 6, 2) := by decide +kernel
theorem dX0_openAround_19 : decode cX0_openAround 19 = .ok (.iload_n 1, 1) := by decide +kernel
theorem dX0_openAround_20 : decode cX0_openAround 20 = .ok (.imul, 1) := by decide +kernel
theorem dX0_openAround_21 : decode cX0_openAround 21 = .ok (.iload 5, 2) := by decide +kernel
theorem dX0_openAround_23 : decode cX0_openAround 23 = .ok (.iadd, 1) := by decide +kernel
theorem dX0_openAround_24 : decode cX0_openAround 24 = .ok (.iaload, 1) := by decide +kernel
theorem dX0_openAround_25 : decode cX0_openAround 25 = .ok (.istore 6, 2) := by decide +kernel
theorem dX0_openAround_27 : decode cX0_openAround 27 = .ok (.iload 6, 2) := by decide +kernel
theorem dX0_openAround_29 : decode cX0_openAround 29 = .ok (.iconst (-1), 1) := by decide +kernel
theorem dX0_openAround_30 : decode cX0_openAround 30 = .ok (.if_icmp .eq 65, 3) := by decide +kernel
theorem dX0_openAround_33 : decode cX0_openAround 33 = .ok (.aload_n 0, 1) := by decide +kernel
theorem dX0_openAround_34 : decode cX0_openAround 34 = .ok (.getfield 15, 3) := by decide +kernel
theorem dX0_openAround_37 : decode cX0_openAround 37 = .ok (.iload 6, 2) := by decide +kernel
theorem dX0_openAround_39 : decode cX0_openAround 39 = .ok (.iaload, 1) := by decide +kernel
theorem dX0_openAround_40 : decode cX0_openAround 40 = .ok (.aload_n 0, 1) := by decide +kernel
theorem dX0_openAround_41 : decode cX0_openAround 41 = .ok (.getfield 15, 3) := by decide +kernel
theorem dX0_openAround_44 : decode cX0_openAround 44 = .ok (.iload_n 1, 1) := by decide +kernel
theorem dX0_openAround_45 : decode cX0_openAround 45 = .ok (.iaload, 1) := by decide +kernel
theorem dX0_openAround_46 : decode cX0_openAround 46 = .ok (.if_icmp .ne 49, 3) := by decide +kernel
theorem dX0_openAround_49 : decode cX0_openAround 49 = .ok (.aload_n 0, 1) := by decide +kernel
theorem dX0_openAround_50 : decode cX0_openAround 50 = .ok (.getfield 25, 3) := by decide +kernel
theorem dX0_openAround_53 : decode cX0_openAround 53 = .ok (.iload 6, 2) := by decide +kernel
theorem dX0_openAround_55 : decode cX0_openAround 55 = .ok (.iaload, 1) := by decide +kernel
theorem dX0_openAround_56 : decode cX0_openAround 56 = .ok (.iload_n 2, 1) := by decide +kernel
theorem dX0_openAround_57 : decode cX0_openAround 57 = .ok (.iand, 1) := by decide +kernel
theorem dX0_openAround_58 : decode cX0_openAround 58 = .ok (.iload_n 2, 1) := by decide +kernel
theorem dX0_openAround_59 : decode cX0_openAround 59 = .ok (.if_icmp .eq 36, 3) := by decide +kernel
theorem dX0_openAround_62 : decode cX0_openAround 62 = .ok (.iload 4, 2) := by decide +kernel
theorem dX0_openAround_64 : decode cX0_openAround 64 = .ok (.aload_n 0, 1) := by decide +kernel
theorem dX0_openAround_65 : decode cX0_openAround 65 = .ok (.getfield 28, 3) := by decide +kernel
theorem dX0_openAround_68 : decode cX0_openAround 68 = .ok (.arraylength, 1) := by decide +kernel
theorem dX0_openAround_69 : decode cX0_openAround 69 = .ok (.if_icmp .ge 26, 3) := by decide +kernel
theorem dX0_openAround_72 : decode cX0_openAround 72 = .ok (.aload_n 0, 1) := by decide +kernel
theorem dX0_openAround_73 : decode cX0_openAround 73 = .ok (.getfield 25, 3) := by decide +kernel
theorem dX0_openAround_76 : decode cX0_openAround 76 = .ok (.iload 6, 2) := by decide +kernel
theorem dX0_openAround_78 : decode cX0_openAround 78 = .ok (.dup2, 1) := by decide +kernel
theorem dX0_openAround_79 : decode cX0_openAround 79 = .ok (.iaload, 1) := by decide +kernel
theorem dX0_openAround_80 : decode cX0_openAround 80 = .ok (.iload_n 2, 1) := by decide +kernel
theorem dX0_openAround_81 : decode cX0_openAround 81 = .ok (.ior, 1) := by decide +kernel
theorem dX0_openAround_82 : decode cX0_openAround 82 = .ok (.iastore, 1) := by decide +kernel
theorem dX0_openAround_83 : decode cX0_openAround 83 = .ok (.aload_n 0, 1) := by decide +kernel
theorem dX0_openAround_84 : decode cX0_openAround 84 = .ok (.getfield 28, 3) := by decide +kernel
theorem dX0_openAround_87 : decode cX0_openAround 87 = .ok (.iload 4, 2) := by decide +kernel
theorem dX0_openAround_89 : decode cX0_openAround 89 = .ok (.iload 6, 2) := by decide +kernel
theorem dX0_openAround_91 : decode cX0_openAround 91 = .ok (.iastore, 1) := by decide +kernel
theorem dX0_openAround_92 : decode cX0_openAround 92 = .ok (.iinc 4 1, 3) := by decide +kernel
theorem dX0_openAround_95 : decode cX0_openAround 95 = .ok (.iinc 5 1, 3) := by decide +kernel
theorem dX0_openAround_98 : decode cX0_openAround 98 = .ok (.goto (-92), 3) := by decide +kernel
theorem dX0_openAround_101 : decode cX0_openAround 101 = .ok (.iload 4, 2) := by decide +kernel
theorem dX0_openAround_103 : decode cX0_openAround 103 = .ok (.ireturn, 1) := by decide +kernel
theorem dX0_chainName_0 : decode cX0_chainName 0 = .ok (.aload_n 0, 1) := by decide +kernel
theorem dX0_chainName_1 : decode cX0_chainName 1 = .ok (.iload_n 1, 1) := by decide +kernel
theorem dX0_chainName_2 : decode cX0_chainName 2 = .ok (.invokevirtual 45, 3) := by decide +kernel
theorem dX0_chainName_5 : decode cX0_chainName 5 = .ok (.ifCond .eq 12, 3) := by decide +kernel
theorem dX0_chainName_8 : decode cX0_chainName 8 = .ok (.aload_n 0, 1) := by decide +kernel
theorem dX0_chainName_9 : decode cX0_chainName 9 = .ok (.getfield 15, 3) := by decide +kernel
theorem dX0_chainName_12 : decode cX0_chainName 12 = .ok (.iload_n 1, 1) := by decide +kernel
theorem dX0_chainName_13 : decode cX0_chainName 13 = .ok (.iaload, 1) := by decide +kernel
theorem dX0_chainName_14 : decode cX0_chainName 14 = .ok (.ifCond .ne 5, 3) := by decide +kernel
theorem dX0_chainName_17 : decode cX0_chainName 17 = .ok (.iconst (-1), 1) := by decide +kernel
theorem dX0_chainName_18 : decode cX0_chainName 18 = .ok (.ireturn, 1) := by decide +kernel
theorem dX0_chainName_19 : decode cX0_chainName 19 = .ok (.aload_n 0, 1) := by decide +kernel
theorem dX0_chainName_20 : decode cX0_chainName 20 = .ok (.invokevirtual 75, 3) := by decide +kernel
theorem dX0_chainName_23 : decode cX0_chainName 23 = .ok (.aload_n 0, 1) := by decide +kernel
theorem dX0_chainName_24 : decode cX0_chainName 24 = .ok (.iload_n 1, 1) := by decide +kernel
theorem dX0_chainName_25 : decode cX0_chainName 25 = .ok (.iconst 1, 1) := by decide +kernel
theorem dX0_chainName_26 : decode cX0_chainName 26 = .ok (.invokevirtual 78, 3) := by decide +kernel
theorem dX0_chainName_29 : decode cX0_chainName 29 = .ok (.iconst 0, 1) := by decide +kernel
theorem dX0_chainName_30 : decode cX0_chainName 30 = .ok (.istore_n 2, 1) := by decide +kernel
theorem dX0_chainName_31 : decode cX0_chainName 31 = .ok (.iload_n 2, 1) := by decide +kernel
theorem dX0_chainName_32 : decode cX0_chainName 32 = .ok (.iload_n 1, 1) := by decide +kernel
theorem dX0_chainName_33 : decode cX0_chainName 33 = .ok (.if_icmp .ge 20, 3) := by decide +kernel
theorem dX0_chainName_36 : decode cX0_chainName 36 = .ok (.aload_n 0, 1) := by decide +kernel
theorem dX0_chainName_37 : decode cX0_chainName 37 = .ok (.getfield 25, 3) := by decide +kernel
theorem dX0_chainName_40 : decode cX0_chainName 40 = .ok (.iload_n 2, 1) := by decide +kernel
theorem dX0_chainName_41 : decode cX0_chainName 41 = .ok (.iaload, 1) := by decide +kernel
theorem dX0_chainName_42 : decode cX0_chainName 42 = .ok (.ifCond .eq 5, 3) := by decide +kernel
theorem dX0_chainName_45 : decode cX0_chainName 45 = .ok (.iload_n 2, 1) := by decide +kernel
theorem dX0_chainName_46 : decode cX0_chainName 46 = .ok (.ireturn, 1) := by decide +kernel
theorem dX0_chainName_47 : decode cX0_chainName 47 = .ok (.iinc 2 1, 3) := by decide +kernel
theorem dX0_chainName_50 : decode cX0_chainName 50 = .ok (.goto (-19), 3) := by decide +kernel
theorem dX0_chainName_53 : decode cX0_chainName 53 = .ok (.iload_n 1, 1) := by decide +kernel
theorem dX0_chainName_54 : decode cX0_chainName 54 = .ok (.ireturn, 1) := by decide +kernel
theorem dX0_countChains_0 : decode cX0_countChains 0 = .ok (.iconst 0, 1) := by decide +kernel
theorem dX0_countChains_1 : decode cX0_countChains 1 = .ok (.istore_n 1, 1) := by decide +kernel
theorem dX0_countChains_2 : decode cX0_countChains 2 = .ok (.aload_n 0, 1) := by decide +kernel
theorem dX0_countChains_3 : decode cX0_countChains 3 = .ok (.invokevirtual 75, 3) := by decide +kernel
theorem dX0_countChains_6 : decode cX0_countChains 6 = .ok (.iconst 0, 1) := by decide +kernel
theorem dX0_countChains_7 : decode cX0_countChains 7 = .ok (.istore_n 2, 1) := by decide +kernel
theorem dX0_countChains_8 : decode cX0_countChains 8 = .ok (.iload_n 2, 1) := by decide +kernel
theorem dX0_countChains_9 : decode cX0_countChains 9 = .ok (.aload_n 0, 1) := by decide +kernel
theorem dX0_countChains_10 : decode cX0_countChains 10 = .ok (.getfield 15, 3) := by decide +kernel
theorem dX0_countChains_13 : decode cX0_countChains 13 = .ok (.arraylength, 1) := by decide +kernel
theorem dX0_countChains_14 : decode cX0_countChains 14 = .ok (.if_icmp .ge 36, 3) := by decide +kernel
theorem dX0_countChains_17 : decode cX0_countChains 17 = .ok (.aload_n 0, 1) := by decide +kernel
theorem dX0_countChains_18 : decode cX0_countChains 18 = .ok (.getfield 15, 3) := by decide +kernel
theorem dX0_countChains_21 : decode cX0_countChains 21 = .ok (.iload_n 2, 1) := by decide +kernel
theorem dX0_countChains_22 : decode cX0_countChains 22 = .ok (.iaload, 1) := by decide +kernel
theorem dX0_countChains_23 : decode cX0_countChains 23 = .ok (.ifCond .eq 21, 3) := by decide +kernel
theorem dX0_countChains_26 : decode cX0_countChains 26 = .ok (.aload_n 0, 1) := by decide +kernel
theorem dX0_countChains_27 : decode cX0_countChains 27 = .ok (.getfield 25, 3) := by decide +kernel
theorem dX0_countChains_30 : decode cX0_countChains 30 = .ok (.iload_n 2, 1) := by decide +kernel
theorem dX0_countChains_31 : decode cX0_countChains 31 = .ok (.iaload, 1) := by decide +kernel
theorem dX0_countChains_32 : decode cX0_countChains 32 = .ok (.ifCond .ne 12, 3) := by decide +kernel
theorem dX0_countChains_35 : decode cX0_countChains 35 = .ok (.aload_n 0, 1) := by decide +kernel
theorem dX0_countChains_36 : decode cX0_countChains 36 = .ok (.iload_n 2, 1) := by decide +kernel
theorem dX0_countChains_37 : decode cX0_countChains 37 = .ok (.iconst 1, 1) := by decide +kernel
theorem dX0_countChains_38 : decode cX0_countChains 38 = .ok (.invokevirtual 78, 3) := by decide +kernel
theorem dX0_countChains_41 : decode cX0_countChains 41 = .ok (.iinc 1 1, 3) := by decide +kernel
theorem dX0_countChains_44 : decode cX0_countChains 44 = .ok (.iinc 2 1, 3) := by decide +kernel
theorem dX0_countChains_47 : decode cX0_countChains 47 = .ok (.goto (-39), 3) := by decide +kernel
theorem dX0_countChains_50 : decode cX0_countChains 50 = .ok (.iload_n 1, 1) := by decide +kernel
theorem dX0_countChains_51 : decode cX0_countChains 51 = .ok (.ireturn, 1) := by decide +kernel
theorem dX0_edgesOf_0 : decode cX0_edgesOf 0 = .ok (.iload_n 1, 1) := by decide +kernel
theorem dX0_edgesOf_1 : decode cX0_edgesOf 1 = .ok (.iconst 1, 1) := by decide +kernel
theorem dX0_edgesOf_2 : decode cX0_edgesOf 2 = .ok (.if_icmp .ne 14, 3) := by decide +kernel
theorem dX0_edgesOf_5 : decode cX0_edgesOf 5 = .ok (.aload_n 0, 1) := by decide +kernel
theorem dX0_edgesOf_6 : decode cX0_edgesOf 6 = .ok (.getfield 22, 3) := by decide +kernel
theorem dX0_edgesOf_9 : decode cX0_edgesOf 9 = .ok (.iload_n 2, 1) := by decide +kernel
theorem dX0_edgesOf_10 : decode cX0_edgesOf 10 = .ok (.iaload, 1) := by decide +kernel
theorem dX0_edgesOf_11 : decode cX0_edgesOf 11 = .ok (.iconst 3, 1) := by decide +kernel
theorem dX0_edgesOf_12 : decode cX0_edgesOf 12 = .ok (.iand, 1) := by decide +kernel
theorem dX0_edgesOf_13 : decode cX0_edgesOf 13 = .ok (.goto 11, 3) := by decide +kernel
theorem dX0_edgesOf_16 : decode cX0_edgesOf 16 = .ok (.aload_n 0, 1) := by decide +kernel
theorem dX0_edgesOf_17 : decode cX0_edgesOf 17 = .ok (.getfield 22, 3) := by decide +kernel
theorem dX0_edgesOf_20 : decode cX0_edgesOf 20 = .ok (.iload_n 2, 1) := by decide +kernel
theorem dX0_edgesOf_21 : decode cX0_edgesOf 21 = .ok (.iaload, 1) := by decide +kernel
theorem dX0_edgesOf_22 : decode cX0_edgesOf 22 = .ok (.iconst 2, 1) := by decide +kernel
theorem dX0_edgesOf_23 : decode cX0_edgesOf 23 = .ok (.ishr, 1) := by decide +kernel
theorem dX0_edgesOf_24 : decode cX0_edgesOf 24 = .ok (.ireturn, 1) := by decide +kernel
theorem dX0_markFromEdges_0 : decode cX0_markFromEdges 0 = .ok (.aload_n 0, 1) := by decide +kernel
theorem dX0_markFromEdges_1 : decode cX0_markFromEdges 1 = .ok (.invokevirtual 75, 3) := by decide +kernel
theorem dX0_markFromEdges_4 : decode cX0_markFromEdges 4 = .ok (.iconst 0, 1) := by decide +kernel
theorem dX0_markFromEdges_5 : decode cX0_markFromEdges 5 = .ok (.istore_n 2, 1) := by decide +kernel
theorem dX0_markFromEdges_6 : decode cX0_markFromEdges 6 = .ok (.iload_n 2, 1) := by decide +kernel
theorem dX0_markFromEdges_7 : decode cX0_markFromEdges 7 = .ok (.aload_n 0, 1) := by decide +kernel
theorem dX0_markFromEdges_8 : decode cX0_markFromEdges 8 = .ok (.getfield 15, 3) := by decide +kernel
theorem dX0_markFromEdges_11 : decode cX0_markFromEdges 11 = .ok (.arraylength, 1) := by decide +kernel
theorem dX0_markFromEdges_12 : decode cX0_markFromEdges 12 = .ok (.if_icmp .ge 30, 3) := by decide +kernel
theorem dX0_markFromEdges_15 : decode cX0_markFromEdges 15 = .ok (.aload_n 0, 1) := by decide +kernel
theorem dX0_markFromEdges_16 : decode cX0_markFromEdges 16 = .ok (.getfield 15, 3) := by decide +kernel
theorem dX0_markFromEdges_19 : decode cX0_markFromEdges 19 = .ok (.iload_n 2, 1) := by decide +kernel
theorem dX0_markFromEdges_20 : decode cX0_markFromEdges 20 = .ok (.iaload, 1) := by decide +kernel
theorem dX0_markFromEdges_21 : decode cX0_markFromEdges 21 = .ok (.iload_n 1, 1) := by decide +kernel
theorem dX0_markFromEdges_22 : decode cX0_markFromEdges 22 = .ok (.if_icmp .ne 14, 3) := by decide +kernel
theorem dX0_markFromEdges_25 : decode cX0_markFromEdges 25 = .ok (.aload_n 0, 1) := by decide +kernel
theorem dX0_markFromEdges_26 : decode cX0_markFromEdges 26 = .ok (.iload_n 2, 1) := by decide +kernel
theorem dX0_markFromEdges_27 : decode cX0_markFromEdges 27 = .ok (.aload_n 0, 1) := by decide +kernel
theorem dX0_markFromEdges_28 : decode cX0_markFromEdges 28 = .ok (.iload_n 1, 1) := by decide +kernel
theorem dX0_markFromEdges_29 : decode cX0_markFromEdges 29 = .ok (.iload_n 2, 1) := by decide +kernel
theorem dX0_markFromEdges_30 : decode cX0_markFromEdges 30 = .ok (.invokevirtual 82, 3) := by decide +kernel
theorem dX0_markFromEdges_33 : decode cX0_markFromEdges 33 = .ok (.invokevirtual 78, 3) := by decide +kernel
theorem dX0_markFromEdges_36 : decode cX0_markFromEdges 36 = .ok (.iinc 2 1, 3) := by decide +kernel
theorem dX0_markFromEdges_39 : decode cX0_markFromEdges 39 = .ok (.goto (-33), 3) := by decide +kernel
theorem dX0_markFromEdges_42 : decode cX0_markFromEdges 42 = .ok (.return_, 1) := by decide +kernel
theorem dX0_wins_0 : decode cX0_wins 0 = .ok (.aload_n 0, 1) := by decide +kernel
theorem dX0_wins_1 : decode cX0_wins 1 = .ok (.iload_n 1, 1) := by decide +kernel
theorem dX0_wins_2 : decode cX0_wins 2 = .ok (.invokevirtual 85, 3) := by decide +kernel
theorem dX0_wins_5 : decode cX0_wins 5 = .ok (.aload_n 0, 1) := by decide +kernel
theorem dX0_wins_6 : decode cX0_wins 6 = .ok (.getfield 25, 3) := by decide +kernel
theorem dX0_wins_9 : decode cX0_wins 9 = .ok (.astore_n 2, 1) := by decide +kernel
theorem dX0_wins_10 : decode cX0_wins 10 = .ok (.aload_n 2, 1) := by decide +kernel
theorem dX0_wins_11 : decode cX0_wins 11 = .ok (.arraylength, 1) := by decide +kernel
theorem dX0_wins_12 : decode cX0_wins 12 = .ok (.istore_n 3, 1) := by decide +kernel
theorem dX0_wins_13 : decode cX0_wins 13 = .ok (.iconst 0, 1) := by decide +kernel
theorem dX0_wins_14 : decode cX0_wins 14 = .ok (.istore 4, 2) := by decide +kernel
theorem dX0_wins_16 : decode cX0_wins 16 = .ok (.iload 4, 2) := by decide +kernel
theorem dX0_wins_18 : decode cX0_wins 18 = .ok (.iload_n 3, 1) := by decide +kernel
theorem dX0_wins_19 : decode cX0_wins 19 = .ok (.if_icmp .ge 23, 3) := by decide +kernel
theorem dX0_wins_22 : decode cX0_wins 22 = .ok (.aload_n 2, 1) := by decide +kernel
theorem dX0_wins_23 : decode cX0_wins 23 = .ok (.iload 4, 2) := by decide +kernel
theorem dX0_wins_25 : decode cX0_wins 25 = .ok (.iaload, 1) := by decide +kernel
theorem dX0_wins_26 : decode cX0_wins 26 = .ok (.istore 5, 2) := by decide +kernel
theorem dX0_wins_28 : decode cX0_wins 28 = .ok (.iload 5, 2) := by decide +kernel
theorem dX0_wins_30 : decode cX0_wins 30 = .ok (.iconst 3, 1) := by decide +kernel
theorem dX0_wins_31 : decode cX0_wins 31 = .ok (.if_icmp .ne 5, 3) := by decide +kernel
theorem dX0_wins_34 : decode cX0_wins 34 = .ok (.iconst 1, 1) := by decide +kernel
theorem dX0_wins_35 : decode cX0_wins 35 = .ok (.ireturn, 1) := by decide +kernel
theorem dX0_wins_36 : decode cX0_wins 36 = .ok (.iinc 4 1, 3) := by decide +kernel
theorem dX0_wins_39 : decode cX0_wins 39 = .ok (.goto (-23), 3) := by decide +kernel
theorem dX0_wins_42 : decode cX0_wins 42 = .ok (.iconst 0, 1) := by decide +kernel
theorem dX0_wins_43 : decode cX0_wins 43 = .ok (.ireturn, 1) := by decide +kernel
theorem dX0_winner_0 : decode cX0_winner 0 = .ok (.aload_n 0, 1) := by decide +kernel
theorem dX0_winner_1 : decode cX0_winner 1 = .ok (.iconst 1, 1) := by decide +kernel
theorem dX0_winner_2 : decode cX0_winner 2 = .ok (.invokevirtual 89, 3) := by decide +kernel
theorem dX0_winner_5 : decode cX0_winner 5 = .ok (.ifCond .eq 5, 3) := by decide +kernel
theorem dX0_winner_8 : decode cX0_winner 8 = .ok (.iconst 1, 1) := by decide +kernel
theorem dX0_winner_9 : decode cX0_winner 9 = .ok (.ireturn, 1) := by decide +kernel
theorem dX0_winner_10 : decode cX0_winner 10 = .ok (.aload_n 0, 1) := by decide +kernel
theorem dX0_winner_11 : decode cX0_winner 11 = .ok (.iconst 2, 1) := by decide +kernel
theorem dX0_winner_12 : decode cX0_winner 12 = .ok (.invokevirtual 89, 3) := by decide +kernel
theorem dX0_winner_15 : decode cX0_winner 15 = .ok (.ifCond .eq 7, 3) := by decide +kernel
theorem dX0_winner_18 : decode cX0_winner 18 = .ok (.iconst 2, 1) := by decide +kernel
theorem dX0_winner_19 : decode cX0_winner 19 = .ok (.goto 4, 3) := by decide +kernel
theorem dX0_winner_22 : decode cX0_winner 22 = .ok (.iconst 0, 1) := by decide +kernel
theorem dX0_winner_23 : decode cX0_winner 23 = .ok (.ireturn, 1) := by decide +kernel
theorem dX0_wouldWin_0 : decode cX0_wouldWin 0 = .ok (.aload_n 0, 1) := by decide +kernel
theorem dX0_wouldWin_1 : decode cX0_wouldWin 1 = .ok (.iload_n 2, 1) := by decide +kernel
theorem dX0_wouldWin_2 : decode cX0_wouldWin 2 = .ok (.invokevirtual 45, 3) := by decide +kernel
theorem dX0_wouldWin_5 : decode cX0_wouldWin 5 = .ok (.ifCond .ne 5, 3) := by decide +kernel
theorem dX0_wouldWin_8 : decode cX0_wouldWin 8 = .ok (.iconst 0, 1) := by decide +kernel
theorem dX0_wouldWin_9 : decode cX0_wouldWin 9 = .ok (.ireturn, 1) := by decide +kernel
theorem dX0_wouldWin_10 : decode cX0_wouldWin 10 = .ok (.aload_n 0, 1) := by decide +kernel
theorem dX0_wouldWin_11 : decode cX0_wouldWin 11 = .ok (.iload_n 1, 1) := by decide +kernel
theorem dX0_wouldWin_12 : decode cX0_wouldWin 12 = .ok (.iload_n 2, 1) := by decide +kernel
theorem dX0_wouldWin_13 : decode cX0_wouldWin 13 = .ok (.invokevirtual 82, 3) := by decide +kernel
theorem dX0_wouldWin_16 : decode cX0_wouldWin 16 = .ok (.istore_n 3, 1) := by decide +kernel
theorem dX0_wouldWin_17 : decode cX0_wouldWin 17 = .ok (.iconst 0, 1) := by decide +kernel
theorem dX0_wouldWin_18 : decode cX0_wouldWin 18 = .ok (.istore 4, 2) := by decide +kernel
theorem dX0_wouldWin_20 : decode cX0_wouldWin 20 = .ok (.iload 4, 2) := by decide +kernel
theorem dX0_wouldWin_22 : decode cX0_wouldWin 22 = .ok (.bipush 6, 2) := by decide +kernel
theorem dX0_wouldWin_24 : decode cX0_wouldWin 24 = .ok (.if_icmp .ge 39, 3) := by decide +kernel
theorem dX0_wouldWin_27 : decode cX0_wouldWin 27 = .ok (.aload_n 0, 1) := by decide +kernel
theorem dX0_wouldWin_28 : decode cX0_wouldWin 28 = .ok (.getfield 19, 3) := by decide +kernel
theorem dX0_wouldWin_31 : decode cX0_wouldWin 31 = .ok (.bipush 6, 2) := by decide +kernel
theorem dX0_wouldWin_33 : decode cX0_wouldWin 33 = .ok (.iload_n 2, 1) := by decide +kernel
theorem dX0_wouldWin_34 : decode cX0_wouldWin 34 = .ok (.imul, 1) := by decide +kernel
theorem dX0_wouldWin_35 : decode cX0_wouldWin 35 = .ok (.iload 4, 2) := by decide +kernel
theorem dX0_wouldWin_37 : decode cX0_wouldWin 37 = .ok (.iadd, 1) := by decide +kernel
theorem dX0_wouldWin_38 : decode cX0_wouldWin 38 = .ok (.iaload, 1) := by decide +kernel
theorem dX0_wouldWin_39 : decode cX0_wouldWin 39 = .ok (.istore 5, 2) := by decide +kernel
theorem dX0_wouldWin_41 : decode cX0_wouldWin 41 = .ok (.iload 5, 2) := by decide +kernel
theorem dX0_wouldWin_43 : decode cX0_wouldWin 43 = .ok (.iconst (-1), 1) := by decide +kernel
theorem dX0_wouldWin_44 : decode cX0_wouldWin 44 = .ok (.if_icmp .eq 13, 3) := by decide +kernel
theorem dX0_wouldWin_47 : decode cX0_wouldWin 47 = .ok (.iload_n 3, 1) := by decide +kernel
theorem dX0_wouldWin_48 : decode cX0_wouldWin 48 = .ok (.aload_n 0, 1) := by decide +kernel
theorem dX0_wouldWin_49 : decode cX0_wouldWin 49 = .ok (.getfield 25, 3) := by decide +kernel
theorem dX0_wouldWin_52 : decode cX0_wouldWin 52 = .ok (.iload 5, 2) := by decide +kernel
theorem dX0_wouldWin_54 : decode cX0_wouldWin 54 = .ok (.iaload, 1) := by decide +kernel
theorem dX0_wouldWin_55 : decode cX0_wouldWin 55 = .ok (.ior, 1) := by decide +kernel
theorem dX0_wouldWin_56 : decode cX0_wouldWin 56 = .ok (.istore_n 3, 1) := by decide +kernel
theorem dX0_wouldWin_57 : decode cX0_wouldWin 57 = .ok (.iinc 4 1, 3) := by decide +kernel
theorem dX0_wouldWin_60 : decode cX0_wouldWin 60 = .ok (.goto (-40), 3) := by decide +kernel
theorem dX0_wouldWin_63 : decode cX0_wouldWin 63 = .ok (.iload_n 3, 1) := by decide +kernel
theorem dX0_wouldWin_64 : decode cX0_wouldWin 64 = .ok (.iconst 3, 1) := by decide +kernel
theorem dX0_wouldWin_65 : decode cX0_wouldWin 65 = .ok (.if_icmp .ne 7, 3) := by decide +kernel
theorem dX0_wouldWin_68 : decode cX0_wouldWin 68 = .ok (.iconst 1, 1) := by decide +kernel
theorem dX0_wouldWin_69 : decode cX0_wouldWin 69 = .ok (.goto 4, 3) := by decide +kernel
theorem dX0_wouldWin_72 : decode cX0_wouldWin 72 = .ok (.iconst 0, 1) := by decide +kernel
theorem dX0_wouldWin_73 : decode cX0_wouldWin 73 = .ok (.ireturn, 1) := by decide +kernel
theorem dJ9_max_7cf53_0 : decode cJ9_max_7cf53 0 = .ok (.iload_n 0, 1) := by decide +kernel
theorem dJ9_max_7cf53_1 : decode cJ9_max_7cf53 1 = .ok (.iload_n 1, 1) := by decide +kernel
theorem dJ9_max_7cf53_2 : decode cJ9_max_7cf53 2 = .ok (.if_icmp .lt 7, 3) := by decide +kernel
theorem dJ9_max_7cf53_5 : decode cJ9_max_7cf53 5 = .ok (.iload_n 0, 1) := by decide +kernel
theorem dJ9_max_7cf53_6 : decode cJ9_max_7cf53 6 = .ok (.goto 4, 3) := by decide +kernel
theorem dJ9_max_7cf53_9 : decode cJ9_max_7cf53 9 = .ok (.iload_n 1, 1) := by decide +kernel
theorem dJ9_max_7cf53_10 : decode cJ9_max_7cf53 10 = .ok (.ireturn, 1) := by decide +kernel
theorem dJ9_min_7cf53_0 : decode cJ9_min_7cf53 0 = .ok (.iload_n 0, 1) := by decide +kernel
theorem dJ9_min_7cf53_1 : decode cJ9_min_7cf53 1 = .ok (.iload_n 1, 1) := by decide +kernel
theorem dJ9_min_7cf53_2 : decode cJ9_min_7cf53 2 = .ok (.if_icmp .gt 7, 3) := by decide +kernel
theorem dJ9_min_7cf53_5 : decode cJ9_min_7cf53 5 = .ok (.iload_n 0, 1) := by decide +kernel
theorem dJ9_min_7cf53_6 : decode cJ9_min_7cf53 6 = .ok (.goto 4, 3) := by decide +kernel
theorem dJ9_min_7cf53_9 : decode cJ9_min_7cf53 9 = .ok (.iload_n 1, 1) := by decide +kernel
theorem dJ9_min_7cf53_10 : decode cJ9_min_7cf53 10 = .ok (.ireturn, 1) := by decide +kernel
theorem dJ7_fill_53178_0 : decode cJ7_fill_53178 0 = .ok (.iconst 0, 1) := by decide +kernel
theorem dJ7_fill_53178_1 : decode cJ7_fill_53178 1 = .ok (.istore_n 2, 1) := by decide +kernel
theorem dJ7_fill_53178_2 : decode cJ7_fill_53178 2 = .ok (.aload_n 0, 1) := by decide +kernel
theorem dJ7_fill_53178_3 : decode cJ7_fill_53178 3 = .ok (.arraylength, 1) := by decide +kernel
theorem dJ7_fill_53178_4 : decode cJ7_fill_53178 4 = .ok (.istore_n 3, 1) := by decide +kernel
theorem dJ7_fill_53178_5 : decode cJ7_fill_53178 5 = .ok (.iload_n 2, 1) := by decide +kernel
theorem dJ7_fill_53178_6 : decode cJ7_fill_53178 6 = .ok (.iload_n 3, 1) := by decide +kernel
theorem dJ7_fill_53178_7 : decode cJ7_fill_53178 7 = .ok (.if_icmp .ge 13, 3) := by decide +kernel
theorem dJ7_fill_53178_10 : decode cJ7_fill_53178 10 = .ok (.aload_n 0, 1) := by decide +kernel
theorem dJ7_fill_53178_11 : decode cJ7_fill_53178 11 = .ok (.iload_n 2, 1) := by decide +kernel
theorem dJ7_fill_53178_12 : decode cJ7_fill_53178 12 = .ok (.iload_n 1, 1) := by decide +kernel
theorem dJ7_fill_53178_13 : decode cJ7_fill_53178 13 = .ok (.iastore, 1) := by decide +kernel
theorem dJ7_fill_53178_14 : decode cJ7_fill_53178 14 = .ok (.iinc 2 1, 3) := by decide +kernel
theorem dJ7_fill_53178_17 : decode cJ7_fill_53178 17 = .ok (.goto (-12), 3) := by decide +kernel
theorem dJ7_fill_53178_20 : decode cJ7_fill_53178 20 = .ok (.return_, 1) := by decide +kernel
theorem dJ7_copyOf_59c91_0 : decode cJ7_copyOf_59c91 0 = .ok (.iload_n 1, 1) := by decide +kernel
theorem dJ7_copyOf_59c91_1 : decode cJ7_copyOf_59c91 1 = .ok (.aload_n 0, 1) := by decide +kernel
theorem dJ7_copyOf_59c91_2 : decode cJ7_copyOf_59c91 2 = .ok (.arraylength, 1) := by decide +kernel
theorem dJ7_copyOf_59c91_3 : decode cJ7_copyOf_59c91 3 = .ok (.if_icmp .ne 11, 3) := by decide +kernel
theorem dJ7_copyOf_59c91_6 : decode cJ7_copyOf_59c91 6 = .ok (.aload_n 0, 1) := by decide +kernel
theorem dJ7_copyOf_59c91_7 : decode cJ7_copyOf_59c91 7 = .ok (.invokevirtual 316, 3) := by decide +kernel
theorem dJ7_copyOf_59c91_10 : decode cJ7_copyOf_59c91 10 = .ok (.checkcast 317, 3) := by decide +kernel
theorem dJ7_copyOf_59c91_13 : decode cJ7_copyOf_59c91 13 = .ok (.areturn, 1) := by decide +kernel
theorem dJ7_copyOf_59c91_14 : decode cJ7_copyOf_59c91 14 = .ok (.iload_n 1, 1) := by decide +kernel
theorem dJ7_copyOf_59c91_15 : decode cJ7_copyOf_59c91 15 = .ok (.newarray .int, 2) := by decide +kernel
theorem dJ7_copyOf_59c91_17 : decode cJ7_copyOf_59c91 17 = .ok (.astore_n 2, 1) := by decide +kernel
theorem dJ7_copyOf_59c91_18 : decode cJ7_copyOf_59c91 18 = .ok (.aload_n 0, 1) := by decide +kernel
theorem dJ7_copyOf_59c91_19 : decode cJ7_copyOf_59c91 19 = .ok (.iconst 0, 1) := by decide +kernel
theorem dJ7_copyOf_59c91_20 : decode cJ7_copyOf_59c91 20 = .ok (.aload_n 2, 1) := by decide +kernel
theorem dJ7_copyOf_59c91_21 : decode cJ7_copyOf_59c91 21 = .ok (.iconst 0, 1) := by decide +kernel
theorem dJ7_copyOf_59c91_22 : decode cJ7_copyOf_59c91 22 = .ok (.aload_n 0, 1) := by decide +kernel
theorem dJ7_copyOf_59c91_23 : decode cJ7_copyOf_59c91 23 = .ok (.arraylength, 1) := by decide +kernel
theorem dJ7_copyOf_59c91_24 : decode cJ7_copyOf_59c91 24 = .ok (.iload_n 1, 1) := by decide +kernel
theorem dJ7_copyOf_59c91_25 : decode cJ7_copyOf_59c91 25 = .ok (.invokestatic 304, 3) := by decide +kernel
theorem dJ7_copyOf_59c91_28 : decode cJ7_copyOf_59c91 28 = .ok (.invokestatic 150, 3) := by decide +kernel
theorem dJ7_copyOf_59c91_31 : decode cJ7_copyOf_59c91 31 = .ok (.aload_n 2, 1) := by decide +kernel
theorem dJ7_copyOf_59c91_32 : decode cJ7_copyOf_59c91 32 = .ok (.areturn, 1) := by decide +kernel
