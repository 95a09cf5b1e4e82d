theorem dX1_init_0 : decode cX1_init 0 = .ok (.aload_n 0, 1) := by decide +kernel
theorem dX1_init_1 : decode cX1_init 1 = .ok (.invokespecial 3, 3) := by decide +kernel
theorem dX1_init_4 : decode cX1_init 4 = .ok (.aload_n 0, 1) := by decide +kernel
theorem dX1_init_5 : decode cX1_init 5 = .ok (.bipush 17, 2) := by decide +kernel
theorem dX1_init_7 : decode cX1_init 7 = .ok (.newarray .int, 2) := by decide +kernel
theorem dX1_init_9 : decode cX1_init 9 = .ok (.putfield 9, 3) := by decide +kernel
theorem dX1_init_12 : decode cX1_init 12 = .ok (.aload_n 0, 1) := by decide +kernel
theorem dX1_init_13 : decode cX1_init 13 = .ok (.bipush 16, 2) := by decide +kernel
theorem dX1_init_15 : decode cX1_init 15 = .ok (.newarray .int, 2) := by decide +kernel
theorem dX1_init_17 : decode cX1_init 17 = .ok (.putfield 15, 3) := by decide +kernel
theorem dX1_init_20 : decode cX1_init 20 = .ok (.aload_n 0, 1) := by decide +kernel
theorem dX1_init_21 : decode cX1_init 21 = .ok (.iconst 1, 1) := by decide +kernel
theorem dX1_init_22 : decode cX1_init 22 = .ok (.putfield 18, 3) := by decide +kernel
theorem dX1_init_25 : decode cX1_init 25 = .ok (.aload_n 0, 1) := by decide +kernel
theorem dX1_init_26 : decode cX1_init 26 = .ok (.iconst 1, 1) := by decide +kernel
theorem dX1_init_27 : decode cX1_init 27 = .ok (.putfield 22, 3) := by decide +kernel
theorem dX1_init_30 : decode cX1_init 30 = .ok (.aload_n 0, 1) := by decide +kernel
theorem dX1_init_31 : decode cX1_init 31 = .ok (.aload_n 1, 1) := by decide +kernel
theorem dX1_init_32 : decode cX1_init 32 = .ok (.putfield 25, 3) := by decide +kernel
theorem dX1_init_35 : decode cX1_init 35 = .ok (.aload_n 0, 1) := by decide +kernel
theorem dX1_init_36 : decode cX1_init 36 = .ok (.aload_n 2, 1) := by decide +kernel
theorem dX1_init_37 : decode cX1_init 37 = .ok (.putfield 29, 3) := by decide +kernel
theorem dX1_init_40 : decode cX1_init 40 = .ok (.return_, 1) := by decide +kernel
theorem dX1_judge_0 : decode cX1_judge 0 = .ok (.aload_n 0, 1) := by decide +kernel
theorem dX1_judge_1 : decode cX1_judge 1 = .ok (.iload_n 1, 1) := by decide +kernel
theorem dX1_judge_2 : decode cX1_judge 2 = .ok (.putfield 18, 3) := by decide +kernel
theorem dX1_judge_5 : decode cX1_judge 5 = .ok (.aload_n 0, 1) := by decide +kernel
theorem dX1_judge_6 : decode cX1_judge 6 = .ok (.iload_n 2, 1) := by decide +kernel
theorem dX1_judge_7 : decode cX1_judge 7 = .ok (.putfield 22, 3) := by decide +kernel
theorem dX1_judge_10 : decode cX1_judge 10 = .ok (.aload_n 0, 1) := by decide +kernel
theorem dX1_judge_11 : decode cX1_judge 11 = .ok (.invokevirtual 33, 3) := by decide +kernel
theorem dX1_judge_14 : decode cX1_judge 14 = .ok (.iconst (-1), 1) := by decide +kernel
theorem dX1_judge_15 : decode cX1_judge 15 = .ok (.istore_n 3, 1) := by decide +kernel
theorem dX1_judge_16 : decode cX1_judge 16 = .ok (.aload_n 0, 1) := by decide +kernel
theorem dX1_judge_17 : decode cX1_judge 17 = .ok (.iload_n 3, 1) := by decide +kernel
theorem dX1_judge_18 : decode cX1_judge 18 = .ok (.invokevirtual 36, 3) := by decide +kernel
theorem dX1_judge_21 : decode cX1_judge 21 = .ok (.istore 4, 2) := by decide +kernel
theorem dX1_judge_23 : decode cX1_judge 23 = .ok (.aload_n 0, 1) := by decide +kernel
theorem dX1_judge_24 : decode cX1_judge 24 = .ok (.getfield 9, 3) := by decide +kernel
theorem dX1_judge_27 : decode cX1_judge 27 = .ok (.iconst 0, 1) := by decide +kernel
theorem dX1_judge_28 : decode cX1_judge 28 = .ok (.iaload, 1) := by decide +kernel
theorem dX1_judge_29 : decode cX1_judge 29 = .ok (.istore 5, 2) := by decide +kernel
theorem dX1_judge_31 : decode cX1_judge 31 = .ok (.iconst 0, 1) := by decide +kernel
theorem dX1_judge_32 : decode cX1_judge 32 = .ok (.istore 6, 2) := by decide +kernel
theorem dX1_judge_34 : decode cX1_judge 34 = .ok (.iload 6, 2) := by decide +kernel
theorem dX1_judge_36 : decode cX1_judge 36 = .ok (.sipush 8000, 3) := by decide +kernel
theorem dX1_judge_39 : decode cX1_judge 39 = .ok (.if_icmp .ge 65, 3) := by decide +kernel
theorem dX1_judge_42 : decode cX1_judge 42 = .ok (.iload 4, 2) := by decide +kernel
theorem dX1_judge_44 : decode cX1_judge 44 = .ok (.ifCond .ne 60, 3) := by decide +kernel
theorem dX1_judge_47 : decode cX1_judge 47 = .ok (.iload 5, 2) := by decide +kernel
theorem dX1_judge_49 : decode cX1_judge 49 = .ok (.iconst (-1), 1) := by decide +kernel
theorem dX1_judge_50 : decode cX1_judge 50 = .ok (.if_icmp .eq 54, 3) := by decide +kernel
theorem dX1_judge_53 : decode cX1_judge 53 = .ok (.iload 5, 2) := by decide +kernel
theorem dX1_judge_55 : decode cX1_judge 55 = .ok (.istore_n 3, 1) := by decide +kernel
theorem dX1_judge_56 : decode cX1_judge 56 = .ok (.aload_n 0, 1) := by decide +kernel
theorem dX1_judge_57 : decode cX1_judge 57 = .ok (.iload_n 3, 1) := by decide +kernel
theorem dX1_judge_58 : decode cX1_judge 58 = .ok (.invokevirtual 40, 3) := by decide +kernel
theorem dX1_judge_61 : decode cX1_judge 61 = .ok (.istore 4, 2) := by decide +kernel
theorem dX1_judge_63 : decode cX1_judge 63 = .ok (.iload 4, 2) := by decide +kernel
theorem dX1_judge_65 : decode cX1_judge 65 = .ok (.ifCond .ne 33, 3) := by decide +kernel
theorem dX1_judge_68 : decode cX1_judge 68 = .ok (.aload_n 0, 1) := by decide +kernel
theorem dX1_judge_69 : decode cX1_judge 69 = .ok (.getfield 9, 3) := by decide +kernel
theorem dX1_judge_72 : decode cX1_judge 72 = .ok (.iload_n 3, 1) := by decide +kernel
theorem dX1_judge_73 : decode cX1_judge 73 = .ok (.iconst 1, 1) := by decide +kernel
theorem dX1_judge_74 : decode cX1_judge 74 = .ok (.iadd, 1) := by decide +kernel
theorem dX1_judge_75 : decode cX1_judge 75 = .ok (.iaload, 1) := by decide +kernel
theorem dX1_judge_76 : decode cX1_judge 76 = .ok (.iconst (-1), 1) := by decide +kernel
theorem dX1_judge_77 : decode cX1_judge 77 = .ok (.if_icmp .eq 14, 3) := by decide +kernel
theorem dX1_judge_80 : decode cX1_judge 80 = .ok (.aload_n 0, 1) := by decide +kernel
theorem dX1_judge_81 : decode cX1_judge 81 = .ok (.getfield 9, 3) := by decide +kernel
theorem dX1_judge_84 : decode cX1_judge 84 = .ok (.iload_n 3, 1) := by decide +kernel
theorem dX1_judge_85 : decode cX1_judge 85 = .ok (.iconst 1, 1) := by decide +kernel
theorem dX1_judge_86 : decode cX1_judge 86 = .ok (.iadd, 1) := by decide +kernel
theorem dX1_judge_87 : decode cX1_judge 87 = .ok (.iaload, 1) := by decide +kernel
theorem dX1_judge_88 : decode cX1_judge 88 = .ok (.goto 8, 3) := by decide +kernel
theorem dX1_judge_91 : decode cX1_judge 91 = .ok (.aload_n 0, 1) := by decide +kernel
theorem dX1_judge_92 : decode cX1_judge 92 = .ok (.iload_n 3, 1) := by decide +kernel
theorem dX1_judge_93 : decode cX1_judge 93 = .ok (.invokevirtual 43, 3) := by decide +kernel
theorem dX1_judge_96 : decode cX1_judge 96 = .ok (.istore 5, 2) := by decide +kernel
theorem dX1_judge_98 : decode cX1_judge 98 = .ok (.iinc 6 1, 3) := by decide +kernel
theorem dX1_judge_101 : decode cX1_judge 101 = .ok (.goto (-67), 3) := by decide +kernel
theorem dX1_judge_104 : decode cX1_judge 104 = .ok (.iload 4, 2) := by decide +kernel
theorem dX1_judge_106 : decode cX1_judge 106 = .ok (.ifCond .ne 7, 3) := by decide +kernel
theorem dX1_judge_109 : decode cX1_judge 109 = .ok (.iconst 0, 1) := by decide +kernel
theorem dX1_judge_110 : decode cX1_judge 110 = .ok (.goto 12, 3) := by decide +kernel
theorem dX1_judge_113 : decode cX1_judge 113 = .ok (.iload 4, 2) := by decide +kernel
theorem dX1_judge_115 : decode cX1_judge 115 = .ok (.bipush 16, 2) := by decide +kernel
theorem dX1_judge_117 : decode cX1_judge 117 = .ok (.iload_n 3, 1) := by decide +kernel
theorem dX1_judge_118 : decode cX1_judge 118 = .ok (.iconst 1, 1) := by decide +kernel
theorem dX1_judge_119 : decode cX1_judge 119 = .ok (.iadd, 1) := by decide +kernel
theorem dX1_judge_120 : decode cX1_judge 120 = .ok (.imul, 1) := by decide +kernel
theorem dX1_judge_121 : decode cX1_judge 121 = .ok (.iadd, 1) := by decide +kernel
theorem dX1_judge_122 : decode cX1_judge 122 = .ok (.ireturn, 1) := by decide +kernel
theorem dX1_climbToNext_0 : decode cX1_climbToNext 0 = .ok (.iload_n 1, 1) := by decide +kernel
theorem dX1_climbToNext_1 : decode cX1_climbToNext 1 = .ok (.istore_n 2, 1) := by decide +kernel
theorem dX1_climbToNext_2 : decode cX1_climbToNext 2 = .ok (.iconst (-1), 1) := by decide +kernel
theorem dX1_climbToNext_3 : decode cX1_climbToNext 3 = .ok (.istore_n 3, 1) := by decide +kernel
theorem dX1_climbToNext_4 : decode cX1_climbToNext 4 = .ok (.iconst 0, 1) := by decide +kernel
theorem dX1_climbToNext_5 : decode cX1_climbToNext 5 = .ok (.istore 4, 2) := by decide +kernel
theorem dX1_climbToNext_7 : decode cX1_climbToNext 7 = .ok (.iload 4, 2) := by decide +kernel
theorem dX1_climbToNext_9 : decode cX1_climbToNext 9 = .ok (.aload_n 0, 1) := by decide +kernel
theorem dX1_climbToNext_10 : decode cX1_climbToNext 10 = .ok (.getfield 25, 3) := by decide +kernel
theorem dX1_climbToNext_13 : decode cX1_climbToNext 13 = .ok (.getfield 46, 3) := by decide +kernel
theorem dX1_climbToNext_16 : decode cX1_climbToNext 16 = .ok (.arraylength, 1) := by decide +kernel
theorem dX1_climbToNext_17 : decode cX1_climbToNext 17 = .ok (.if_icmp .ge 64, 3) := by decide +kernel
theorem dX1_climbToNext_20 : decode cX1_climbToNext 20 = .ok (.iload_n 3, 1) := by decide +kernel
theorem dX1_climbToNext_21 : decode cX1_climbToNext 21 = .ok (.iconst (-1), 1) := by decide +kernel
theorem dX1_climbToNext_22 : decode cX1_climbToNext 22 = .ok (.if_icmp .ne 59, 3) := by decide +kernel
theorem dX1_climbToNext_25 : decode cX1_climbToNext 25 = .ok (.iload_n 2, 1) := by decide +kernel
theorem dX1_climbToNext_26 : decode cX1_climbToNext 26 = .ok (.iconst (-1), 1) := by decide +kernel
theorem dX1_climbToNext_27 : decode cX1_climbToNext 27 = .ok (.if_icmp .eq 54, 3) := by decide +kernel
theorem dX1_climbToNext_30 : decode cX1_climbToNext 30 = .ok (.aload_n 0, 1) := by decide +kernel
theorem dX1_climbToNext_31 : decode cX1_climbToNext 31 = .ok (.getfield 25, 3) := by decide +kernel
theorem dX1_climbToNext_34 : decode cX1_climbToNext 34 = .ok (.aload_n 0, 1) := by decide +kernel
theorem dX1_climbToNext_35 : decode cX1_climbToNext 35 = .ok (.getfield 29, 3) := by decide +kernel
theorem dX1_climbToNext_38 : decode cX1_climbToNext 38 = .ok (.getfield 51, 3) := by decide +kernel
theorem dX1_climbToNext_41 : decode cX1_climbToNext 41 = .ok (.iload_n 2, 1) := by decide +kernel
theorem dX1_climbToNext_42 : decode cX1_climbToNext 42 = .ok (.iaload, 1) := by decide +kernel
theorem dX1_climbToNext_43 : decode cX1_climbToNext 43 = .ok (.iconst 0, 1) := by decide +kernel
theorem dX1_climbToNext_44 : decode cX1_climbToNext 44 = .ok (.invokevirtual 56, 3) := by decide +kernel
theorem dX1_climbToNext_47 : decode cX1_climbToNext 47 = .ok (.aload_n 0, 1) := by decide +kernel
theorem dX1_climbToNext_48 : decode cX1_climbToNext 48 = .ok (.aload_n 0, 1) := by decide +kernel
theorem dX1_climbToNext_49 : decode cX1_climbToNext 49 = .ok (.getfield 22, 3) := by decide +kernel
theorem dX1_climbToNext_52 : decode cX1_climbToNext 52 = .ok (.invokestatic 60, 3) := by decide +kernel
theorem dX1_climbToNext_55 : decode cX1_climbToNext 55 = .ok (.putfield 22, 3) := by decide +kernel
theorem dX1_climbToNext_58 : decode cX1_climbToNext 58 = .ok (.aload_n 0, 1) := by decide +kernel
theorem dX1_climbToNext_59 : decode cX1_climbToNext 59 = .ok (.getfield 15, 3) := by decide +kernel
theorem dX1_climbToNext_62 : decode cX1_climbToNext 62 = .ok (.iload_n 2, 1) := by decide +kernel
theorem dX1_climbToNext_63 : decode cX1_climbToNext 63 = .ok (.iaload, 1) := by decide +kernel
theorem dX1_climbToNext_64 : decode cX1_climbToNext 64 = .ok (.istore_n 3, 1) := by decide +kernel
theorem dX1_climbToNext_65 : decode cX1_climbToNext 65 = .ok (.aload_n 0, 1) := by decide +kernel
theorem dX1_climbToNext_66 : decode cX1_climbToNext 66 = .ok (.getfield 29, 3) := by decide +kernel
theorem dX1_climbToNext_69 : decode cX1_climbToNext 69 = .ok (.getfield 63, 3) := by decide +kernel
theorem dX1_climbToNext_72 : decode cX1_climbToNext 72 = .ok (.iload_n 2, 1) := by decide +kernel
theorem dX1_climbToNext_73 : decode cX1_climbToNext 73 = .ok (.iaload, 1) := by decide +kernel
theorem dX1_climbToNext_74 : decode cX1_climbToNext 74 = .ok (.istore_n 2, 1) := by decide +kernel
theorem dX1_climbToNext_75 : decode cX1_climbToNext 75 = .ok (.iinc 4 1, 3) := by decide +kernel
theorem dX1_climbToNext_78 : decode cX1_climbToNext 78 = .ok (.goto (-71), 3) := by decide +kernel
theorem dX1_climbToNext_81 : decode cX1_climbToNext 81 = .ok (.iload_n 3, 1) := by decide +kernel
theorem dX1_climbToNext_82 : decode cX1_climbToNext 82 = .ok (.ireturn, 1) := by decide +kernel
theorem dX1_linkEntries_0 : decode cX1_linkEntries 0 = .ok (.aload_n 0, 1) := by decide +kernel
theorem dX1_linkEntries_1 : decode cX1_linkEntries 1 = .ok (.getfield 15, 3) := by decide +kernel
theorem dX1_linkEntries_4 : decode cX1_linkEntries 4 = .ok (.arraylength, 1) := by decide +kernel
theorem dX1_linkEntries_5 : decode cX1_linkEntries 5 = .ok (.aload_n 0, 1) := by decide +kernel
theorem dX1_linkEntries_6 : decode cX1_linkEntries 6 = .ok (.getfield 29, 3) := by decide +kernel
theorem dX1_linkEntries_9 : decode cX1_linkEntries 9 = .ok (.getfield 66, 3) := by decide +kernel
theorem dX1_linkEntries_12 : decode cX1_linkEntries 12 = .ok (.if_icmp .ge 33, 3) := by decide +kernel
theorem dX1_linkEntries_15 : decode cX1_linkEntries 15 = .ok (.aload_n 0, 1) := by decide +kernel
theorem dX1_linkEntries_16 : decode cX1_linkEntries 16 = .ok (.aload_n 0, 1) := by decide +kernel
theorem dX1_linkEntries_17 : decode cX1_linkEntries 17 = .ok (.getfield 29, 3) := by decide +kernel
theorem dX1_linkEntries_20 : decode cX1_linkEntries 20 = .ok (.getfield 63, 3) := by decide +kernel
theorem dX1_linkEntries_23 : decode cX1_linkEntries 23 = .ok (.arraylength, 1) := by decide +kernel
theorem dX1_linkEntries_24 : decode cX1_linkEntries 24 = .ok (.newarray .int, 2) := by decide +kernel
theorem dX1_linkEntries_26 : decode cX1_linkEntries 26 = .ok (.putfield 15, 3) := by decide +kernel
theorem dX1_linkEntries_29 : decode cX1_linkEntries 29 = .ok (.aload_n 0, 1) := by decide +kernel
theorem dX1_linkEntries_30 : decode cX1_linkEntries 30 = .ok (.aload_n 0, 1) := by decide +kernel
theorem dX1_linkEntries_31 : decode cX1_linkEntries 31 = .ok (.getfield 29, 3) := by decide +kernel
theorem dX1_linkEntries_34 : decode cX1_linkEntries 34 = .ok (.getfield 63, 3) := by decide +kernel
theorem dX1_linkEntries_37 : decode cX1_linkEntries 37 = .ok (.arraylength, 1) := by decide +kernel
theorem dX1_linkEntries_38 : decode cX1_linkEntries 38 = .ok (.iconst 1, 1) := by decide +kernel
theorem dX1_linkEntries_39 : decode cX1_linkEntries 39 = .ok (.iadd, 1) := by decide +kernel
theorem dX1_linkEntries_40 : decode cX1_linkEntries 40 = .ok (.newarray .int, 2) := by decide +kernel
theorem dX1_linkEntries_42 : decode cX1_linkEntries 42 = .ok (.putfield 9, 3) := by decide +kernel
theorem dX1_linkEntries_45 : decode cX1_linkEntries 45 = .ok (.aload_n 0, 1) := by decide +kernel
theorem dX1_linkEntries_46 : decode cX1_linkEntries 46 = .ok (.getfield 9, 3) := by decide +kernel
theorem dX1_linkEntries_49 : decode cX1_linkEntries 49 = .ok (.iconst (-1), 1) := by decide +kernel
theorem dX1_linkEntries_50 : decode cX1_linkEntries 50 = .ok (.invokestatic 69, 3) := by decide +kernel
theorem dX1_linkEntries_53 : decode cX1_linkEntries 53 = .ok (.aload_n 0, 1) := by decide +kernel
theorem dX1_linkEntries_54 : decode cX1_linkEntries 54 = .ok (.getfield 29, 3) := by decide +kernel
theorem dX1_linkEntries_57 : decode cX1_linkEntries 57 = .ok (.getfield 66, 3) := by decide +kernel
theorem dX1_linkEntries_60 : decode cX1_linkEntries 60 = .ok (.iconst 1, 1) := by decide +kernel
theorem dX1_linkEntries_61 : decode cX1_linkEntries 61 = .ok (.isub, 1) := by decide +kernel
theorem dX1_linkEntries_62 : decode cX1_linkEntries 62 = .ok (.istore_n 1, 1) := by decide +kernel
theorem dX1_linkEntries_63 : decode cX1_linkEntries 63 = .ok (.iload_n 1, 1) := by decide +kernel
theorem dX1_linkEntries_64 : decode cX1_linkEntries 64 = .ok (.ifCond .lt 40, 3) := by decide +kernel
theorem dX1_linkEntries_67 : decode cX1_linkEntries 67 = .ok (.aload_n 0, 1) := by decide +kernel
theorem dX1_linkEntries_68 : decode cX1_linkEntries 68 = .ok (.getfield 29, 3) := by decide +kernel
theorem dX1_linkEntries_71 : decode cX1_linkEntries 71 = .ok (.getfield 63, 3) := by decide +kernel
theorem dX1_linkEntries_74 : decode cX1_linkEntries 74 = .ok (.iload_n 1, 1) := by decide +kernel
theorem dX1_linkEntries_75 : decode cX1_linkEntries 75 = .ok (.iaload, 1) := by decide +kernel
theorem dX1_linkEntries_76 : decode cX1_linkEntries 76 = .ok (.iconst 1, 1) := by decide +kernel
theorem dX1_linkEntries_77 : decode cX1_linkEntries 77 = .ok (.iadd, 1) := by decide +kernel
theorem dX1_linkEntries_78 : decode cX1_linkEntries 78 = .ok (.istore_n 2, 1) := by decide +kernel
theorem dX1_linkEntries_79 : decode cX1_linkEntries 79 = .ok (.aload_n 0, 1) := by decide +kernel
theorem dX1_linkEntries_80 : decode cX1_linkEntries 80 = .ok (.getfield 15, 3) := by decide +kernel
theorem dX1_linkEntries_83 : decode cX1_linkEntries 83 = .ok (.iload_n 1, 1) := by decide +kernel
theorem dX1_linkEntries_84 : decode cX1_linkEntries 84 = .ok (.aload_n 0, 1) := by decide +kernel
theorem dX1_linkEntries_85 : decode cX1_linkEntries 85 = .ok (.getfield 9, 3) := by decide +kernel
theorem dX1_linkEntries_88 : decode cX1_linkEntries 88 = .ok (.iload_n 2, 1) := by decide +kernel
theorem dX1_linkEntries_89 : decode cX1_linkEntries 89 = .ok (.iaload, 1) := by decide +kernel
theorem dX1_linkEntries_90 : decode cX1_linkEntries 90 = .ok (.iastore, 1) := by decide +kernel
theorem dX1_linkEntries_91 : decode cX1_linkEntries 91 = .ok (.aload_n 0, 1) := by decide +kernel
theorem dX1_linkEntries_92 : decode cX1_linkEntries 92 = .ok (.getfield 9, 3) := by decide +kernel
theorem dX1_linkEntries_95 : decode cX1_linkEntries 95 = .ok (.iload_n 2, 1) := by decide +kernel
theorem dX1_linkEntries_96 : decode cX1_linkEntries 96 = .ok (.iload_n 1, 1) := by decide +kernel
theorem dX1_linkEntries_97 : decode cX1_linkEntries 97 = .ok (.iastore, 1) := by decide +kernel
theorem dX1_linkEntries_98 : decode cX1_linkEntries 98 = .ok (.iinc 1 (-1), 3) := by decide +kernel
theorem dX1_linkEntries_101 : decode cX1_linkEntries 101 = .ok (.goto (-38), 3) := by decide +kernel
theorem dX1_linkEntries_104 : decode cX1_linkEntries 104 = .ok (.return_, 1) := by decide +kernel
theorem dX1_wrongAt_0 : decode cX1_wrongAt 0 = .ok (.aload_n 0, 1) := by decide +kernel
theorem dX1_wrongAt_1 : decode cX1_wrongAt 1 = .ok (.getfield 29, 3) := by decide +kernel
theorem dX1_wrongAt_4 : decode cX1_wrongAt 4 = .ok (.getfield 51, 3) := by decide +kernel
theorem dX1_wrongAt_7 : decode cX1_wrongAt 7 = .ok (.iload_n 1, 1) := by decide +kernel
theorem dX1_wrongAt_8 : decode cX1_wrongAt 8 = .ok (.iaload, 1) := by decide +kernel
theorem dX1_wrongAt_9 : decode cX1_wrongAt 9 = .ok (.istore_n 2, 1) := by decide +kernel
theorem dX1_wrongAt_10 : decode cX1_wrongAt 10 = .ok (.aload_n 0, 1) := by decide +kernel
theorem dX1_wrongAt_11 : decode cX1_wrongAt 11 = .ok (.getfield 25, 3) := by decide +kernel
theorem dX1_wrongAt_14 : decode cX1_wrongAt 14 = .ok (.iload_n 2, 1) := by decide +kernel
theorem dX1_wrongAt_15 : decode cX1_wrongAt 15 = .ok (.invokevirtual 75, 3) := by decide +kernel
theorem dX1_wrongAt_18 : decode cX1_wrongAt 18 = .ok (.ifCond .ne 5, 3) := by decide +kernel
theorem dX1_wrongAt_21 : decode cX1_wrongAt 21 = .ok (.iconst 1, 1) := by decide +kernel
theorem dX1_wrongAt_22 : decode cX1_wrongAt 22 = .ok (.ireturn, 1) := by decide +kernel
theorem dX1_wrongAt_23 : decode cX1_wrongAt 23 = .ok (.aload_n 0, 1) := by decide +kernel
theorem dX1_wrongAt_24 : decode cX1_wrongAt 24 = .ok (.getfield 22, 3) := by decide +kernel
theorem dX1_wrongAt_27 : decode cX1_wrongAt 27 = .ok (.istore_n 3, 1) := by decide +kernel
theorem dX1_wrongAt_28 : decode cX1_wrongAt 28 = .ok (.aload_n 0, 1) := by decide +kernel
theorem dX1_wrongAt_29 : decode cX1_wrongAt 29 = .ok (.getfield 25, 3) := by decide +kernel
theorem dX1_wrongAt_32 : decode cX1_wrongAt 32 = .ok (.iload_n 2, 1) := by decide +kernel
theorem dX1_wrongAt_33 : decode cX1_wrongAt 33 = .ok (.iload_n 3, 1) := by decide +kernel
theorem dX1_wrongAt_34 : decode cX1_wrongAt 34 = .ok (.invokevirtual 56, 3) := by decide +kernel
theorem dX1_wrongAt_37 : decode cX1_wrongAt 37 = .ok (.aload_n 0, 1) := by decide +kernel
theorem dX1_wrongAt_38 : decode cX1_wrongAt 38 = .ok (.iload_n 3, 1) := by decide +kernel
theorem dX1_wrongAt_39 : decode cX1_wrongAt 39 = .ok (.invokestatic 60, 3) := by decide +kernel
theorem dX1_wrongAt_42 : decode cX1_wrongAt 42 = .ok (.putfield 22, 3) := by decide +kernel
theorem dX1_wrongAt_45 : decode cX1_wrongAt 45 = .ok (.aload_n 0, 1) := by decide +kernel
theorem dX1_wrongAt_46 : decode cX1_wrongAt 46 = .ok (.getfield 25, 3) := by decide +kernel
theorem dX1_wrongAt_49 : decode cX1_wrongAt 49 = .ok (.iload_n 3, 1) := by decide +kernel
theorem dX1_wrongAt_50 : decode cX1_wrongAt 50 = .ok (.invokevirtual 79, 3) := by decide +kernel
theorem dX1_wrongAt_53 : decode cX1_wrongAt 53 = .ok (.ifCond .ne 9, 3) := by decide +kernel
theorem dX1_wrongAt_56 : decode cX1_wrongAt 56 = .ok (.aload_n 0, 1) := by decide +kernel
theorem dX1_wrongAt_57 : decode cX1_wrongAt 57 = .ok (.iload_n 1, 1) := by decide +kernel
theorem dX1_wrongAt_58 : decode cX1_wrongAt 58 = .ok (.invokevirtual 36, 3) := by decide +kernel
theorem dX1_wrongAt_61 : decode cX1_wrongAt 61 = .ok (.ireturn, 1) := by decide +kernel
theorem dX1_wrongAt_62 : decode cX1_wrongAt 62 = .ok (.iload_n 3, 1) := by decide +kernel
theorem dX1_wrongAt_63 : decode cX1_wrongAt 63 = .ok (.aload_n 0, 1) := by decide +kernel
theorem dX1_wrongAt_64 : decode cX1_wrongAt 64 = .ok (.getfield 18, 3) := by decide +kernel
theorem dX1_wrongAt_67 : decode cX1_wrongAt 67 = .ok (.if_icmp .eq 5, 3) := by decide +kernel
theorem dX1_wrongAt_70 : decode cX1_wrongAt 70 = .ok (.iconst 5, 1) := by decide +kernel
theorem dX1_wrongAt_71 : decode cX1_wrongAt 71 = .ok (.ireturn, 1) := by decide +kernel
theorem dX1_wrongAt_72 : decode cX1_wrongAt 72 = .ok (.aload_n 0, 1) := by decide +kernel
theorem dX1_wrongAt_73 : decode cX1_wrongAt 73 = .ok (.getfield 9, 3) := by decide +kernel
theorem dX1_wrongAt_76 : decode cX1_wrongAt 76 = .ok (.iload_n 1, 1) := by decide +kernel
theorem dX1_wrongAt_77 : decode cX1_wrongAt 77 = .ok (.iconst 1, 1) := by decide +kernel
theorem dX1_wrongAt_78 : decode cX1_wrongAt 78 = .ok (.iadd, 1) := by decide +kernel
theorem dX1_wrongAt_79 : decode cX1_wrongAt 79 = .ok (.iaload, 1) := by decide +kernel
theorem dX1_wrongAt_80 : decode cX1_wrongAt 80 = .ok (.iconst (-1), 1) := by decide +kernel
theorem dX1_wrongAt_81 : decode cX1_wrongAt 81 = .ok (.if_icmp .ne 7, 3) := by decide +kernel
theorem dX1_wrongAt_84 : decode cX1_wrongAt 84 = .ok (.iconst 0, 1) := by decide +kernel
theorem dX1_wrongAt_85 : decode cX1_wrongAt 85 = .ok (.goto 4, 3) := by decide +kernel
theorem dX1_wrongAt_88 : decode cX1_wrongAt 88 = .ok (.iconst 2, 1) := by decide +kernel
theorem dX1_wrongAt_89 : decode cX1_wrongAt 89 = .ok (.ireturn, 1) := by decide +kernel
theorem dX1_wrongBehind_0 : decode cX1_wrongBehind 0 = .ok (.aload_n 0, 1) := by decide +kernel
theorem dX1_wrongBehind_1 : decode cX1_wrongBehind 1 = .ok (.getfield 9, 3) := by decide +kernel
theorem dX1_wrongBehind_4 : decode cX1_wrongBehind 4 = .ok (.iload_n 1, 1) := by decide +kernel
theorem dX1_wrongBehind_5 : decode cX1_wrongBehind 5 = .ok (.iconst 1, 1) := by decide +kernel
theorem dX1_wrongBehind_6 : decode cX1_wrongBehind 6 = .ok (.iadd, 1) := by decide +kernel
theorem dX1_wrongBehind_7 : decode cX1_wrongBehind 7 = .ok (.iaload, 1) := by decide +kernel
theorem dX1_wrongBehind_8 : decode cX1_wrongBehind 8 = .ok (.istore_n 2, 1) := by decide +kernel
theorem dX1_wrongBehind_9 : decode cX1_wrongBehind 9 = .ok (.aload_n 0, 1) := by decide +kernel
theorem dX1_wrongBehind_10 : decode cX1_wrongBehind 10 = .ok (.getfield 22, 3) := by decide +kernel
theorem dX1_wrongBehind_13 : decode cX1_wrongBehind 13 = .ok (.aload_n 0, 1) := by decide +kernel
theorem dX1_wrongBehind_14 : decode cX1_wrongBehind 14 = .ok (.getfield 18, 3) := by decide +kernel
theorem dX1_wrongBehind_17 : decode cX1_wrongBehind 17 = .ok (.if_icmp .ne 24, 3) := by decide +kernel
theorem dX1_wrongBehind_20 : decode cX1_wrongBehind 20 = .ok (.iload_n 2, 1) := by decide +kernel
theorem dX1_wrongBehind_21 : decode cX1_wrongBehind 21 = .ok (.iconst (-1), 1) := by decide +kernel
theorem dX1_wrongBehind_22 : decode cX1_wrongBehind 22 = .ok (.if_icmp .eq 17, 3) := by decide +kernel
theorem dX1_wrongBehind_25 : decode cX1_wrongBehind 25 = .ok (.aload_n 0, 1) := by decide +kernel
theorem dX1_wrongBehind_26 : decode cX1_wrongBehind 26 = .ok (.getfield 15, 3) := by decide +kernel
theorem dX1_wrongBehind_29 : decode cX1_wrongBehind 29 = .ok (.iload_n 2, 1) := by decide +kernel
theorem dX1_wrongBehind_30 : decode cX1_wrongBehind 30 = .ok (.iaload, 1) := by decide +kernel
theorem dX1_wrongBehind_31 : decode cX1_wrongBehind 31 = .ok (.iconst (-1), 1) := by decide +kernel
theorem dX1_wrongBehind_32 : decode cX1_wrongBehind 32 = .ok (.if_icmp .ne 7, 3) := by decide +kernel
theorem dX1_wrongBehind_35 : decode cX1_wrongBehind 35 = .ok (.iconst 0, 1) := by decide +kernel
theorem dX1_wrongBehind_36 : decode cX1_wrongBehind 36 = .ok (.goto 4, 3) := by decide +kernel
theorem dX1_wrongBehind_39 : decode cX1_wrongBehind 39 = .ok (.iconst 3, 1) := by decide +kernel
theorem dX1_wrongBehind_40 : decode cX1_wrongBehind 40 = .ok (.ireturn, 1) := by decide +kernel
theorem dX1_wrongBehind_41 : decode cX1_wrongBehind 41 = .ok (.aload_n 0, 1) := by decide +kernel
theorem dX1_wrongBehind_42 : decode cX1_wrongBehind 42 = .ok (.iload_n 2, 1) := by decide +kernel
theorem dX1_wrongBehind_43 : decode cX1_wrongBehind 43 = .ok (.invokevirtual 82, 3) := by decide +kernel
theorem dX1_wrongBehind_46 : decode cX1_wrongBehind 46 = .ok (.ifCond .eq 7, 3) := by decide +kernel
theorem dX1_wrongBehind_49 : decode cX1_wrongBehind 49 = .ok (.iconst 0, 1) := by decide +kernel
theorem dX1_wrongBehind_50 : decode cX1_wrongBehind 50 = .ok (.goto 4, 3) := by decide +kernel
theorem dX1_wrongBehind_53 : decode cX1_wrongBehind 53 = .ok (.iconst 4, 1) := by decide +kernel
theorem dX1_wrongBehind_54 : decode cX1_wrongBehind 54 = .ok (.ireturn, 1) := by decide +kernel
theorem dX1_coversEmptyCells_0 : decode cX1_coversEmptyCells 0 = .ok (.iconst 0, 1) := by decide +kernel
theorem dX1_coversEmptyCells_1 : decode cX1_coversEmptyCells 1 = .ok (.istore_n 2, 1) := by decide +kernel
theorem dX1_coversEmptyCells_2 : decode cX1_coversEmptyCells 2 = .ok (.iload_n 1, 1) := by decide +kernel
theorem dX1_coversEmptyCells_3 : decode cX1_coversEmptyCells 3 = .ok (.istore_n 3, 1) := by decide +kernel
theorem dX1_coversEmptyCells_4 : decode cX1_coversEmptyCells 4 = .ok (.aload_n 0, 1) := by decide +kernel
theorem dX1_coversEmptyCells_5 : decode cX1_coversEmptyCells 5 = .ok (.getfield 25, 3) := by decide +kernel
theorem dX1_coversEmptyCells_8 : decode cX1_coversEmptyCells 8 = .ok (.invokevirtual 85, 3) := by decide +kernel
theorem dX1_coversEmptyCells_11 : decode cX1_coversEmptyCells 11 = .ok (.iload_n 2, 1) := by decide +kernel
theorem dX1_coversEmptyCells_12 : decode cX1_coversEmptyCells 12 = .ok (.sipush 8000, 3) := by decide +kernel
theorem dX1_coversEmptyCells_15 : decode cX1_coversEmptyCells 15 = .ok (.if_icmp .ge 42, 3) := by decide +kernel
theorem dX1_coversEmptyCells_18 : decode cX1_coversEmptyCells 18 = .ok (.iload_n 3, 1) := by decide +kernel
theorem dX1_coversEmptyCells_19 : decode cX1_coversEmptyCells 19 = .ok (.iconst (-1), 1) := by decide +kernel
theorem dX1_coversEmptyCells_20 : decode cX1_coversEmptyCells 20 = .ok (.if_icmp .eq 37, 3) := by decide +kernel
theorem dX1_coversEmptyCells_23 : decode cX1_coversEmptyCells 23 = .ok (.aload_n 0, 1) := by decide +kernel
theorem dX1_coversEmptyCells_24 : decode cX1_coversEmptyCells 24 = .ok (.getfield 25, 3) := by decide +kernel
theorem dX1_coversEmptyCells_27 : decode cX1_coversEmptyCells 27 = .ok (.aload_n 0, 1) := by decide +kernel
theorem dX1_coversEmptyCells_28 : decode cX1_coversEmptyCells 28 = .ok (.getfield 29, 3) := by decide +kernel
theorem dX1_coversEmptyCells_31 : decode cX1_coversEmptyCells 31 = .ok (.getfield 51, 3) := by decide +kernel
theorem dX1_coversEmptyCells_34 : decode cX1_coversEmptyCells 34 = .ok (.iload_n 3, 1) := by decide +kernel
theorem dX1_coversEmptyCells_35 : decode cX1_coversEmptyCells 35 = .ok (.iaload, 1) := by decide +kernel
theorem dX1_coversEmptyCells_36 : decode cX1_coversEmptyCells 36 = .ok (.invokevirtual 88, 3) := by decide +kernel
theorem dX1_coversEmptyCells_39 : decode cX1_coversEmptyCells 39 = .ok (.ifCond .ne 5, 3) := by decide +kernel
theorem dX1_coversEmptyCells_42 : decode cX1_coversEmptyCells 42 = .ok (.iconst 0, 1) := by decide +kernel
theorem dX1_coversEmptyCells_43 : decode cX1_coversEmptyCells 43 = .ok (.ireturn, 1) := by decide +kernel
theorem dX1_coversEmptyCells_44 : decode cX1_coversEmptyCells 44 = .ok (.iinc 2 1, 3) := by decide +kernel
theorem dX1_coversEmptyCells_47 : decode cX1_coversEmptyCells 47 = .ok (.aload_n 0, 1) := by decide +kernel
theorem dX1_coversEmptyCells_48 : decode cX1_coversEmptyCells 48 = .ok (.getfield 15, 3) := by decide +kernel
theorem dX1_coversEmptyCells_51 : decode cX1_coversEmptyCells 51 = .ok (.iload_n 3, 1) := by decide +kernel
theorem dX1_coversEmptyCells_52 : decode cX1_coversEmptyCells 52 = .ok (.iaload, 1) := by decide +kernel
theorem dX1_coversEmptyCells_53 : decode cX1_coversEmptyCells 53 = .ok (.istore_n 3, 1) := by decide +kernel
theorem dX1_coversEmptyCells_54 : decode cX1_coversEmptyCells 54 = .ok (.goto (-43), 3) := by decide +kernel
theorem dX1_coversEmptyCells_57 : decode cX1_coversEmptyCells 57 = .ok (.iload_n 2, 1) := by decide +kernel
theorem dX1_coversEmptyCells_58 : decode cX1_coversEmptyCells 58 = .ok (.aload_n 0, 1) := by decide +kernel
theorem dX1_coversEmptyCells_59 : decode cX1_coversEmptyCells 59 = .ok (.getfield 25, 3) := by decide +kernel
theorem dX1_coversEmptyCells_62 : decode cX1_coversEmptyCells 62 = .ok (.invokevirtual 91, 3) := by decide +kernel
theorem dX1_coversEmptyCells_65 : decode cX1_coversEmptyCells 65 = .ok (.if_icmp .ne 7, 3) := by decide +kernel
theorem dX1_coversEmptyCells_68 : decode cX1_coversEmptyCells 68 = .ok (.iconst 1, 1) := by decide +kernel
theorem dX1_coversEmptyCells_69 : decode cX1_coversEmptyCells 69 = .ok (.goto 4, 3) := by decide +kernel
theorem dX1_coversEmptyCells_72 : decode cX1_coversEmptyCells 72 = .ok (.iconst 0, 1) := by decide +kernel
theorem dX1_coversEmptyCells_73 : decode cX1_coversEmptyCells 73 = .ok (.ireturn, 1) := by decide +kernel
theorem dX2_init_0 : decode cX2_init 0 = .ok (.aload_n 0, 1) := by decide +kernel
theorem dX2_init_1 : decode cX2_init 1 = .ok (.invokespecial 3, 3) := by decide +kernel
theorem dX2_init_4 : decode cX2_init 4 = .ok (.aload_n 0, 1) := by decide +kernel
theorem dX2_init_5 : decode cX2_init 5 = .ok (.bipush 16, 2) := by decide +kernel
theorem dX2_init_7 : decode cX2_init 7 = .ok (.newarray .int, 2) := by decide +kernel
theorem dX2_init_9 : decode cX2_init 9 = .ok (.putfield 9, 3) := by decide +kernel
theorem dX2_init_12 : decode cX2_init 12 = .ok (.aload_n 0, 1) := by decide +kernel
theorem dX2_init_13 : decode cX2_init 13 = .ok (.bipush 16, 2) := by decide +kernel
theorem dX2_init_15 : decode cX2_init 15 = .ok (.newarray .int, 2) := by decide +kernel
theorem dX2_init_17 : decode cX2_init 17 = .ok (.putfield 15, 3) := by decide +kernel
theorem dX2_init_20 : decode cX2_init 20 = .ok (.aload_n 0, 1) := by decide +kernel
theorem dX2_init_21 : decode cX2_init 21 = .ok (.iconst 0, 1) := by decide +kernel
theorem dX2_init_22 : decode cX2_init 22 = .ok (.putfield 18, 3) := by decide +kernel
theorem dX2_init_25 : decode cX2_init 25 = .ok (.return_, 1) := by decide +kernel
theorem dX2_has_0 : decode cX2_has 0 = .ok (.iload_n 1, 1) := by decide +kernel
theorem dX2_has_1 : decode cX2_has 1 = .ok (.ifCond .lt 15, 3) := by decide +kernel
theorem dX2_has_4 : decode cX2_has 4 = .ok (.iload_n 1, 1) := by decide +kernel
theorem dX2_has_5 : decode cX2_has 5 = .ok (.aload_n 0, 1) := by decide +kernel
theorem dX2_has_6 : decode cX2_has 6 = .ok (.getfield 18, 3) := by decide +kernel
theorem dX2_has_9 : decode cX2_has 9 = .ok (.if_icmp .ge 7, 3) := by decide +kernel
theorem dX2_has_12 : decode cX2_has 12 = .ok (.iconst 1, 1) := by decide +kernel
theorem dX2_has_13 : decode cX2_has 13 = .ok (.goto 4, 3) := by decide +kernel
theorem dX2_has_16 : decode cX2_has 16 = .ok (.iconst 0, 1) := by decide +kernel
theorem dX2_has_17 : decode cX2_has 17 = .ok (.ireturn, 1) := by decide +kernel
theorem dX2_add_0 : decode cX2_add 0 = .ok (.aload_n 0, 1) := by decide +kernel
theorem dX2_add_1 : decode cX2_add 1 = .ok (.getfield 18, 3) := by decide +kernel
theorem dX2_add_4 : decode cX2_add 4 = .ok (.sipush 8000, 3) := by decide +kernel
theorem dX2_add_7 : decode cX2_add 7 = .ok (.if_icmp .lt 5, 3) := by decide +kernel
theorem dX2_add_10 : decode cX2_add 10 = .ok (.iconst (-1), 1) := by decide +kernel
theorem dX2_add_11 : decode cX2_add 11 = .ok (.ireturn, 1) := by decide +kernel
theorem dX2_add_12 : decode cX2_add 12 = .ok (.aload_n 0, 1) := by decide +kernel
theorem dX2_add_13 : decode cX2_add 13 = .ok (.getfield 18, 3) := by decide +kernel
theorem dX2_add_16 : decode cX2_add 16 = .ok (.aload_n 0, 1) := by decide +kernel
theorem dX2_add_17 : decode cX2_add 17 = .ok (.getfield 9, 3) := by decide +kernel
theorem dX2_add_20 : decode cX2_add 20 = .ok (.arraylength, 1) := by decide +kernel
theorem dX2_add_21 : decode cX2_add 21 = .ok (.if_icmp .lt 36, 3) := by decide +kernel
theorem dX2_add_24 : decode cX2_add 24 = .ok (.aload_n 0, 1) := by decide +kernel
theorem dX2_add_25 : decode cX2_add 25 = .ok (.getfield 9, 3) := by decide +kernel
theorem dX2_add_28 : decode cX2_add 28 = .ok (.arraylength, 1) := by decide +kernel
theorem dX2_add_29 : decode cX2_add 29 = .ok (.invokestatic 22, 3) := by decide +kernel
theorem dX2_add_32 : decode cX2_add 32 = .ok (.istore_n 3, 1) := by decide +kernel
theorem dX2_add_33 : decode cX2_add 33 = .ok (.aload_n 0, 1) := by decide +kernel
theorem dX2_add_34 : decode cX2_add 34 = .ok (.aload_n 0, 1) := by decide +kernel
theorem dX2_add_35 : decode cX2_add 35 = .ok (.getfield 9, 3) := by decide +kernel
theorem dX2_add_38 : decode cX2_add 38 = .ok (.iload_n 3, 1) := by decide +kernel
theorem dX2_add_39 : decode cX2_add 39 = .ok (.invokestatic 26, 3) := by decide +kernel
theorem dX2_add_42 : decode cX2_add 42 = .ok (.putfield 9, 3) := by decide +kernel
theorem dX2_add_45 : decode cX2_add 45 = .ok (.aload_n 0, 1) := by decide +kernel
theorem dX2_add_46 : decode cX2_add 46 = .ok (.aload_n 0, 1) := by decide +kernel
theorem dX2_add_47 : decode cX2_add 47 = .ok (.getfield 15, 3) := by decide +kernel
theorem dX2_add_50 : decode cX2_add 50 = .ok (.iload_n 3, 1) := by decide +kernel
theorem dX2_add_51 : decode cX2_add 51 = .ok (.invokestatic 26, 3) := by decide +kernel
theorem dX2_add_54 : decode cX2_add 54 = .ok (.putfield 15, 3) := by decide +kernel
theorem dX2_add_57 : decode cX2_add 57 = .ok (.aload_n 0, 1) := by decide +kernel
theorem dX2_add_58 : decode cX2_add 58 = .ok (.getfield 9, 3) := by decide +kernel
theorem dX2_add_61 : decode cX2_add 61 = .ok (.aload_n 0, 1) := by decide +kernel
theorem dX2_add_62 : decode cX2_add 62 = .ok (.getfield 18, 3) := by decide +kernel
theorem dX2_add_65 : decode cX2_add 65 = .ok (.iload_n 1, 1) := by decide +kernel
theorem dX2_add_66 : decode cX2_add 66 = .ok (.iastore, 1) := by decide +kernel
theorem dX2_add_67 : decode cX2_add 67 = .ok (.aload_n 0, 1) := by decide +kernel
theorem dX2_add_68 : decode cX2_add 68 = .ok (.getfield 15, 3) := by decide +kernel
theorem dX2_add_71 : decode cX2_add 71 = .ok (.aload_n 0, 1) := by decide +kernel
theorem dX2_add_72 : decode cX2_add 72 = .ok (.getfield 18, 3) := by decide +kernel
theorem dX2_add_75 : decode cX2_add 75 = .ok (.iload_n 2, 1) := by decide +kernel
theorem dX2_add_76 : decode cX2_add 76 = .ok (.iastore, 1) := by decide +kernel
theorem dX2_add_77 : decode cX2_add 77 = .ok (.aload_n 0, 1) := by decide +kernel
theorem dX2_add_78 : decode cX2_add 78 = .ok (.dup, 1) := by decide +kernel
theorem dX2_add_79 : decode cX2_add 79 = .ok (.getfield 18, 3) := by decide +kernel
theorem dX2_add_82 : decode cX2_add 82 = .ok (.iconst 1, 1) := by decide +kernel
theorem dX2_add_83 : decode cX2_add 83 = .ok (.iadd, 1) := by decide +kernel
theorem dX2_add_84 : decode cX2_add 84 = .ok (.putfield 18, 3) := by decide +kernel
theorem dX2_add_87 : decode cX2_add 87 = .ok (.aload_n 0, 1) := by decide +kernel
theorem dX2_add_88 : decode cX2_add 88 = .ok (.getfield 18, 3) := by decide +kernel
theorem dX2_add_91 : decode cX2_add 91 = .ok (.iconst 1, 1) := by decide +kernel
theorem dX2_add_92 : decode cX2_add 92 = .ok (.isub, 1) := by decide +kernel
theorem dX2_add_93 : decode cX2_add 93 = .ok (.ireturn, 1) := by decide +kernel
theorem dX2_copyEntries_0 : decode cX2_copyEntries 0 = .ok (.aload_n 0, 1) := by decide +kernel
theorem dX2_copyEntries_1 : decode cX2_copyEntries 1 = .ok (.iconst 0, 1) := by decide +kernel
theorem dX2_copyEntries_2 : decode cX2_copyEntries 2 = .ok (.putfield 18, 3) := by decide +kernel
theorem dX2_copyEntries_5 : decode cX2_copyEntries 5 = .ok (.iconst 0, 1) := by decide +kernel
theorem dX2_copyEntries_6 : decode cX2_copyEntries 6 = .ok (.istore_n 2, 1) := by decide +kernel
theorem dX2_copyEntries_7 : decode cX2_copyEntries 7 = .ok (.iload_n 2, 1) := by decide +kernel
theorem dX2_copyEntries_8 : decode cX2_copyEntries 8 = .ok (.aload_n 1, 1) := by decide +kernel
theorem dX2_copyEntries_9 : decode cX2_copyEntries 9 = .ok (.getfield 18, 3) := by decide +kernel
theorem dX2_copyEntries_12 : decode cX2_copyEntries 12 = .ok (.if_icmp .ge 26, 3) := by decide +kernel
theorem dX2_copyEntries_15 : decode cX2_copyEntries 15 = .ok (.aload_n 0, 1) := by decide +kernel
theorem dX2_copyEntries_16 : decode cX2_copyEntries 16 = .ok (.aload_n 1, 1) := by decide +kernel
theorem dX2_copyEntries_17 : decode cX2_copyEntries 17 = .ok (.getfield 9, 3) := by decide +kernel
theorem dX2_copyEntries_20 : decode cX2_copyEntries 20 = .ok (.iload_n 2, 1) := by decide +kernel
theorem dX2_copyEntries_21 : decode cX2_copyEntries 21 = .ok (.iaload, 1) := by decide +kernel
theorem dX2_copyEntries_22 : decode cX2_copyEntries 22 = .ok (.aload_n 1, 1) := by decide +kernel
theorem dX2_copyEntries_23 : decode cX2_copyEntries 23 = .ok (.getfield 15, 3) := by decide +kernel
theorem dX2_copyEntries_26 : decode cX2_copyEntries 26 = .ok (.iload_n 2, 1) := by decide +kernel
theorem dX2_copyEntries_27 : decode cX2_copyEntries 27 = .ok (.iaload, 1) := by decide +kernel
theorem dX2_copyEntries_28 : decode cX2_copyEntries 28 = .ok (.invokevirtual 32, 3) := by decide +kernel
theorem dX2_copyEntries_31 : decode cX2_copyEntries 31 = .ok (.pop, 1) := by decide +kernel
theorem dX2_copyEntries_32 : decode cX2_copyEntries 32 = .ok (.iinc 2 1, 3) := by decide +kernel
theorem dX2_copyEntries_35 : decode cX2_copyEntries 35 = .ok (.goto (-28), 3) := by decide +kernel
theorem dX2_copyEntries_38 : decode cX2_copyEntries 38 = .ok (.return_, 1) := by decide +kernel
theorem dX3_init_0 : decode cX3_init 0 = .ok (.aload_n 0, 1) := by decide +kernel
theorem dX3_init_1 : decode cX3_init 1 = .ok (.invokespecial 3, 3) := by decide +kernel
theorem dX3_init_4 : decode cX3_init 4 = .ok (.aload_n 0, 1) := by decide +kernel
theorem dX3_init_5 : decode cX3_init 5 = .ok (.bipush 16, 2) := by decide +kernel
theorem dX3_init_7 : decode cX3_init 7 = .ok (.newarray .int, 2) := by decide +kernel
theorem dX3_init_9 : decode cX3_init 9 = .ok (.putfield 9, 3) := by decide +kernel
theorem dX3_init_12 : decode cX3_init 12 = .ok (.aload_n 0, 1) := by decide +kernel
theorem dX3_init_13 : decode cX3_init 13 = .ok (.bipush 16, 2) := by decide +kernel
theorem dX3_init_15 : decode cX3_init 15 = .ok (.newarray .int, 2) := by decide +kernel
theorem dX3_init_17 : decode cX3_init 17 = .ok (.putfield 15, 3) := by decide +kernel
theorem dX3_init_20 : decode cX3_init 20 = .ok (.aload_n 0, 1) := by decide +kernel
theorem dX3_init_21 : decode cX3_init 21 = .ok (.bipush 16, 2) := by decide +kernel
theorem dX3_init_23 : decode cX3_init 23 = .ok (.newarray .int, 2) := by decide +kernel
theorem dX3_init_25 : decode cX3_init 25 = .ok (.putfield 18, 3) := by decide +kernel
theorem dX3_init_28 : decode cX3_init 28 = .ok (.aload_n 0, 1) := by decide +kernel
theorem dX3_init_29 : decode cX3_init 29 = .ok (.bipush 16, 2) := by decide +kernel
theorem dX3_init_31 : decode cX3_init 31 = .ok (.newarray .int, 2) := by decide +kernel
theorem dX3_init_33 : decode cX3_init 33 = .ok (.putfield 21, 3) := by decide +kernel
theorem dX3_init_36 : decode cX3_init 36 = .ok (.aload_n 0, 1) := by decide +kernel
theorem dX3_init_37 : decode cX3_init 37 = .ok (.bipush 16, 2) := by decide +kernel
theorem dX3_init_39 : decode cX3_init 39 = .ok (.newarray .int, 2) := by decide +kernel
theorem dX3_init_41 : decode cX3_init 41 = .ok (.putfield 24, 3) := by decide +kernel
theorem dX3_init_44 : decode cX3_init 44 = .ok (.aload_n 0, 1) := by decide +kernel
theorem dX3_init_45 : decode cX3_init 45 = .ok (.bipush 16, 2) := by decide +kernel
theorem dX3_init_47 : decode cX3_init 47 = .ok (.newarray .int, 2) := by decide +kernel
theorem dX3_init_49 : decode cX3_init 49 = .ok (.putfield 27, 3) := by decide +kernel
theorem dX3_init_52 : decode cX3_init 52 = .ok (.aload_n 0, 1) := by decide +kernel
theorem dX3_init_53 : decode cX3_init 53 = .ok (.iconst 0, 1) := by decide +kernel
theorem dX3_init_54 : decode cX3_init 54 = .ok (.putfield 30, 3) := by decide +kernel
theorem dX3_init_57 : decode cX3_init 57 = .ok (.return_, 1) := by decide +kernel
theorem dX3_add_0 : decode cX3_add 0 = .ok (.aload_n 0, 1) := by decide +kernel
theorem dX3_add_1 : decode cX3_add 1 = .ok (.getfield 30, 3) := by decide +kernel
theorem dX3_add_4 : decode cX3_add 4 = .ok (.sipush 8000, 3) := by decide +kernel
theorem dX3_add_7 : decode cX3_add 7 = .ok (.if_icmp .lt 5, 3) := by decide +kernel
theorem dX3_add_10 : decode cX3_add 10 = .ok (.iconst (-1), 1) := by decide +kernel
theorem dX3_add_11 : decode cX3_add 11 = .ok (.ireturn, 1) := by decide +kernel
theorem dX3_add_12 : decode cX3_add 12 = .ok (.aload_n 0, 1) := by decide +kernel
theorem dX3_add_13 : decode cX3_add 13 = .ok (.getfield 30, 3) := by decide +kernel
theorem dX3_add_16 : decode cX3_add 16 = .ok (.aload_n 0, 1) := by decide +kernel
theorem dX3_add_17 : decode cX3_add 17 = .ok (.getfield 9, 3) := by decide +kernel
theorem dX3_add_20 : decode cX3_add 20 = .ok (.arraylength, 1) := by decide +kernel
theorem dX3_add_21 : decode cX3_add 21 = .ok (.if_icmp .lt 7, 3) := by decide +kernel
theorem dX3_add_24 : decode cX3_add 24 = .ok (.aload_n 0, 1) := by decide +kernel
theorem dX3_add_25 : decode cX3_add 25 = .ok (.invokevirtual 34, 3) := by decide +kernel
theorem dX3_add_28 : decode cX3_add 28 = .ok (.aload_n 0, 1) := by decide +kernel
theorem dX3_add_29 : decode cX3_add 29 = .ok (.getfield 9, 3) := by decide +kernel
theorem dX3_add_32 : decode cX3_add 32 = .ok (.aload_n 0, 1) := by decide +kernel
theorem dX3_add_33 : decode cX3_add 33 = .ok (.getfield 30, 3) := by decide +kernel
theorem dX3_add_36 : decode cX3_add 36 = .ok (.iload_n 2, 1) := by decide +kernel
theorem dX3_add_37 : decode cX3_add 37 = .ok (.iastore, 1) := by decide +kernel
theorem dX3_add_38 : decode cX3_add 38 = .ok (.aload_n 0, 1) := by decide +kernel
theorem dX3_add_39 : decode cX3_add 39 = .ok (.getfield 15, 3) := by decide +kernel
theorem dX3_add_42 : decode cX3_add 42 = .ok (.aload_n 0, 1) := by decide +kernel
theorem dX3_add_43 : decode cX3_add 43 = .ok (.getfield 30, 3) := by decide +kernel
theorem dX3_add_46 : decode cX3_add 46 = .ok (.iload_n 1, 1) := by decide +kernel
theorem dX3_add_47 : decode cX3_add 47 = .ok (.iastore, 1) := by decide +kernel
theorem dX3_add_48 : decode cX3_add 48 = .ok (.aload_n 0, 1) := by decide +kernel
theorem dX3_add_49 : decode cX3_add 49 = .ok (.getfield 18, 3) := by decide +kernel
theorem dX3_add_52 : decode cX3_add 52 = .ok (.aload_n 0, 1) := by decide +kernel
theorem dX3_add_53 : decode cX3_add 53 = .ok (.getfield 30, 3) := by decide +kernel
theorem dX3_add_56 : decode cX3_add 56 = .ok (.iconst 1, 1) := by decide +kernel
theorem dX3_add_57 : decode cX3_add 57 = .ok (.iastore, 1) := by decide +kernel
theorem dX3_add_58 : decode cX3_add 58 = .ok (.aload_n 0, 1) := by decide +kernel
theorem dX3_add_59 : decode cX3_add 59 = .ok (.getfield 21, 3) := by decide +kernel
theorem dX3_add_62 : decode cX3_add 62 = .ok (.aload_n 0, 1) := by decide +kernel
theorem dX3_add_63 : decode cX3_add 63 = .ok (.getfield 30, 3) := by decide +kernel
theorem dX3_add_66 : decode cX3_add 66 = .ok (.iconst 1, 1) := by decide +kernel
theorem dX3_add_67 : decode cX3_add 67 = .ok (.iastore, 1) := by decide +kernel
theorem dX3_add_68 : decode cX3_add 68 = .ok (.aload_n 0, 1) := by decide +kernel
theorem dX3_add_69 : decode cX3_add 69 = .ok (.getfield 24, 3) := by decide +kernel
theorem dX3_add_72 : decode cX3_add 72 = .ok (.aload_n 0, 1) := by decide +kernel
theorem dX3_add_73 : decode cX3_add 73 = .ok (.getfield 30, 3) := by decide +kernel
theorem dX3_add_76 : decode cX3_add 76 = .ok (.iconst (-1), 1) := by decide +kernel
theorem dX3_add_77 : decode cX3_add 77 = .ok (.iastore, 1) := by decide +kernel
theorem dX3_add_78 : decode cX3_add 78 = .ok (.aload_n 0, 1) := by decide +kernel
theorem dX3_add_79 : decode cX3_add 79 = .ok (.getfield 27, 3) := by decide +kernel
theorem dX3_add_82 : decode cX3_add 82 = .ok (.aload_n 0, 1) := by decide +kernel
theorem dX3_add_83 : decode cX3_add 83 = .ok (.getfield 30, 3) := by decide +kernel
theorem dX3_add_86 : decode cX3_add 86 = .ok (.iconst 0, 1) := by decide +kernel
theorem dX3_add_87 : decode cX3_add 87 = .ok (.iastore, 1) := by decide +kernel
theorem dX3_add_88 : decode cX3_add 88 = .ok (.aload_n 0, 1) := by decide +kernel
theorem dX3_add_89 : decode cX3_add 89 = .ok (.dup, 1) := by decide +kernel
theorem dX3_add_90 : decode cX3_add 90 = .ok (.getfield 30, 3) := by decide +kernel
theorem dX3_add_93 : decode cX3_add 93 = .ok (.iconst 1, 1) := by decide +kernel
theorem dX3_add_94 : decode cX3_add 94 = .ok (.iadd, 1) := by decide +kernel
theorem dX3_add_95 : decode cX3_add 95 = .ok (.putfield 30, 3) := by decide +kernel
theorem dX3_add_98 : decode cX3_add 98 = .ok (.aload_n 0, 1) := by decide +kernel
theorem dX3_add_99 : decode cX3_add 99 = .ok (.getfield 30, 3) := by decide +kernel
theorem dX3_add_102 : decode cX3_add 102 = .ok (.iconst 1, 1) := by decide +kernel
theorem dX3_add_103 : decode cX3_add 103 = .ok (.isub, 1) := by decide +kernel
theorem dX3_add_104 : decode cX3_add 104 = .ok (.ireturn, 1) := by decide +kernel
theorem dX3_lengthen_0 : decode cX3_lengthen 0 = .ok (.aload_n 0, 1) := by decide +kernel
theorem dX3_lengthen_1 : decode cX3_lengthen 1 = .ok (.getfield 9, 3) := by decide +kernel
theorem dX3_lengthen_4 : decode cX3_lengthen 4 = .ok (.arraylength, 1) := by decide +kernel
theorem dX3_lengthen_5 : decode cX3_lengthen 5 = .ok (.invokestatic 37, 3) := by decide +kernel
theorem dX3_lengthen_8 : decode cX3_lengthen 8 = .ok (.istore_n 1, 1) := by decide +kernel
theorem dX3_lengthen_9 : decode cX3_lengthen 9 = .ok (.aload_n 0, 1) := by decide +kernel
theorem dX3_lengthen_10 : decode cX3_lengthen 10 = .ok (.aload_n 0, 1) := by decide +kernel
theorem dX3_lengthen_11 : decode cX3_lengthen 11 = .ok (.getfield 9, 3) := by decide +kernel
theorem dX3_lengthen_14 : decode cX3_lengthen 14 = .ok (.iload_n 1, 1) := by decide +kernel
theorem dX3_lengthen_15 : decode cX3_lengthen 15 = .ok (.invokestatic 41, 3) := by decide +kernel
theorem dX3_lengthen_18 : decode cX3_lengthen 18 = .ok (.putfield 9, 3) := by decide +kernel
theorem dX3_lengthen_21 : decode cX3_lengthen 21 = .ok (.aload_n 0, 1) := by decide +kernel
theorem dX3_lengthen_22 : decode cX3_lengthen 22 = .ok (.aload_n 0, 1) := by decide +kernel
theorem dX3_lengthen_23 : decode cX3_lengthen 23 = .ok (.getfield 15, 3) := by decide +kernel
theorem dX3_lengthen_26 : decode cX3_lengthen 26 = .ok (.iload_n 1, 1) := by decide +kernel
theorem dX3_lengthen_27 : decode cX3_lengthen 27 = .ok (.invokestatic 41, 3) := by decide +kernel
theorem dX3_lengthen_30 : decode cX3_lengthen 30 = .ok (.putfield 15, 3) := by decide +kernel
theorem dX3_lengthen_33 : decode cX3_lengthen 33 = .ok (.aload_n 0, 1) := by decide +kernel
theorem dX3_lengthen_34 : decode cX3_lengthen 34 = .ok (.aload_n 0, 1) := by decide +kernel
theorem dX3_lengthen_35 : decode cX3_lengthen 35 = .ok (.getfield 18, 3) := by decide +kernel
theorem dX3_lengthen_38 : decode cX3_lengthen 38 = .ok (.iload_n 1, 1) := by decide +kernel
theorem dX3_lengthen_39 : decode cX3_lengthen 39 = .ok (.invokestatic 41, 3) := by decide +kernel
theorem dX3_lengthen_42 : decode cX3_lengthen 42 = .ok (.putfield 18, 3) := by decide +kernel
theorem dX3_lengthen_45 : decode cX3_lengthen 45 = .ok (.aload_n 0, 1) := by decide +kernel
theorem dX3_lengthen_46 : decode cX3_lengthen 46 = .ok (.aload_n 0, 1) := by decide +kernel
theorem dX3_lengthen_47 : decode cX3_lengthen 47 = .ok (.getfield 21, 3) := by decide +kernel
theorem dX3_lengthen_50 : decode cX3_lengthen 50 = .ok (.iload_n 1, 1) := by decide +kernel
theorem dX3_lengthen_51 : decode cX3_lengthen 51 = .ok (.invokestatic 41, 3) := by decide +kernel
theorem dX3_lengthen_54 : decode cX3_lengthen 54 = .ok (.putfield 21, 3) := by decide +kernel
theorem dX3_lengthen_57 : decode cX3_lengthen 57 = .ok (.aload_n 0, 1) := by decide +kernel
theorem dX3_lengthen_58 : decode cX3_lengthen 58 = .ok (.aload_n 0, 1) := by decide +kernel
theorem dX3_lengthen_59 : decode cX3_lengthen 59 = .ok (.getfield 24, 3) := by decide +kernel
theorem dX3_lengthen_62 : decode cX3_lengthen 62 = .ok (.iload_n 1, 1) := by decide +kernel
theorem dX3_lengthen_63 : decode cX3_lengthen 63 = .ok (.invokestatic 41, 3) := by decide +kernel
theorem dX3_lengthen_66 : decode cX3_lengthen 66 = .ok (.putfield 24, 3) := by decide +kernel
theorem dX3_lengthen_69 : decode cX3_lengthen 69 = .ok (.aload_n 0, 1) := by decide +kernel
theorem dX3_lengthen_70 : decode cX3_lengthen 70 = .ok (.aload_n 0, 1) := by decide +kernel
theorem dX3_lengthen_71 : decode cX3_lengthen 71 = .ok (.getfield 27, 3) := by decide +kernel
theorem dX3_lengthen_74 : decode cX3_lengthen 74 = .ok (.iload_n 1, 1) := by decide +kernel
theorem dX3_lengthen_75 : decode cX3_lengthen 75 = .ok (.invokestatic 41, 3) := by decide +kernel
theorem dX3_lengthen_78 : decode cX3_lengthen 78 = .ok (.putfield 27, 3) := by decide +kernel
theorem dX3_lengthen_81 : decode cX3_lengthen 81 = .ok (.return_, 1) := by decide +kernel
theorem dX3_tell_0 : decode cX3_tell 0 = .ok (.iload_n 1, 1) := by decide +kernel
theorem dX3_tell_1 : decode cX3_tell 1 = .ok (.ifCond .lt 11, 3) := by decide +kernel
theorem dX3_tell_4 : decode cX3_tell 4 = .ok (.iload_n 1, 1) := by decide +kernel
theorem dX3_tell_5 : decode cX3_tell 5 = .ok (.aload_n 0, 1) := by decide +kernel
theorem dX3_tell_6 : decode cX3_tell 6 = .ok (.getfield 30, 3) := by decide +kernel
theorem dX3_tell_9 : decode cX3_tell 9 = .ok (.if_icmp .lt 5, 3) := by decide +kernel
theorem dX3_tell_12 : decode cX3_tell 12 = .ok (.iconst (-1), 1) := by decide +kernel
theorem dX3_tell_13 : decode cX3_tell 13 = .ok (.ireturn, 1) := by decide +kernel
theorem dX3_tell_14 : decode cX3_tell 14 = .ok (.iload_n 2, 1) := by decide +kernel
theorem dX3_tell_15 : decode cX3_tell 15 = .ok (.tableswitch 79 0 5 #[37, 44, 51, 58, 65, 72], 37) := by decide +kernel
theorem dX3_tell_52 : decode cX3_tell 52 = .ok (.aload_n 0, 1) := by decide +kernel
theorem dX3_tell_53 : decode cX3_tell 53 = .ok (.getfield 9, 3) := by decide +kernel
theorem dX3_tell_56 : decode cX3_tell 56 = .ok (.iload_n 1, 1) := by decide +kernel
theorem dX3_tell_57 : decode cX3_tell 57 = .ok (.iaload, 1) := by decide +kernel
theorem dX3_tell_58 : decode cX3_tell 58 = .ok (.ireturn, 1) := by decide +kernel
theorem dX3_tell_59 : decode cX3_tell 59 = .ok (.aload_n 0, 1) := by decide +kernel
theorem dX3_tell_60 : decode cX3_tell 60 = .ok (.getfield 15, 3) := by decide +kernel
theorem dX3_tell_63 : decode cX3_tell 63 = .ok (.iload_n 1, 1) := by decide +kernel
theorem dX3_tell_64 : decode cX3_tell 64 = .ok (.iaload, 1) := by decide +kernel
theorem dX3_tell_65 : decode cX3_tell 65 = .ok (.ireturn, 1) := by decide +kernel
theorem dX3_tell_66 : decode cX3_tell 66 = .ok (.aload_n 0, 1) := by decide +kernel
theorem dX3_tell_67 : decode cX3_tell 67 = .ok (.getfield 18, 3) := by decide +kernel
theorem dX3_tell_70 : decode cX3_tell 70 = .ok (.iload_n 1, 1) := by decide +kernel
theorem dX3_tell_71 : decode cX3_tell 71 = .ok (.iaload, 1) := by decide +kernel
theorem dX3_tell_72 : decode cX3_tell 72 = .ok (.ireturn, 1) := by decide +kernel
theorem dX3_tell_73 : decode cX3_tell 73 = .ok (.aload_n 0, 1) := by decide +kernel
theorem dX3_tell_74 : decode cX3_tell 74 = .ok (.getfield 21, 3) := by decide +kernel
theorem dX3_tell_77 : decode cX3_tell 77 = .ok (.iload_n 1, 1) := by decide +kernel
theorem dX3_tell_78 : decode cX3_tell 78 = .ok (.iaload, 1) := by decide +kernel
theorem dX3_tell_79 : decode cX3_tell 79 = .ok (.ireturn, 1) := by decide +kernel
theorem dX3_tell_80 : decode cX3_tell 80 = .ok (.aload_n 0, 1) := by decide +kernel
theorem dX3_tell_81 : decode cX3_tell 81 = .ok (.getfield 24, 3) := by decide +kernel
theorem dX3_tell_84 : decode cX3_tell 84 = .ok (.iload_n 1, 1) := by decide +kernel
theorem dX3_tell_85 : decode cX3_tell 85 = .ok (.iaload, 1) := by decide +kernel
theorem dX3_tell_86 : decode cX3_tell 86 = .ok (.ireturn, 1) := by decide +kernel
theorem dX3_tell_87 : decode cX3_tell 87 = .ok (.aload_n 0, 1) := by decide +kernel
theorem dX3_tell_88 : decode cX3_tell 88 = .ok (.getfield 27, 3) := by decide +kernel
theorem dX3_tell_91 : decode cX3_tell 91 = .ok (.iload_n 1, 1) := by decide +kernel
theorem dX3_tell_92 : decode cX3_tell 92 = .ok (.iaload, 1) := by decide +kernel
theorem dX3_tell_93 : decode cX3_tell 93 = .ok (.ireturn, 1) := by decide +kernel
theorem dX3_tell_94 : decode cX3_tell 94 = .ok (.iconst (-1), 1) := by decide +kernel
theorem dX3_tell_95 : decode cX3_tell 95 = .ok (.ireturn, 1) := by decide +kernel
theorem dX3_leastChild_0 : decode cX3_leastChild 0 = .ok (.aload_n 0, 1) := by decide +kernel
theorem dX3_leastChild_1 : decode cX3_leastChild 1 = .ok (.getfield 24, 3) := by decide +kernel
theorem dX3_leastChild_4 : decode cX3_leastChild 4 = .ok (.iload_n 1, 1) := by decide +kernel
theorem dX3_leastChild_5 : decode cX3_leastChild 5 = .ok (.iaload, 1) := by decide +kernel
theorem dX3_leastChild_6 : decode cX3_leastChild 6 = .ok (.istore_n 3, 1) := by decide +kernel
theorem dX3_leastChild_7 : decode cX3_leastChild 7 = .ok (.iconst 1, 1) := by decide +kernel
theorem dX3_leastChild_8 : decode cX3_leastChild 8 = .ok (.istore 4, 2) := by decide +kernel
theorem dX3_leastChild_10 : decode cX3_leastChild 10 = .ok (.iload 4, 2) := by decide +kernel
theorem dX3_leastChild_12 : decode cX3_leastChild 12 = .ok (.aload_n 0, 1) := by decide +kernel
theorem dX3_leastChild_13 : decode cX3_leastChild 13 = .ok (.getfield 27, 3) := by decide +kernel
theorem dX3_leastChild_16 : decode cX3_leastChild 16 = .ok (.iload_n 1, 1) := by decide +kernel
theorem dX3_leastChild_17 : decode cX3_leastChild 17 = .ok (.iaload, 1) := by decide +kernel
theorem dX3_leastChild_18 : decode cX3_leastChild 18 = .ok (.if_icmp .ge 33, 3) := by decide +kernel
theorem dX3_leastChild_21 : decode cX3_leastChild 21 = .ok (.aload_n 0, 1) := by decide +kernel
theorem dX3_leastChild_22 : decode cX3_leastChild 22 = .ok (.getfield 24, 3) := by decide +kernel
theorem dX3_leastChild_25 : decode cX3_leastChild 25 = .ok (.iload_n 1, 1) := by decide +kernel
theorem dX3_leastChild_26 : decode cX3_leastChild 26 = .ok (.iaload, 1) := by decide +kernel
theorem dX3_leastChild_27 : decode cX3_leastChild 27 = .ok (.iload 4, 2) := by decide +kernel
theorem dX3_leastChild_29 : decode cX3_leastChild 29 = .ok (.iadd, 1) := by decide +kernel
theorem dX3_leastChild_30 : decode cX3_leastChild 30 = .ok (.istore 5, 2) := by decide +kernel
theorem dX3_leastChild_32 : decode cX3_leastChild 32 = .ok (.aload_n 2, 1) := by decide +kernel
theorem dX3_leastChild_33 : decode cX3_leastChild 33 = .ok (.iload 5, 2) := by decide +kernel
theorem dX3_leastChild_35 : decode cX3_leastChild 35 = .ok (.iaload, 1) := by decide +kernel
theorem dX3_leastChild_36 : decode cX3_leastChild 36 = .ok (.aload_n 2, 1) := by decide +kernel
theorem dX3_leastChild_37 : decode cX3_leastChild 37 = .ok (.iload_n 3, 1) := by decide +kernel
theorem dX3_leastChild_38 : decode cX3_leastChild 38 = .ok (.iaload, 1) := by decide +kernel
theorem dX3_leastChild_39 : decode cX3_leastChild 39 = .ok (.if_icmp .ge 6, 3) := by decide +kernel
theorem dX3_leastChild_42 : decode cX3_leastChild 42 = .ok (.iload 5, 2) := by decide +kernel
theorem dX3_leastChild_44 : decode cX3_leastChild 44 = .ok (.istore_n 3, 1) := by decide +kernel
theorem dX3_leastChild_45 : decode cX3_leastChild 45 = .ok (.iinc 4 1, 3) := by decide +kernel
theorem dX3_leastChild_48 : decode cX3_leastChild 48 = .ok (.goto (-38), 3) := by decide +kernel
theorem dX3_leastChild_51 : decode cX3_leastChild 51 = .ok (.iload_n 3, 1) := by decide +kernel
theorem dX3_leastChild_52 : decode cX3_leastChild 52 = .ok (.ireturn, 1) := by decide +kernel
theorem dX3_sumOfChildren_0 : decode cX3_sumOfChildren 0 = .ok (.iconst 0, 1) := by decide +kernel
theorem dX3_sumOfChildren_1 : decode cX3_sumOfChildren 1 = .ok (.istore_n 3, 1) := by decide +kernel
theorem dX3_sumOfChildren_2 : decode cX3_sumOfChildren 2 = .ok (.iconst 0, 1) := by decide +kernel
theorem dX3_sumOfChildren_3 : decode cX3_sumOfChildren 3 = .ok (.istore 4, 2) := by decide +kernel
theorem dX3_sumOfChildren_5 : decode cX3_sumOfChildren 5 = .ok (.iload 4, 2) := by decide +kernel
theorem dX3_sumOfChildren_7 : decode cX3_sumOfChildren 7 = .ok (.aload_n 0, 1) := by decide +kernel
theorem dX3_sumOfChildren_8 : decode cX3_sumOfChildren 8 = .ok (.getfield 27, 3) := by decide +kernel
theorem dX3_sumOfChildren_11 : decode cX3_sumOfChildren 11 = .ok (.iload_n 1, 1) := by decide +kernel
theorem dX3_sumOfChildren_12 : decode cX3_sumOfChildren 12 = .ok (.iaload, 1) := by decide +kernel
theorem dX3_sumOfChildren_13 : decode cX3_sumOfChildren 13 = .ok (.if_icmp .ge 28, 3) := by decide +kernel
theorem dX3_sumOfChildren_16 : decode cX3_sumOfChildren 16 = .ok (.ldc 47, 2) := by decide +kernel
theorem dX3_sumOfChildren_18 : decode cX3_sumOfChildren 18 = .ok (.iload_n 3, 1) := by decide +kernel
theorem dX3_sumOfChildren_19 : decode cX3_sumOfChildren 19 = .ok (.aload_n 2, 1) := by decide +kernel
theorem dX3_sumOfChildren_20 : decode cX3_sumOfChildren 20 = .ok (.aload_n 0, 1) := by decide +kernel
theorem dX3_sumOfChildren_21 : decode cX3_sumOfChildren 21 = .ok (.getfield 24, 3) := by decide +kernel
theorem dX3_sumOfChildren_24 : decode cX3_sumOfChildren 24 = .ok (.iload_n 1, 1) := by decide +kernel
theorem dX3_sumOfChildren_25 : decode cX3_sumOfChildren 25 = .ok (.iaload, 1) := by decide +kernel
theorem dX3_sumOfChildren_26 : decode cX3_sumOfChildren 26 = .ok (.iload 4, 2) := by decide +kernel
theorem dX3_sumOfChildren_28 : decode cX3_sumOfChildren 28 = .ok (.iadd, 1) := by decide +kernel
theorem dX3_sumOfChildren_29 : decode cX3_sumOfChildren 29 = .ok (.iaload, 1) := by decide +kernel
theorem dX3_sumOfChildren_30 : decode cX3_sumOfChildren 30 = .ok (.iadd, 1) := by decide +kernel
theorem dX3_sumOfChildren_31 : decode cX3_sumOfChildren 31 = .ok (.invokestatic 48, 3) := by decide +kernel
theorem dX3_sumOfChildren_34 : decode cX3_sumOfChildren 34 = .ok (.istore_n 3, 1) := by decide +kernel
theorem dX3_sumOfChildren_35 : decode cX3_sumOfChildren 35 = .ok (.iinc 4 1, 3) := by decide +kernel
theorem dX3_sumOfChildren_38 : decode cX3_sumOfChildren 38 = .ok (.goto (-33), 3) := by decide +kernel
theorem dX3_sumOfChildren_41 : decode cX3_sumOfChildren 41 = .ok (.iload_n 3, 1) := by decide +kernel
theorem dX3_sumOfChildren_42 : decode cX3_sumOfChildren 42 = .ok (.ireturn, 1) := by decide +kernel
theorem dX3_nextSibling_0 : decode cX3_nextSibling 0 = .ok (.aload_n 0, 1) := by decide +kernel
theorem dX3_nextSibling_1 : decode cX3_nextSibling 1 = .ok (.getfield 15, 3) := by decide +kernel
theorem dX3_nextSibling_4 : decode cX3_nextSibling 4 = .ok (.iload_n 1, 1) := by decide +kernel
theorem dX3_nextSibling_5 : decode cX3_nextSibling 5 = .ok (.iaload, 1) := by decide +kernel
theorem dX3_nextSibling_6 : decode cX3_nextSibling 6 = .ok (.istore_n 2, 1) := by decide +kernel
theorem dX3_nextSibling_7 : decode cX3_nextSibling 7 = .ok (.iload_n 2, 1) := by decide +kernel
theorem dX3_nextSibling_8 : decode cX3_nextSibling 8 = .ok (.iconst (-1), 1) := by decide +kernel
theorem dX3_nextSibling_9 : decode cX3_nextSibling 9 = .ok (.if_icmp .eq 22, 3) := by decide +kernel
theorem dX3_nextSibling_12 : decode cX3_nextSibling 12 = .ok (.iload_n 1, 1) := by decide +kernel
theorem dX3_nextSibling_13 : decode cX3_nextSibling 13 = .ok (.iconst 1, 1) := by decide +kernel
theorem dX3_nextSibling_14 : decode cX3_nextSibling 14 = .ok (.iadd, 1) := by decide +kernel
theorem dX3_nextSibling_15 : decode cX3_nextSibling 15 = .ok (.aload_n 0, 1) := by decide +kernel
theorem dX3_nextSibling_16 : decode cX3_nextSibling 16 = .ok (.getfield 24, 3) := by decide +kernel
theorem dX3_nextSibling_19 : decode cX3_nextSibling 19 = .ok (.iload_n 2, 1) := by decide +kernel
theorem dX3_nextSibling_20 : decode cX3_nextSibling 20 = .ok (.iaload, 1) := by decide +kernel
theorem dX3_nextSibling_21 : decode cX3_nextSibling 21 = .ok (.aload_n 0, 1) := by decide +kernel
theorem dX3_nextSibling_22 : decode cX3_nextSibling 22 = .ok (.getfield 27, 3) := by decide +kernel
theorem dX3_nextSibling_25 : decode cX3_nextSibling 25 = .ok (.iload_n 2, 1) := by decide +kernel
theorem dX3_nextSibling_26 : decode cX3_nextSibling 26 = .ok (.iaload, 1) := by decide +kernel
theorem dX3_nextSibling_27 : decode cX3_nextSibling 27 = .ok (.iadd, 1) := by decide +kernel
theorem dX3_nextSibling_28 : decode cX3_nextSibling 28 = .ok (.if_icmp .lt 5, 3) := by decide +kernel
theorem dX3_nextSibling_31 : decode cX3_nextSibling 31 = .ok (.iconst (-1), 1) := by decide +kernel
theorem dX3_nextSibling_32 : decode cX3_nextSibling 32 = .ok (.ireturn, 1) := by decide +kernel
theorem dX3_nextSibling_33 : decode cX3_nextSibling 33 = .ok (.iload_n 1, 1) := by decide +kernel
theorem dX3_nextSibling_34 : decode cX3_nextSibling 34 = .ok (.iconst 1, 1) := by decide +kernel
theorem dX3_nextSibling_35 : decode cX3_nextSibling 35 = .ok (.iadd, 1) := by decide +kernel
theorem dX3_nextSibling_36 : decode cX3_nextSibling 36 = .ok (.ireturn, 1) := by decide +kernel
theorem dX4_init_0 : decode cX4_init 0 = .ok (.aload_n 0, 1) := by decide +kernel
theorem dX4_init_1 : decode cX4_init 1 = .ok (.invokespecial 3, 3) := by decide +kernel
theorem dX4_init_4 : decode cX4_init 4 = .ok (.aload_n 0, 1) := by decide +kernel
theorem dX4_init_5 : decode cX4_init 5 = .ok (.new 9, 3) := by decide +kernel
theorem dX4_init_8 : decode cX4_init 8 = .ok (.dup, 1) := by decide +kernel
theorem dX4_init_9 : decode cX4_init 9 = .ok (.invokespecial 11, 3) := by decide +kernel
theorem dX4_init_12 : decode cX4_init 12 = .ok (.putfield 12, 3) := by decide +kernel
theorem dX4_init_15 : decode cX4_init 15 = .ok (.aload_n 0, 1) := by decide +kernel
theorem dX4_init_16 : decode cX4_init 16 = .ok (.new 18, 3) := by decide +kernel
theorem dX4_init_19 : decode cX4_init 19 = .ok (.dup, 1) := by decide +kernel
theorem dX4_init_20 : decode cX4_init 20 = .ok (.invokespecial 20, 3) := by decide +kernel
theorem dX4_init_23 : decode cX4_init 23 = .ok (.putfield 21, 3) := by decide +kernel
theorem dX4_init_26 : decode cX4_init 26 = .ok (.aload_n 0, 1) := by decide +kernel
theorem dX4_init_27 : decode cX4_init 27 = .ok (.iconst 1, 1) := by decide +kernel
theorem dX4_init_28 : decode cX4_init 28 = .ok (.putfield 25, 3) := by decide +kernel
theorem dX4_init_31 : decode cX4_init 31 = .ok (.aload_n 0, 1) := by decide +kernel
theorem dX4_init_32 : decode cX4_init 32 = .ok (.iconst 1, 1) := by decide +kernel
theorem dX4_init_33 : decode cX4_init 33 = .ok (.putfield 29, 3) := by decide +kernel
theorem dX4_init_36 : decode cX4_init 36 = .ok (.aload_n 0, 1) := by decide +kernel
theorem dX4_init_37 : decode cX4_init 37 = .ok (.aload_n 1, 1) := by decide +kernel
theorem dX4_init_38 : decode cX4_init 38 = .ok (.putfield 32, 3) := by decide +kernel
theorem dX4_init_41 : decode cX4_init 41 = .ok (.return_, 1) := by decide +kernel
theorem dX4_seek_0 : decode cX4_seek 0 = .ok (.aload_n 0, 1) := by decide +kernel
theorem dX4_seek_1 : decode cX4_seek 1 = .ok (.iload_n 1, 1) := by decide +kernel
theorem dX4_seek_2 : decode cX4_seek 2 = .ok (.putfield 25, 3) := by decide +kernel
theorem dX4_seek_5 : decode cX4_seek 5 = .ok (.aload_n 0, 1) := by decide +kernel
theorem dX4_seek_6 : decode cX4_seek 6 = .ok (.iload_n 1, 1) := by decide +kernel
theorem dX4_seek_7 : decode cX4_seek 7 = .ok (.putfield 29, 3) := by decide +kernel
theorem dX4_seek_10 : decode cX4_seek 10 = .ok (.aload_n 0, 1) := by decide +kernel
theorem dX4_seek_11 : decode cX4_seek 11 = .ok (.getfield 12, 3) := by decide +kernel
theorem dX4_seek_14 : decode cX4_seek 14 = .ok (.iconst 0, 1) := by decide +kernel
theorem dX4_seek_15 : decode cX4_seek 15 = .ok (.putfield 36, 3) := by decide +kernel
theorem dX4_seek_18 : decode cX4_seek 18 = .ok (.aload_n 0, 1) := by decide +kernel
theorem dX4_seek_19 : decode cX4_seek 19 = .ok (.getfield 21, 3) := by decide +kernel
theorem dX4_seek_22 : decode cX4_seek 22 = .ok (.iconst 0, 1) := by decide +kernel
theorem dX4_seek_23 : decode cX4_seek 23 = .ok (.putfield 39, 3) := by decide +kernel
theorem dX4_seek_26 : decode cX4_seek 26 = .ok (.aload_n 0, 1) := by decide +kernel
theorem dX4_seek_27 : decode cX4_seek 27 = .ok (.getfield 12, 3) := by decide +kernel
theorem dX4_seek_30 : decode cX4_seek 30 = .ok (.iconst (-1), 1) := by decide +kernel
theorem dX4_seek_31 : decode cX4_seek 31 = .ok (.iconst (-1), 1) := by decide +kernel
theorem dX4_seek_32 : decode cX4_seek 32 = .ok (.invokevirtual 40, 3) := by decide +kernel
theorem dX4_seek_35 : decode cX4_seek 35 = .ok (.istore_n 3, 1) := by decide +kernel
theorem dX4_seek_36 : decode cX4_seek 36 = .ok (.iconst 1, 1) := by decide +kernel
theorem dX4_seek_37 : decode cX4_seek 37 = .ok (.istore 4, 2) := by decide +kernel
theorem dX4_seek_39 : decode cX4_seek 39 = .ok (.iconst 0, 1) := by decide +kernel
theorem dX4_seek_40 : decode cX4_seek 40 = .ok (.istore 5, 2) := by decide +kernel
theorem dX4_seek_42 : decode cX4_seek 42 = .ok (.iload 5, 2) := by decide +kernel
theorem dX4_seek_44 : decode cX4_seek 44 = .ok (.sipush 8000, 3) := by decide +kernel
theorem dX4_seek_47 : decode cX4_seek 47 = .ok (.if_icmp .ge 44, 3) := by decide +kernel
theorem dX4_seek_50 : decode cX4_seek 50 = .ok (.iload 4, 2) := by decide +kernel
theorem dX4_seek_52 : decode cX4_seek 52 = .ok (.ifCond .eq 39, 3) := by decide +kernel
theorem dX4_seek_55 : decode cX4_seek 55 = .ok (.aload_n 0, 1) := by decide +kernel
theorem dX4_seek_56 : decode cX4_seek 56 = .ok (.iload_n 3, 1) := by decide +kernel
theorem dX4_seek_57 : decode cX4_seek 57 = .ok (.invokevirtual 44, 3) := by decide +kernel
theorem dX4_seek_60 : decode cX4_seek 60 = .ok (.ifCond .ne 31, 3) := by decide +kernel
theorem dX4_seek_63 : decode cX4_seek 63 = .ok (.aload_n 0, 1) := by decide +kernel
theorem dX4_seek_64 : decode cX4_seek 64 = .ok (.iload_n 3, 1) := by decide +kernel
theorem dX4_seek_65 : decode cX4_seek 65 = .ok (.invokevirtual 48, 3) := by decide +kernel
theorem dX4_seek_68 : decode cX4_seek 68 = .ok (.istore 6, 2) := by decide +kernel
theorem dX4_seek_70 : decode cX4_seek 70 = .ok (.aload_n 0, 1) := by decide +kernel
theorem dX4_seek_71 : decode cX4_seek 71 = .ok (.iload 6, 2) := by decide +kernel
theorem dX4_seek_73 : decode cX4_seek 73 = .ok (.iload_n 2, 1) := by decide +kernel
theorem dX4_seek_74 : decode cX4_seek 74 = .ok (.invokevirtual 52, 3) := by decide +kernel
theorem dX4_seek_77 : decode cX4_seek 77 = .ok (.istore 4, 2) := by decide +kernel
theorem dX4_seek_79 : decode cX4_seek 79 = .ok (.aload_n 0, 1) := by decide +kernel
theorem dX4_seek_80 : decode cX4_seek 80 = .ok (.iload 6, 2) := by decide +kernel
theorem dX4_seek_82 : decode cX4_seek 82 = .ok (.invokevirtual 56, 3) := by decide +kernel
theorem dX4_seek_85 : decode cX4_seek 85 = .ok (.iinc 5 1, 3) := by decide +kernel
theorem dX4_seek_88 : decode cX4_seek 88 = .ok (.goto (-46), 3) := by decide +kernel
theorem dX4_seek_91 : decode cX4_seek 91 = .ok (.aload_n 0, 1) := by decide +kernel
theorem dX4_seek_92 : decode cX4_seek 92 = .ok (.iload_n 3, 1) := by decide +kernel
theorem dX4_seek_93 : decode cX4_seek 93 = .ok (.invokevirtual 60, 3) := by decide +kernel
theorem dX4_seek_96 : decode cX4_seek 96 = .ok (.istore 5, 2) := by decide +kernel
theorem dX4_seek_98 : decode cX4_seek 98 = .ok (.iload 5, 2) := by decide +kernel
theorem dX4_seek_100 : decode cX4_seek 100 = .ok (.ifCond .eq 10, 3) := by decide +kernel
theorem dX4_seek_103 : decode cX4_seek 103 = .ok (.aload_n 0, 1) := by decide +kernel
theorem dX4_seek_104 : decode cX4_seek 104 = .ok (.iload_n 3, 1) := by decide +kernel
theorem dX4_seek_105 : decode cX4_seek 105 = .ok (.iload 5, 2) := by decide +kernel
theorem dX4_seek_107 : decode cX4_seek 107 = .ok (.invokevirtual 63, 3) := by decide +kernel
theorem dX4_seek_110 : decode cX4_seek 110 = .ok (.iload 5, 2) := by decide +kernel
theorem dX4_seek_112 : decode cX4_seek 112 = .ok (.ireturn, 1) := by decide +kernel
theorem dX4_isSettled_0 : decode cX4_isSettled 0 = .ok (.aload_n 0, 1) := by decide +kernel
theorem dX4_isSettled_1 : decode cX4_isSettled 1 = .ok (.getfield 12, 3) := by decide +kernel
theorem dX4_isSettled_4 : decode cX4_isSettled 4 = .ok (.getfield 67, 3) := by decide +kernel
theorem dX4_isSettled_7 : decode cX4_isSettled 7 = .ok (.iload_n 1, 1) := by decide +kernel
theorem dX4_isSettled_8 : decode cX4_isSettled 8 = .ok (.iaload, 1) := by decide +kernel
theorem dX4_isSettled_9 : decode cX4_isSettled 9 = .ok (.ifCond .eq 15, 3) := by decide +kernel
theorem dX4_isSettled_12 : decode cX4_isSettled 12 = .ok (.aload_n 0, 1) := by decide +kernel
theorem dX4_isSettled_13 : decode cX4_isSettled 13 = .ok (.getfield 12, 3) := by decide +kernel
theorem dX4_isSettled_16 : decode cX4_isSettled 16 = .ok (.getfield 71, 3) := by decide +kernel
theorem dX4_isSettled_19 : decode cX4_isSettled 19 = .ok (.iload_n 1, 1) := by decide +kernel
theorem dX4_isSettled_20 : decode cX4_isSettled 20 = .ok (.iaload, 1) := by decide +kernel
theorem dX4_isSettled_21 : decode cX4_isSettled 21 = .ok (.ifCond .ne 7, 3) := by decide +kernel
theorem dX4_isSettled_24 : decode cX4_isSettled 24 = .ok (.iconst 1, 1) := by decide +kernel
theorem dX4_isSettled_25 : decode cX4_isSettled 25 = .ok (.goto 4, 3) := by decide +kernel
theorem dX4_isSettled_28 : decode cX4_isSettled 28 = .ok (.iconst 0, 1) := by decide +kernel
theorem dX4_isSettled_29 : decode cX4_isSettled 29 = .ok (.ireturn, 1) := by decide +kernel
theorem dX4_foundAt_0 : decode cX4_foundAt 0 = .ok (.aload_n 0, 1) := by decide +kernel
theorem dX4_foundAt_1 : decode cX4_foundAt 1 = .ok (.getfield 12, 3) := by decide +kernel
theorem dX4_foundAt_4 : decode cX4_foundAt 4 = .ok (.getfield 67, 3) := by decide +kernel
theorem dX4_foundAt_7 : decode cX4_foundAt 7 = .ok (.iload_n 1, 1) := by decide +kernel
theorem dX4_foundAt_8 : decode cX4_foundAt 8 = .ok (.iaload, 1) := by decide +kernel
theorem dX4_foundAt_9 : decode cX4_foundAt 9 = .ok (.ifCond .ne 8, 3) := by decide +kernel
theorem dX4_foundAt_12 : decode cX4_foundAt 12 = .ok (.aload_n 0, 1) := by decide +kernel
theorem dX4_foundAt_13 : decode cX4_foundAt 13 = .ok (.getfield 25, 3) := by decide +kernel
theorem dX4_foundAt_16 : decode cX4_foundAt 16 = .ok (.ireturn, 1) := by decide +kernel
theorem dX4_foundAt_17 : decode cX4_foundAt 17 = .ok (.aload_n 0, 1) := by decide +kernel
theorem dX4_foundAt_18 : decode cX4_foundAt 18 = .ok (.getfield 12, 3) := by decide +kernel
theorem dX4_foundAt_21 : decode cX4_foundAt 21 = .ok (.getfield 71, 3) := by decide +kernel
theorem dX4_foundAt_24 : decode cX4_foundAt 24 = .ok (.iload_n 1, 1) := by decide +kernel
theorem dX4_foundAt_25 : decode cX4_foundAt 25 = .ok (.iaload, 1) := by decide +kernel
theorem dX4_foundAt_26 : decode cX4_foundAt 26 = .ok (.ifCond .ne 13, 3) := by decide +kernel
theorem dX4_foundAt_29 : decode cX4_foundAt 29 = .ok (.aload_n 0, 1) := by decide +kernel
theorem dX4_foundAt_30 : decode cX4_foundAt 30 = .ok (.getfield 25, 3) := by decide +kernel
theorem dX4_foundAt_33 : decode cX4_foundAt 33 = .ok (.invokestatic 74, 3) := by decide +kernel
theorem dX4_foundAt_36 : decode cX4_foundAt 36 = .ok (.goto 4, 3) := by decide +kernel
theorem dX4_foundAt_39 : decode cX4_foundAt 39 = .ok (.iconst 0, 1) := by decide +kernel
theorem dX4_foundAt_40 : decode cX4_foundAt 40 = .ok (.ireturn, 1) := by decide +kernel
theorem dX4_descend_0 : decode cX4_descend 0 = .ok (.iload_n 1, 1) := by decide +kernel
theorem dX4_descend_1 : decode cX4_descend 1 = .ok (.istore_n 2, 1) := by decide +kernel
theorem dX4_descend_2 : decode cX4_descend 2 = .ok (.iconst 0, 1) := by decide +kernel
theorem dX4_descend_3 : decode cX4_descend 3 = .ok (.istore_n 3, 1) := by decide +kernel
theorem dX4_descend_4 : decode cX4_descend 4 = .ok (.iload_n 3, 1) := by decide +kernel
theorem dX4_descend_5 : decode cX4_descend 5 = .ok (.aload_n 0, 1) := by decide +kernel
theorem dX4_descend_6 : decode cX4_descend 6 = .ok (.getfield 32, 3) := by decide +kernel
theorem dX4_descend_9 : decode cX4_descend 9 = .ok (.getfield 77, 3) := by decide +kernel
theorem dX4_descend_12 : decode cX4_descend 12 = .ok (.arraylength, 1) := by decide +kernel
theorem dX4_descend_13 : decode cX4_descend 13 = .ok (.if_icmp .ge 89, 3) := by decide +kernel
theorem dX4_descend_16 : decode cX4_descend 16 = .ok (.aload_n 0, 1) := by decide +kernel
theorem dX4_descend_17 : decode cX4_descend 17 = .ok (.getfield 12, 3) := by decide +kernel
theorem dX4_descend_20 : decode cX4_descend 20 = .ok (.getfield 82, 3) := by decide +kernel
theorem dX4_descend_23 : decode cX4_descend 23 = .ok (.iload_n 2, 1) := by decide +kernel
theorem dX4_descend_24 : decode cX4_descend 24 = .ok (.iaload, 1) := by decide +kernel
theorem dX4_descend_25 : decode cX4_descend 25 = .ok (.ifCond .le 77, 3) := by decide +kernel
theorem dX4_descend_28 : decode cX4_descend 28 = .ok (.aload_n 0, 1) := by decide +kernel
theorem dX4_descend_29 : decode cX4_descend 29 = .ok (.getfield 12, 3) := by decide +kernel
theorem dX4_descend_32 : decode cX4_descend 32 = .ok (.iload_n 2, 1) := by decide +kernel
theorem dX4_descend_33 : decode cX4_descend 33 = .ok (.aload_n 0, 1) := by decide +kernel
theorem dX4_descend_34 : decode cX4_descend 34 = .ok (.getfield 29, 3) := by decide +kernel
theorem dX4_descend_37 : decode cX4_descend 37 = .ok (.aload_n 0, 1) := by decide +kernel
theorem dX4_descend_38 : decode cX4_descend 38 = .ok (.getfield 25, 3) := by decide +kernel
theorem dX4_descend_41 : decode cX4_descend 41 = .ok (.if_icmp .ne 13, 3) := by decide +kernel
theorem dX4_descend_44 : decode cX4_descend 44 = .ok (.aload_n 0, 1) := by decide +kernel
theorem dX4_descend_45 : decode cX4_descend 45 = .ok (.getfield 12, 3) := by decide +kernel
theorem dX4_descend_48 : decode cX4_descend 48 = .ok (.getfield 67, 3) := by decide +kernel
theorem dX4_descend_51 : decode cX4_descend 51 = .ok (.goto 10, 3) := by decide +kernel
theorem dX4_descend_54 : decode cX4_descend 54 = .ok (.aload_n 0, 1) := by decide +kernel
theorem dX4_descend_55 : decode cX4_descend 55 = .ok (.getfield 12, 3) := by decide +kernel
theorem dX4_descend_58 : decode cX4_descend 58 = .ok (.getfield 71, 3) := by decide +kernel
theorem dX4_descend_61 : decode cX4_descend 61 = .ok (.invokevirtual 85, 3) := by decide +kernel
theorem dX4_descend_64 : decode cX4_descend 64 = .ok (.istore_n 2, 1) := by decide +kernel
theorem dX4_descend_65 : decode cX4_descend 65 = .ok (.aload_n 0, 1) := by decide +kernel
theorem dX4_descend_66 : decode cX4_descend 66 = .ok (.getfield 32, 3) := by decide +kernel
theorem dX4_descend_69 : decode cX4_descend 69 = .ok (.aload_n 0, 1) := by decide +kernel
theorem dX4_descend_70 : decode cX4_descend 70 = .ok (.getfield 12, 3) := by decide +kernel
theorem dX4_descend_73 : decode cX4_descend 73 = .ok (.getfield 89, 3) := by decide +kernel
theorem dX4_descend_76 : decode cX4_descend 76 = .ok (.iload_n 2, 1) := by decide +kernel
theorem dX4_descend_77 : decode cX4_descend 77 = .ok (.iaload, 1) := by decide +kernel
theorem dX4_descend_78 : decode cX4_descend 78 = .ok (.aload_n 0, 1) := by decide +kernel
theorem dX4_descend_79 : decode cX4_descend 79 = .ok (.getfield 29, 3) := by decide +kernel
theorem dX4_descend_82 : decode cX4_descend 82 = .ok (.invokevirtual 92, 3) := by decide +kernel
theorem dX4_descend_85 : decode cX4_descend 85 = .ok (.aload_n 0, 1) := by decide +kernel
theorem dX4_descend_86 : decode cX4_descend 86 = .ok (.aload_n 0, 1) := by decide +kernel
theorem dX4_descend_87 : decode cX4_descend 87 = .ok (.getfield 29, 3) := by decide +kernel
theorem dX4_descend_90 : decode cX4_descend 90 = .ok (.invokestatic 74, 3) := by decide +kernel
theorem dX4_descend_93 : decode cX4_descend 93 = .ok (.putfield 29, 3) := by decide +kernel
theorem dX4_descend_96 : decode cX4_descend 96 = .ok (.iinc 3 1, 3) := by decide +kernel
theorem dX4_descend_99 : decode cX4_descend 99 = .ok (.goto (-95), 3) := by decide +kernel
theorem dX4_descend_102 : decode cX4_descend 102 = .ok (.iload_n 2, 1) := by decide +kernel
theorem dX4_descend_103 : decode cX4_descend 103 = .ok (.ireturn, 1) := by decide +kernel
theorem dX4_expand_0 : decode cX4_expand 0 = .ok (.aload_n 0, 1) := by decide +kernel
theorem dX4_expand_1 : decode cX4_expand 1 = .ok (.getfield 32, 3) := by decide +kernel
theorem dX4_expand_4 : decode cX4_expand 4 = .ok (.invokevirtual 95, 3) := by decide +kernel
theorem dX4_expand_7 : decode cX4_expand 7 = .ok (.istore_n 3, 1) := by decide +kernel
theorem dX4_expand_8 : decode cX4_expand 8 = .ok (.aload_n 0, 1) := by decide +kernel
theorem dX4_expand_9 : decode cX4_expand 9 = .ok (.getfield 12, 3) := by decide +kernel
theorem dX4_expand_12 : decode cX4_expand 12 = .ok (.getfield 36, 3) := by decide +kernel
theorem dX4_expand_15 : decode cX4_expand 15 = .ok (.iload_n 3, 1) := by decide +kernel
theorem dX4_expand_16 : decode cX4_expand 16 = .ok (.iadd, 1) := by decide +kernel
theorem dX4_expand_17 : decode cX4_expand 17 = .ok (.iload_n 2, 1) := by decide +kernel
theorem dX4_expand_18 : decode cX4_expand 18 = .ok (.if_icmp .le 5, 3) := by decide +kernel
theorem dX4_expand_21 : decode cX4_expand 21 = .ok (.iconst 0, 1) := by decide +kernel
theorem dX4_expand_22 : decode cX4_expand 22 = .ok (.ireturn, 1) := by decide +kernel
theorem dX4_expand_23 : decode cX4_expand 23 = .ok (.aload_n 0, 1) := by decide +kernel
theorem dX4_expand_24 : decode cX4_expand 24 = .ok (.getfield 32, 3) := by decide +kernel
theorem dX4_expand_27 : decode cX4_expand 27 = .ok (.aload_n 0, 1) := by decide +kernel
theorem dX4_expand_28 : decode cX4_expand 28 = .ok (.getfield 29, 3) := by decide +kernel
theorem dX4_expand_31 : decode cX4_expand 31 = .ok (.invokevirtual 99, 3) := by decide +kernel
theorem dX4_expand_34 : decode cX4_expand 34 = .ok (.aload_n 0, 1) := by decide +kernel
theorem dX4_expand_35 : decode cX4_expand 35 = .ok (.getfield 12, 3) := by decide +kernel
theorem dX4_expand_38 : decode cX4_expand 38 = .ok (.getfield 102, 3) := by decide +kernel
theorem dX4_expand_41 : decode cX4_expand 41 = .ok (.iload_n 1, 1) := by decide +kernel
theorem dX4_expand_42 : decode cX4_expand 42 = .ok (.iload_n 3, 1) := by decide +kernel
theorem dX4_expand_43 : decode cX4_expand 43 = .ok (.ifCond .le 13, 3) := by decide +kernel
theorem dX4_expand_46 : decode cX4_expand 46 = .ok (.aload_n 0, 1) := by decide +kernel
theorem dX4_expand_47 : decode cX4_expand 47 = .ok (.getfield 12, 3) := by decide +kernel
theorem dX4_expand_50 : decode cX4_expand 50 = .ok (.getfield 36, 3) := by decide +kernel
theorem dX4_expand_53 : decode cX4_expand 53 = .ok (.goto 4, 3) := by decide +kernel
theorem dX4_expand_56 : decode cX4_expand 56 = .ok (.iconst (-1), 1) := by decide +kernel
theorem dX4_expand_57 : decode cX4_expand 57 = .ok (.iastore, 1) := by decide +kernel
theorem dX4_expand_58 : decode cX4_expand 58 = .ok (.aload_n 0, 1) := by decide +kernel
theorem dX4_expand_59 : decode cX4_expand 59 = .ok (.getfield 12, 3) := by decide +kernel
theorem dX4_expand_62 : decode cX4_expand 62 = .ok (.getfield 82, 3) := by decide +kernel
theorem dX4_expand_65 : decode cX4_expand 65 = .ok (.iload_n 1, 1) := by decide +kernel
theorem dX4_expand_66 : decode cX4_expand 66 = .ok (.iload_n 3, 1) := by decide +kernel
theorem dX4_expand_67 : decode cX4_expand 67 = .ok (.iastore, 1) := by decide +kernel
theorem dX4_expand_68 : decode cX4_expand 68 = .ok (.iconst 0, 1) := by decide +kernel
theorem dX4_expand_69 : decode cX4_expand 69 = .ok (.istore 4, 2) := by decide +kernel
theorem dX4_expand_71 : decode cX4_expand 71 = .ok (.iload 4, 2) := by decide +kernel
theorem dX4_expand_73 : decode cX4_expand 73 = .ok (.aload_n 0, 1) := by decide +kernel
theorem dX4_expand_74 : decode cX4_expand 74 = .ok (.getfield 32, 3) := by decide +kernel
theorem dX4_expand_77 : decode cX4_expand 77 = .ok (.getfield 77, 3) := by decide +kernel
theorem dX4_expand_80 : decode cX4_expand 80 = .ok (.arraylength, 1) := by decide +kernel
theorem dX4_expand_81 : decode cX4_expand 81 = .ok (.if_icmp .ge 28, 3) := by decide +kernel
theorem dX4_expand_84 : decode cX4_expand 84 = .ok (.aload_n 0, 1) := by decide +kernel
theorem dX4_expand_85 : decode cX4_expand 85 = .ok (.getfield 32, 3) := by decide +kernel
theorem dX4_expand_88 : decode cX4_expand 88 = .ok (.iload 4, 2) := by decide +kernel
theorem dX4_expand_90 : decode cX4_expand 90 = .ok (.invokevirtual 105, 3) := by decide +kernel
theorem dX4_expand_93 : decode cX4_expand 93 = .ok (.ifCond .eq 10, 3) := by decide +kernel
theorem dX4_expand_96 : decode cX4_expand 96 = .ok (.aload_n 0, 1) := by decide +kernel
theorem dX4_expand_97 : decode cX4_expand 97 = .ok (.iload_n 1, 1) := by decide +kernel
theorem dX4_expand_98 : decode cX4_expand 98 = .ok (.iload 4, 2) := by decide +kernel
theorem dX4_expand_100 : decode cX4_expand 100 = .ok (.invokevirtual 108, 3) := by decide +kernel
theorem dX4_expand_103 : decode cX4_expand 103 = .ok (.iinc 4 1, 3) := by decide +kernel
theorem dX4_expand_106 : decode cX4_expand 106 = .ok (.goto (-35), 3) := by decide +kernel
theorem dX4_expand_109 : decode cX4_expand 109 = .ok (.iconst 1, 1) := by decide +kernel
theorem dX4_expand_110 : decode cX4_expand 110 = .ok (.ireturn, 1) := by decide +kernel
theorem dX4_addChild_0 : decode cX4_addChild 0 = .ok (.aload_n 0, 1) := by decide +kernel
theorem dX4_addChild_1 : decode cX4_addChild 1 = .ok (.getfield 12, 3) := by decide +kernel
theorem dX4_addChild_4 : decode cX4_addChild 4 = .ok (.iload_n 1, 1) := by decide +kernel
theorem dX4_addChild_5 : decode cX4_addChild 5 = .ok (.iload_n 2, 1) := by decide +kernel
theorem dX4_addChild_6 : decode cX4_addChild 6 = .ok (.invokevirtual 40, 3) := by decide +kernel
theorem dX4_addChild_9 : decode cX4_addChild 9 = .ok (.istore_n 3, 1) := by decide +kernel
theorem dX4_addChild_10 : decode cX4_addChild 10 = .ok (.iload_n 3, 1) := by decide +kernel
theorem dX4_addChild_11 : decode cX4_addChild 11 = .ok (.iconst (-1), 1) := by decide +kernel
theorem dX4_addChild_12 : decode cX4_addChild 12 = .ok (.if_icmp .eq 70, 3) := by decide +kernel
theorem dX4_addChild_15 : decode cX4_addChild 15 = .ok (.aload_n 0, 1) := by decide +kernel
theorem dX4_addChild_16 : decode cX4_addChild 16 = .ok (.getfield 32, 3) := by decide +kernel
theorem dX4_addChild_19 : decode cX4_addChild 19 = .ok (.aload_n 0, 1) := by decide +kernel
theorem dX4_addChild_20 : decode cX4_addChild 20 = .ok (.getfield 29, 3) := by decide +kernel
theorem dX4_addChild_23 : decode cX4_addChild 23 = .ok (.iload_n 2, 1) := by decide +kernel
theorem dX4_addChild_24 : decode cX4_addChild 24 = .ok (.invokevirtual 111, 3) := by decide +kernel
theorem dX4_addChild_27 : decode cX4_addChild 27 = .ok (.ifCond .eq 55, 3) := by decide +kernel
theorem dX4_addChild_30 : decode cX4_addChild 30 = .ok (.aload_n 0, 1) := by decide +kernel
theorem dX4_addChild_31 : decode cX4_addChild 31 = .ok (.getfield 12, 3) := by decide +kernel
theorem dX4_addChild_34 : decode cX4_addChild 34 = .ok (.getfield 67, 3) := by decide +kernel
theorem dX4_addChild_37 : decode cX4_addChild 37 = .ok (.iload_n 3, 1) := by decide +kernel
theorem dX4_addChild_38 : decode cX4_addChild 38 = .ok (.aload_n 0, 1) := by decide +kernel
theorem dX4_addChild_39 : decode cX4_addChild 39 = .ok (.getfield 29, 3) := by decide +kernel
theorem dX4_addChild_42 : decode cX4_addChild 42 = .ok (.aload_n 0, 1) := by decide +kernel
theorem dX4_addChild_43 : decode cX4_addChild 43 = .ok (.getfield 25, 3) := by decide +kernel
theorem dX4_addChild_46 : decode cX4_addChild 46 = .ok (.if_icmp .ne 7, 3) := by decide +kernel
theorem dX4_addChild_49 : decode cX4_addChild 49 = .ok (.iconst 0, 1) := by decide +kernel
theorem dX4_addChild_50 : decode cX4_addChild 50 = .ok (.goto 5, 3) := by decide +kernel
theorem dX4_addChild_53 : decode cX4_addChild 53 = .ok (.ldc 114, 2) := by decide +kernel
theorem dX4_addChild_55 : decode cX4_addChild 55 = .ok (.iastore, 1) := by decide +kernel
theorem dX4_addChild_56 : decode cX4_addChild 56 = .ok (.aload_n 0, 1) := by decide +kernel
theorem dX4_addChild_57 : decode cX4_addChild 57 = .ok (.getfield 12, 3) := by decide +kernel
theorem dX4_addChild_60 : decode cX4_addChild 60 = .ok (.getfield 71, 3) := by decide +kernel
theorem dX4_addChild_63 : decode cX4_addChild 63 = .ok (.iload_n 3, 1) := by decide +kernel
theorem dX4_addChild_64 : decode cX4_addChild 64 = .ok (.aload_n 0, 1) := by decide +kernel
theorem dX4_addChild_65 : decode cX4_addChild 65 = .ok (.getfield 29, 3) := by decide +kernel
theorem dX4_addChild_68 : decode cX4_addChild 68 = .ok (.aload_n 0, 1) := by decide +kernel
theorem dX4_addChild_69 : decode cX4_addChild 69 = .ok (.getfield 25, 3) := by decide +kernel
theorem dX4_addChild_72 : decode cX4_addChild 72 = .ok (.if_icmp .ne 8, 3) := by decide +kernel
theorem dX4_addChild_75 : decode cX4_addChild 75 = .ok (.ldc 114, 2) := by decide +kernel
theorem dX4_addChild_77 : decode cX4_addChild 77 = .ok (.goto 4, 3) := by decide +kernel
theorem dX4_addChild_80 : decode cX4_addChild 80 = .ok (.iconst 0, 1) := by decide +kernel
theorem dX4_addChild_81 : decode cX4_addChild 81 = .ok (.iastore, 1) := by decide +kernel
theorem dX4_addChild_82 : decode cX4_addChild 82 = .ok (.return_, 1) := by decide +kernel
theorem dX4_climb_0 : decode cX4_climb 0 = .ok (.iload_n 1, 1) := by decide +kernel
theorem dX4_climb_1 : decode cX4_climb 1 = .ok (.istore_n 2, 1) := by decide +kernel
theorem dX4_climb_2 : decode cX4_climb 2 = .ok (.aload_n 0, 1) := by decide +kernel
theorem dX4_climb_3 : decode cX4_climb 3 = .ok (.iload_n 2, 1) := by decide +kernel
theorem dX4_climb_4 : decode cX4_climb 4 = .ok (.invokevirtual 115, 3) := by decide +kernel
theorem dX4_climb_7 : decode cX4_climb 7 = .ok (.iconst 0, 1) := by decide +kernel
theorem dX4_climb_8 : decode cX4_climb 8 = .ok (.istore_n 3, 1) := by decide +kernel
theorem dX4_climb_9 : decode cX4_climb 9 = .ok (.iload_n 3, 1) := by decide +kernel
theorem dX4_climb_10 : decode cX4_climb 10 = .ok (.aload_n 0, 1) := by decide +kernel
theorem dX4_climb_11 : decode cX4_climb 11 = .ok (.getfield 32, 3) := by decide +kernel
theorem dX4_climb_14 : decode cX4_climb 14 = .ok (.getfield 77, 3) := by decide +kernel
theorem dX4_climb_17 : decode cX4_climb 17 = .ok (.arraylength, 1) := by decide +kernel
theorem dX4_climb_18 : decode cX4_climb 18 = .ok (.if_icmp .ge 65, 3) := by decide +kernel
theorem dX4_climb_21 : decode cX4_climb 21 = .ok (.aload_n 0, 1) := by decide +kernel
theorem dX4_climb_22 : decode cX4_climb 22 = .ok (.getfield 12, 3) := by decide +kernel
theorem dX4_climb_25 : decode cX4_climb 25 = .ok (.getfield 118, 3) := by decide +kernel
theorem dX4_climb_28 : decode cX4_climb 28 = .ok (.iload_n 2, 1) := by decide +kernel
theorem dX4_climb_29 : decode cX4_climb 29 = .ok (.iaload, 1) := by decide +kernel
theorem dX4_climb_30 : decode cX4_climb 30 = .ok (.iconst (-1), 1) := by decide +kernel
theorem dX4_climb_31 : decode cX4_climb 31 = .ok (.if_icmp .eq 52, 3) := by decide +kernel
theorem dX4_climb_34 : decode cX4_climb 34 = .ok (.aload_n 0, 1) := by decide +kernel
theorem dX4_climb_35 : decode cX4_climb 35 = .ok (.getfield 32, 3) := by decide +kernel
theorem dX4_climb_38 : decode cX4_climb 38 = .ok (.aload_n 0, 1) := by decide +kernel
theorem dX4_climb_39 : decode cX4_climb 39 = .ok (.getfield 12, 3) := by decide +kernel
theorem dX4_climb_42 : decode cX4_climb 42 = .ok (.getfield 89, 3) := by decide +kernel
theorem dX4_climb_45 : decode cX4_climb 45 = .ok (.iload_n 2, 1) := by decide +kernel
theorem dX4_climb_46 : decode cX4_climb 46 = .ok (.iaload, 1) := by decide +kernel
theorem dX4_climb_47 : decode cX4_climb 47 = .ok (.iconst 0, 1) := by decide +kernel
theorem dX4_climb_48 : decode cX4_climb 48 = .ok (.invokevirtual 92, 3) := by decide +kernel
theorem dX4_climb_51 : decode cX4_climb 51 = .ok (.aload_n 0, 1) := by decide +kernel
theorem dX4_climb_52 : decode cX4_climb 52 = .ok (.aload_n 0, 1) := by decide +kernel
theorem dX4_climb_53 : decode cX4_climb 53 = .ok (.getfield 29, 3) := by decide +kernel
theorem dX4_climb_56 : decode cX4_climb 56 = .ok (.invokestatic 74, 3) := by decide +kernel
theorem dX4_climb_59 : decode cX4_climb 59 = .ok (.putfield 29, 3) := by decide +kernel
theorem dX4_climb_62 : decode cX4_climb 62 = .ok (.aload_n 0, 1) := by decide +kernel
theorem dX4_climb_63 : decode cX4_climb 63 = .ok (.getfield 12, 3) := by decide +kernel
theorem dX4_climb_66 : decode cX4_climb 66 = .ok (.getfield 118, 3) := by decide +kernel
theorem dX4_climb_69 : decode cX4_climb 69 = .ok (.iload_n 2, 1) := by decide +kernel
theorem dX4_climb_70 : decode cX4_climb 70 = .ok (.iaload, 1) := by decide +kernel
theorem dX4_climb_71 : decode cX4_climb 71 = .ok (.istore_n 2, 1) := by decide +kernel
theorem dX4_climb_72 : decode cX4_climb 72 = .ok (.aload_n 0, 1) := by decide +kernel
theorem dX4_climb_73 : decode cX4_climb 73 = .ok (.iload_n 2, 1) := by decide +kernel
theorem dX4_climb_74 : decode cX4_climb 74 = .ok (.invokevirtual 115, 3) := by decide +kernel
theorem dX4_climb_77 : decode cX4_climb 77 = .ok (.iinc 3 1, 3) := by decide +kernel
theorem dX4_climb_80 : decode cX4_climb 80 = .ok (.goto (-71), 3) := by decide +kernel
theorem dX4_climb_83 : decode cX4_climb 83 = .ok (.return_, 1) := by decide +kernel
theorem dX4_reckon_0 : decode cX4_reckon 0 = .ok (.aload_n 0, 1) := by decide +kernel
theorem dX4_reckon_1 : decode cX4_reckon 1 = .ok (.getfield 12, 3) := by decide +kernel
theorem dX4_reckon_4 : decode cX4_reckon 4 = .ok (.getfield 82, 3) := by decide +kernel
theorem dX4_reckon_7 : decode cX4_reckon 7 = .ok (.iload_n 1, 1) := by decide +kernel
theorem dX4_reckon_8 : decode cX4_reckon 8 = .ok (.iaload, 1) := by decide +kernel
theorem dX4_reckon_9 : decode cX4_reckon 9 = .ok (.ifCond .ne 4, 3) := by decide +kernel
theorem dX4_reckon_12 : decode cX4_reckon 12 = .ok (.return_, 1) := by decide +kernel
theorem dX4_reckon_13 : decode cX4_reckon 13 = .ok (.aload_n 0, 1) := by decide +kernel
theorem dX4_reckon_14 : decode cX4_reckon 14 = .ok (.getfield 29, 3) := by decide +kernel
theorem dX4_reckon_17 : decode cX4_reckon 17 = .ok (.aload_n 0, 1) := by decide +kernel
theorem dX4_reckon_18 : decode cX4_reckon 18 = .ok (.getfield 25, 3) := by decide +kernel
theorem dX4_reckon_21 : decode cX4_reckon 21 = .ok (.if_icmp .ne 13, 3) := by decide +kernel
theorem dX4_reckon_24 : decode cX4_reckon 24 = .ok (.aload_n 0, 1) := by decide +kernel
theorem dX4_reckon_25 : decode cX4_reckon 25 = .ok (.getfield 12, 3) := by decide +kernel
theorem dX4_reckon_28 : decode cX4_reckon 28 = .ok (.getfield 67, 3) := by decide +kernel
theorem dX4_reckon_31 : decode cX4_reckon 31 = .ok (.goto 10, 3) := by decide +kernel
theorem dX4_reckon_34 : decode cX4_reckon 34 = .ok (.aload_n 0, 1) := by decide +kernel
theorem dX4_reckon_35 : decode cX4_reckon 35 = .ok (.getfield 12, 3) := by decide +kernel
theorem dX4_reckon_38 : decode cX4_reckon 38 = .ok (.getfield 71, 3) := by decide +kernel
theorem dX4_reckon_41 : decode cX4_reckon 41 = .ok (.astore_n 2, 1) := by decide +kernel
theorem dX4_reckon_42 : decode cX4_reckon 42 = .ok (.aload_n 0, 1) := by decide +kernel
theorem dX4_reckon_43 : decode cX4_reckon 43 = .ok (.getfield 29, 3) := by decide +kernel
theorem dX4_reckon_46 : decode cX4_reckon 46 = .ok (.aload_n 0, 1) := by decide +kernel
theorem dX4_reckon_47 : decode cX4_reckon 47 = .ok (.getfield 25, 3) := by decide +kernel
theorem dX4_reckon_50 : decode cX4_reckon 50 = .ok (.if_icmp .ne 13, 3) := by decide +kernel
theorem dX4_reckon_53 : decode cX4_reckon 53 = .ok (.aload_n 0, 1) := by decide +kernel
theorem dX4_reckon_54 : decode cX4_reckon 54 = .ok (.getfield 12, 3) := by decide +kernel
theorem dX4_reckon_57 : decode cX4_reckon 57 = .ok (.getfield 71, 3) := by decide +kernel
theorem dX4_reckon_60 : decode cX4_reckon 60 = .ok (.goto 10, 3) := by decide +kernel
theorem dX4_reckon_63 : decode cX4_reckon 63 = .ok (.aload_n 0, 1) := by decide +kernel
theorem dX4_reckon_64 : decode cX4_reckon 64 = .ok (.getfield 12, 3) := by decide +kernel
theorem dX4_reckon_67 : decode cX4_reckon 67 = .ok (.getfield 67, 3) := by decide +kernel
theorem dX4_reckon_70 : decode cX4_reckon 70 = .ok (.astore_n 3, 1) := by decide +kernel
theorem dX4_reckon_71 : decode cX4_reckon 71 = .ok (.aload_n 2, 1) := by decide +kernel
theorem dX4_reckon_72 : decode cX4_reckon 72 = .ok (.iload_n 1, 1) := by decide +kernel
theorem dX4_reckon_73 : decode cX4_reckon 73 = .ok (.aload_n 2, 1) := by decide +kernel
theorem dX4_reckon_74 : decode cX4_reckon 74 = .ok (.aload_n 0, 1) := by decide +kernel
theorem dX4_reckon_75 : decode cX4_reckon 75 = .ok (.getfield 12, 3) := by decide +kernel
theorem dX4_reckon_78 : decode cX4_reckon 78 = .ok (.iload_n 1, 1) := by decide +kernel
theorem dX4_reckon_79 : decode cX4_reckon 79 = .ok (.aload_n 2, 1) := by decide +kernel
theorem dX4_reckon_80 : decode cX4_reckon 80 = .ok (.invokevirtual 85, 3) := by decide +kernel
theorem dX4_reckon_83 : decode cX4_reckon 83 = .ok (.iaload, 1) := by decide +kernel
theorem dX4_reckon_84 : decode cX4_reckon 84 = .ok (.iastore, 1) := by decide +kernel
theorem dX4_reckon_85 : decode cX4_reckon 85 = .ok (.aload_n 3, 1) := by decide +kernel
theorem dX4_reckon_86 : decode cX4_reckon 86 = .ok (.iload_n 1, 1) := by decide +kernel
theorem dX4_reckon_87 : decode cX4_reckon 87 = .ok (.aload_n 0, 1) := by decide +kernel
theorem dX4_reckon_88 : decode cX4_reckon 88 = .ok (.getfield 12, 3) := by decide +kernel
theorem dX4_reckon_91 : decode cX4_reckon 91 = .ok (.iload_n 1, 1) := by decide +kernel
theorem dX4_reckon_92 : decode cX4_reckon 92 = .ok (.aload_n 3, 1) := by decide +kernel
theorem dX4_reckon_93 : decode cX4_reckon 93 = .ok (.invokevirtual 121, 3) := by decide +kernel
theorem dX4_reckon_96 : decode cX4_reckon 96 = .ok (.iastore, 1) := by decide +kernel
theorem dX4_reckon_97 : decode cX4_reckon 97 = .ok (.return_, 1) := by decide +kernel
theorem dX4_writePlan_0 : decode cX4_writePlan 0 = .ok (.iload_n 2, 1) := by decide +kernel
theorem dX4_writePlan_1 : decode cX4_writePlan 1 = .ok (.aload_n 0, 1) := by decide +kernel
theorem dX4_writePlan_2 : decode cX4_writePlan 2 = .ok (.getfield 25, 3) := by decide +kernel
theorem dX4_writePlan_5 : decode cX4_writePlan 5 = .ok (.if_icmp .ne 13, 3) := by decide +kernel
theorem dX4_writePlan_8 : decode cX4_writePlan 8 = .ok (.aload_n 0, 1) := by decide +kernel
theorem dX4_writePlan_9 : decode cX4_writePlan 9 = .ok (.getfield 12, 3) := by decide +kernel
theorem dX4_writePlan_12 : decode cX4_writePlan 12 = .ok (.getfield 67, 3) := by decide +kernel
theorem dX4_writePlan_15 : decode cX4_writePlan 15 = .ok (.goto 10, 3) := by decide +kernel
theorem dX4_writePlan_18 : decode cX4_writePlan 18 = .ok (.aload_n 0, 1) := by decide +kernel
theorem dX4_writePlan_19 : decode cX4_writePlan 19 = .ok (.getfield 12, 3) := by decide +kernel
theorem dX4_writePlan_22 : decode cX4_writePlan 22 = .ok (.getfield 71, 3) := by decide +kernel
theorem dX4_writePlan_25 : decode cX4_writePlan 25 = .ok (.astore_n 3, 1) := by decide +kernel
theorem dX4_writePlan_26 : decode cX4_writePlan 26 = .ok (.iload_n 2, 1) := by decide +kernel
theorem dX4_writePlan_27 : decode cX4_writePlan 27 = .ok (.aload_n 0, 1) := by decide +kernel
theorem dX4_writePlan_28 : decode cX4_writePlan 28 = .ok (.getfield 25, 3) := by decide +kernel
theorem dX4_writePlan_31 : decode cX4_writePlan 31 = .ok (.if_icmp .ne 7, 3) := by decide +kernel
theorem dX4_writePlan_34 : decode cX4_writePlan 34 = .ok (.iconst 1, 1) := by decide +kernel
theorem dX4_writePlan_35 : decode cX4_writePlan 35 = .ok (.goto 4, 3) := by decide +kernel
theorem dX4_writePlan_38 : decode cX4_writePlan 38 = .ok (.iconst 0, 1) := by decide +kernel
theorem dX4_writePlan_39 : decode cX4_writePlan 39 = .ok (.istore 4, 2) := by decide +kernel
theorem dX4_writePlan_41 : decode cX4_writePlan 41 = .ok (.iload_n 1, 1) := by decide +kernel
theorem dX4_writePlan_42 : decode cX4_writePlan 42 = .ok (.istore 5, 2) := by decide +kernel
theorem dX4_writePlan_44 : decode cX4_writePlan 44 = .ok (.iconst (-1), 1) := by decide +kernel
theorem dX4_writePlan_45 : decode cX4_writePlan 45 = .ok (.istore 6, 2) := by decide +kernel
theorem dX4_writePlan_47 : decode cX4_writePlan 47 = .ok (.aload_n 0, 1) := by decide +kernel
theorem dX4_writePlan_48 : decode cX4_writePlan 48 = .ok (.iload 5, 2) := by decide +kernel
theorem dX4_writePlan_50 : decode cX4_writePlan 50 = .ok (.iload 4, 2) := by decide +kernel
theorem dX4_writePlan_52 : decode cX4_writePlan 52 = .ok (.aload_n 3, 1) := by decide +kernel
theorem dX4_writePlan_53 : decode cX4_writePlan 53 = .ok (.invokevirtual 124, 3) := by decide +kernel
theorem dX4_writePlan_56 : decode cX4_writePlan 56 = .ok (.istore 7, 2) := by decide +kernel
theorem dX4_writePlan_58 : decode cX4_writePlan 58 = .ok (.iconst 0, 1) := by decide +kernel
theorem dX4_writePlan_59 : decode cX4_writePlan 59 = .ok (.istore 8, 2) := by decide +kernel
theorem dX4_writePlan_61 : decode cX4_writePlan 61 = .ok (.iload 8, 2) := by decide +kernel
theorem dX4_writePlan_63 : decode cX4_writePlan 63 = .ok (.sipush 8000, 3) := by decide +kernel
theorem dX4_writePlan_66 : decode cX4_writePlan 66 = .ok (.if_icmp .ge 169, 3) := by decide +kernel
theorem dX4_writePlan_69 : decode cX4_writePlan 69 = .ok (.iload 7, 2) := by decide +kernel
theorem dX4_writePlan_71 : decode cX4_writePlan 71 = .ok (.iconst (-1), 1) := by decide +kernel
theorem dX4_writePlan_72 : decode cX4_writePlan 72 = .ok (.if_icmp .eq 163, 3) := by decide +kernel
theorem dX4_writePlan_75 : decode cX4_writePlan 75 = .ok (.aload_n 0, 1) := by decide +kernel
theorem dX4_writePlan_76 : decode cX4_writePlan 76 = .ok (.getfield 21, 3) := by decide +kernel
theorem dX4_writePlan_79 : decode cX4_writePlan 79 = .ok (.iload 6, 2) := by decide +kernel
theorem dX4_writePlan_81 : decode cX4_writePlan 81 = .ok (.aload_n 0, 1) := by decide +kernel
theorem dX4_writePlan_82 : decode cX4_writePlan 82 = .ok (.getfield 12, 3) := by decide +kernel
theorem dX4_writePlan_85 : decode cX4_writePlan 85 = .ok (.getfield 89, 3) := by decide +kernel
theorem dX4_writePlan_88 : decode cX4_writePlan 88 = .ok (.iload 7, 2) := by decide +kernel
theorem dX4_writePlan_90 : decode cX4_writePlan 90 = .ok (.iaload, 1) := by decide +kernel
theorem dX4_writePlan_91 : decode cX4_writePlan 91 = .ok (.invokevirtual 128, 3) := by decide +kernel
theorem dX4_writePlan_94 : decode cX4_writePlan 94 = .ok (.istore 6, 2) := by decide +kernel
theorem dX4_writePlan_96 : decode cX4_writePlan 96 = .ok (.iload 7, 2) := by decide +kernel
theorem dX4_writePlan_98 : decode cX4_writePlan 98 = .ok (.istore 5, 2) := by decide +kernel
theorem dX4_writePlan_100 : decode cX4_writePlan 100 = .ok (.iload 4, 2) := by decide +kernel
theorem dX4_writePlan_102 : decode cX4_writePlan 102 = .ok (.ifCond .ne 7, 3) := by decide +kernel
theorem dX4_writePlan_105 : decode cX4_writePlan 105 = .ok (.iconst 1, 1) := by decide +kernel
theorem dX4_writePlan_106 : decode cX4_writePlan 106 = .ok (.goto 4, 3) := by decide +kernel
theorem dX4_writePlan_109 : decode cX4_writePlan 109 = .ok (.iconst 0, 1) := by decide +kernel
theorem dX4_writePlan_110 : decode cX4_writePlan 110 = .ok (.istore 4, 2) := by decide +kernel
theorem dX4_writePlan_112 : decode cX4_writePlan 112 = .ok (.aload_n 0, 1) := by decide +kernel
theorem dX4_writePlan_113 : decode cX4_writePlan 113 = .ok (.iload 5, 2) := by decide +kernel
theorem dX4_writePlan_115 : decode cX4_writePlan 115 = .ok (.iload 4, 2) := by decide +kernel
theorem dX4_writePlan_117 : decode cX4_writePlan 117 = .ok (.aload_n 3, 1) := by decide +kernel
theorem dX4_writePlan_118 : decode cX4_writePlan 118 = .ok (.invokevirtual 124, 3) := by decide +kernel
theorem dX4_writePlan_121 : decode cX4_writePlan 121 = .ok (.istore 7, 2) := by decide +kernel
theorem dX4_writePlan_123 : decode cX4_writePlan 123 = .ok (.iconst 0, 1) := by decide +kernel
theorem dX4_writePlan_124 : decode cX4_writePlan 124 = .ok (.istore 9, 2) := by decide +kernel
theorem dX4_writePlan_126 : decode cX4_writePlan 126 = .ok (.iload 9, 2) := by decide +kernel
theorem dX4_writePlan_128 : decode cX4_writePlan 128 = .ok (.aload_n 0, 1) := by decide +kernel
theorem dX4_writePlan_129 : decode cX4_writePlan 129 = .ok (.getfield 32, 3) := by decide +kernel
theorem dX4_writePlan_132 : decode cX4_writePlan 132 = .ok (.getfield 77, 3) := by decide +kernel
theorem dX4_writePlan_135 : decode cX4_writePlan 135 = .ok (.arraylength, 1) := by decide +kernel
theorem dX4_writePlan_136 : decode cX4_writePlan 136 = .ok (.if_icmp .ge 93, 3) := by decide +kernel
theorem dX4_writePlan_139 : decode cX4_writePlan 139 = .ok (.iload 7, 2) := by decide +kernel
theorem dX4_writePlan_141 : decode cX4_writePlan 141 = .ok (.iconst (-1), 1) := by decide +kernel
theorem dX4_writePlan_142 : decode cX4_writePlan 142 = .ok (.if_icmp .ne 87, 3) := by decide +kernel
theorem dX4_writePlan_145 : decode cX4_writePlan 145 = .ok (.iload 5, 2) := by decide +kernel
theorem dX4_writePlan_147 : decode cX4_writePlan 147 = .ok (.iload_n 1, 1) := by decide +kernel
theorem dX4_writePlan_148 : decode cX4_writePlan 148 = .ok (.if_icmp .eq 81, 3) := by decide +kernel
theorem dX4_writePlan_151 : decode cX4_writePlan 151 = .ok (.iload 4, 2) := by decide +kernel
theorem dX4_writePlan_153 : decode cX4_writePlan 153 = .ok (.ifCond .ne 7, 3) := by decide +kernel
theorem dX4_writePlan_156 : decode cX4_writePlan 156 = .ok (.iconst 1, 1) := by decide +kernel
theorem dX4_writePlan_157 : decode cX4_writePlan 157 = .ok (.goto 4, 3) := by decide +kernel
theorem dX4_writePlan_160 : decode cX4_writePlan 160 = .ok (.iconst 0, 1) := by decide +kernel
theorem dX4_writePlan_161 : decode cX4_writePlan 161 = .ok (.istore 4, 2) := by decide +kernel
theorem dX4_writePlan_163 : decode cX4_writePlan 163 = .ok (.iload 4, 2) := by decide +kernel
theorem dX4_writePlan_165 : decode cX4_writePlan 165 = .ok (.ifCond .eq 7, 3) := by decide +kernel
theorem dX4_writePlan_168 : decode cX4_writePlan 168 = .ok (.iconst (-1), 1) := by decide +kernel
theorem dX4_writePlan_169 : decode cX4_writePlan 169 = .ok (.goto 12, 3) := by decide +kernel
theorem dX4_writePlan_172 : decode cX4_writePlan 172 = .ok (.aload_n 0, 1) := by decide +kernel
theorem dX4_writePlan_173 : decode cX4_writePlan 173 = .ok (.getfield 12, 3) := by decide +kernel
theorem dX4_writePlan_176 : decode cX4_writePlan 176 = .ok (.iload 5, 2) := by decide +kernel
theorem dX4_writePlan_178 : decode cX4_writePlan 178 = .ok (.invokevirtual 129, 3) := by decide +kernel
theorem dX4_writePlan_181 : decode cX4_writePlan 181 = .ok (.istore 7, 2) := by decide +kernel
theorem dX4_writePlan_183 : decode cX4_writePlan 183 = .ok (.aload_n 0, 1) := by decide +kernel
theorem dX4_writePlan_184 : decode cX4_writePlan 184 = .ok (.getfield 12, 3) := by decide +kernel
theorem dX4_writePlan_187 : decode cX4_writePlan 187 = .ok (.getfield 118, 3) := by decide +kernel
theorem dX4_writePlan_190 : decode cX4_writePlan 190 = .ok (.iload 5, 2) := by decide +kernel
theorem dX4_writePlan_192 : decode cX4_writePlan 192 = .ok (.iaload, 1) := by decide +kernel
theorem dX4_writePlan_193 : decode cX4_writePlan 193 = .ok (.istore 5, 2) := by decide +kernel
theorem dX4_writePlan_195 : decode cX4_writePlan 195 = .ok (.aload_n 0, 1) := by decide +kernel
theorem dX4_writePlan_196 : decode cX4_writePlan 196 = .ok (.getfield 21, 3) := by decide +kernel
theorem dX4_writePlan_199 : decode cX4_writePlan 199 = .ok (.iload 6, 2) := by decide +kernel
theorem dX4_writePlan_201 : decode cX4_writePlan 201 = .ok (.invokevirtual 132, 3) := by decide +kernel
theorem dX4_writePlan_204 : decode cX4_writePlan 204 = .ok (.ifCond .eq 16, 3) := by decide +kernel
theorem dX4_writePlan_207 : decode cX4_writePlan 207 = .ok (.aload_n 0, 1) := by decide +kernel
theorem dX4_writePlan_208 : decode cX4_writePlan 208 = .ok (.getfield 21, 3) := by decide +kernel
theorem dX4_writePlan_211 : decode cX4_writePlan 211 = .ok (.getfield 135, 3) := by decide +kernel
theorem dX4_writePlan_214 : decode cX4_writePlan 214 = .ok (.iload 6, 2) := by decide +kernel
theorem dX4_writePlan_216 : decode cX4_writePlan 216 = .ok (.iaload, 1) := by decide +kernel
theorem dX4_writePlan_217 : decode cX4_writePlan 217 = .ok (.goto 4, 3) := by decide +kernel
theorem dX4_writePlan_220 : decode cX4_writePlan 220 = .ok (.iconst (-1), 1) := by decide +kernel
theorem dX4_writePlan_221 : decode cX4_writePlan 221 = .ok (.istore 6, 2) := by decide +kernel
theorem dX4_writePlan_223 : decode cX4_writePlan 223 = .ok (.iinc 9 1, 3) := by decide +kernel
theorem dX4_writePlan_226 : decode cX4_writePlan 226 = .ok (.goto (-100), 3) := by decide +kernel
theorem dX4_writePlan_229 : decode cX4_writePlan 229 = .ok (.iinc 8 1, 3) := by decide +kernel
theorem dX4_writePlan_232 : decode cX4_writePlan 232 = .ok (.goto (-171), 3) := by decide +kernel
theorem dX4_writePlan_235 : decode cX4_writePlan 235 = .ok (.return_, 1) := by decide +kernel
theorem dX4_firstInPlan_0 : decode cX4_firstInPlan 0 = .ok (.iload_n 2, 1) := by decide +kernel
theorem dX4_firstInPlan_1 : decode cX4_firstInPlan 1 = .ok (.ifCond .eq 15, 3) := by decide +kernel
theorem dX4_firstInPlan_4 : decode cX4_firstInPlan 4 = .ok (.aload_n 0, 1) := by decide +kernel
theorem dX4_firstInPlan_5 : decode cX4_firstInPlan 5 = .ok (.getfield 12, 3) := by decide +kernel
theorem dX4_firstInPlan_8 : decode cX4_firstInPlan 8 = .ok (.iload_n 1, 1) := by decide +kernel
theorem dX4_firstInPlan_9 : decode cX4_firstInPlan 9 = .ok (.aload_n 3, 1) := by decide +kernel
theorem dX4_firstInPlan_10 : decode cX4_firstInPlan 10 = .ok (.invokevirtual 85, 3) := by decide +kernel
theorem dX4_firstInPlan_13 : decode cX4_firstInPlan 13 = .ok (.goto 12, 3) := by decide +kernel
theorem dX4_firstInPlan_16 : decode cX4_firstInPlan 16 = .ok (.aload_n 0, 1) := by decide +kernel
theorem dX4_firstInPlan_17 : decode cX4_firstInPlan 17 = .ok (.getfield 12, 3) := by decide +kernel
theorem dX4_firstInPlan_20 : decode cX4_firstInPlan 20 = .ok (.getfield 102, 3) := by decide +kernel
theorem dX4_firstInPlan_23 : decode cX4_firstInPlan 23 = .ok (.iload_n 1, 1) := by decide +kernel
theorem dX4_firstInPlan_24 : decode cX4_firstInPlan 24 = .ok (.iaload, 1) := by decide +kernel
theorem dX4_firstInPlan_25 : decode cX4_firstInPlan 25 = .ok (.ireturn, 1) := by decide +kernel
theorem dX5_init_0 : decode cX5_init 0 = .ok (.aload_n 0, 1) := by decide +kernel
theorem dX5_init_1 : decode cX5_init 1 = .ok (.invokespecial 1, 3) := by decide +kernel
theorem dX5_init_4 : decode cX5_init 4 = .ok (.aload_n 0, 1) := by decide +kernel
theorem dX5_init_5 : decode cX5_init 5 = .ok (.aload_n 1, 1) := by decide +kernel
theorem dX5_init_6 : decode cX5_init 6 = .ok (.putfield 7, 3) := by decide +kernel
theorem dX5_init_9 : decode cX5_init 9 = .ok (.return_, 1) := by decide +kernel
theorem dX5_follow_0 : decode cX5_follow 0 = .ok (.aload_n 0, 1) := by decide +kernel
theorem dX5_follow_1 : decode cX5_follow 1 = .ok (.iconst 0, 1) := by decide +kernel
theorem dX5_follow_2 : decode cX5_follow 2 = .ok (.putfield 13, 3) := by decide +kernel
theorem dX5_follow_5 : decode cX5_follow 5 = .ok (.aload_n 0, 1) := by decide +kernel
theorem dX5_follow_6 : decode cX5_follow 6 = .ok (.iconst (-1), 1) := by decide +kernel
theorem dX5_follow_7 : decode cX5_follow 7 = .ok (.putfield 17, 3) := by decide +kernel
theorem dX5_follow_10 : decode cX5_follow 10 = .ok (.aload_n 0, 1) := by decide +kernel
theorem dX5_follow_11 : decode cX5_follow 11 = .ok (.iconst (-1), 1) := by decide +kernel
theorem dX5_follow_12 : decode cX5_follow 12 = .ok (.putfield 20, 3) := by decide +kernel
theorem dX5_follow_15 : decode cX5_follow 15 = .ok (.aload_n 0, 1) := by decide +kernel
theorem dX5_follow_16 : decode cX5_follow 16 = .ok (.iconst 0, 1) := by decide +kernel
theorem dX5_follow_17 : decode cX5_follow 17 = .ok (.putfield 23, 3) := by decide +kernel
theorem dX5_follow_20 : decode cX5_follow 20 = .ok (.aload_n 0, 1) := by decide +kernel
theorem dX5_follow_21 : decode cX5_follow 21 = .ok (.iconst (-1), 1) := by decide +kernel
theorem dX5_follow_22 : decode cX5_follow 22 = .ok (.iconst (-1), 1) := by decide +kernel
theorem dX5_follow_23 : decode cX5_follow 23 = .ok (.invokevirtual 26, 3) := by decide +kernel
theorem dX5_follow_26 : decode cX5_follow 26 = .ok (.iconst 0, 1) := by decide +kernel
theorem dX5_follow_27 : decode cX5_follow 27 = .ok (.istore_n 2, 1) := by decide +kernel
theorem dX5_follow_28 : decode cX5_follow 28 = .ok (.iload_n 2, 1) := by decide +kernel
theorem dX5_follow_29 : decode cX5_follow 29 = .ok (.iload_n 1, 1) := by decide +kernel
theorem dX5_follow_30 : decode cX5_follow 30 = .ok (.if_icmp .ge 20, 3) := by decide +kernel
theorem dX5_follow_33 : decode cX5_follow 33 = .ok (.aload_n 0, 1) := by decide +kernel
theorem dX5_follow_34 : decode cX5_follow 34 = .ok (.getfield 30, 3) := by decide +kernel
theorem dX5_follow_37 : decode cX5_follow 37 = .ok (.ifCond .eq 13, 3) := by decide +kernel
theorem dX5_follow_40 : decode cX5_follow 40 = .ok (.aload_n 0, 1) := by decide +kernel
theorem dX5_follow_41 : decode cX5_follow 41 = .ok (.invokevirtual 33, 3) := by decide +kernel
theorem dX5_follow_44 : decode cX5_follow 44 = .ok (.iinc 2 1, 3) := by decide +kernel
theorem dX5_follow_47 : decode cX5_follow 47 = .ok (.goto (-19), 3) := by decide +kernel
theorem dX5_follow_50 : decode cX5_follow 50 = .ok (.iload_n 2, 1) := by decide +kernel
theorem dX5_follow_51 : decode cX5_follow 51 = .ok (.ireturn, 1) := by decide +kernel
theorem dX5_goOn_0 : decode cX5_goOn 0 = .ok (.aload_n 0, 1) := by decide +kernel
theorem dX5_goOn_1 : decode cX5_goOn 1 = .ok (.getfield 30, 3) := by decide +kernel
theorem dX5_goOn_4 : decode cX5_goOn 4 = .ok (.iconst 1, 1) := by decide +kernel
theorem dX5_goOn_5 : decode cX5_goOn 5 = .ok (.if_icmp .ne 10, 3) := by decide +kernel
theorem dX5_goOn_8 : decode cX5_goOn 8 = .ok (.aload_n 0, 1) := by decide +kernel
theorem dX5_goOn_9 : decode cX5_goOn 9 = .ok (.getfield 13, 3) := by decide +kernel
theorem dX5_goOn_12 : decode cX5_goOn 12 = .ok (.goto 7, 3) := by decide +kernel
theorem dX5_goOn_15 : decode cX5_goOn 15 = .ok (.aload_n 0, 1) := by decide +kernel
theorem dX5_goOn_16 : decode cX5_goOn 16 = .ok (.getfield 20, 3) := by decide +kernel
theorem dX5_goOn_19 : decode cX5_goOn 19 = .ok (.istore_n 1, 1) := by decide +kernel
theorem dX5_goOn_20 : decode cX5_goOn 20 = .ok (.aload_n 0, 1) := by decide +kernel
theorem dX5_goOn_21 : decode cX5_goOn 21 = .ok (.getfield 30, 3) := by decide +kernel
theorem dX5_goOn_24 : decode cX5_goOn 24 = .ok (.iconst 1, 1) := by decide +kernel
theorem dX5_goOn_25 : decode cX5_goOn 25 = .ok (.if_icmp .ne 10, 3) := by decide +kernel
theorem dX5_goOn_28 : decode cX5_goOn 28 = .ok (.aload_n 0, 1) := by decide +kernel
theorem dX5_goOn_29 : decode cX5_goOn 29 = .ok (.getfield 17, 3) := by decide +kernel
theorem dX5_goOn_32 : decode cX5_goOn 32 = .ok (.goto 7, 3) := by decide +kernel
theorem dX5_goOn_35 : decode cX5_goOn 35 = .ok (.aload_n 0, 1) := by decide +kernel
theorem dX5_goOn_36 : decode cX5_goOn 36 = .ok (.getfield 23, 3) := by decide +kernel
theorem dX5_goOn_39 : decode cX5_goOn 39 = .ok (.istore_n 2, 1) := by decide +kernel
theorem dX5_goOn_40 : decode cX5_goOn 40 = .ok (.aload_n 0, 1) := by decide +kernel
theorem dX5_goOn_41 : decode cX5_goOn 41 = .ok (.getfield 30, 3) := by decide +kernel
theorem dX5_goOn_44 : decode cX5_goOn 44 = .ok (.iconst 1, 1) := by decide +kernel
theorem dX5_goOn_45 : decode cX5_goOn 45 = .ok (.if_icmp .ne 22, 3) := by decide +kernel
theorem dX5_goOn_48 : decode cX5_goOn 48 = .ok (.aload_n 0, 1) := by decide +kernel
theorem dX5_goOn_49 : decode cX5_goOn 49 = .ok (.aload_n 0, 1) := by decide +kernel
theorem dX5_goOn_50 : decode cX5_goOn 50 = .ok (.getfield 36, 3) := by decide +kernel
theorem dX5_goOn_53 : decode cX5_goOn 53 = .ok (.putfield 13, 3) := by decide +kernel
theorem dX5_goOn_56 : decode cX5_goOn 56 = .ok (.aload_n 0, 1) := by decide +kernel
theorem dX5_goOn_57 : decode cX5_goOn 57 = .ok (.aload_n 0, 1) := by decide +kernel
theorem dX5_goOn_58 : decode cX5_goOn 58 = .ok (.getfield 39, 3) := by decide +kernel
theorem dX5_goOn_61 : decode cX5_goOn 61 = .ok (.putfield 17, 3) := by decide +kernel
theorem dX5_goOn_64 : decode cX5_goOn 64 = .ok (.goto 19, 3) := by decide +kernel
theorem dX5_goOn_67 : decode cX5_goOn 67 = .ok (.aload_n 0, 1) := by decide +kernel
theorem dX5_goOn_68 : decode cX5_goOn 68 = .ok (.aload_n 0, 1) := by decide +kernel
theorem dX5_goOn_69 : decode cX5_goOn 69 = .ok (.getfield 36, 3) := by decide +kernel
theorem dX5_goOn_72 : decode cX5_goOn 72 = .ok (.putfield 20, 3) := by decide +kernel
theorem dX5_goOn_75 : decode cX5_goOn 75 = .ok (.aload_n 0, 1) := by decide +kernel
theorem dX5_goOn_76 : decode cX5_goOn 76 = .ok (.aload_n 0, 1) := by decide +kernel
theorem dX5_goOn_77 : decode cX5_goOn 77 = .ok (.getfield 39, 3) := by decide +kernel
theorem dX5_goOn_80 : decode cX5_goOn 80 = .ok (.putfield 23, 3) := by decide +kernel
theorem dX5_goOn_83 : decode cX5_goOn 83 = .ok (.aload_n 0, 1) := by decide +kernel
theorem dX5_goOn_84 : decode cX5_goOn 84 = .ok (.iload_n 1, 1) := by decide +kernel
theorem dX5_goOn_85 : decode cX5_goOn 85 = .ok (.iload_n 2, 1) := by decide +kernel
theorem dX5_goOn_86 : decode cX5_goOn 86 = .ok (.invokevirtual 26, 3) := by decide +kernel
theorem dX5_goOn_89 : decode cX5_goOn 89 = .ok (.return_, 1) := by decide +kernel
theorem dX5_lookBeyond_0 : decode cX5_lookBeyond 0 = .ok (.aload_n 0, 1) := by decide +kernel
theorem dX5_lookBeyond_1 : decode cX5_lookBeyond 1 = .ok (.aload_n 0, 1) := by decide +kernel
theorem dX5_lookBeyond_2 : decode cX5_lookBeyond 2 = .ok (.getfield 13, 3) := by decide +kernel
theorem dX5_lookBeyond_5 : decode cX5_lookBeyond 5 = .ok (.aload_n 0, 1) := by decide +kernel
theorem dX5_lookBeyond_6 : decode cX5_lookBeyond 6 = .ok (.getfield 20, 3) := by decide +kernel
theorem dX5_lookBeyond_9 : decode cX5_lookBeyond 9 = .ok (.iadd, 1) := by decide +kernel
theorem dX5_lookBeyond_10 : decode cX5_lookBeyond 10 = .ok (.iload_n 1, 1) := by decide +kernel
theorem dX5_lookBeyond_11 : decode cX5_lookBeyond 11 = .ok (.isub, 1) := by decide +kernel
theorem dX5_lookBeyond_12 : decode cX5_lookBeyond 12 = .ok (.putfield 36, 3) := by decide +kernel
theorem dX5_lookBeyond_15 : decode cX5_lookBeyond 15 = .ok (.aload_n 0, 1) := by decide +kernel
theorem dX5_lookBeyond_16 : decode cX5_lookBeyond 16 = .ok (.aload_n 0, 1) := by decide +kernel
theorem dX5_lookBeyond_17 : decode cX5_lookBeyond 17 = .ok (.getfield 17, 3) := by decide +kernel
theorem dX5_lookBeyond_20 : decode cX5_lookBeyond 20 = .ok (.aload_n 0, 1) := by decide +kernel
theorem dX5_lookBeyond_21 : decode cX5_lookBeyond 21 = .ok (.getfield 23, 3) := by decide +kernel
theorem dX5_lookBeyond_24 : decode cX5_lookBeyond 24 = .ok (.iadd, 1) := by decide +kernel
theorem dX5_lookBeyond_25 : decode cX5_lookBeyond 25 = .ok (.iload_n 2, 1) := by decide +kernel
theorem dX5_lookBeyond_26 : decode cX5_lookBeyond 26 = .ok (.isub, 1) := by decide +kernel
theorem dX5_lookBeyond_27 : decode cX5_lookBeyond 27 = .ok (.putfield 39, 3) := by decide +kernel
theorem dX5_lookBeyond_30 : decode cX5_lookBeyond 30 = .ok (.aload_n 0, 1) := by decide +kernel
theorem dX5_lookBeyond_31 : decode cX5_lookBeyond 31 = .ok (.aload_n 0, 1) := by decide +kernel
theorem dX5_lookBeyond_32 : decode cX5_lookBeyond 32 = .ok (.getfield 7, 3) := by decide +kernel
theorem dX5_lookBeyond_35 : decode cX5_lookBeyond 35 = .ok (.aload_n 0, 1) := by decide +kernel
theorem dX5_lookBeyond_36 : decode cX5_lookBeyond 36 = .ok (.getfield 36, 3) := by decide +kernel
theorem dX5_lookBeyond_39 : decode cX5_lookBeyond 39 = .ok (.aload_n 0, 1) := by decide +kernel
theorem dX5_lookBeyond_40 : decode cX5_lookBeyond 40 = .ok (.getfield 39, 3) := by decide +kernel
theorem dX5_lookBeyond_43 : decode cX5_lookBeyond 43 = .ok (.invokevirtual 42, 3) := by decide +kernel
theorem dX5_lookBeyond_46 : decode cX5_lookBeyond 46 = .ok (.putfield 30, 3) := by decide +kernel
theorem dX5_lookBeyond_49 : decode cX5_lookBeyond 49 = .ok (.return_, 1) := by decide +kernel
theorem dX6_init_0 : decode cX6_init 0 = .ok (.aload_n 0, 1) := by decide +kernel
theorem dX6_init_1 : decode cX6_init 1 = .ok (.invokespecial 3, 3) := by decide +kernel
theorem dX6_init_4 : decode cX6_init 4 = .ok (.iconst 1, 1) := by decide +kernel
theorem dX6_init_5 : decode cX6_init 5 = .ok (.bipush 11, 2) := by decide +kernel
theorem dX6_init_7 : decode cX6_init 7 = .ok (.iload_n 1, 1) := by decide +kernel
theorem dX6_init_8 : decode cX6_init 8 = .ok (.invokestatic 9, 3) := by decide +kernel
theorem dX6_init_11 : decode cX6_init 11 = .ok (.invokestatic 15, 3) := by decide +kernel
theorem dX6_init_14 : decode cX6_init 14 = .ok (.istore_n 2, 1) := by decide +kernel
theorem dX6_init_15 : decode cX6_init 15 = .ok (.aload_n 0, 1) := by decide +kernel
theorem dX6_init_16 : decode cX6_init 16 = .ok (.new 18, 3) := by decide +kernel
theorem dX6_init_19 : decode cX6_init 19 = .ok (.dup, 1) := by decide +kernel
theorem dX6_init_20 : decode cX6_init 20 = .ok (.iload_n 2, 1) := by decide +kernel
theorem dX6_init_21 : decode cX6_init 21 = .ok (.invokespecial 20, 3) := by decide +kernel
theorem dX6_init_24 : decode cX6_init 24 = .ok (.putfield 23, 3) := by decide +kernel
theorem dX6_init_27 : decode cX6_init 27 = .ok (.aload_n 0, 1) := by decide +kernel
theorem dX6_init_28 : decode cX6_init 28 = .ok (.new 18, 3) := by decide +kernel
theorem dX6_init_31 : decode cX6_init 31 = .ok (.dup, 1) := by decide +kernel
theorem dX6_init_32 : decode cX6_init 32 = .ok (.iload_n 2, 1) := by decide +kernel
theorem dX6_init_33 : decode cX6_init 33 = .ok (.invokespecial 20, 3) := by decide +kernel
theorem dX6_init_36 : decode cX6_init 36 = .ok (.putfield 27, 3) := by decide +kernel
theorem dX6_init_39 : decode cX6_init 39 = .ok (.aload_n 0, 1) := by decide +kernel
theorem dX6_init_40 : decode cX6_init 40 = .ok (.new 30, 3) := by decide +kernel
theorem dX6_init_43 : decode cX6_init 43 = .ok (.dup, 1) := by decide +kernel
theorem dX6_init_44 : decode cX6_init 44 = .ok (.aload_n 0, 1) := by decide +kernel
theorem dX6_init_45 : decode cX6_init 45 = .ok (.getfield 23, 3) := by decide +kernel
theorem dX6_init_48 : decode cX6_init 48 = .ok (.invokespecial 32, 3) := by decide +kernel
theorem dX6_init_51 : decode cX6_init 51 = .ok (.putfield 35, 3) := by decide +kernel
theorem dX6_init_54 : decode cX6_init 54 = .ok (.aload_n 0, 1) := by decide +kernel
theorem dX6_init_55 : decode cX6_init 55 = .ok (.new 39, 3) := by decide +kernel
theorem dX6_init_58 : decode cX6_init 58 = .ok (.dup, 1) := by decide +kernel
theorem dX6_init_59 : decode cX6_init 59 = .ok (.aload_n 0, 1) := by decide +kernel
theorem dX6_init_60 : decode cX6_init 60 = .ok (.getfield 27, 3) := by decide +kernel
theorem dX6_init_63 : decode cX6_init 63 = .ok (.invokespecial 41, 3) := by decide +kernel
theorem dX6_init_66 : decode cX6_init 66 = .ok (.putfield 42, 3) := by decide +kernel
theorem dX6_init_69 : decode cX6_init 69 = .ok (.aload_n 0, 1) := by decide +kernel
theorem dX6_init_70 : decode cX6_init 70 = .ok (.new 46, 3) := by decide +kernel
theorem dX6_init_73 : decode cX6_init 73 = .ok (.dup, 1) := by decide +kernel
theorem dX6_init_74 : decode cX6_init 74 = .ok (.invokespecial 48, 3) := by decide +kernel
theorem dX6_init_77 : decode cX6_init 77 = .ok (.putfield 49, 3) := by decide +kernel
theorem dX6_init_80 : decode cX6_init 80 = .ok (.aload_n 0, 1) := by decide +kernel
theorem dX6_init_81 : decode cX6_init 81 = .ok (.new 53, 3) := by decide +kernel
theorem dX6_init_84 : decode cX6_init 84 = .ok (.dup, 1) := by decide +kernel
theorem dX6_init_85 : decode cX6_init 85 = .ok (.aload_n 0, 1) := by decide +kernel
theorem dX6_init_86 : decode cX6_init 86 = .ok (.getfield 27, 3) := by decide +kernel
theorem dX6_init_89 : decode cX6_init 89 = .ok (.aload_n 0, 1) := by decide +kernel
theorem dX6_init_90 : decode cX6_init 90 = .ok (.getfield 49, 3) := by decide +kernel
theorem dX6_init_93 : decode cX6_init 93 = .ok (.invokespecial 55, 3) := by decide +kernel
theorem dX6_init_96 : decode cX6_init 96 = .ok (.putfield 58, 3) := by decide +kernel
theorem dX6_init_99 : decode cX6_init 99 = .ok (.aload_n 0, 1) := by decide +kernel
theorem dX6_init_100 : decode cX6_init 100 = .ok (.iload_n 2, 1) := by decide +kernel
theorem dX6_init_101 : decode cX6_init 101 = .ok (.iload_n 2, 1) := by decide +kernel
theorem dX6_init_102 : decode cX6_init 102 = .ok (.imul, 1) := by decide +kernel
theorem dX6_init_103 : decode cX6_init 103 = .ok (.newarray .int, 2) := by decide +kernel
theorem dX6_init_105 : decode cX6_init 105 = .ok (.putfield 62, 3) := by decide +kernel
theorem dX6_init_108 : decode cX6_init 108 = .ok (.aload_n 0, 1) := by decide +kernel
theorem dX6_init_109 : decode cX6_init 109 = .ok (.iconst 0, 1) := by decide +kernel
theorem dX6_init_110 : decode cX6_init 110 = .ok (.putfield 66, 3) := by decide +kernel
theorem dX6_init_113 : decode cX6_init 113 = .ok (.aload_n 0, 1) := by decide +kernel
theorem dX6_init_114 : decode cX6_init 114 = .ok (.iconst 1, 1) := by decide +kernel
theorem dX6_init_115 : decode cX6_init 115 = .ok (.putfield 70, 3) := by decide +kernel
theorem dX6_init_118 : decode cX6_init 118 = .ok (.return_, 1) := by decide +kernel
theorem dX6_set_0 : decode cX6_set 0 = .ok (.aload_n 0, 1) := by decide +kernel
theorem dX6_set_1 : decode cX6_set 1 = .ok (.getfield 23, 3) := by decide +kernel
theorem dX6_set_4 : decode cX6_set 4 = .ok (.iload_n 1, 1) := by decide +kernel
theorem dX6_set_5 : decode cX6_set 5 = .ok (.iload_n 2, 1) := by decide +kernel
theorem dX6_set_6 : decode cX6_set 6 = .ok (.invokevirtual 73, 3) := by decide +kernel
theorem dX6_set_9 : decode cX6_set 9 = .ok (.istore 4, 2) := by decide +kernel
theorem dX6_set_11 : decode cX6_set 11 = .ok (.iload 4, 2) := by decide +kernel
theorem dX6_set_13 : decode cX6_set 13 = .ok (.iconst (-1), 1) := by decide +kernel
theorem dX6_set_14 : decode cX6_set 14 = .ok (.if_icmp .eq 12, 3) := by decide +kernel
theorem dX6_set_17 : decode cX6_set 17 = .ok (.iload_n 3, 1) := by decide +kernel
theorem dX6_set_18 : decode cX6_set 18 = .ok (.ifCond .lt 8, 3) := by decide +kernel
theorem dX6_set_21 : decode cX6_set 21 = .ok (.iload_n 3, 1) := by decide +kernel
theorem dX6_set_22 : decode cX6_set 22 = .ok (.iconst 2, 1) := by decide +kernel
theorem dX6_set_23 : decode cX6_set 23 = .ok (.if_icmp .le 5, 3) := by decide +kernel
theorem dX6_set_26 : decode cX6_set 26 = .ok (.iconst 0, 1) := by decide +kernel
theorem dX6_set_27 : decode cX6_set 27 = .ok (.ireturn, 1) := by decide +kernel
theorem dX6_set_28 : decode cX6_set 28 = .ok (.aload_n 0, 1) := by decide +kernel
theorem dX6_set_29 : decode cX6_set 29 = .ok (.getfield 23, 3) := by decide +kernel
theorem dX6_set_32 : decode cX6_set 32 = .ok (.iload 4, 2) := by decide +kernel
theorem dX6_set_34 : decode cX6_set 34 = .ok (.iload_n 3, 1) := by decide +kernel
theorem dX6_set_35 : decode cX6_set 35 = .ok (.invokevirtual 76, 3) := by decide +kernel
theorem dX6_set_38 : decode cX6_set 38 = .ok (.aload_n 0, 1) := by decide +kernel
theorem dX6_set_39 : decode cX6_set 39 = .ok (.iconst 0, 1) := by decide +kernel
theorem dX6_set_40 : decode cX6_set 40 = .ok (.putfield 66, 3) := by decide +kernel
theorem dX6_set_43 : decode cX6_set 43 = .ok (.iconst 1, 1) := by decide +kernel
theorem dX6_set_44 : decode cX6_set 44 = .ok (.ireturn, 1) := by decide +kernel
theorem dX6_turn_0 : decode cX6_turn 0 = .ok (.iload_n 1, 1) := by decide +kernel
theorem dX6_turn_1 : decode cX6_turn 1 = .ok (.invokestatic 80, 3) := by decide +kernel
theorem dX6_turn_4 : decode cX6_turn 4 = .ok (.ifCond .ne 5, 3) := by decide +kernel
theorem dX6_turn_7 : decode cX6_turn 7 = .ok (.iconst 0, 1) := by decide +kernel
theorem dX6_turn_8 : decode cX6_turn 8 = .ok (.ireturn, 1) := by decide +kernel
theorem dX6_turn_9 : decode cX6_turn 9 = .ok (.aload_n 0, 1) := by decide +kernel
theorem dX6_turn_10 : decode cX6_turn 10 = .ok (.iload_n 1, 1) := by decide +kernel
theorem dX6_turn_11 : decode cX6_turn 11 = .ok (.putfield 70, 3) := by decide +kernel
theorem dX6_turn_14 : decode cX6_turn 14 = .ok (.aload_n 0, 1) := by decide +kernel
theorem dX6_turn_15 : decode cX6_turn 15 = .ok (.iconst 0, 1) := by decide +kernel
theorem dX6_turn_16 : decode cX6_turn 16 = .ok (.putfield 66, 3) := by decide +kernel
theorem dX6_turn_19 : decode cX6_turn 19 = .ok (.iconst 1, 1) := by decide +kernel
theorem dX6_turn_20 : decode cX6_turn 20 = .ok (.ireturn, 1) := by decide +kernel
theorem dX6_play_0 : decode cX6_play 0 = .ok (.aload_n 0, 1) := by decide +kernel
theorem dX6_play_1 : decode cX6_play 1 = .ok (.getfield 23, 3) := by decide +kernel
theorem dX6_play_4 : decode cX6_play 4 = .ok (.iload_n 1, 1) := by decide +kernel
theorem dX6_play_5 : decode cX6_play 5 = .ok (.iload_n 2, 1) := by decide +kernel
theorem dX6_play_6 : decode cX6_play 6 = .ok (.invokevirtual 73, 3) := by decide +kernel
theorem dX6_play_9 : decode cX6_play 9 = .ok (.istore_n 3, 1) := by decide +kernel
theorem dX6_play_10 : decode cX6_play 10 = .ok (.aload_n 0, 1) := by decide +kernel
theorem dX6_play_11 : decode cX6_play 11 = .ok (.getfield 23, 3) := by decide +kernel
theorem dX6_play_14 : decode cX6_play 14 = .ok (.iload_n 3, 1) := by decide +kernel
theorem dX6_play_15 : decode cX6_play 15 = .ok (.invokevirtual 84, 3) := by decide +kernel
theorem dX6_play_18 : decode cX6_play 18 = .ok (.ifCond .eq 25, 3) := by decide +kernel
theorem dX6_play_21 : decode cX6_play 21 = .ok (.aload_n 0, 1) := by decide +kernel
theorem dX6_play_22 : decode cX6_play 22 = .ok (.getfield 23, 3) := by decide +kernel
theorem dX6_play_25 : decode cX6_play 25 = .ok (.invokevirtual 87, 3) := by decide +kernel
theorem dX6_play_28 : decode cX6_play 28 = .ok (.ifCond .ne 15, 3) := by decide +kernel
theorem dX6_play_31 : decode cX6_play 31 = .ok (.aload_n 0, 1) := by decide +kernel
theorem dX6_play_32 : decode cX6_play 32 = .ok (.getfield 66, 3) := by decide +kernel
theorem dX6_play_35 : decode cX6_play 35 = .ok (.aload_n 0, 1) := by decide +kernel
theorem dX6_play_36 : decode cX6_play 36 = .ok (.getfield 62, 3) := by decide +kernel
theorem dX6_play_39 : decode cX6_play 39 = .ok (.arraylength, 1) := by decide +kernel
theorem dX6_play_40 : decode cX6_play 40 = .ok (.if_icmp .lt 5, 3) := by decide +kernel
theorem dX6_play_43 : decode cX6_play 43 = .ok (.iconst 0, 1) := by decide +kernel
theorem dX6_play_44 : decode cX6_play 44 = .ok (.ireturn, 1) := by decide +kernel
theorem dX6_play_45 : decode cX6_play 45 = .ok (.aload_n 0, 1) := by decide +kernel
theorem dX6_play_46 : decode cX6_play 46 = .ok (.getfield 23, 3) := by decide +kernel
theorem dX6_play_49 : decode cX6_play 49 = .ok (.iload_n 3, 1) := by decide +kernel
theorem dX6_play_50 : decode cX6_play 50 = .ok (.aload_n 0, 1) := by decide +kernel
theorem dX6_play_51 : decode cX6_play 51 = .ok (.getfield 70, 3) := by decide +kernel
theorem dX6_play_54 : decode cX6_play 54 = .ok (.invokevirtual 76, 3) := by decide +kernel
theorem dX6_play_57 : decode cX6_play 57 = .ok (.aload_n 0, 1) := by decide +kernel
theorem dX6_play_58 : decode cX6_play 58 = .ok (.getfield 62, 3) := by decide +kernel
theorem dX6_play_61 : decode cX6_play 61 = .ok (.aload_n 0, 1) := by decide +kernel
theorem dX6_play_62 : decode cX6_play 62 = .ok (.getfield 66, 3) := by decide +kernel
theorem dX6_play_65 : decode cX6_play 65 = .ok (.iload_n 3, 1) := by decide +kernel
theorem dX6_play_66 : decode cX6_play 66 = .ok (.iastore, 1) := by decide +kernel
theorem dX6_play_67 : decode cX6_play 67 = .ok (.aload_n 0, 1) := by decide +kernel
theorem dX6_play_68 : decode cX6_play 68 = .ok (.dup, 1) := by decide +kernel
theorem dX6_play_69 : decode cX6_play 69 = .ok (.getfield 66, 3) := by decide +kernel
theorem dX6_play_72 : decode cX6_play 72 = .ok (.iconst 1, 1) := by decide +kernel
theorem dX6_play_73 : decode cX6_play 73 = .ok (.iadd, 1) := by decide +kernel
theorem dX6_play_74 : decode cX6_play 74 = .ok (.putfield 66, 3) := by decide +kernel
theorem dX6_play_77 : decode cX6_play 77 = .ok (.aload_n 0, 1) := by decide +kernel
theorem dX6_play_78 : decode cX6_play 78 = .ok (.aload_n 0, 1) := by decide +kernel
theorem dX6_play_79 : decode cX6_play 79 = .ok (.getfield 70, 3) := by decide +kernel
theorem dX6_play_82 : decode cX6_play 82 = .ok (.invokestatic 91, 3) := by decide +kernel
theorem dX6_play_85 : decode cX6_play 85 = .ok (.putfield 70, 3) := by decide +kernel
theorem dX6_play_88 : decode cX6_play 88 = .ok (.iconst 1, 1) := by decide +kernel
theorem dX6_play_89 : decode cX6_play 89 = .ok (.ireturn, 1) := by decide +kernel
theorem dX6_undo_0 : decode cX6_undo 0 = .ok (.aload_n 0, 1) := by decide +kernel
theorem dX6_undo_1 : decode cX6_undo 1 = .ok (.getfield 66, 3) := by decide +kernel
theorem dX6_undo_4 : decode cX6_undo 4 = .ok (.ifCond .gt 5, 3) := by decide +kernel
theorem dX6_undo_7 : decode cX6_undo 7 = .ok (.iconst (-1), 1) := by decide +kernel
theorem dX6_undo_8 : decode cX6_undo 8 = .ok (.ireturn, 1) := by decide +kernel
theorem dX6_undo_9 : decode cX6_undo 9 = .ok (.aload_n 0, 1) := by decide +kernel
theorem dX6_undo_10 : decode cX6_undo 10 = .ok (.dup, 1) := by decide +kernel
theorem dX6_undo_11 : decode cX6_undo 11 = .ok (.getfield 66, 3) := by decide +kernel
theorem dX6_undo_14 : decode cX6_undo 14 = .ok (.iconst 1, 1) := by decide +kernel
theorem dX6_undo_15 : decode cX6_undo 15 = .ok (.isub, 1) := by decide +kernel
theorem dX6_undo_16 : decode cX6_undo 16 = .ok (.putfield 66, 3) := by decide +kernel
theorem dX6_undo_19 : decode cX6_undo 19 = .ok (.aload_n 0, 1) := by decide +kernel
theorem dX6_undo_20 : decode cX6_undo 20 = .ok (.getfield 62, 3) := by decide +kernel
theorem dX6_undo_23 : decode cX6_undo 23 = .ok (.aload_n 0, 1) := by decide +kernel
theorem dX6_undo_24 : decode cX6_undo 24 = .ok (.getfield 66, 3) := by decide +kernel
theorem dX6_undo_27 : decode cX6_undo 27 = .ok (.iaload, 1) := by decide +kernel
theorem dX6_undo_28 : decode cX6_undo 28 = .ok (.istore_n 1, 1) := by decide +kernel
theorem dX6_undo_29 : decode cX6_undo 29 = .ok (.aload_n 0, 1) := by decide +kernel
theorem dX6_undo_30 : decode cX6_undo 30 = .ok (.getfield 23, 3) := by decide +kernel
theorem dX6_undo_33 : decode cX6_undo 33 = .ok (.iload_n 1, 1) := by decide +kernel
theorem dX6_undo_34 : decode cX6_undo 34 = .ok (.iconst 0, 1) := by decide +kernel
theorem dX6_undo_35 : decode cX6_undo 35 = .ok (.invokevirtual 76, 3) := by decide +kernel
theorem dX6_undo_38 : decode cX6_undo 38 = .ok (.aload_n 0, 1) := by decide +kernel
theorem dX6_undo_39 : decode cX6_undo 39 = .ok (.aload_n 0, 1) := by decide +kernel
theorem dX6_undo_40 : decode cX6_undo 40 = .ok (.getfield 70, 3) := by decide +kernel
theorem dX6_undo_43 : decode cX6_undo 43 = .ok (.invokestatic 91, 3) := by decide +kernel
theorem dX6_undo_46 : decode cX6_undo 46 = .ok (.putfield 70, 3) := by decide +kernel
theorem dX6_undo_49 : decode cX6_undo 49 = .ok (.iload_n 1, 1) := by decide +kernel
theorem dX6_undo_50 : decode cX6_undo 50 = .ok (.ireturn, 1) := by decide +kernel
theorem dX6_cell_0 : decode cX6_cell 0 = .ok (.aload_n 0, 1) := by decide +kernel
theorem dX6_cell_1 : decode cX6_cell 1 = .ok (.getfield 23, 3) := by decide +kernel
theorem dX6_cell_4 : decode cX6_cell 4 = .ok (.iload_n 1, 1) := by decide +kernel
theorem dX6_cell_5 : decode cX6_cell 5 = .ok (.iload_n 2, 1) := by decide +kernel
theorem dX6_cell_6 : decode cX6_cell 6 = .ok (.invokevirtual 73, 3) := by decide +kernel
theorem dX6_cell_9 : decode cX6_cell 9 = .ok (.istore_n 3, 1) := by decide +kernel
theorem dX6_cell_10 : decode cX6_cell 10 = .ok (.iload_n 3, 1) := by decide +kernel
theorem dX6_cell_11 : decode cX6_cell 11 = .ok (.iconst (-1), 1) := by decide +kernel
theorem dX6_cell_12 : decode cX6_cell 12 = .ok (.if_icmp .ne 7, 3) := by decide +kernel
theorem dX6_cell_15 : decode cX6_cell 15 = .ok (.iconst (-1), 1) := by decide +kernel
theorem dX6_cell_16 : decode cX6_cell 16 = .ok (.goto 11, 3) := by decide +kernel
theorem dX6_cell_19 : decode cX6_cell 19 = .ok (.aload_n 0, 1) := by decide +kernel
theorem dX6_cell_20 : decode cX6_cell 20 = .ok (.getfield 23, 3) := by decide +kernel
theorem dX6_cell_23 : decode cX6_cell 23 = .ok (.iload_n 3, 1) := by decide +kernel
theorem dX6_cell_24 : decode cX6_cell 24 = .ok (.invokevirtual 95, 3) := by decide +kernel
theorem dX6_cell_27 : decode cX6_cell 27 = .ok (.ireturn, 1) := by decide +kernel
theorem dX6_chain_0 : decode cX6_chain 0 = .ok (.aload_n 0, 1) := by decide +kernel
theorem dX6_chain_1 : decode cX6_chain 1 = .ok (.getfield 23, 3) := by decide +kernel
theorem dX6_chain_4 : decode cX6_chain 4 = .ok (.aload_n 0, 1) := by decide +kernel
theorem dX6_chain_5 : decode cX6_chain 5 = .ok (.getfield 23, 3) := by decide +kernel
theorem dX6_chain_8 : decode cX6_chain 8 = .ok (.iload_n 1, 1) := by decide +kernel
theorem dX6_chain_9 : decode cX6_chain 9 = .ok (.iload_n 2, 1) := by decide +kernel
theorem dX6_chain_10 : decode cX6_chain 10 = .ok (.invokevirtual 73, 3) := by decide +kernel
theorem dX6_chain_13 : decode cX6_chain 13 = .ok (.invokevirtual 98, 3) := by decide +kernel
theorem dX6_chain_16 : decode cX6_chain 16 = .ok (.ireturn, 1) := by decide +kernel
theorem dX6_about_0 : decode cX6_about 0 = .ok (.iload_n 1, 1) := by decide +kernel
theorem dX6_about_1 : decode cX6_about 1 = .ok (.tableswitch 123 0 8 #[51, 59, 64, 69, 77, 85, 93, 104, 115], 51) := by decide +kernel
theorem dX6_about_52 : decode cX6_about 52 = .ok (.aload_n 0, 1) := by decide +kernel
theorem dX6_about_53 : decode cX6_about 53 = .ok (.getfield 23, 3) := by decide +kernel
theorem dX6_about_56 : decode cX6_about 56 = .ok (.getfield 101, 3) := by decide +kernel
theorem dX6_about_59 : decode cX6_about 59 = .ok (.ireturn, 1) := by decide +kernel
theorem dX6_about_60 : decode cX6_about 60 = .ok (.aload_n 0, 1) := by decide +kernel
theorem dX6_about_61 : decode cX6_about 61 = .ok (.getfield 70, 3) := by decide +kernel
theorem dX6_about_64 : decode cX6_about 64 = .ok (.ireturn, 1) := by decide +kernel
theorem dX6_about_65 : decode cX6_about 65 = .ok (.aload_n 0, 1) := by decide +kernel
theorem dX6_about_66 : decode cX6_about 66 = .ok (.getfield 66, 3) := by decide +kernel
theorem dX6_about_69 : decode cX6_about 69 = .ok (.ireturn, 1) := by decide +kernel
theorem dX6_about_70 : decode cX6_about 70 = .ok (.aload_n 0, 1) := by decide +kernel
theorem dX6_about_71 : decode cX6_about 71 = .ok (.getfield 23, 3) := by decide +kernel
theorem dX6_about_74 : decode cX6_about 74 = .ok (.invokevirtual 87, 3) := by decide +kernel
theorem dX6_about_77 : decode cX6_about 77 = .ok (.ireturn, 1) := by decide +kernel
theorem dX6_about_78 : decode cX6_about 78 = .ok (.aload_n 0, 1) := by decide +kernel
theorem dX6_about_79 : decode cX6_about 79 = .ok (.getfield 23, 3) := by decide +kernel
theorem dX6_about_82 : decode cX6_about 82 = .ok (.invokevirtual 104, 3) := by decide +kernel
theorem dX6_about_85 : decode cX6_about 85 = .ok (.ireturn, 1) := by decide +kernel
theorem dX6_about_86 : decode cX6_about 86 = .ok (.aload_n 0, 1) := by decide +kernel
theorem dX6_about_87 : decode cX6_about 87 = .ok (.getfield 23, 3) := by decide +kernel
theorem dX6_about_90 : decode cX6_about 90 = .ok (.invokevirtual 107, 3) := by decide +kernel
theorem dX6_about_93 : decode cX6_about 93 = .ok (.ireturn, 1) := by decide +kernel
theorem dX6_about_94 : decode cX6_about 94 = .ok (.aload_n 0, 1) := by decide +kernel
theorem dX6_about_95 : decode cX6_about 95 = .ok (.getfield 42, 3) := by decide +kernel
theorem dX6_about_98 : decode cX6_about 98 = .ok (.getfield 110, 3) := by decide +kernel
theorem dX6_about_101 : decode cX6_about 101 = .ok (.getfield 114, 3) := by decide +kernel
theorem dX6_about_104 : decode cX6_about 104 = .ok (.ireturn, 1) := by decide +kernel
theorem dX6_about_105 : decode cX6_about 105 = .ok (.aload_n 0, 1) := by decide +kernel
theorem dX6_about_106 : decode cX6_about 106 = .ok (.getfield 42, 3) := by decide +kernel
theorem dX6_about_109 : decode cX6_about 109 = .ok (.getfield 119, 3) := by decide +kernel
theorem dX6_about_112 : decode cX6_about 112 = .ok (.getfield 122, 3) := by decide +kernel
theorem dX6_about_115 : decode cX6_about 115 = .ok (.ireturn, 1) := by decide +kernel
theorem dX6_about_116 : decode cX6_about 116 = .ok (.aload_n 0, 1) := by decide +kernel
theorem dX6_about_117 : decode cX6_about 117 = .ok (.getfield 49, 3) := by decide +kernel
theorem dX6_about_120 : decode cX6_about 120 = .ok (.getfield 122, 3) := by decide +kernel
theorem dX6_about_123 : decode cX6_about 123 = .ok (.ireturn, 1) := by decide +kernel
theorem dX6_about_124 : decode cX6_about 124 = .ok (.iconst (-1), 1) := by decide +kernel
theorem dX6_about_125 : decode cX6_about 125 = .ok (.ireturn, 1) := by decide +kernel
theorem dX6_walk_0 : decode cX6_walk 0 = .ok (.aload_n 0, 1) := by decide +kernel
theorem dX6_walk_1 : decode cX6_walk 1 = .ok (.getfield 23, 3) := by decide +kernel
theorem dX6_walk_4 : decode cX6_walk 4 = .ok (.invokevirtual 104, 3) := by decide +kernel
theorem dX6_walk_7 : decode cX6_walk 7 = .ok (.ifCond .le 7, 3) := by decide +kernel
theorem dX6_walk_10 : decode cX6_walk 10 = .ok (.iconst (-1), 1) := by decide +kernel
theorem dX6_walk_11 : decode cX6_walk 11 = .ok (.goto 15, 3) := by decide +kernel
theorem dX6_walk_14 : decode cX6_walk 14 = .ok (.aload_n 0, 1) := by decide +kernel
theorem dX6_walk_15 : decode cX6_walk 15 = .ok (.getfield 35, 3) := by decide +kernel
theorem dX6_walk_18 : decode cX6_walk 18 = .ok (.sipush 1000, 3) := by decide +kernel
theorem dX6_walk_21 : decode cX6_walk 21 = .ok (.invokevirtual 123, 3) := by decide +kernel
theorem dX6_walk_24 : decode cX6_walk 24 = .ok (.iconst 1, 1) := by decide +kernel
theorem dX6_walk_25 : decode cX6_walk 25 = .ok (.iadd, 1) := by decide +kernel
theorem dX6_walk_26 : decode cX6_walk 26 = .ok (.ireturn, 1) := by decide +kernel
theorem dX6_step_0 : decode cX6_step 0 = .ok (.iload_n 1, 1) := by decide +kernel
theorem dX6_step_1 : decode cX6_step 1 = .ok (.ifCond .lt 32, 3) := by decide +kernel
theorem dX6_step_4 : decode cX6_step 4 = .ok (.iload_n 1, 1) := by decide +kernel
theorem dX6_step_5 : decode cX6_step 5 = .ok (.sipush 1000, 3) := by decide +kernel
theorem dX6_step_8 : decode cX6_step 8 = .ok (.if_icmp .ge 25, 3) := by decide +kernel
theorem dX6_step_11 : decode cX6_step 11 = .ok (.aload_n 0, 1) := by decide +kernel
theorem dX6_step_12 : decode cX6_step 12 = .ok (.getfield 23, 3) := by decide +kernel
theorem dX6_step_15 : decode cX6_step 15 = .ok (.invokevirtual 104, 3) := by decide +kernel
theorem dX6_step_18 : decode cX6_step 18 = .ok (.ifCond .gt 15, 3) := by decide +kernel
theorem dX6_step_21 : decode cX6_step 21 = .ok (.aload_n 0, 1) := by decide +kernel
theorem dX6_step_22 : decode cX6_step 22 = .ok (.getfield 35, 3) := by decide +kernel
theorem dX6_step_25 : decode cX6_step 25 = .ok (.iload_n 1, 1) := by decide +kernel
theorem dX6_step_26 : decode cX6_step 26 = .ok (.invokevirtual 123, 3) := by decide +kernel
theorem dX6_step_29 : decode cX6_step 29 = .ok (.iload_n 1, 1) := by decide +kernel
theorem dX6_step_30 : decode cX6_step 30 = .ok (.if_icmp .eq 6, 3) := by decide +kernel
theorem dX6_step_33 : decode cX6_step 33 = .ok (.bipush (-3), 2) := by decide +kernel
theorem dX6_step_35 : decode cX6_step 35 = .ok (.ireturn, 1) := by decide +kernel
theorem dX6_step_36 : decode cX6_step 36 = .ok (.iload_n 2, 1) := by decide +kernel
theorem dX6_step_37 : decode cX6_step 37 = .ok (.tableswitch 51 0 2 #[27, 35, 43], 27) := by decide +kernel
theorem dX6_step_64 : decode cX6_step 64 = .ok (.aload_n 0, 1) := by decide +kernel
theorem dX6_step_65 : decode cX6_step 65 = .ok (.getfield 35, 3) := by decide +kernel
theorem dX6_step_68 : decode cX6_step 68 = .ok (.getfield 126, 3) := by decide +kernel
theorem dX6_step_71 : decode cX6_step 71 = .ok (.ireturn, 1) := by decide +kernel
theorem dX6_step_72 : decode cX6_step 72 = .ok (.aload_n 0, 1) := by decide +kernel
theorem dX6_step_73 : decode cX6_step 73 = .ok (.getfield 35, 3) := by decide +kernel
theorem dX6_step_76 : decode cX6_step 76 = .ok (.getfield 129, 3) := by decide +kernel
theorem dX6_step_79 : decode cX6_step 79 = .ok (.ireturn, 1) := by decide +kernel
theorem dX6_step_80 : decode cX6_step 80 = .ok (.aload_n 0, 1) := by decide +kernel
theorem dX6_step_81 : decode cX6_step 81 = .ok (.getfield 35, 3) := by decide +kernel
theorem dX6_step_84 : decode cX6_step 84 = .ok (.getfield 132, 3) := by decide +kernel
theorem dX6_step_87 : decode cX6_step 87 = .ok (.ireturn, 1) := by decide +kernel
theorem dX6_step_88 : decode cX6_step 88 = .ok (.bipush (-3), 2) := by decide +kernel
theorem dX6_step_90 : decode cX6_step 90 = .ok (.ireturn, 1) := by decide +kernel
theorem dX6_search_0 : decode cX6_search 0 = .ok (.iload_n 1, 1) := by decide +kernel
theorem dX6_search_1 : decode cX6_search 1 = .ok (.iconst 1, 1) := by decide +kernel
theorem dX6_search_2 : decode cX6_search 2 = .ok (.if_icmp .lt 20, 3) := by decide +kernel
theorem dX6_search_5 : decode cX6_search 5 = .ok (.iload_n 1, 1) := by decide +kernel
theorem dX6_search_6 : decode cX6_search 6 = .ok (.sipush 8000, 3) := by decide +kernel
theorem dX6_search_9 : decode cX6_search 9 = .ok (.if_icmp .gt 13, 3) := by decide +kernel
theorem dX6_search_12 : decode cX6_search 12 = .ok (.aload_n 0, 1) := by decide +kernel
theorem dX6_search_13 : decode cX6_search 13 = .ok (.getfield 23, 3) := by decide +kernel
theorem dX6_search_16 : decode cX6_search 16 = .ok (.invokevirtual 87, 3) := by decide +kernel
theorem dX6_search_19 : decode cX6_search 19 = .ok (.ifCond .eq 5, 3) := by decide +kernel
theorem dX6_search_22 : decode cX6_search 22 = .ok (.iconst (-1), 1) := by decide +kernel
theorem dX6_search_23 : decode cX6_search 23 = .ok (.ireturn, 1) := by decide +kernel
theorem dX6_search_24 : decode cX6_search 24 = .ok (.aload_n 0, 1) := by decide +kernel
theorem dX6_search_25 : decode cX6_search 25 = .ok (.getfield 27, 3) := by decide +kernel
theorem dX6_search_28 : decode cX6_search 28 = .ok (.aload_n 0, 1) := by decide +kernel
theorem dX6_search_29 : decode cX6_search 29 = .ok (.getfield 23, 3) := by decide +kernel
theorem dX6_search_32 : decode cX6_search 32 = .ok (.invokevirtual 135, 3) := by decide +kernel
theorem dX6_search_35 : decode cX6_search 35 = .ok (.aload_n 0, 1) := by decide +kernel
theorem dX6_search_36 : decode cX6_search 36 = .ok (.getfield 42, 3) := by decide +kernel
theorem dX6_search_39 : decode cX6_search 39 = .ok (.aload_n 0, 1) := by decide +kernel
theorem dX6_search_40 : decode cX6_search 40 = .ok (.getfield 70, 3) := by decide +kernel
theorem dX6_search_43 : decode cX6_search 43 = .ok (.iload_n 1, 1) := by decide +kernel
theorem dX6_search_44 : decode cX6_search 44 = .ok (.invokevirtual 138, 3) := by decide +kernel
theorem dX6_search_47 : decode cX6_search 47 = .ok (.ireturn, 1) := by decide +kernel
theorem dX6_node_0 : decode cX6_node 0 = .ok (.aload_n 0, 1) := by decide +kernel
theorem dX6_node_1 : decode cX6_node 1 = .ok (.getfield 42, 3) := by decide +kernel
theorem dX6_node_4 : decode cX6_node 4 = .ok (.getfield 110, 3) := by decide +kernel
theorem dX6_node_7 : decode cX6_node 7 = .ok (.iload_n 1, 1) := by decide +kernel
theorem dX6_node_8 : decode cX6_node 8 = .ok (.iload_n 2, 1) := by decide +kernel
theorem dX6_node_9 : decode cX6_node 9 = .ok (.invokevirtual 141, 3) := by decide +kernel
theorem dX6_node_12 : decode cX6_node 12 = .ok (.ireturn, 1) := by decide +kernel
theorem dX6_strategy_0 : decode cX6_strategy 0 = .ok (.aload_n 0, 1) := by decide +kernel
theorem dX6_strategy_1 : decode cX6_strategy 1 = .ok (.getfield 42, 3) := by decide +kernel
theorem dX6_strategy_4 : decode cX6_strategy 4 = .ok (.getfield 119, 3) := by decide +kernel
theorem dX6_strategy_7 : decode cX6_strategy 7 = .ok (.iload_n 1, 1) := by decide +kernel
theorem dX6_strategy_8 : decode cX6_strategy 8 = .ok (.invokevirtual 144, 3) := by decide +kernel
theorem dX6_strategy_11 : decode cX6_strategy 11 = .ok (.ifCond .ne 6, 3) := by decide +kernel
theorem dX6_strategy_14 : decode cX6_strategy 14 = .ok (.bipush (-3), 2) := by decide +kernel
theorem dX6_strategy_16 : decode cX6_strategy 16 = .ok (.ireturn, 1) := by decide +kernel
theorem dX6_strategy_17 : decode cX6_strategy 17 = .ok (.iload_n 2, 1) := by decide +kernel
theorem dX6_strategy_18 : decode cX6_strategy 18 = .ok (.lookupswitch 52 #[(0, 26), (1, 39)], 26) := by decide +kernel
theorem dX6_strategy_44 : decode cX6_strategy 44 = .ok (.aload_n 0, 1) := by decide +kernel
theorem dX6_strategy_45 : decode cX6_strategy 45 = .ok (.getfield 42, 3) := by decide +kernel
theorem dX6_strategy_48 : decode cX6_strategy 48 = .ok (.getfield 119, 3) := by decide +kernel
theorem dX6_strategy_51 : decode cX6_strategy 51 = .ok (.getfield 147, 3) := by decide +kernel
theorem dX6_strategy_54 : decode cX6_strategy 54 = .ok (.iload_n 1, 1) := by decide +kernel
theorem dX6_strategy_55 : decode cX6_strategy 55 = .ok (.iaload, 1) := by decide +kernel
theorem dX6_strategy_56 : decode cX6_strategy 56 = .ok (.ireturn, 1) := by decide +kernel
theorem dX6_strategy_57 : decode cX6_strategy 57 = .ok (.aload_n 0, 1) := by decide +kernel
theorem dX6_strategy_58 : decode cX6_strategy 58 = .ok (.getfield 42, 3) := by decide +kernel
theorem dX6_strategy_61 : decode cX6_strategy 61 = .ok (.getfield 119, 3) := by decide +kernel
theorem dX6_strategy_64 : decode cX6_strategy 64 = .ok (.getfield 150, 3) := by decide +kernel
theorem dX6_strategy_67 : decode cX6_strategy 67 = .ok (.iload_n 1, 1) := by decide +kernel
theorem dX6_strategy_68 : decode cX6_strategy 68 = .ok (.iaload, 1) := by decide +kernel
theorem dX6_strategy_69 : decode cX6_strategy 69 = .ok (.ireturn, 1) := by decide +kernel
theorem dX6_strategy_70 : decode cX6_strategy 70 = .ok (.bipush (-3), 2) := by decide +kernel
theorem dX6_strategy_72 : decode cX6_strategy 72 = .ok (.ireturn, 1) := by decide +kernel
theorem dX6_load_0 : decode cX6_load 0 = .ok (.aload_n 0, 1) := by decide +kernel
theorem dX6_load_1 : decode cX6_load 1 = .ok (.getfield 49, 3) := by decide +kernel
theorem dX6_load_4 : decode cX6_load 4 = .ok (.aload_n 0, 1) := by decide +kernel
theorem dX6_load_5 : decode cX6_load 5 = .ok (.getfield 42, 3) := by decide +kernel
theorem dX6_load_8 : decode cX6_load 8 = .ok (.getfield 119, 3) := by decide +kernel
theorem dX6_load_11 : decode cX6_load 11 = .ok (.invokevirtual 153, 3) := by decide +kernel
theorem dX6_load_14 : decode cX6_load 14 = .ok (.aload_n 0, 1) := by decide +kernel
theorem dX6_load_15 : decode cX6_load 15 = .ok (.getfield 49, 3) := by decide +kernel
theorem dX6_load_18 : decode cX6_load 18 = .ok (.getfield 122, 3) := by decide +kernel
theorem dX6_load_21 : decode cX6_load 21 = .ok (.ireturn, 1) := by decide +kernel
theorem dX6_plant_0 : decode cX6_plant 0 = .ok (.iload_n 1, 1) := by decide +kernel
theorem dX6_plant_1 : decode cX6_plant 1 = .ok (.iconst (-1), 1) := by decide +kernel
theorem dX6_plant_2 : decode cX6_plant 2 = .ok (.if_icmp .eq 14, 3) := by decide +kernel
theorem dX6_plant_5 : decode cX6_plant 5 = .ok (.aload_n 0, 1) := by decide +kernel
theorem dX6_plant_6 : decode cX6_plant 6 = .ok (.getfield 49, 3) := by decide +kernel
theorem dX6_plant_9 : decode cX6_plant 9 = .ok (.iload_n 1, 1) := by decide +kernel
theorem dX6_plant_10 : decode cX6_plant 10 = .ok (.invokevirtual 144, 3) := by decide +kernel
theorem dX6_plant_13 : decode cX6_plant 13 = .ok (.ifCond .eq 15, 3) := by decide +kernel
theorem dX6_plant_16 : decode cX6_plant 16 = .ok (.aload_n 0, 1) := by decide +kernel
theorem dX6_plant_17 : decode cX6_plant 17 = .ok (.getfield 49, 3) := by decide +kernel
theorem dX6_plant_20 : decode cX6_plant 20 = .ok (.iload_n 1, 1) := by decide +kernel
theorem dX6_plant_21 : decode cX6_plant 21 = .ok (.iload_n 2, 1) := by decide +kernel
theorem dX6_plant_22 : decode cX6_plant 22 = .ok (.invokevirtual 157, 3) := by decide +kernel
theorem dX6_plant_25 : decode cX6_plant 25 = .ok (.goto 4, 3) := by decide +kernel
theorem dX6_plant_28 : decode cX6_plant 28 = .ok (.iconst (-1), 1) := by decide +kernel
theorem dX6_plant_29 : decode cX6_plant 29 = .ok (.ireturn, 1) := by decide +kernel
theorem dX6_graft_0 : decode cX6_graft 0 = .ok (.aload_n 0, 1) := by decide +kernel
theorem dX6_graft_1 : decode cX6_graft 1 = .ok (.getfield 49, 3) := by decide +kernel
theorem dX6_graft_4 : decode cX6_graft 4 = .ok (.iload_n 1, 1) := by decide +kernel
theorem dX6_graft_5 : decode cX6_graft 5 = .ok (.invokevirtual 144, 3) := by decide +kernel
theorem dX6_graft_8 : decode cX6_graft 8 = .ok (.ifCond .ne 5, 3) := by decide +kernel
theorem dX6_graft_11 : decode cX6_graft 11 = .ok (.iconst 0, 1) := by decide +kernel
theorem dX6_graft_12 : decode cX6_graft 12 = .ok (.ireturn, 1) := by decide +kernel
theorem dX6_graft_13 : decode cX6_graft 13 = .ok (.aload_n 0, 1) := by decide +kernel
theorem dX6_graft_14 : decode cX6_graft 14 = .ok (.getfield 49, 3) := by decide +kernel
theorem dX6_graft_17 : decode cX6_graft 17 = .ok (.getfield 150, 3) := by decide +kernel
theorem dX6_graft_20 : decode cX6_graft 20 = .ok (.iload_n 1, 1) := by decide +kernel
theorem dX6_graft_21 : decode cX6_graft 21 = .ok (.iload_n 2, 1) := by decide +kernel
theorem dX6_graft_22 : decode cX6_graft 22 = .ok (.iastore, 1) := by decide +kernel
theorem dX6_graft_23 : decode cX6_graft 23 = .ok (.iconst 1, 1) := by decide +kernel
theorem dX6_graft_24 : decode cX6_graft 24 = .ok (.ireturn, 1) := by decide +kernel
theorem dX6_prune_0 : decode cX6_prune 0 = .ok (.iload_n 1, 1) := by decide +kernel
theorem dX6_prune_1 : decode cX6_prune 1 = .ok (.ifCond .lt 14, 3) := by decide +kernel
theorem dX6_prune_4 : decode cX6_prune 4 = .ok (.iload_n 1, 1) := by decide +kernel
theorem dX6_prune_5 : decode cX6_prune 5 = .ok (.aload_n 0, 1) := by decide +kernel
theorem dX6_prune_6 : decode cX6_prune 6 = .ok (.getfield 49, 3) := by decide +kernel
theorem dX6_prune_9 : decode cX6_prune 9 = .ok (.getfield 122, 3) := by decide +kernel
theorem dX6_prune_12 : decode cX6_prune 12 = .ok (.if_icmp .le 5, 3) := by decide +kernel
theorem dX6_prune_15 : decode cX6_prune 15 = .ok (.iconst (-1), 1) := by decide +kernel
theorem dX6_prune_16 : decode cX6_prune 16 = .ok (.ireturn, 1) := by decide +kernel
theorem dX6_prune_17 : decode cX6_prune 17 = .ok (.aload_n 0, 1) := by decide +kernel
theorem dX6_prune_18 : decode cX6_prune 18 = .ok (.getfield 49, 3) := by decide +kernel
theorem dX6_prune_21 : decode cX6_prune 21 = .ok (.iload_n 1, 1) := by decide +kernel
theorem dX6_prune_22 : decode cX6_prune 22 = .ok (.putfield 122, 3) := by decide +kernel
theorem dX6_prune_25 : decode cX6_prune 25 = .ok (.iload_n 1, 1) := by decide +kernel
theorem dX6_prune_26 : decode cX6_prune 26 = .ok (.ireturn, 1) := by decide +kernel
theorem dX6_check_0 : decode cX6_check 0 = .ok (.iload_n 1, 1) := by decide +kernel
theorem dX6_check_1 : decode cX6_check 1 = .ok (.invokestatic 80, 3) := by decide +kernel
theorem dX6_check_4 : decode cX6_check 4 = .ok (.ifCond .eq 13, 3) := by decide +kernel
theorem dX6_check_7 : decode cX6_check 7 = .ok (.aload_n 0, 1) := by decide +kernel
theorem dX6_check_8 : decode cX6_check 8 = .ok (.getfield 23, 3) := by decide +kernel
theorem dX6_check_11 : decode cX6_check 11 = .ok (.invokevirtual 87, 3) := by decide +kernel
theorem dX6_check_14 : decode cX6_check 14 = .ok (.ifCond .eq 5, 3) := by decide +kernel
theorem dX6_check_17 : decode cX6_check 17 = .ok (.iconst (-1), 1) := by decide +kernel
theorem dX6_check_18 : decode cX6_check 18 = .ok (.ireturn, 1) := by decide +kernel
theorem dX6_check_19 : decode cX6_check 19 = .ok (.aload_n 0, 1) := by decide +kernel
theorem dX6_check_20 : decode cX6_check 20 = .ok (.getfield 27, 3) := by decide +kernel
theorem dX6_check_23 : decode cX6_check 23 = .ok (.aload_n 0, 1) := by decide +kernel
theorem dX6_check_24 : decode cX6_check 24 = .ok (.getfield 23, 3) := by decide +kernel
theorem dX6_check_27 : decode cX6_check 27 = .ok (.invokevirtual 135, 3) := by decide +kernel
theorem dX6_check_30 : decode cX6_check 30 = .ok (.aload_n 0, 1) := by decide +kernel
theorem dX6_check_31 : decode cX6_check 31 = .ok (.getfield 58, 3) := by decide +kernel
theorem dX6_check_34 : decode cX6_check 34 = .ok (.iload_n 1, 1) := by decide +kernel
theorem dX6_check_35 : decode cX6_check 35 = .ok (.aload_n 0, 1) := by decide +kernel
theorem dX6_check_36 : decode cX6_check 36 = .ok (.getfield 70, 3) := by decide +kernel
theorem dX6_check_39 : decode cX6_check 39 = .ok (.invokevirtual 160, 3) := by decide +kernel
theorem dX6_check_42 : decode cX6_check 42 = .ok (.ireturn, 1) := by decide +kernel
theorem dX6_isSide_0 : decode cX6_isSide 0 = .ok (.iload_n 0, 1) := by decide +kernel
theorem dX6_isSide_1 : decode cX6_isSide 1 = .ok (.iconst 1, 1) := by decide +kernel
theorem dX6_isSide_2 : decode cX6_isSide 2 = .ok (.if_icmp .eq 8, 3) := by decide +kernel
theorem dX6_isSide_5 : decode cX6_isSide 5 = .ok (.iload_n 0, 1) := by decide +kernel
theorem dX6_isSide_6 : decode cX6_isSide 6 = .ok (.iconst 2, 1) := by decide +kernel
theorem dX6_isSide_7 : decode cX6_isSide 7 = .ok (.if_icmp .ne 7, 3) := by decide +kernel
theorem dX6_isSide_10 : decode cX6_isSide 10 = .ok (.iconst 1, 1) := by decide +kernel
theorem dX6_isSide_11 : decode cX6_isSide 11 = .ok (.goto 4, 3) := by decide +kernel
theorem dX6_isSide_14 : decode cX6_isSide 14 = .ok (.iconst 0, 1) := by decide +kernel
theorem dX6_isSide_15 : decode cX6_isSide 15 = .ok (.ireturn, 1) := by decide +kernel
theorem dX6_otherSide_0 : decode cX6_otherSide 0 = .ok (.iconst 3, 1) := by decide +kernel
theorem dX6_otherSide_1 : decode cX6_otherSide 1 = .ok (.iload_n 0, 1) := by decide +kernel
theorem dX6_otherSide_2 : decode cX6_otherSide 2 = .ok (.isub, 1) := by decide +kernel
theorem dX6_otherSide_3 : decode cX6_otherSide 3 = .ok (.ireturn, 1) := by decide +kernel
theorem dX6_roomierLength_0 : decode cX6_roomierLength 0 = .ok (.bipush 16, 2) := by decide +kernel
theorem dX6_roomierLength_2 : decode cX6_roomierLength 2 = .ok (.sipush 8000, 3) := by decide +kernel
theorem dX6_roomierLength_5 : decode cX6_roomierLength 5 = .ok (.iconst 2, 1) := by decide +kernel
theorem dX6_roomierLength_6 : decode cX6_roomierLength 6 = .ok (.iload_n 0, 1) := by decide +kernel
theorem dX6_roomierLength_7 : decode cX6_roomierLength 7 = .ok (.imul, 1) := by decide +kernel
theorem dX6_roomierLength_8 : decode cX6_roomierLength 8 = .ok (.invokestatic 9, 3) := by decide +kernel
theorem dX6_roomierLength_11 : decode cX6_roomierLength 11 = .ok (.invokestatic 15, 3) := by decide +kernel
theorem dX6_roomierLength_14 : decode cX6_roomierLength 14 = .ok (.ireturn, 1) := by decide +kernel
