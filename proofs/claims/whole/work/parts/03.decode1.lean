theorem dX_resume_0 : decode cX_resume 0 = .ok (.iload_n 1, 1) := by decide +kernel
theorem dX_resume_1 : decode cX_resume 1 = .ok (.iconst 1, 1) := by decide +kernel
theorem dX_resume_2 : decode cX_resume 2 = .ok (.iadd, 1) := by decide +kernel
theorem dX_resume_3 : decode cX_resume 3 = .ok (.istore_n 3, 1) := by decide +kernel
theorem dX_resume_4 : decode cX_resume 4 = .ok (.aload_n 0, 1) := by decide +kernel
theorem dX_resume_5 : decode cX_resume 5 = .ok (.getfield 15, 3) := by decide +kernel
theorem dX_resume_8 : decode cX_resume 8 = .ok (.iload_n 1, 1) := by decide +kernel
theorem dX_resume_9 : decode cX_resume 9 = .ok (.invokevirtual 109, 3) := by decide +kernel
theorem dX_resume_12 : decode cX_resume 12 = .ok (.istore 4, 2) := by decide +kernel
theorem dX_resume_14 : decode cX_resume 14 = .ok (.aload_n 0, 1) := by decide +kernel
theorem dX_resume_15 : decode cX_resume 15 = .ok (.getfield 15, 3) := by decide +kernel
theorem dX_resume_18 : decode cX_resume 18 = .ok (.iload_n 1, 1) := by decide +kernel
theorem dX_resume_19 : decode cX_resume 19 = .ok (.invokevirtual 78, 3) := by decide +kernel
theorem dX_resume_22 : decode cX_resume 22 = .ok (.tableswitch 141 4 8 #[34, 55, 62, 103, 120], 34) := by decide +kernel
theorem dX_resume_56 : decode cX_resume 56 = .ok (.aload_n 0, 1) := by decide +kernel
theorem dX_resume_57 : decode cX_resume 57 = .ok (.aload_n 0, 1) := by decide +kernel
theorem dX_resume_58 : decode cX_resume 58 = .ok (.iload_n 3, 1) := by decide +kernel
theorem dX_resume_59 : decode cX_resume 59 = .ok (.invokevirtual 123, 3) := by decide +kernel
theorem dX_resume_62 : decode cX_resume 62 = .ok (.ifCond .eq 7, 3) := by decide +kernel
theorem dX_resume_65 : decode cX_resume 65 = .ok (.iload_n 3, 1) := by decide +kernel
theorem dX_resume_66 : decode cX_resume 66 = .ok (.goto 5, 3) := by decide +kernel
theorem dX_resume_69 : decode cX_resume 69 = .ok (.iload 4, 2) := by decide +kernel
theorem dX_resume_71 : decode cX_resume 71 = .ok (.iconst 0, 1) := by decide +kernel
theorem dX_resume_72 : decode cX_resume 72 = .ok (.iload_n 2, 1) := by decide +kernel
theorem dX_resume_73 : decode cX_resume 73 = .ok (.invokevirtual 42, 3) := by decide +kernel
theorem dX_resume_76 : decode cX_resume 76 = .ok (.lreturn, 1) := by decide +kernel
theorem dX_resume_77 : decode cX_resume 77 = .ok (.aload_n 0, 1) := by decide +kernel
theorem dX_resume_78 : decode cX_resume 78 = .ok (.iload_n 1, 1) := by decide +kernel
theorem dX_resume_79 : decode cX_resume 79 = .ok (.iload_n 2, 1) := by decide +kernel
theorem dX_resume_80 : decode cX_resume 80 = .ok (.invokevirtual 127, 3) := by decide +kernel
theorem dX_resume_83 : decode cX_resume 83 = .ok (.lreturn, 1) := by decide +kernel
theorem dX_resume_84 : decode cX_resume 84 = .ok (.aload_n 0, 1) := by decide +kernel
theorem dX_resume_85 : decode cX_resume 85 = .ok (.iload_n 3, 1) := by decide +kernel
theorem dX_resume_86 : decode cX_resume 86 = .ok (.invokevirtual 123, 3) := by decide +kernel
theorem dX_resume_89 : decode cX_resume 89 = .ok (.ifCond .eq 27, 3) := by decide +kernel
theorem dX_resume_92 : decode cX_resume 92 = .ok (.aload_n 0, 1) := by decide +kernel
theorem dX_resume_93 : decode cX_resume 93 = .ok (.aload_n 0, 1) := by decide +kernel
theorem dX_resume_94 : decode cX_resume 94 = .ok (.iload_n 3, 1) := by decide +kernel
theorem dX_resume_95 : decode cX_resume 95 = .ok (.iconst 0, 1) := by decide +kernel
theorem dX_resume_96 : decode cX_resume 96 = .ok (.iload_n 2, 1) := by decide +kernel
theorem dX_resume_97 : decode cX_resume 97 = .ok (.invokevirtual 42, 3) := by decide +kernel
theorem dX_resume_100 : decode cX_resume 100 = .ok (.iload 4, 2) := by decide +kernel
theorem dX_resume_102 : decode cX_resume 102 = .ok (.aload_n 0, 1) := by decide +kernel
theorem dX_resume_103 : decode cX_resume 103 = .ok (.getfield 15, 3) := by decide +kernel
theorem dX_resume_106 : decode cX_resume 106 = .ok (.iload_n 1, 1) := by decide +kernel
theorem dX_resume_107 : decode cX_resume 107 = .ok (.invokevirtual 130, 3) := by decide +kernel
theorem dX_resume_110 : decode cX_resume 110 = .ok (.invokevirtual 112, 3) := by decide +kernel
theorem dX_resume_113 : decode cX_resume 113 = .ok (.goto 11, 3) := by decide +kernel
theorem dX_resume_116 : decode cX_resume 116 = .ok (.aload_n 0, 1) := by decide +kernel
theorem dX_resume_117 : decode cX_resume 117 = .ok (.iload 4, 2) := by decide +kernel
theorem dX_resume_119 : decode cX_resume 119 = .ok (.iconst 0, 1) := by decide +kernel
theorem dX_resume_120 : decode cX_resume 120 = .ok (.iload_n 2, 1) := by decide +kernel
theorem dX_resume_121 : decode cX_resume 121 = .ok (.invokevirtual 42, 3) := by decide +kernel
theorem dX_resume_124 : decode cX_resume 124 = .ok (.lreturn, 1) := by decide +kernel
theorem dX_resume_125 : decode cX_resume 125 = .ok (.aload_n 0, 1) := by decide +kernel
theorem dX_resume_126 : decode cX_resume 126 = .ok (.iload_n 3, 1) := by decide +kernel
theorem dX_resume_127 : decode cX_resume 127 = .ok (.iload_n 2, 1) := by decide +kernel
theorem dX_resume_128 : decode cX_resume 128 = .ok (.invokevirtual 133, 3) := by decide +kernel
theorem dX_resume_131 : decode cX_resume 131 = .ok (.aload_n 0, 1) := by decide +kernel
theorem dX_resume_132 : decode cX_resume 132 = .ok (.iload 4, 2) := by decide +kernel
theorem dX_resume_134 : decode cX_resume 134 = .ok (.iload_n 2, 1) := by decide +kernel
theorem dX_resume_135 : decode cX_resume 135 = .ok (.invokevirtual 133, 3) := by decide +kernel
theorem dX_resume_138 : decode cX_resume 138 = .ok (.invokestatic 116, 3) := by decide +kernel
theorem dX_resume_141 : decode cX_resume 141 = .ok (.lreturn, 1) := by decide +kernel
theorem dX_resume_142 : decode cX_resume 142 = .ok (.aload_n 0, 1) := by decide +kernel
theorem dX_resume_143 : decode cX_resume 143 = .ok (.aload_n 0, 1) := by decide +kernel
theorem dX_resume_144 : decode cX_resume 144 = .ok (.iload_n 3, 1) := by decide +kernel
theorem dX_resume_145 : decode cX_resume 145 = .ok (.iconst 0, 1) := by decide +kernel
theorem dX_resume_146 : decode cX_resume 146 = .ok (.iload_n 2, 1) := by decide +kernel
theorem dX_resume_147 : decode cX_resume 147 = .ok (.invokevirtual 42, 3) := by decide +kernel
theorem dX_resume_150 : decode cX_resume 150 = .ok (.iload_n 3, 1) := by decide +kernel
theorem dX_resume_151 : decode cX_resume 151 = .ok (.aload_n 0, 1) := by decide +kernel
theorem dX_resume_152 : decode cX_resume 152 = .ok (.getfield 15, 3) := by decide +kernel
theorem dX_resume_155 : decode cX_resume 155 = .ok (.iload_n 1, 1) := by decide +kernel
theorem dX_resume_156 : decode cX_resume 156 = .ok (.invokevirtual 130, 3) := by decide +kernel
theorem dX_resume_159 : decode cX_resume 159 = .ok (.invokevirtual 112, 3) := by decide +kernel
theorem dX_resume_162 : decode cX_resume 162 = .ok (.lreturn, 1) := by decide +kernel
theorem dX_resume_163 : decode cX_resume 163 = .ok (.iconst 0, 1) := by decide +kernel
theorem dX_resume_164 : decode cX_resume 164 = .ok (.iconst 1, 1) := by decide +kernel
theorem dX_resume_165 : decode cX_resume 165 = .ok (.iload_n 2, 1) := by decide +kernel
theorem dX_resume_166 : decode cX_resume 166 = .ok (.invokestatic 100, 3) := by decide +kernel
theorem dX_resume_169 : decode cX_resume 169 = .ok (.lreturn, 1) := by decide +kernel
theorem dX_isSelectedIn_0 : decode cX_isSelectedIn 0 = .ok (.aload_n 0, 1) := by decide +kernel
theorem dX_isSelectedIn_1 : decode cX_isSelectedIn 1 = .ok (.getfield 19, 3) := by decide +kernel
theorem dX_isSelectedIn_4 : decode cX_isSelectedIn 4 = .ok (.aload_n 0, 1) := by decide +kernel
theorem dX_isSelectedIn_5 : decode cX_isSelectedIn 5 = .ok (.getfield 15, 3) := by decide +kernel
theorem dX_isSelectedIn_8 : decode cX_isSelectedIn 8 = .ok (.iload_n 1, 1) := by decide +kernel
theorem dX_isSelectedIn_9 : decode cX_isSelectedIn 9 = .ok (.invokevirtual 97, 3) := by decide +kernel
theorem dX_isSelectedIn_12 : decode cX_isSelectedIn 12 = .ok (.iand, 1) := by decide +kernel
theorem dX_isSelectedIn_13 : decode cX_isSelectedIn 13 = .ok (.ifCond .eq 7, 3) := by decide +kernel
theorem dX_isSelectedIn_16 : decode cX_isSelectedIn 16 = .ok (.iconst 1, 1) := by decide +kernel
theorem dX_isSelectedIn_17 : decode cX_isSelectedIn 17 = .ok (.goto 4, 3) := by decide +kernel
theorem dX_isSelectedIn_20 : decode cX_isSelectedIn 20 = .ok (.iconst 0, 1) := by decide +kernel
theorem dX_isSelectedIn_21 : decode cX_isSelectedIn 21 = .ok (.ireturn, 1) := by decide +kernel
theorem dX_resumeSuspend_0 : decode cX_resumeSuspend 0 = .ok (.aload_n 0, 1) := by decide +kernel
theorem dX_resumeSuspend_1 : decode cX_resumeSuspend 1 = .ok (.aload_n 0, 1) := by decide +kernel
theorem dX_resumeSuspend_2 : decode cX_resumeSuspend 2 = .ok (.getfield 15, 3) := by decide +kernel
theorem dX_resumeSuspend_5 : decode cX_resumeSuspend 5 = .ok (.iload_n 1, 1) := by decide +kernel
theorem dX_resumeSuspend_6 : decode cX_resumeSuspend 6 = .ok (.invokevirtual 94, 3) := by decide +kernel
theorem dX_resumeSuspend_9 : decode cX_resumeSuspend 9 = .ok (.invokevirtual 120, 3) := by decide +kernel
theorem dX_resumeSuspend_12 : decode cX_resumeSuspend 12 = .ok (.lookupswitch 67 #[(0, 57), (1, 28)], 28) := by decide +kernel
theorem dX_resumeSuspend_40 : decode cX_resumeSuspend 40 = .ok (.aload_n 0, 1) := by decide +kernel
theorem dX_resumeSuspend_41 : decode cX_resumeSuspend 41 = .ok (.dup, 1) := by decide +kernel
theorem dX_resumeSuspend_42 : decode cX_resumeSuspend 42 = .ok (.getfield 39, 3) := by decide +kernel
theorem dX_resumeSuspend_45 : decode cX_resumeSuspend 45 = .ok (.aload_n 0, 1) := by decide +kernel
theorem dX_resumeSuspend_46 : decode cX_resumeSuspend 46 = .ok (.getfield 19, 3) := by decide +kernel
theorem dX_resumeSuspend_49 : decode cX_resumeSuspend 49 = .ok (.aload_n 0, 1) := by decide +kernel
theorem dX_resumeSuspend_50 : decode cX_resumeSuspend 50 = .ok (.getfield 15, 3) := by decide +kernel
theorem dX_resumeSuspend_53 : decode cX_resumeSuspend 53 = .ok (.iload_n 1, 1) := by decide +kernel
theorem dX_resumeSuspend_54 : decode cX_resumeSuspend 54 = .ok (.invokevirtual 97, 3) := by decide +kernel
theorem dX_resumeSuspend_57 : decode cX_resumeSuspend 57 = .ok (.iand, 1) := by decide +kernel
theorem dX_resumeSuspend_58 : decode cX_resumeSuspend 58 = .ok (.ior, 1) := by decide +kernel
theorem dX_resumeSuspend_59 : decode cX_resumeSuspend 59 = .ok (.putfield 39, 3) := by decide +kernel
theorem dX_resumeSuspend_62 : decode cX_resumeSuspend 62 = .ok (.iconst 0, 1) := by decide +kernel
theorem dX_resumeSuspend_63 : decode cX_resumeSuspend 63 = .ok (.iconst 2, 1) := by decide +kernel
theorem dX_resumeSuspend_64 : decode cX_resumeSuspend 64 = .ok (.iload_n 2, 1) := by decide +kernel
theorem dX_resumeSuspend_65 : decode cX_resumeSuspend 65 = .ok (.invokestatic 100, 3) := by decide +kernel
theorem dX_resumeSuspend_68 : decode cX_resumeSuspend 68 = .ok (.lreturn, 1) := by decide +kernel
theorem dX_resumeSuspend_69 : decode cX_resumeSuspend 69 = .ok (.aload_n 0, 1) := by decide +kernel
theorem dX_resumeSuspend_70 : decode cX_resumeSuspend 70 = .ok (.iload_n 1, 1) := by decide +kernel
theorem dX_resumeSuspend_71 : decode cX_resumeSuspend 71 = .ok (.iconst 1, 1) := by decide +kernel
theorem dX_resumeSuspend_72 : decode cX_resumeSuspend 72 = .ok (.iadd, 1) := by decide +kernel
theorem dX_resumeSuspend_73 : decode cX_resumeSuspend 73 = .ok (.iconst 0, 1) := by decide +kernel
theorem dX_resumeSuspend_74 : decode cX_resumeSuspend 74 = .ok (.iload_n 2, 1) := by decide +kernel
theorem dX_resumeSuspend_75 : decode cX_resumeSuspend 75 = .ok (.invokevirtual 42, 3) := by decide +kernel
theorem dX_resumeSuspend_78 : decode cX_resumeSuspend 78 = .ok (.lreturn, 1) := by decide +kernel
theorem dX_resumeSuspend_79 : decode cX_resumeSuspend 79 = .ok (.aload_n 0, 1) := by decide +kernel
theorem dX_resumeSuspend_80 : decode cX_resumeSuspend 80 = .ok (.iload_n 1, 1) := by decide +kernel
theorem dX_resumeSuspend_81 : decode cX_resumeSuspend 81 = .ok (.iconst 1, 1) := by decide +kernel
theorem dX_resumeSuspend_82 : decode cX_resumeSuspend 82 = .ok (.iadd, 1) := by decide +kernel
theorem dX_resumeSuspend_83 : decode cX_resumeSuspend 83 = .ok (.iconst 0, 1) := by decide +kernel
theorem dX_resumeSuspend_84 : decode cX_resumeSuspend 84 = .ok (.iconst 0, 1) := by decide +kernel
theorem dX_resumeSuspend_85 : decode cX_resumeSuspend 85 = .ok (.invokevirtual 42, 3) := by decide +kernel
theorem dX_resumeSuspend_88 : decode cX_resumeSuspend 88 = .ok (.iconst 0, 1) := by decide +kernel
theorem dX_resumeSuspend_89 : decode cX_resumeSuspend 89 = .ok (.iconst 2, 1) := by decide +kernel
theorem dX_resumeSuspend_90 : decode cX_resumeSuspend 90 = .ok (.iconst 0, 1) := by decide +kernel
theorem dX_resumeSuspend_91 : decode cX_resumeSuspend 91 = .ok (.invokestatic 100, 3) := by decide +kernel
theorem dX_resumeSuspend_94 : decode cX_resumeSuspend 94 = .ok (.lor, 1) := by decide +kernel
theorem dX_resumeSuspend_95 : decode cX_resumeSuspend 95 = .ok (.lreturn, 1) := by decide +kernel
theorem dX_tested_0 : decode cX_tested 0 = .ok (.iload_n 1, 1) := by decide +kernel
theorem dX_tested_1 : decode cX_tested 1 = .ok (.ifCond .ge 9, 3) := by decide +kernel
theorem dX_tested_4 : decode cX_tested 4 = .ok (.iconst (-1), 1) := by decide +kernel
theorem dX_tested_5 : decode cX_tested 5 = .ok (.iload_n 1, 1) := by decide +kernel
theorem dX_tested_6 : decode cX_tested 6 = .ok (.isub, 1) := by decide +kernel
theorem dX_tested_7 : decode cX_tested 7 = .ok (.goto 4, 3) := by decide +kernel
theorem dX_tested_10 : decode cX_tested 10 = .ok (.iload_n 1, 1) := by decide +kernel
theorem dX_tested_11 : decode cX_tested 11 = .ok (.istore_n 2, 1) := by decide +kernel
theorem dX_tested_12 : decode cX_tested 12 = .ok (.aload_n 0, 1) := by decide +kernel
theorem dX_tested_13 : decode cX_tested 13 = .ok (.getfield 30, 3) := by decide +kernel
theorem dX_tested_16 : decode cX_tested 16 = .ok (.aload_n 0, 1) := by decide +kernel
theorem dX_tested_17 : decode cX_tested 17 = .ok (.getfield 33, 3) := by decide +kernel
theorem dX_tested_20 : decode cX_tested 20 = .ok (.iload_n 2, 1) := by decide +kernel
theorem dX_tested_21 : decode cX_tested 21 = .ok (.invokestatic 175, 3) := by decide +kernel
theorem dX_tested_24 : decode cX_tested 24 = .ok (.istore_n 3, 1) := by decide +kernel
theorem dX_tested_25 : decode cX_tested 25 = .ok (.iload_n 3, 1) := by decide +kernel
theorem dX_tested_26 : decode cX_tested 26 = .ok (.iconst 2, 1) := by decide +kernel
theorem dX_tested_27 : decode cX_tested 27 = .ok (.if_icmp .eq 7, 3) := by decide +kernel
theorem dX_tested_30 : decode cX_tested 30 = .ok (.iload_n 1, 1) := by decide +kernel
theorem dX_tested_31 : decode cX_tested 31 = .ok (.ifCond .lt 5, 3) := by decide +kernel
theorem dX_tested_34 : decode cX_tested 34 = .ok (.iload_n 3, 1) := by decide +kernel
theorem dX_tested_35 : decode cX_tested 35 = .ok (.ireturn, 1) := by decide +kernel
theorem dX_tested_36 : decode cX_tested 36 = .ok (.iload_n 3, 1) := by decide +kernel
theorem dX_tested_37 : decode cX_tested 37 = .ok (.iconst 1, 1) := by decide +kernel
theorem dX_tested_38 : decode cX_tested 38 = .ok (.if_icmp .ne 7, 3) := by decide +kernel
theorem dX_tested_41 : decode cX_tested 41 = .ok (.iconst 0, 1) := by decide +kernel
theorem dX_tested_42 : decode cX_tested 42 = .ok (.goto 4, 3) := by decide +kernel
theorem dX_tested_45 : decode cX_tested 45 = .ok (.iconst 1, 1) := by decide +kernel
theorem dX_tested_46 : decode cX_tested 46 = .ok (.ireturn, 1) := by decide +kernel
theorem dK_statusIn_0 : decode cK_statusIn 0 = .ok (.iload_n 0, 1) := by decide +kernel
theorem dK_statusIn_1 : decode cK_statusIn 1 = .ok (.iload_n 2, 1) := by decide +kernel
theorem dK_statusIn_2 : decode cK_statusIn 2 = .ok (.invokestatic 119, 3) := by decide +kernel
theorem dK_statusIn_5 : decode cK_statusIn 5 = .ok (.ifCond .ne 5, 3) := by decide +kernel
theorem dK_statusIn_8 : decode cK_statusIn 8 = .ok (.iconst 2, 1) := by decide +kernel
theorem dK_statusIn_9 : decode cK_statusIn 9 = .ok (.ireturn, 1) := by decide +kernel
theorem dK_statusIn_10 : decode cK_statusIn 10 = .ok (.iload_n 1, 1) := by decide +kernel
theorem dK_statusIn_11 : decode cK_statusIn 11 = .ok (.iload_n 2, 1) := by decide +kernel
theorem dK_statusIn_12 : decode cK_statusIn 12 = .ok (.invokestatic 119, 3) := by decide +kernel
theorem dK_statusIn_15 : decode cK_statusIn 15 = .ok (.ifCond .eq 7, 3) := by decide +kernel
theorem dK_statusIn_18 : decode cK_statusIn 18 = .ok (.iconst 1, 1) := by decide +kernel
theorem dK_statusIn_19 : decode cK_statusIn 19 = .ok (.goto 4, 3) := by decide +kernel
theorem dK_statusIn_22 : decode cK_statusIn 22 = .ok (.iconst 0, 1) := by decide +kernel
theorem dK_statusIn_23 : decode cK_statusIn 23 = .ok (.ireturn, 1) := by decide +kernel
theorem dO_of_0 : decode cO_of 0 = .ok (.iload_n 0, 1) := by decide +kernel
theorem dO_of_1 : decode cO_of 1 = .ok (.iload_n 1, 1) := by decide +kernel
theorem dO_of_2 : decode cO_of 2 = .ok (.invokestatic 11, 3) := by decide +kernel
theorem dO_of_5 : decode cO_of 5 = .ok (.istore_n 3, 1) := by decide +kernel
theorem dO_of_6 : decode cO_of 6 = .ok (.iload_n 2, 1) := by decide +kernel
theorem dO_of_7 : decode cO_of 7 = .ok (.ifCond .eq 7, 3) := by decide +kernel
theorem dO_of_10 : decode cO_of 10 = .ok (.iload_n 3, 1) := by decide +kernel
theorem dO_of_11 : decode cO_of 11 = .ok (.goto 4, 3) := by decide +kernel
theorem dO_of_14 : decode cO_of 14 = .ok (.iconst 0, 1) := by decide +kernel
theorem dO_of_15 : decode cO_of 15 = .ok (.iload_n 3, 1) := by decide +kernel
theorem dO_of_16 : decode cO_of 16 = .ok (.invokestatic 15, 3) := by decide +kernel
theorem dO_of_19 : decode cO_of 19 = .ok (.lreturn, 1) := by decide +kernel
theorem dX_andThen_0 : decode cX_andThen 0 = .ok (.lload_n 1, 1) := by decide +kernel
theorem dX_andThen_1 : decode cX_andThen 1 = .ok (.invokestatic 136, 3) := by decide +kernel
theorem dX_andThen_4 : decode cX_andThen 4 = .ok (.ifCond .ne 5, 3) := by decide +kernel
theorem dX_andThen_7 : decode cX_andThen 7 = .ok (.lload_n 1, 1) := by decide +kernel
theorem dX_andThen_8 : decode cX_andThen 8 = .ok (.lreturn, 1) := by decide +kernel
theorem dX_andThen_9 : decode cX_andThen 9 = .ok (.lload_n 1, 1) := by decide +kernel
theorem dX_andThen_10 : decode cX_andThen 10 = .ok (.invokestatic 140, 3) := by decide +kernel
theorem dX_andThen_13 : decode cX_andThen 13 = .ok (.aload_n 0, 1) := by decide +kernel
theorem dX_andThen_14 : decode cX_andThen 14 = .ok (.iload_n 3, 1) := by decide +kernel
theorem dX_andThen_15 : decode cX_andThen 15 = .ok (.iload 4, 2) := by decide +kernel
theorem dX_andThen_17 : decode cX_andThen 17 = .ok (.lload_n 1, 1) := by decide +kernel
theorem dX_andThen_18 : decode cX_andThen 18 = .ok (.invokestatic 144, 3) := by decide +kernel
theorem dX_andThen_21 : decode cX_andThen 21 = .ok (.invokevirtual 42, 3) := by decide +kernel
theorem dX_andThen_24 : decode cX_andThen 24 = .ok (.lor, 1) := by decide +kernel
theorem dX_andThen_25 : decode cX_andThen 25 = .ok (.lreturn, 1) := by decide +kernel
theorem dO_canEndWithZero_0 : decode cO_canEndWithZero 0 = .ok (.lload_n 0, 1) := by decide +kernel
theorem dO_canEndWithZero_1 : decode cO_canEndWithZero 1 = .ok (.ldc2_w 20, 3) := by decide +kernel
theorem dO_canEndWithZero_4 : decode cO_canEndWithZero 4 = .ok (.land, 1) := by decide +kernel
theorem dO_canEndWithZero_5 : decode cO_canEndWithZero 5 = .ok (.lconst 0, 1) := by decide +kernel
theorem dO_canEndWithZero_6 : decode cO_canEndWithZero 6 = .ok (.lcmp, 1) := by decide +kernel
theorem dO_canEndWithZero_7 : decode cO_canEndWithZero 7 = .ok (.ifCond .eq 7, 3) := by decide +kernel
theorem dO_canEndWithZero_10 : decode cO_canEndWithZero 10 = .ok (.iconst 1, 1) := by decide +kernel
theorem dO_canEndWithZero_11 : decode cO_canEndWithZero 11 = .ok (.goto 4, 3) := by decide +kernel
theorem dO_canEndWithZero_14 : decode cO_canEndWithZero 14 = .ok (.iconst 0, 1) := by decide +kernel
theorem dO_canEndWithZero_15 : decode cO_canEndWithZero 15 = .ok (.ireturn, 1) := by decide +kernel
theorem dO_withoutZero_0 : decode cO_withoutZero 0 = .ok (.lload_n 0, 1) := by decide +kernel
theorem dO_withoutZero_1 : decode cO_withoutZero 1 = .ok (.ldc2_w 24, 3) := by decide +kernel
theorem dO_withoutZero_4 : decode cO_withoutZero 4 = .ok (.land, 1) := by decide +kernel
theorem dO_withoutZero_5 : decode cO_withoutZero 5 = .ok (.lreturn, 1) := by decide +kernel
theorem dO_mustEndWithZero_0 : decode cO_mustEndWithZero 0 = .ok (.lload_n 0, 1) := by decide +kernel
theorem dO_mustEndWithZero_1 : decode cO_mustEndWithZero 1 = .ok (.ldc2_w 22, 3) := by decide +kernel
theorem dO_mustEndWithZero_4 : decode cO_mustEndWithZero 4 = .ok (.land, 1) := by decide +kernel
theorem dO_mustEndWithZero_5 : decode cO_mustEndWithZero 5 = .ok (.lconst 0, 1) := by decide +kernel
theorem dO_mustEndWithZero_6 : decode cO_mustEndWithZero 6 = .ok (.lcmp, 1) := by decide +kernel
theorem dO_mustEndWithZero_7 : decode cO_mustEndWithZero 7 = .ok (.ifCond .eq 7, 3) := by decide +kernel
theorem dO_mustEndWithZero_10 : decode cO_mustEndWithZero 10 = .ok (.iconst 1, 1) := by decide +kernel
theorem dO_mustEndWithZero_11 : decode cO_mustEndWithZero 11 = .ok (.goto 4, 3) := by decide +kernel
theorem dO_mustEndWithZero_14 : decode cO_mustEndWithZero 14 = .ok (.iconst 0, 1) := by decide +kernel
theorem dO_mustEndWithZero_15 : decode cO_mustEndWithZero 15 = .ok (.ireturn, 1) := by decide +kernel
theorem dX_resumeBranch_0 : decode cX_resumeBranch 0 = .ok (.aload_n 0, 1) := by decide +kernel
theorem dX_resumeBranch_1 : decode cX_resumeBranch 1 = .ok (.iload_n 1, 1) := by decide +kernel
theorem dX_resumeBranch_2 : decode cX_resumeBranch 2 = .ok (.invokevirtual 123, 3) := by decide +kernel
theorem dX_resumeBranch_5 : decode cX_resumeBranch 5 = .ok (.ifCond .eq 13, 3) := by decide +kernel
theorem dX_resumeBranch_8 : decode cX_resumeBranch 8 = .ok (.aload_n 0, 1) := by decide +kernel
theorem dX_resumeBranch_9 : decode cX_resumeBranch 9 = .ok (.iload_n 1, 1) := by decide +kernel
theorem dX_resumeBranch_10 : decode cX_resumeBranch 10 = .ok (.iconst 0, 1) := by decide +kernel
theorem dX_resumeBranch_11 : decode cX_resumeBranch 11 = .ok (.iload_n 2, 1) := by decide +kernel
theorem dX_resumeBranch_12 : decode cX_resumeBranch 12 = .ok (.invokevirtual 42, 3) := by decide +kernel
theorem dX_resumeBranch_15 : decode cX_resumeBranch 15 = .ok (.goto 9, 3) := by decide +kernel
theorem dX_resumeBranch_18 : decode cX_resumeBranch 18 = .ok (.iconst 0, 1) := by decide +kernel
theorem dX_resumeBranch_19 : decode cX_resumeBranch 19 = .ok (.iconst 1, 1) := by decide +kernel
theorem dX_resumeBranch_20 : decode cX_resumeBranch 20 = .ok (.iload_n 2, 1) := by decide +kernel
theorem dX_resumeBranch_21 : decode cX_resumeBranch 21 = .ok (.invokestatic 100, 3) := by decide +kernel
theorem dX_resumeBranch_24 : decode cX_resumeBranch 24 = .ok (.lreturn, 1) := by decide +kernel
theorem dO_inParallel_0 : decode cO_inParallel 0 = .ok (.lload_n 0, 1) := by decide +kernel
theorem dO_inParallel_1 : decode cO_inParallel 1 = .ok (.invokestatic 28, 3) := by decide +kernel
theorem dO_inParallel_4 : decode cO_inParallel 4 = .ok (.lload_n 2, 1) := by decide +kernel
theorem dO_inParallel_5 : decode cO_inParallel 5 = .ok (.invokestatic 28, 3) := by decide +kernel
theorem dO_inParallel_8 : decode cO_inParallel 8 = .ok (.invokestatic 32, 3) := by decide +kernel
theorem dO_inParallel_11 : decode cO_inParallel 11 = .ok (.lload_n 0, 1) := by decide +kernel
theorem dO_inParallel_12 : decode cO_inParallel 12 = .ok (.invokestatic 35, 3) := by decide +kernel
theorem dO_inParallel_15 : decode cO_inParallel 15 = .ok (.lload_n 2, 1) := by decide +kernel
theorem dO_inParallel_16 : decode cO_inParallel 16 = .ok (.invokestatic 35, 3) := by decide +kernel
theorem dO_inParallel_19 : decode cO_inParallel 19 = .ok (.invokestatic 32, 3) := by decide +kernel
theorem dO_inParallel_22 : decode cO_inParallel 22 = .ok (.invokestatic 15, 3) := by decide +kernel
theorem dO_inParallel_25 : decode cO_inParallel 25 = .ok (.lreturn, 1) := by decide +kernel
theorem dO_joined_0 : decode cO_joined 0 = .ok (.iload_n 0, 1) := by decide +kernel
theorem dO_joined_1 : decode cO_joined 1 = .ok (.iload_n 1, 1) := by decide +kernel
theorem dO_joined_2 : decode cO_joined 2 = .ok (.ior, 1) := by decide +kernel
theorem dO_joined_3 : decode cO_joined 3 = .ok (.invokestatic 42, 3) := by decide +kernel
theorem dO_joined_6 : decode cO_joined 6 = .ok (.iload_n 0, 1) := by decide +kernel
theorem dO_joined_7 : decode cO_joined 7 = .ok (.invokestatic 45, 3) := by decide +kernel
theorem dO_joined_10 : decode cO_joined 10 = .ok (.iload_n 1, 1) := by decide +kernel
theorem dO_joined_11 : decode cO_joined 11 = .ok (.invokestatic 45, 3) := by decide +kernel
theorem dO_joined_14 : decode cO_joined 14 = .ok (.invokestatic 48, 3) := by decide +kernel
theorem dO_joined_17 : decode cO_joined 17 = .ok (.invokestatic 11, 3) := by decide +kernel
theorem dO_joined_20 : decode cO_joined 20 = .ok (.ireturn, 1) := by decide +kernel
theorem dX_begin_0 : decode cX_begin 0 = .ok (.aload_n 0, 1) := by decide +kernel
theorem dX_begin_1 : decode cX_begin 1 = .ok (.getfield 15, 3) := by decide +kernel
theorem dX_begin_4 : decode cX_begin 4 = .ok (.iload_n 1, 1) := by decide +kernel
theorem dX_begin_5 : decode cX_begin 5 = .ok (.invokevirtual 94, 3) := by decide +kernel
theorem dX_begin_8 : decode cX_begin 8 = .ok (.istore 4, 2) := by decide +kernel
theorem dX_begin_10 : decode cX_begin 10 = .ok (.aload_n 0, 1) := by decide +kernel
theorem dX_begin_11 : decode cX_begin 11 = .ok (.getfield 15, 3) := by decide +kernel
theorem dX_begin_14 : decode cX_begin 14 = .ok (.iload_n 1, 1) := by decide +kernel
theorem dX_begin_15 : decode cX_begin 15 = .ok (.invokevirtual 78, 3) := by decide +kernel
theorem dX_begin_18 : decode cX_begin 18 = .ok (.tableswitch 159 1 8 #[46, 70, 80, 91, 99, 109, 132, 99], 46) := by decide +kernel
theorem dX_begin_64 : decode cX_begin 64 = .ok (.aload_n 0, 1) := by decide +kernel
theorem dX_begin_65 : decode cX_begin 65 = .ok (.dup, 1) := by decide +kernel
theorem dX_begin_66 : decode cX_begin 66 = .ok (.getfield 39, 3) := by decide +kernel
theorem dX_begin_69 : decode cX_begin 69 = .ok (.aload_n 0, 1) := by decide +kernel
theorem dX_begin_70 : decode cX_begin 70 = .ok (.getfield 15, 3) := by decide +kernel
theorem dX_begin_73 : decode cX_begin 73 = .ok (.iload_n 1, 1) := by decide +kernel
theorem dX_begin_74 : decode cX_begin 74 = .ok (.invokevirtual 97, 3) := by decide +kernel
theorem dX_begin_77 : decode cX_begin 77 = .ok (.ior, 1) := by decide +kernel
theorem dX_begin_78 : decode cX_begin 78 = .ok (.putfield 39, 3) := by decide +kernel
theorem dX_begin_81 : decode cX_begin 81 = .ok (.iconst 0, 1) := by decide +kernel
theorem dX_begin_82 : decode cX_begin 82 = .ok (.iconst 2, 1) := by decide +kernel
theorem dX_begin_83 : decode cX_begin 83 = .ok (.iload_n 3, 1) := by decide +kernel
theorem dX_begin_84 : decode cX_begin 84 = .ok (.invokestatic 100, 3) := by decide +kernel
theorem dX_begin_87 : decode cX_begin 87 = .ok (.lreturn, 1) := by decide +kernel
theorem dX_begin_88 : decode cX_begin 88 = .ok (.iconst 1, 1) := by decide +kernel
theorem dX_begin_89 : decode cX_begin 89 = .ok (.iload 4, 2) := by decide +kernel
theorem dX_begin_91 : decode cX_begin 91 = .ok (.ishl, 1) := by decide +kernel
theorem dX_begin_92 : decode cX_begin 92 = .ok (.iconst 1, 1) := by decide +kernel
theorem dX_begin_93 : decode cX_begin 93 = .ok (.iload_n 3, 1) := by decide +kernel
theorem dX_begin_94 : decode cX_begin 94 = .ok (.invokestatic 100, 3) := by decide +kernel
theorem dX_begin_97 : decode cX_begin 97 = .ok (.lreturn, 1) := by decide +kernel
theorem dX_begin_98 : decode cX_begin 98 = .ok (.iconst 0, 1) := by decide +kernel
theorem dX_begin_99 : decode cX_begin 99 = .ok (.iload 4, 2) := by decide +kernel
theorem dX_begin_101 : decode cX_begin 101 = .ok (.invokestatic 103, 3) := by decide +kernel
theorem dX_begin_104 : decode cX_begin 104 = .ok (.iload_n 3, 1) := by decide +kernel
theorem dX_begin_105 : decode cX_begin 105 = .ok (.invokestatic 100, 3) := by decide +kernel
theorem dX_begin_108 : decode cX_begin 108 = .ok (.lreturn, 1) := by decide +kernel
theorem dX_begin_109 : decode cX_begin 109 = .ok (.aload_n 0, 1) := by decide +kernel
theorem dX_begin_110 : decode cX_begin 110 = .ok (.iload_n 1, 1) := by decide +kernel
theorem dX_begin_111 : decode cX_begin 111 = .ok (.iload_n 2, 1) := by decide +kernel
theorem dX_begin_112 : decode cX_begin 112 = .ok (.iload_n 3, 1) := by decide +kernel
theorem dX_begin_113 : decode cX_begin 113 = .ok (.invokevirtual 106, 3) := by decide +kernel
theorem dX_begin_116 : decode cX_begin 116 = .ok (.lreturn, 1) := by decide +kernel
theorem dX_begin_117 : decode cX_begin 117 = .ok (.aload_n 0, 1) := by decide +kernel
theorem dX_begin_118 : decode cX_begin 118 = .ok (.iload_n 1, 1) := by decide +kernel
theorem dX_begin_119 : decode cX_begin 119 = .ok (.iconst 1, 1) := by decide +kernel
theorem dX_begin_120 : decode cX_begin 120 = .ok (.iadd, 1) := by decide +kernel
theorem dX_begin_121 : decode cX_begin 121 = .ok (.iload_n 2, 1) := by decide +kernel
theorem dX_begin_122 : decode cX_begin 122 = .ok (.iload_n 3, 1) := by decide +kernel
theorem dX_begin_123 : decode cX_begin 123 = .ok (.invokevirtual 42, 3) := by decide +kernel
theorem dX_begin_126 : decode cX_begin 126 = .ok (.lreturn, 1) := by decide +kernel
theorem dX_begin_127 : decode cX_begin 127 = .ok (.aload_n 0, 1) := by decide +kernel
theorem dX_begin_128 : decode cX_begin 128 = .ok (.aload_n 0, 1) := by decide +kernel
theorem dX_begin_129 : decode cX_begin 129 = .ok (.iload_n 1, 1) := by decide +kernel
theorem dX_begin_130 : decode cX_begin 130 = .ok (.iconst 1, 1) := by decide +kernel
theorem dX_begin_131 : decode cX_begin 131 = .ok (.iadd, 1) := by decide +kernel
theorem dX_begin_132 : decode cX_begin 132 = .ok (.iload_n 2, 1) := by decide +kernel
theorem dX_begin_133 : decode cX_begin 133 = .ok (.iload_n 3, 1) := by decide +kernel
theorem dX_begin_134 : decode cX_begin 134 = .ok (.invokevirtual 42, 3) := by decide +kernel
theorem dX_begin_137 : decode cX_begin 137 = .ok (.aload_n 0, 1) := by decide +kernel
theorem dX_begin_138 : decode cX_begin 138 = .ok (.getfield 15, 3) := by decide +kernel
theorem dX_begin_141 : decode cX_begin 141 = .ok (.iload_n 1, 1) := by decide +kernel
theorem dX_begin_142 : decode cX_begin 142 = .ok (.invokevirtual 109, 3) := by decide +kernel
theorem dX_begin_145 : decode cX_begin 145 = .ok (.iload_n 2, 1) := by decide +kernel
theorem dX_begin_146 : decode cX_begin 146 = .ok (.invokevirtual 112, 3) := by decide +kernel
theorem dX_begin_149 : decode cX_begin 149 = .ok (.lreturn, 1) := by decide +kernel
theorem dX_begin_150 : decode cX_begin 150 = .ok (.aload_n 0, 1) := by decide +kernel
theorem dX_begin_151 : decode cX_begin 151 = .ok (.iload_n 1, 1) := by decide +kernel
theorem dX_begin_152 : decode cX_begin 152 = .ok (.iconst 1, 1) := by decide +kernel
theorem dX_begin_153 : decode cX_begin 153 = .ok (.iadd, 1) := by decide +kernel
theorem dX_begin_154 : decode cX_begin 154 = .ok (.iload_n 2, 1) := by decide +kernel
theorem dX_begin_155 : decode cX_begin 155 = .ok (.iload_n 3, 1) := by decide +kernel
theorem dX_begin_156 : decode cX_begin 156 = .ok (.invokevirtual 42, 3) := by decide +kernel
theorem dX_begin_159 : decode cX_begin 159 = .ok (.aload_n 0, 1) := by decide +kernel
theorem dX_begin_160 : decode cX_begin 160 = .ok (.aload_n 0, 1) := by decide +kernel
theorem dX_begin_161 : decode cX_begin 161 = .ok (.getfield 15, 3) := by decide +kernel
theorem dX_begin_164 : decode cX_begin 164 = .ok (.iload_n 1, 1) := by decide +kernel
theorem dX_begin_165 : decode cX_begin 165 = .ok (.invokevirtual 109, 3) := by decide +kernel
theorem dX_begin_168 : decode cX_begin 168 = .ok (.iload_n 2, 1) := by decide +kernel
theorem dX_begin_169 : decode cX_begin 169 = .ok (.iload_n 3, 1) := by decide +kernel
theorem dX_begin_170 : decode cX_begin 170 = .ok (.invokevirtual 42, 3) := by decide +kernel
theorem dX_begin_173 : decode cX_begin 173 = .ok (.invokestatic 116, 3) := by decide +kernel
theorem dX_begin_176 : decode cX_begin 176 = .ok (.lreturn, 1) := by decide +kernel
theorem dX_begin_177 : decode cX_begin 177 = .ok (.iconst 0, 1) := by decide +kernel
theorem dX_begin_178 : decode cX_begin 178 = .ok (.iconst 1, 1) := by decide +kernel
theorem dX_begin_179 : decode cX_begin 179 = .ok (.iload_n 3, 1) := by decide +kernel
theorem dX_begin_180 : decode cX_begin 180 = .ok (.invokestatic 100, 3) := by decide +kernel
theorem dX_begin_183 : decode cX_begin 183 = .ok (.lreturn, 1) := by decide +kernel
theorem dX_beginPresent_0 : decode cX_beginPresent 0 = .ok (.iload_n 1, 1) := by decide +kernel
theorem dX_beginPresent_1 : decode cX_beginPresent 1 = .ok (.iconst 1, 1) := by decide +kernel
theorem dX_beginPresent_2 : decode cX_beginPresent 2 = .ok (.iadd, 1) := by decide +kernel
theorem dX_beginPresent_3 : decode cX_beginPresent 3 = .ok (.istore 4, 2) := by decide +kernel
theorem dX_beginPresent_5 : decode cX_beginPresent 5 = .ok (.aload_n 0, 1) := by decide +kernel
theorem dX_beginPresent_6 : decode cX_beginPresent 6 = .ok (.getfield 15, 3) := by decide +kernel
theorem dX_beginPresent_9 : decode cX_beginPresent 9 = .ok (.iload_n 1, 1) := by decide +kernel
theorem dX_beginPresent_10 : decode cX_beginPresent 10 = .ok (.invokevirtual 109, 3) := by decide +kernel
theorem dX_beginPresent_13 : decode cX_beginPresent 13 = .ok (.istore 5, 2) := by decide +kernel
theorem dX_beginPresent_15 : decode cX_beginPresent 15 = .ok (.aload_n 0, 1) := by decide +kernel
theorem dX_beginPresent_16 : decode cX_beginPresent 16 = .ok (.aload_n 0, 1) := by decide +kernel
theorem dX_beginPresent_17 : decode cX_beginPresent 17 = .ok (.getfield 15, 3) := by decide +kernel
theorem dX_beginPresent_20 : decode cX_beginPresent 20 = .ok (.iload_n 1, 1) := by decide +kernel
theorem dX_beginPresent_21 : decode cX_beginPresent 21 = .ok (.invokevirtual 94, 3) := by decide +kernel
theorem dX_beginPresent_24 : decode cX_beginPresent 24 = .ok (.invokevirtual 120, 3) := by decide +kernel
theorem dX_beginPresent_27 : decode cX_beginPresent 27 = .ok (.lookupswitch 43 #[(0, 34), (1, 25)], 25) := by decide +kernel
theorem dX_beginPresent_52 : decode cX_beginPresent 52 = .ok (.aload_n 0, 1) := by decide +kernel
theorem dX_beginPresent_53 : decode cX_beginPresent 53 = .ok (.iload 4, 2) := by decide +kernel
theorem dX_beginPresent_55 : decode cX_beginPresent 55 = .ok (.iload_n 2, 1) := by decide +kernel
theorem dX_beginPresent_56 : decode cX_beginPresent 56 = .ok (.iload_n 3, 1) := by decide +kernel
theorem dX_beginPresent_57 : decode cX_beginPresent 57 = .ok (.invokevirtual 42, 3) := by decide +kernel
theorem dX_beginPresent_60 : decode cX_beginPresent 60 = .ok (.lreturn, 1) := by decide +kernel
theorem dX_beginPresent_61 : decode cX_beginPresent 61 = .ok (.aload_n 0, 1) := by decide +kernel
theorem dX_beginPresent_62 : decode cX_beginPresent 62 = .ok (.iload 5, 2) := by decide +kernel
theorem dX_beginPresent_64 : decode cX_beginPresent 64 = .ok (.iload_n 2, 1) := by decide +kernel
theorem dX_beginPresent_65 : decode cX_beginPresent 65 = .ok (.iload_n 3, 1) := by decide +kernel
theorem dX_beginPresent_66 : decode cX_beginPresent 66 = .ok (.invokevirtual 42, 3) := by decide +kernel
theorem dX_beginPresent_69 : decode cX_beginPresent 69 = .ok (.lreturn, 1) := by decide +kernel
theorem dX_beginPresent_70 : decode cX_beginPresent 70 = .ok (.aload_n 0, 1) := by decide +kernel
theorem dX_beginPresent_71 : decode cX_beginPresent 71 = .ok (.iload 4, 2) := by decide +kernel
theorem dX_beginPresent_73 : decode cX_beginPresent 73 = .ok (.iload_n 2, 1) := by decide +kernel
theorem dX_beginPresent_74 : decode cX_beginPresent 74 = .ok (.iconst 0, 1) := by decide +kernel
theorem dX_beginPresent_75 : decode cX_beginPresent 75 = .ok (.invokevirtual 42, 3) := by decide +kernel
theorem dX_beginPresent_78 : decode cX_beginPresent 78 = .ok (.aload_n 0, 1) := by decide +kernel
theorem dX_beginPresent_79 : decode cX_beginPresent 79 = .ok (.iload 5, 2) := by decide +kernel
theorem dX_beginPresent_81 : decode cX_beginPresent 81 = .ok (.iload_n 2, 1) := by decide +kernel
theorem dX_beginPresent_82 : decode cX_beginPresent 82 = .ok (.iconst 0, 1) := by decide +kernel
theorem dX_beginPresent_83 : decode cX_beginPresent 83 = .ok (.invokevirtual 42, 3) := by decide +kernel
theorem dX_beginPresent_86 : decode cX_beginPresent 86 = .ok (.lor, 1) := by decide +kernel
theorem dX_beginPresent_87 : decode cX_beginPresent 87 = .ok (.lreturn, 1) := by decide +kernel
theorem dX_learnSignals_0 : decode cX_learnSignals 0 = .ok (.aload_n 0, 1) := by decide +kernel
theorem dX_learnSignals_1 : decode cX_learnSignals 1 = .ok (.getfield 46, 3) := by decide +kernel
theorem dX_learnSignals_4 : decode cX_learnSignals 4 = .ok (.invokestatic 64, 3) := by decide +kernel
theorem dX_learnSignals_7 : decode cX_learnSignals 7 = .ok (.ldc 74, 2) := by decide +kernel
theorem dX_learnSignals_9 : decode cX_learnSignals 9 = .ok (.iand, 1) := by decide +kernel
theorem dX_learnSignals_10 : decode cX_learnSignals 10 = .ok (.istore_n 1, 1) := by decide +kernel
theorem dX_learnSignals_11 : decode cX_learnSignals 11 = .ok (.aload_n 0, 1) := by decide +kernel
theorem dX_learnSignals_12 : decode cX_learnSignals 12 = .ok (.getfield 46, 3) := by decide +kernel
theorem dX_learnSignals_15 : decode cX_learnSignals 15 = .ok (.invokestatic 75, 3) := by decide +kernel
theorem dX_learnSignals_18 : decode cX_learnSignals 18 = .ok (.iconst (-1), 1) := by decide +kernel
theorem dX_learnSignals_19 : decode cX_learnSignals 19 = .ok (.ixor, 1) := by decide +kernel
theorem dX_learnSignals_20 : decode cX_learnSignals 20 = .ok (.ldc 74, 2) := by decide +kernel
theorem dX_learnSignals_22 : decode cX_learnSignals 22 = .ok (.iand, 1) := by decide +kernel
theorem dX_learnSignals_23 : decode cX_learnSignals 23 = .ok (.istore_n 2, 1) := by decide +kernel
theorem dX_learnSignals_24 : decode cX_learnSignals 24 = .ok (.aload_n 0, 1) := by decide +kernel
theorem dX_learnSignals_25 : decode cX_learnSignals 25 = .ok (.getfield 30, 3) := by decide +kernel
theorem dX_learnSignals_28 : decode cX_learnSignals 28 = .ok (.iload_n 1, 1) := by decide +kernel
theorem dX_learnSignals_29 : decode cX_learnSignals 29 = .ok (.ior, 1) := by decide +kernel
theorem dX_learnSignals_30 : decode cX_learnSignals 30 = .ok (.iload_n 2, 1) := by decide +kernel
theorem dX_learnSignals_31 : decode cX_learnSignals 31 = .ok (.ior, 1) := by decide +kernel
theorem dX_learnSignals_32 : decode cX_learnSignals 32 = .ok (.istore_n 3, 1) := by decide +kernel
theorem dX_learnSignals_33 : decode cX_learnSignals 33 = .ok (.iload_n 3, 1) := by decide +kernel
theorem dX_learnSignals_34 : decode cX_learnSignals 34 = .ok (.aload_n 0, 1) := by decide +kernel
theorem dX_learnSignals_35 : decode cX_learnSignals 35 = .ok (.getfield 30, 3) := by decide +kernel
theorem dX_learnSignals_38 : decode cX_learnSignals 38 = .ok (.if_icmp .eq 8, 3) := by decide +kernel
theorem dX_learnSignals_41 : decode cX_learnSignals 41 = .ok (.aload_n 0, 1) := by decide +kernel
theorem dX_learnSignals_42 : decode cX_learnSignals 42 = .ok (.iconst 1, 1) := by decide +kernel
theorem dX_learnSignals_43 : decode cX_learnSignals 43 = .ok (.putfield 36, 3) := by decide +kernel
theorem dX_learnSignals_46 : decode cX_learnSignals 46 = .ok (.aload_n 0, 1) := by decide +kernel
theorem dX_learnSignals_47 : decode cX_learnSignals 47 = .ok (.iload_n 3, 1) := by decide +kernel
theorem dX_learnSignals_48 : decode cX_learnSignals 48 = .ok (.putfield 30, 3) := by decide +kernel
theorem dX_learnSignals_51 : decode cX_learnSignals 51 = .ok (.aload_n 0, 1) := by decide +kernel
theorem dX_learnSignals_52 : decode cX_learnSignals 52 = .ok (.dup, 1) := by decide +kernel
theorem dX_learnSignals_53 : decode cX_learnSignals 53 = .ok (.getfield 33, 3) := by decide +kernel
theorem dX_learnSignals_56 : decode cX_learnSignals 56 = .ok (.iload_n 1, 1) := by decide +kernel
theorem dX_learnSignals_57 : decode cX_learnSignals 57 = .ok (.ior, 1) := by decide +kernel
theorem dX_learnSignals_58 : decode cX_learnSignals 58 = .ok (.putfield 33, 3) := by decide +kernel
theorem dX_learnSignals_61 : decode cX_learnSignals 61 = .ok (.return_, 1) := by decide +kernel
theorem dX_mustCodes_0 : decode cX_mustCodes 0 = .ok (.aload_n 0, 1) := by decide +kernel
theorem dX_mustCodes_1 : decode cX_mustCodes 1 = .ok (.getfield 46, 3) := by decide +kernel
theorem dX_mustCodes_4 : decode cX_mustCodes 4 = .ok (.invokestatic 64, 3) := by decide +kernel
theorem dX_mustCodes_7 : decode cX_mustCodes 7 = .ok (.invokestatic 70, 3) := by decide +kernel
theorem dX_mustCodes_10 : decode cX_mustCodes 10 = .ok (.ireturn, 1) := by decide +kernel
theorem dX_settle_0 : decode cX_settle 0 = .ok (.aload_n 0, 1) := by decide +kernel
theorem dX_settle_1 : decode cX_settle 1 = .ok (.iconst 1, 1) := by decide +kernel
theorem dX_settle_2 : decode cX_settle 2 = .ok (.putfield 23, 3) := by decide +kernel
theorem dX_settle_5 : decode cX_settle 5 = .ok (.aload_n 0, 1) := by decide +kernel
theorem dX_settle_6 : decode cX_settle 6 = .ok (.aload_n 0, 1) := by decide +kernel
theorem dX_settle_7 : decode cX_settle 7 = .ok (.getfield 39, 3) := by decide +kernel
theorem dX_settle_10 : decode cX_settle 10 = .ok (.putfield 19, 3) := by decide +kernel
theorem dX_settle_13 : decode cX_settle 13 = .ok (.return_, 1) := by decide +kernel
theorem dX_ends_0 : decode cX_ends 0 = .ok (.aload_n 0, 1) := by decide +kernel
theorem dX_ends_1 : decode cX_ends 1 = .ok (.invokevirtual 53, 3) := by decide +kernel
theorem dX_ends_4 : decode cX_ends 4 = .ok (.iconst 2, 1) := by decide +kernel
theorem dX_ends_5 : decode cX_ends 5 = .ok (.if_icmp .eq 7, 3) := by decide +kernel
theorem dX_ends_8 : decode cX_ends 8 = .ok (.iconst 1, 1) := by decide +kernel
theorem dX_ends_9 : decode cX_ends 9 = .ok (.goto 4, 3) := by decide +kernel
theorem dX_ends_12 : decode cX_ends 12 = .ok (.iconst 0, 1) := by decide +kernel
theorem dX_ends_13 : decode cX_ends 13 = .ok (.ireturn, 1) := by decide +kernel
theorem dL_status_0 : decode cL_status 0 = .ok (.aload_n 2, 1) := by decide +kernel
theorem dL_status_1 : decode cL_status 1 = .ok (.iconst 0, 1) := by decide +kernel
theorem dL_status_2 : decode cL_status 2 = .ok (.aload_n 0, 1) := by decide +kernel
theorem dL_status_3 : decode cL_status 3 = .ok (.iload_n 1, 1) := by decide +kernel
theorem dL_status_4 : decode cL_status 4 = .ok (.invokevirtual 25, 3) := by decide +kernel
theorem dL_status_7 : decode cL_status 7 = .ok (.i2l, 1) := by decide +kernel
theorem dL_status_8 : decode cL_status 8 = .ok (.lastore, 1) := by decide +kernel
theorem dL_status_9 : decode cL_status 9 = .ok (.goto 6, 3) := by decide +kernel
theorem dL_status_12 : decode cL_status 12 = .ok (.astore_n 3, 1) := by decide +kernel
theorem dL_status_13 : decode cL_status 13 = .ok (.iconst 1, 1) := by decide +kernel
theorem dL_status_14 : decode cL_status 14 = .ok (.ireturn, 1) := by decide +kernel
theorem dL_status_15 : decode cL_status 15 = .ok (.iconst 0, 1) := by decide +kernel
theorem dL_status_16 : decode cL_status 16 = .ok (.ireturn, 1) := by decide +kernel
theorem dK_status_0 : decode cK_status 0 = .ok (.iload_n 1, 1) := by decide +kernel
theorem dK_status_1 : decode cK_status 1 = .ok (.ifCond .lt 9, 3) := by decide +kernel
theorem dK_status_4 : decode cK_status 4 = .ok (.iload_n 1, 1) := by decide +kernel
theorem dK_status_5 : decode cK_status 5 = .ok (.bipush 16, 2) := by decide +kernel
theorem dK_status_7 : decode cK_status 7 = .ok (.if_icmp .lt 13, 3) := by decide +kernel
theorem dK_status_10 : decode cK_status 10 = .ok (.new 102, 3) := by decide +kernel
theorem dK_status_13 : decode cK_status 13 = .ok (.dup, 1) := by decide +kernel
theorem dK_status_14 : decode cK_status 14 = .ok (.ldc 104, 2) := by decide +kernel
theorem dK_status_16 : decode cK_status 16 = .ok (.invokespecial 106, 3) := by decide +kernel
theorem dK_status_19 : decode cK_status 19 = .ok (.athrow, 1) := by decide +kernel
theorem dK_status_20 : decode cK_status 20 = .ok (.aload_n 0, 1) := by decide +kernel
theorem dK_status_21 : decode cK_status 21 = .ok (.getfield 30, 3) := by decide +kernel
theorem dK_status_24 : decode cK_status 24 = .ok (.aload_n 0, 1) := by decide +kernel
theorem dK_status_25 : decode cK_status 25 = .ok (.getfield 90, 3) := by decide +kernel
theorem dK_status_28 : decode cK_status 28 = .ok (.iload_n 1, 1) := by decide +kernel
theorem dK_status_29 : decode cK_status 29 = .ok (.invokestatic 107, 3) := by decide +kernel
theorem dK_status_32 : decode cK_status 32 = .ok (.ireturn, 1) := by decide +kernel
theorem dL_selected_0 : decode cL_selected 0 = .ok (.aload_n 2, 1) := by decide +kernel
theorem dL_selected_1 : decode cL_selected 1 = .ok (.iconst 0, 1) := by decide +kernel
theorem dL_selected_2 : decode cL_selected 2 = .ok (.aload_n 0, 1) := by decide +kernel
theorem dL_selected_3 : decode cL_selected 3 = .ok (.iload_n 1, 1) := by decide +kernel
theorem dL_selected_4 : decode cL_selected 4 = .ok (.invokevirtual 30, 3) := by decide +kernel
theorem dL_selected_7 : decode cL_selected 7 = .ok (.ifCond .eq 7, 3) := by decide +kernel
theorem dL_selected_10 : decode cL_selected 10 = .ok (.lconst 1, 1) := by decide +kernel
theorem dL_selected_11 : decode cL_selected 11 = .ok (.goto 4, 3) := by decide +kernel
theorem dL_selected_14 : decode cL_selected 14 = .ok (.lconst 0, 1) := by decide +kernel
theorem dL_selected_15 : decode cL_selected 15 = .ok (.lastore, 1) := by decide +kernel
theorem dL_selected_16 : decode cL_selected 16 = .ok (.goto 6, 3) := by decide +kernel
theorem dL_selected_19 : decode cL_selected 19 = .ok (.astore_n 3, 1) := by decide +kernel
theorem dL_selected_20 : decode cL_selected 20 = .ok (.iconst 1, 1) := by decide +kernel
theorem dL_selected_21 : decode cL_selected 21 = .ok (.ireturn, 1) := by decide +kernel
theorem dL_selected_22 : decode cL_selected 22 = .ok (.iconst 0, 1) := by decide +kernel
theorem dL_selected_23 : decode cL_selected 23 = .ok (.ireturn, 1) := by decide +kernel
theorem dK_selected_0 : decode cK_selected 0 = .ok (.iload_n 1, 1) := by decide +kernel
theorem dK_selected_1 : decode cK_selected 1 = .ok (.ifCond .lt 14, 3) := by decide +kernel
theorem dK_selected_4 : decode cK_selected 4 = .ok (.iload_n 1, 1) := by decide +kernel
theorem dK_selected_5 : decode cK_selected 5 = .ok (.aload_n 0, 1) := by decide +kernel
theorem dK_selected_6 : decode cK_selected 6 = .ok (.getfield 10, 3) := by decide +kernel
theorem dK_selected_9 : decode cK_selected 9 = .ok (.getfield 111, 3) := by decide +kernel
theorem dK_selected_12 : decode cK_selected 12 = .ok (.if_icmp .lt 13, 3) := by decide +kernel
theorem dK_selected_15 : decode cK_selected 15 = .ok (.new 102, 3) := by decide +kernel
theorem dK_selected_18 : decode cK_selected 18 = .ok (.dup, 1) := by decide +kernel
theorem dK_selected_19 : decode cK_selected 19 = .ok (.ldc 114, 2) := by decide +kernel
theorem dK_selected_21 : decode cK_selected 21 = .ok (.invokespecial 106, 3) := by decide +kernel
theorem dK_selected_24 : decode cK_selected 24 = .ok (.athrow, 1) := by decide +kernel
theorem dK_selected_25 : decode cK_selected 25 = .ok (.aload_n 0, 1) := by decide +kernel
theorem dK_selected_26 : decode cK_selected 26 = .ok (.getfield 21, 3) := by decide +kernel
theorem dK_selected_29 : decode cK_selected 29 = .ok (.getfield 116, 3) := by decide +kernel
theorem dK_selected_32 : decode cK_selected 32 = .ok (.iload_n 1, 1) := by decide +kernel
theorem dK_selected_33 : decode cK_selected 33 = .ok (.invokestatic 119, 3) := by decide +kernel
theorem dK_selected_36 : decode cK_selected 36 = .ok (.ireturn, 1) := by decide +kernel
theorem dL_reacts_0 : decode cL_reacts 0 = .ok (.aload_n 1, 1) := by decide +kernel
theorem dL_reacts_1 : decode cL_reacts 1 = .ok (.iconst 0, 1) := by decide +kernel
theorem dL_reacts_2 : decode cL_reacts 2 = .ok (.aload_n 0, 1) := by decide +kernel
theorem dL_reacts_3 : decode cL_reacts 3 = .ok (.invokevirtual 34, 3) := by decide +kernel
theorem dL_reacts_6 : decode cL_reacts 6 = .ok (.i2l, 1) := by decide +kernel
theorem dL_reacts_7 : decode cL_reacts 7 = .ok (.lastore, 1) := by decide +kernel
theorem dL_reacts_8 : decode cL_reacts 8 = .ok (.goto 6, 3) := by decide +kernel
theorem dL_reacts_11 : decode cL_reacts 11 = .ok (.astore_n 2, 1) := by decide +kernel
theorem dL_reacts_12 : decode cL_reacts 12 = .ok (.iconst 1, 1) := by decide +kernel
theorem dL_reacts_13 : decode cL_reacts 13 = .ok (.ireturn, 1) := by decide +kernel
theorem dL_reacts_14 : decode cL_reacts 14 = .ok (.iconst 0, 1) := by decide +kernel
theorem dL_reacts_15 : decode cL_reacts 15 = .ok (.ireturn, 1) := by decide +kernel
theorem dK_reacts_0 : decode cK_reacts 0 = .ok (.aload_n 0, 1) := by decide +kernel
theorem dK_reacts_1 : decode cK_reacts 1 = .ok (.getfield 25, 3) := by decide +kernel
theorem dK_reacts_4 : decode cK_reacts 4 = .ok (.iconst 1, 1) := by decide +kernel
theorem dK_reacts_5 : decode cK_reacts 5 = .ok (.if_icmp .eq 13, 3) := by decide +kernel
theorem dK_reacts_8 : decode cK_reacts 8 = .ok (.new 37, 3) := by decide +kernel
theorem dK_reacts_11 : decode cK_reacts 11 = .ok (.dup, 1) := by decide +kernel
theorem dK_reacts_12 : decode cK_reacts 12 = .ok (.ldc 77, 2) := by decide +kernel
theorem dK_reacts_14 : decode cK_reacts 14 = .ok (.invokespecial 41, 3) := by decide +kernel
theorem dK_reacts_17 : decode cK_reacts 17 = .ok (.athrow, 1) := by decide +kernel
theorem dK_reacts_18 : decode cK_reacts 18 = .ok (.iconst 0, 1) := by decide +kernel
theorem dK_reacts_19 : decode cK_reacts 19 = .ok (.istore_n 1, 1) := by decide +kernel
theorem dK_reacts_20 : decode cK_reacts 20 = .ok (.iconst 0, 1) := by decide +kernel
theorem dK_reacts_21 : decode cK_reacts 21 = .ok (.istore_n 2, 1) := by decide +kernel
theorem dK_reacts_22 : decode cK_reacts 22 = .ok (.iload_n 2, 1) := by decide +kernel
theorem dK_reacts_23 : decode cK_reacts 23 = .ok (.bipush 16, 2) := by decide +kernel
theorem dK_reacts_25 : decode cK_reacts 25 = .ok (.if_icmp .ge 23, 3) := by decide +kernel
theorem dK_reacts_28 : decode cK_reacts 28 = .ok (.aload_n 0, 1) := by decide +kernel
theorem dK_reacts_29 : decode cK_reacts 29 = .ok (.getfield 21, 3) := by decide +kernel
theorem dK_reacts_32 : decode cK_reacts 32 = .ok (.iload_n 2, 1) := by decide +kernel
theorem dK_reacts_33 : decode cK_reacts 33 = .ok (.invokevirtual 81, 3) := by decide +kernel
theorem dK_reacts_36 : decode cK_reacts 36 = .ok (.ifCond .eq 6, 3) := by decide +kernel
theorem dK_reacts_39 : decode cK_reacts 39 = .ok (.iinc 1 1, 3) := by decide +kernel
theorem dK_reacts_42 : decode cK_reacts 42 = .ok (.iinc 2 1, 3) := by decide +kernel
theorem dK_reacts_45 : decode cK_reacts 45 = .ok (.goto (-23), 3) := by decide +kernel
theorem dK_reacts_48 : decode cK_reacts 48 = .ok (.iload_n 1, 1) := by decide +kernel
theorem dK_reacts_49 : decode cK_reacts 49 = .ok (.ireturn, 1) := by decide +kernel
theorem dL_emits_0 : decode cL_emits 0 = .ok (.aload_n 2, 1) := by decide +kernel
theorem dL_emits_1 : decode cL_emits 1 = .ok (.iconst 0, 1) := by decide +kernel
theorem dL_emits_2 : decode cL_emits 2 = .ok (.aload_n 0, 1) := by decide +kernel
theorem dL_emits_3 : decode cL_emits 3 = .ok (.iload_n 1, 1) := by decide +kernel
theorem dL_emits_4 : decode cL_emits 4 = .ok (.invokevirtual 37, 3) := by decide +kernel
theorem dL_emits_7 : decode cL_emits 7 = .ok (.i2l, 1) := by decide +kernel
theorem dL_emits_8 : decode cL_emits 8 = .ok (.lastore, 1) := by decide +kernel
theorem dL_emits_9 : decode cL_emits 9 = .ok (.goto 9, 3) := by decide +kernel
theorem dL_emits_12 : decode cL_emits 12 = .ok (.astore_n 3, 1) := by decide +kernel
theorem dL_emits_13 : decode cL_emits 13 = .ok (.iconst 1, 1) := by decide +kernel
theorem dL_emits_14 : decode cL_emits 14 = .ok (.ireturn, 1) := by decide +kernel
theorem dL_emits_15 : decode cL_emits 15 = .ok (.astore_n 3, 1) := by decide +kernel
theorem dL_emits_16 : decode cL_emits 16 = .ok (.iconst 2, 1) := by decide +kernel
theorem dL_emits_17 : decode cL_emits 17 = .ok (.ireturn, 1) := by decide +kernel
theorem dL_emits_18 : decode cL_emits 18 = .ok (.iconst 0, 1) := by decide +kernel
theorem dL_emits_19 : decode cL_emits 19 = .ok (.ireturn, 1) := by decide +kernel
theorem dK_emits_0 : decode cK_emits 0 = .ok (.aload_n 0, 1) := by decide +kernel
theorem dK_emits_1 : decode cK_emits 1 = .ok (.getfield 25, 3) := by decide +kernel
theorem dK_emits_4 : decode cK_emits 4 = .ok (.iconst 1, 1) := by decide +kernel
theorem dK_emits_5 : decode cK_emits 5 = .ok (.if_icmp .eq 13, 3) := by decide +kernel
theorem dK_emits_8 : decode cK_emits 8 = .ok (.new 37, 3) := by decide +kernel
theorem dK_emits_11 : decode cK_emits 11 = .ok (.dup, 1) := by decide +kernel
theorem dK_emits_12 : decode cK_emits 12 = .ok (.ldc 77, 2) := by decide +kernel
theorem dK_emits_14 : decode cK_emits 14 = .ok (.invokespecial 41, 3) := by decide +kernel
theorem dK_emits_17 : decode cK_emits 17 = .ok (.athrow, 1) := by decide +kernel
theorem dK_emits_18 : decode cK_emits 18 = .ok (.iload_n 1, 1) := by decide +kernel
theorem dK_emits_19 : decode cK_emits 19 = .ok (.iconst 4, 1) := by decide +kernel
theorem dK_emits_20 : decode cK_emits 20 = .ok (.if_icmp .lt 9, 3) := by decide +kernel
theorem dK_emits_23 : decode cK_emits 23 = .ok (.iload_n 1, 1) := by decide +kernel
theorem dK_emits_24 : decode cK_emits 24 = .ok (.bipush 16, 2) := by decide +kernel
theorem dK_emits_26 : decode cK_emits 26 = .ok (.if_icmp .lt 13, 3) := by decide +kernel
theorem dK_emits_29 : decode cK_emits 29 = .ok (.new 102, 3) := by decide +kernel
theorem dK_emits_32 : decode cK_emits 32 = .ok (.dup, 1) := by decide +kernel
theorem dK_emits_33 : decode cK_emits 33 = .ok (.ldc 122, 2) := by decide +kernel
theorem dK_emits_35 : decode cK_emits 35 = .ok (.invokespecial 106, 3) := by decide +kernel
theorem dK_emits_38 : decode cK_emits 38 = .ok (.athrow, 1) := by decide +kernel
theorem dK_emits_39 : decode cK_emits 39 = .ok (.iconst 0, 1) := by decide +kernel
theorem dK_emits_40 : decode cK_emits 40 = .ok (.istore_n 2, 1) := by decide +kernel
theorem dK_emits_41 : decode cK_emits 41 = .ok (.iconst 0, 1) := by decide +kernel
theorem dK_emits_42 : decode cK_emits 42 = .ok (.istore_n 3, 1) := by decide +kernel
theorem dK_emits_43 : decode cK_emits 43 = .ok (.iload_n 3, 1) := by decide +kernel
theorem dK_emits_44 : decode cK_emits 44 = .ok (.bipush 16, 2) := by decide +kernel
theorem dK_emits_46 : decode cK_emits 46 = .ok (.if_icmp .ge 40, 3) := by decide +kernel
theorem dK_emits_49 : decode cK_emits 49 = .ok (.aload_n 0, 1) := by decide +kernel
theorem dK_emits_50 : decode cK_emits 50 = .ok (.getfield 21, 3) := by decide +kernel
theorem dK_emits_53 : decode cK_emits 53 = .ok (.iload_n 3, 1) := by decide +kernel
theorem dK_emits_54 : decode cK_emits 54 = .ok (.invokevirtual 81, 3) := by decide +kernel
theorem dK_emits_57 : decode cK_emits 57 = .ok (.ifCond .eq 23, 3) := by decide +kernel
theorem dK_emits_60 : decode cK_emits 60 = .ok (.aload_n 0, 1) := by decide +kernel
theorem dK_emits_61 : decode cK_emits 61 = .ok (.getfield 21, 3) := by decide +kernel
theorem dK_emits_64 : decode cK_emits 64 = .ok (.getfield 87, 3) := by decide +kernel
theorem dK_emits_67 : decode cK_emits 67 = .ok (.iload_n 1, 1) := by decide +kernel
theorem dK_emits_68 : decode cK_emits 68 = .ok (.invokestatic 119, 3) := by decide +kernel
theorem dK_emits_71 : decode cK_emits 71 = .ok (.ifCond .eq 9, 3) := by decide +kernel
theorem dK_emits_74 : decode cK_emits 74 = .ok (.iload_n 2, 1) := by decide +kernel
theorem dK_emits_75 : decode cK_emits 75 = .ok (.iconst 1, 1) := by decide +kernel
theorem dK_emits_76 : decode cK_emits 76 = .ok (.iload_n 3, 1) := by decide +kernel
theorem dK_emits_77 : decode cK_emits 77 = .ok (.ishl, 1) := by decide +kernel
theorem dK_emits_78 : decode cK_emits 78 = .ok (.ior, 1) := by decide +kernel
theorem dK_emits_79 : decode cK_emits 79 = .ok (.istore_n 2, 1) := by decide +kernel
theorem dK_emits_80 : decode cK_emits 80 = .ok (.iinc 3 1, 3) := by decide +kernel
theorem dK_emits_83 : decode cK_emits 83 = .ok (.goto (-40), 3) := by decide +kernel
theorem dK_emits_86 : decode cK_emits 86 = .ok (.iload_n 2, 1) := by decide +kernel
theorem dK_emits_87 : decode cK_emits 87 = .ok (.ireturn, 1) := by decide +kernel
theorem dM_init_0 : decode cM_init 0 = .ok (.aload_n 0, 1) := by decide +kernel
theorem dM_init_1 : decode cM_init 1 = .ok (.invokespecial 1, 3) := by decide +kernel
theorem dM_init_4 : decode cM_init 4 = .ok (.aload_n 0, 1) := by decide +kernel
theorem dM_init_5 : decode cM_init 5 = .ok (.iconst 1, 1) := by decide +kernel
theorem dM_init_6 : decode cM_init 6 = .ok (.putfield 7, 3) := by decide +kernel
theorem dM_init_9 : decode cM_init 9 = .ok (.aload_n 0, 1) := by decide +kernel
theorem dM_init_10 : decode cM_init 10 = .ok (.bipush 120, 2) := by decide +kernel
theorem dM_init_12 : decode cM_init 12 = .ok (.newarray .int, 2) := by decide +kernel
theorem dM_init_14 : decode cM_init 14 = .ok (.putfield 13, 3) := by decide +kernel
theorem dM_init_17 : decode cM_init 17 = .ok (.aload_n 0, 1) := by decide +kernel
theorem dM_init_18 : decode cM_init 18 = .ok (.bipush 120, 2) := by decide +kernel
theorem dM_init_20 : decode cM_init 20 = .ok (.newarray .int, 2) := by decide +kernel
theorem dM_init_22 : decode cM_init 22 = .ok (.putfield 17, 3) := by decide +kernel
theorem dM_init_25 : decode cM_init 25 = .ok (.aload_n 0, 1) := by decide +kernel
theorem dM_init_26 : decode cM_init 26 = .ok (.bipush 120, 2) := by decide +kernel
theorem dM_init_28 : decode cM_init 28 = .ok (.newarray .int, 2) := by decide +kernel
theorem dM_init_30 : decode cM_init 30 = .ok (.putfield 20, 3) := by decide +kernel
theorem dM_init_33 : decode cM_init 33 = .ok (.aload_n 0, 1) := by decide +kernel
theorem dM_init_34 : decode cM_init 34 = .ok (.bipush 120, 2) := by decide +kernel
theorem dM_init_36 : decode cM_init 36 = .ok (.newarray .int, 2) := by decide +kernel
theorem dM_init_38 : decode cM_init 38 = .ok (.putfield 23, 3) := by decide +kernel
theorem dM_init_41 : decode cM_init 41 = .ok (.aload_n 0, 1) := by decide +kernel
theorem dM_init_42 : decode cM_init 42 = .ok (.bipush 120, 2) := by decide +kernel
theorem dM_init_44 : decode cM_init 44 = .ok (.newarray .int, 2) := by decide +kernel
theorem dM_init_46 : decode cM_init 46 = .ok (.putfield 26, 3) := by decide +kernel
theorem dM_init_49 : decode cM_init 49 = .ok (.aload_n 0, 1) := by decide +kernel
theorem dM_init_50 : decode cM_init 50 = .ok (.bipush 120, 2) := by decide +kernel
theorem dM_init_52 : decode cM_init 52 = .ok (.newarray .int, 2) := by decide +kernel
theorem dM_init_54 : decode cM_init 54 = .ok (.putfield 29, 3) := by decide +kernel
theorem dM_init_57 : decode cM_init 57 = .ok (.aload_n 0, 1) := by decide +kernel
theorem dM_init_58 : decode cM_init 58 = .ok (.bipush 120, 2) := by decide +kernel
theorem dM_init_60 : decode cM_init 60 = .ok (.newarray .int, 2) := by decide +kernel
theorem dM_init_62 : decode cM_init 62 = .ok (.putfield 32, 3) := by decide +kernel
theorem dM_init_65 : decode cM_init 65 = .ok (.aload_n 0, 1) := by decide +kernel
theorem dM_init_66 : decode cM_init 66 = .ok (.bipush 120, 2) := by decide +kernel
theorem dM_init_68 : decode cM_init 68 = .ok (.newarray .int, 2) := by decide +kernel
theorem dM_init_70 : decode cM_init 70 = .ok (.putfield 35, 3) := by decide +kernel
theorem dM_init_73 : decode cM_init 73 = .ok (.aload_n 0, 1) := by decide +kernel
theorem dM_init_74 : decode cM_init 74 = .ok (.bipush 120, 2) := by decide +kernel
theorem dM_init_76 : decode cM_init 76 = .ok (.newarray .int, 2) := by decide +kernel
theorem dM_init_78 : decode cM_init 78 = .ok (.putfield 38, 3) := by decide +kernel
theorem dM_init_81 : decode cM_init 81 = .ok (.aload_n 0, 1) := by decide +kernel
theorem dM_init_82 : decode cM_init 82 = .ok (.bipush 25, 2) := by decide +kernel
theorem dM_init_84 : decode cM_init 84 = .ok (.newarray .int, 2) := by decide +kernel
theorem dM_init_86 : decode cM_init 86 = .ok (.putfield 41, 3) := by decide +kernel
theorem dM_init_89 : decode cM_init 89 = .ok (.aload_n 0, 1) := by decide +kernel
theorem dM_init_90 : decode cM_init 90 = .ok (.bipush 25, 2) := by decide +kernel
theorem dM_init_92 : decode cM_init 92 = .ok (.newarray .int, 2) := by decide +kernel
theorem dM_init_94 : decode cM_init 94 = .ok (.putfield 44, 3) := by decide +kernel
theorem dM_init_97 : decode cM_init 97 = .ok (.aload_n 0, 1) := by decide +kernel
theorem dM_init_98 : decode cM_init 98 = .ok (.bipush 32, 2) := by decide +kernel
theorem dM_init_100 : decode cM_init 100 = .ok (.newarray .boolean, 2) := by decide +kernel
theorem dM_init_102 : decode cM_init 102 = .ok (.putfield 47, 3) := by decide +kernel
theorem dM_init_105 : decode cM_init 105 = .ok (.aload_n 0, 1) := by decide +kernel
theorem dM_init_106 : decode cM_init 106 = .ok (.bipush 32, 2) := by decide +kernel
theorem dM_init_108 : decode cM_init 108 = .ok (.newarray .boolean, 2) := by decide +kernel
theorem dM_init_110 : decode cM_init 110 = .ok (.putfield 51, 3) := by decide +kernel
theorem dM_init_113 : decode cM_init 113 = .ok (.aload_n 0, 1) := by decide +kernel
theorem dM_init_114 : decode cM_init 114 = .ok (.bipush 16, 2) := by decide +kernel
theorem dM_init_116 : decode cM_init 116 = .ok (.newarray .int, 2) := by decide +kernel
theorem dM_init_118 : decode cM_init 118 = .ok (.putfield 54, 3) := by decide +kernel
theorem dM_init_121 : decode cM_init 121 = .ok (.aload_n 0, 1) := by decide +kernel
theorem dM_init_122 : decode cM_init 122 = .ok (.sipush 3256, 3) := by decide +kernel
theorem dM_init_125 : decode cM_init 125 = .ok (.newarray .int, 2) := by decide +kernel
theorem dM_init_127 : decode cM_init 127 = .ok (.putfield 57, 3) := by decide +kernel
theorem dM_init_130 : decode cM_init 130 = .ok (.aload_n 0, 1) := by decide +kernel
theorem dM_init_131 : decode cM_init 131 = .ok (.sipush 3256, 3) := by decide +kernel
theorem dM_init_134 : decode cM_init 134 = .ok (.newarray .boolean, 2) := by decide +kernel
theorem dM_init_136 : decode cM_init 136 = .ok (.putfield 60, 3) := by decide +kernel
theorem dM_init_139 : decode cM_init 139 = .ok (.aload_n 0, 1) := by decide +kernel
theorem dM_init_140 : decode cM_init 140 = .ok (.sipush 3256, 3) := by decide +kernel
theorem dM_init_143 : decode cM_init 143 = .ok (.newarray .boolean, 2) := by decide +kernel
theorem dM_init_145 : decode cM_init 145 = .ok (.putfield 63, 3) := by decide +kernel
theorem dM_init_148 : decode cM_init 148 = .ok (.aload_n 0, 1) := by decide +kernel
theorem dM_init_149 : decode cM_init 149 = .ok (.bipush 16, 2) := by decide +kernel
theorem dM_init_151 : decode cM_init 151 = .ok (.newarray .int, 2) := by decide +kernel
theorem dM_init_153 : decode cM_init 153 = .ok (.putfield 66, 3) := by decide +kernel
theorem dM_init_156 : decode cM_init 156 = .ok (.return_, 1) := by decide +kernel
theorem dM_thrown_0 : decode cM_thrown 0 = .ok (.aload_n 0, 1) := by decide +kernel
theorem dM_thrown_1 : decode cM_thrown 1 = .ok (.getfield 69, 3) := by decide +kernel
theorem dM_thrown_4 : decode cM_thrown 4 = .ok (.ireturn, 1) := by decide +kernel
theorem dM_put_0 : decode cM_put 0 = .ok (.aload_n 0, 1) := by decide +kernel
theorem dM_put_1 : decode cM_put 1 = .ok (.getfield 7, 3) := by decide +kernel
theorem dM_put_4 : decode cM_put 4 = .ok (.ifCond .ne 7, 3) := by decide +kernel
theorem dM_put_7 : decode cM_put 7 = .ok (.iconst 1, 1) := by decide +kernel
theorem dM_put_8 : decode cM_put 8 = .ok (.goto 4, 3) := by decide +kernel
theorem dM_put_11 : decode cM_put 11 = .ok (.iconst 0, 1) := by decide +kernel
theorem dM_put_12 : decode cM_put 12 = .ok (.istore_n 3, 1) := by decide +kernel
theorem dM_put_13 : decode cM_put 13 = .ok (.aload_n 0, 1) := by decide +kernel
theorem dM_put_14 : decode cM_put 14 = .ok (.iload_n 3, 1) := by decide +kernel
theorem dM_put_15 : decode cM_put 15 = .ok (.iload_n 3, 1) := by decide +kernel
theorem dM_put_16 : decode cM_put 16 = .ok (.ifCond .ne 16, 3) := by decide +kernel
theorem dM_put_19 : decode cM_put 19 = .ok (.aload_n 0, 1) := by decide +kernel
theorem dM_put_20 : decode cM_put 20 = .ok (.iload_n 1, 1) := by decide +kernel
theorem dM_put_21 : decode cM_put 21 = .ok (.iload_n 2, 1) := by decide +kernel
theorem dM_put_22 : decode cM_put 22 = .ok (.invokevirtual 79, 3) := by decide +kernel
theorem dM_put_25 : decode cM_put 25 = .ok (.ifCond .ne 7, 3) := by decide +kernel
theorem dM_put_28 : decode cM_put 28 = .ok (.iconst 1, 1) := by decide +kernel
theorem dM_put_29 : decode cM_put 29 = .ok (.goto 4, 3) := by decide +kernel
theorem dM_put_32 : decode cM_put 32 = .ok (.iconst 0, 1) := by decide +kernel
theorem dM_put_33 : decode cM_put 33 = .ok (.invokevirtual 83, 3) := by decide +kernel
theorem dM_put_36 : decode cM_put 36 = .ok (.ifCond .eq 5, 3) := by decide +kernel
theorem dM_put_39 : decode cM_put 39 = .ok (.iconst 0, 1) := by decide +kernel
theorem dM_put_40 : decode cM_put 40 = .ok (.ireturn, 1) := by decide +kernel
theorem dM_put_41 : decode cM_put 41 = .ok (.aload_n 0, 1) := by decide +kernel
theorem dM_put_42 : decode cM_put 42 = .ok (.getfield 72, 3) := by decide +kernel
theorem dM_put_45 : decode cM_put 45 = .ok (.ifCond .ne 7, 3) := by decide +kernel
theorem dM_put_48 : decode cM_put 48 = .ok (.iconst (-1), 1) := by decide +kernel
theorem dM_put_49 : decode cM_put 49 = .ok (.goto 14, 3) := by decide +kernel
theorem dM_put_52 : decode cM_put 52 = .ok (.aload_n 0, 1) := by decide +kernel
theorem dM_put_53 : decode cM_put 53 = .ok (.getfield 41, 3) := by decide +kernel
theorem dM_put_56 : decode cM_put 56 = .ok (.aload_n 0, 1) := by decide +kernel
theorem dM_put_57 : decode cM_put 57 = .ok (.getfield 72, 3) := by decide +kernel
theorem dM_put_60 : decode cM_put 60 = .ok (.iconst 1, 1) := by decide +kernel
theorem dM_put_61 : decode cM_put 61 = .ok (.isub, 1) := by decide +kernel
theorem dM_put_62 : decode cM_put 62 = .ok (.iaload, 1) := by decide +kernel
theorem dM_put_63 : decode cM_put 63 = .ok (.istore 4, 2) := by decide +kernel
theorem dM_put_65 : decode cM_put 65 = .ok (.iload 4, 2) := by decide +kernel
theorem dM_put_67 : decode cM_put 67 = .ok (.iconst (-1), 1) := by decide +kernel
theorem dM_put_68 : decode cM_put 68 = .ok (.if_icmp .eq 18, 3) := by decide +kernel
theorem dM_put_71 : decode cM_put 71 = .ok (.aload_n 0, 1) := by decide +kernel
theorem dM_put_72 : decode cM_put 72 = .ok (.getfield 20, 3) := by decide +kernel
theorem dM_put_75 : decode cM_put 75 = .ok (.iload 4, 2) := by decide +kernel
theorem dM_put_77 : decode cM_put 77 = .ok (.iaload, 1) := by decide +kernel
theorem dM_put_78 : decode cM_put 78 = .ok (.iconst (-1), 1) := by decide +kernel
theorem dM_put_79 : decode cM_put 79 = .ok (.if_icmp .eq 7, 3) := by decide +kernel
theorem dM_put_82 : decode cM_put 82 = .ok (.iconst 1, 1) := by decide +kernel
theorem dM_put_83 : decode cM_put 83 = .ok (.goto 4, 3) := by decide +kernel
theorem dM_put_86 : decode cM_put 86 = .ok (.iconst 0, 1) := by decide +kernel
theorem dM_put_87 : decode cM_put 87 = .ok (.istore 5, 2) := by decide +kernel
theorem dM_put_89 : decode cM_put 89 = .ok (.iload 4, 2) := by decide +kernel
theorem dM_put_91 : decode cM_put 91 = .ok (.iconst (-1), 1) := by decide +kernel
theorem dM_put_92 : decode cM_put 92 = .ok (.if_icmp .ne 7, 3) := by decide +kernel
theorem dM_put_95 : decode cM_put 95 = .ok (.iconst 1, 1) := by decide +kernel
theorem dM_put_96 : decode cM_put 96 = .ok (.goto 45, 3) := by decide +kernel
theorem dM_put_99 : decode cM_put 99 = .ok (.aload_n 0, 1) := by decide +kernel
theorem dM_put_100 : decode cM_put 100 = .ok (.getfield 35, 3) := by decide +kernel
theorem dM_put_103 : decode cM_put 103 = .ok (.iload 4, 2) := by decide +kernel
theorem dM_put_105 : decode cM_put 105 = .ok (.iaload, 1) := by decide +kernel
theorem dM_put_106 : decode cM_put 106 = .ok (.aload_n 0, 1) := by decide +kernel
theorem dM_put_107 : decode cM_put 107 = .ok (.getfield 13, 3) := by decide +kernel
theorem dM_put_110 : decode cM_put 110 = .ok (.iload 4, 2) := by decide +kernel
theorem dM_put_112 : decode cM_put 112 = .ok (.iaload, 1) := by decide +kernel
theorem dM_put_113 : decode cM_put 113 = .ok (.bipush 8, 2) := by decide +kernel
theorem dM_put_115 : decode cM_put 115 = .ok (.if_icmp .eq 20, 3) := by decide +kernel
theorem dM_put_118 : decode cM_put 118 = .ok (.aload_n 0, 1) := by decide +kernel
theorem dM_put_119 : decode cM_put 119 = .ok (.getfield 13, 3) := by decide +kernel
theorem dM_put_122 : decode cM_put 122 = .ok (.iload 4, 2) := by decide +kernel
theorem dM_put_124 : decode cM_put 124 = .ok (.iaload, 1) := by decide +kernel
theorem dM_put_125 : decode cM_put 125 = .ok (.bipush 6, 2) := by decide +kernel
theorem dM_put_127 : decode cM_put 127 = .ok (.if_icmp .ne 12, 3) := by decide +kernel
theorem dM_put_130 : decode cM_put 130 = .ok (.iload 5, 2) := by decide +kernel
theorem dM_put_132 : decode cM_put 132 = .ok (.ifCond .eq 7, 3) := by decide +kernel
theorem dM_put_135 : decode cM_put 135 = .ok (.iconst 1, 1) := by decide +kernel
theorem dM_put_136 : decode cM_put 136 = .ok (.goto 4, 3) := by decide +kernel
theorem dM_put_139 : decode cM_put 139 = .ok (.iconst 0, 1) := by decide +kernel
theorem dM_put_140 : decode cM_put 140 = .ok (.iadd, 1) := by decide +kernel
theorem dM_put_141 : decode cM_put 141 = .ok (.istore 6, 2) := by decide +kernel
theorem dM_put_143 : decode cM_put 143 = .ok (.aload_n 0, 1) := by decide +kernel
theorem dM_put_144 : decode cM_put 144 = .ok (.getfield 87, 3) := by decide +kernel
theorem dM_put_147 : decode cM_put 147 = .ok (.bipush 120, 2) := by decide +kernel
theorem dM_put_149 : decode cM_put 149 = .ok (.if_icmp .eq 53, 3) := by decide +kernel
theorem dM_put_152 : decode cM_put 152 = .ok (.iload_n 1, 1) := by decide +kernel
theorem dM_put_153 : decode cM_put 153 = .ok (.iconst 1, 1) := by decide +kernel
theorem dM_put_154 : decode cM_put 154 = .ok (.if_icmp .ne 12, 3) := by decide +kernel
theorem dM_put_157 : decode cM_put 157 = .ok (.aload_n 0, 1) := by decide +kernel
theorem dM_put_158 : decode cM_put 158 = .ok (.getfield 90, 3) := by decide +kernel
theorem dM_put_161 : decode cM_put 161 = .ok (.bipush 32, 2) := by decide +kernel
theorem dM_put_163 : decode cM_put 163 = .ok (.if_icmp .eq 39, 3) := by decide +kernel
theorem dM_put_166 : decode cM_put 166 = .ok (.aload_n 0, 1) := by decide +kernel
theorem dM_put_167 : decode cM_put 167 = .ok (.getfield 72, 3) := by decide +kernel
theorem dM_put_170 : decode cM_put 170 = .ok (.bipush 24, 2) := by decide +kernel
theorem dM_put_172 : decode cM_put 172 = .ok (.if_icmp .eq 30, 3) := by decide +kernel
theorem dM_put_175 : decode cM_put 175 = .ok (.iload_n 1, 1) := by decide +kernel
theorem dM_put_176 : decode cM_put 176 = .ok (.bipush 9, 2) := by decide +kernel
theorem dM_put_178 : decode cM_put 178 = .ok (.if_icmp .ne 11, 3) := by decide +kernel
theorem dM_put_181 : decode cM_put 181 = .ok (.aload_n 0, 1) := by decide +kernel
theorem dM_put_182 : decode cM_put 182 = .ok (.invokevirtual 75, 3) := by decide +kernel
theorem dM_put_185 : decode cM_put 185 = .ok (.iconst 5, 1) := by decide +kernel
theorem dM_put_186 : decode cM_put 186 = .ok (.if_icmp .eq 16, 3) := by decide +kernel
theorem dM_put_189 : decode cM_put 189 = .ok (.aload_n 0, 1) := by decide +kernel
theorem dM_put_190 : decode cM_put 190 = .ok (.getfield 93, 3) := by decide +kernel
theorem dM_put_193 : decode cM_put 193 = .ok (.iload 6, 2) := by decide +kernel
theorem dM_put_195 : decode cM_put 195 = .ok (.iadd, 1) := by decide +kernel
theorem dM_put_196 : decode cM_put 196 = .ok (.sipush 360, 3) := by decide +kernel
theorem dM_put_199 : decode cM_put 199 = .ok (.if_icmp .le 7, 3) := by decide +kernel
theorem dM_put_202 : decode cM_put 202 = .ok (.iconst 1, 1) := by decide +kernel
theorem dM_put_203 : decode cM_put 203 = .ok (.goto 4, 3) := by decide +kernel
theorem dM_put_206 : decode cM_put 206 = .ok (.iconst 0, 1) := by decide +kernel
theorem dM_put_207 : decode cM_put 207 = .ok (.istore 7, 2) := by decide +kernel
theorem dM_put_209 : decode cM_put 209 = .ok (.iload 7, 2) := by decide +kernel
theorem dM_put_211 : decode cM_put 211 = .ok (.ifCond .eq 5, 3) := by decide +kernel
theorem dM_put_214 : decode cM_put 214 = .ok (.iconst (-1), 1) := by decide +kernel
theorem dM_put_215 : decode cM_put 215 = .ok (.ireturn, 1) := by decide +kernel
theorem dM_put_216 : decode cM_put 216 = .ok (.aload_n 0, 1) := by decide +kernel
theorem dM_put_217 : decode cM_put 217 = .ok (.getfield 87, 3) := by decide +kernel
theorem dM_put_220 : decode cM_put 220 = .ok (.istore 8, 2) := by decide +kernel
theorem dM_put_222 : decode cM_put 222 = .ok (.aload_n 0, 1) := by decide +kernel
theorem dM_put_223 : decode cM_put 223 = .ok (.getfield 13, 3) := by decide +kernel
theorem dM_put_226 : decode cM_put 226 = .ok (.iload 8, 2) := by decide +kernel
theorem dM_put_228 : decode cM_put 228 = .ok (.iload_n 1, 1) := by decide +kernel
theorem dM_put_229 : decode cM_put 229 = .ok (.iastore, 1) := by decide +kernel
theorem dM_put_230 : decode cM_put 230 = .ok (.aload_n 0, 1) := by decide +kernel
theorem dM_put_231 : decode cM_put 231 = .ok (.getfield 17, 3) := by decide +kernel
theorem dM_put_234 : decode cM_put 234 = .ok (.iload 8, 2) := by decide +kernel
theorem dM_put_236 : decode cM_put 236 = .ok (.iload_n 2, 1) := by decide +kernel
theorem dM_put_237 : decode cM_put 237 = .ok (.iastore, 1) := by decide +kernel
theorem dM_put_238 : decode cM_put 238 = .ok (.aload_n 0, 1) := by decide +kernel
theorem dM_put_239 : decode cM_put 239 = .ok (.getfield 20, 3) := by decide +kernel
theorem dM_put_242 : decode cM_put 242 = .ok (.iload 8, 2) := by decide +kernel
theorem dM_put_244 : decode cM_put 244 = .ok (.iconst (-1), 1) := by decide +kernel
theorem dM_put_245 : decode cM_put 245 = .ok (.iastore, 1) := by decide +kernel
theorem dM_put_246 : decode cM_put 246 = .ok (.aload_n 0, 1) := by decide +kernel
theorem dM_put_247 : decode cM_put 247 = .ok (.getfield 23, 3) := by decide +kernel
theorem dM_put_250 : decode cM_put 250 = .ok (.iload 8, 2) := by decide +kernel
theorem dM_put_252 : decode cM_put 252 = .ok (.iconst (-1), 1) := by decide +kernel
theorem dM_put_253 : decode cM_put 253 = .ok (.iastore, 1) := by decide +kernel
theorem dM_put_254 : decode cM_put 254 = .ok (.aload_n 0, 1) := by decide +kernel
theorem dM_put_255 : decode cM_put 255 = .ok (.getfield 29, 3) := by decide +kernel
theorem dM_put_258 : decode cM_put 258 = .ok (.iload 8, 2) := by decide +kernel
theorem dM_put_260 : decode cM_put 260 = .ok (.aload_n 0, 1) := by decide +kernel
theorem dM_put_261 : decode cM_put 261 = .ok (.getfield 72, 3) := by decide +kernel
theorem dM_put_264 : decode cM_put 264 = .ok (.iastore, 1) := by decide +kernel
theorem dM_put_265 : decode cM_put 265 = .ok (.aload_n 0, 1) := by decide +kernel
theorem dM_put_266 : decode cM_put 266 = .ok (.getfield 32, 3) := by decide +kernel
theorem dM_put_269 : decode cM_put 269 = .ok (.iload 8, 2) := by decide +kernel
theorem dM_put_271 : decode cM_put 271 = .ok (.aload_n 0, 1) := by decide +kernel
theorem dM_put_272 : decode cM_put 272 = .ok (.invokevirtual 75, 3) := by decide +kernel
theorem dM_put_275 : decode cM_put 275 = .ok (.iastore, 1) := by decide +kernel
theorem dM_put_276 : decode cM_put 276 = .ok (.aload_n 0, 1) := by decide +kernel
theorem dM_put_277 : decode cM_put 277 = .ok (.getfield 35, 3) := by decide +kernel
theorem dM_put_280 : decode cM_put 280 = .ok (.iload 8, 2) := by decide +kernel
theorem dM_put_282 : decode cM_put 282 = .ok (.iload 6, 2) := by decide +kernel
theorem dM_put_284 : decode cM_put 284 = .ok (.iastore, 1) := by decide +kernel
theorem dM_put_285 : decode cM_put 285 = .ok (.aload_n 0, 1) := by decide +kernel
theorem dM_put_286 : decode cM_put 286 = .ok (.dup, 1) := by decide +kernel
theorem dM_put_287 : decode cM_put 287 = .ok (.getfield 93, 3) := by decide +kernel
theorem dM_put_290 : decode cM_put 290 = .ok (.iload 6, 2) := by decide +kernel
theorem dM_put_292 : decode cM_put 292 = .ok (.iadd, 1) := by decide +kernel
theorem dM_put_293 : decode cM_put 293 = .ok (.putfield 93, 3) := by decide +kernel
theorem dM_put_296 : decode cM_put 296 = .ok (.aload_n 0, 1) := by decide +kernel
theorem dM_put_297 : decode cM_put 297 = .ok (.getfield 38, 3) := by decide +kernel
theorem dM_put_300 : decode cM_put 300 = .ok (.iload 8, 2) := by decide +kernel
theorem dM_put_302 : decode cM_put 302 = .ok (.iload_n 1, 1) := by decide +kernel
theorem dM_put_303 : decode cM_put 303 = .ok (.iconst 1, 1) := by decide +kernel
theorem dM_put_304 : decode cM_put 304 = .ok (.if_icmp .ne 10, 3) := by decide +kernel
theorem dM_put_307 : decode cM_put 307 = .ok (.aload_n 0, 1) := by decide +kernel
theorem dM_put_308 : decode cM_put 308 = .ok (.getfield 90, 3) := by decide +kernel
theorem dM_put_311 : decode cM_put 311 = .ok (.goto 4, 3) := by decide +kernel
theorem dM_put_314 : decode cM_put 314 = .ok (.iconst (-1), 1) := by decide +kernel
theorem dM_put_315 : decode cM_put 315 = .ok (.iastore, 1) := by decide +kernel
theorem dM_put_316 : decode cM_put 316 = .ok (.aload_n 0, 1) := by decide +kernel
theorem dM_put_317 : decode cM_put 317 = .ok (.dup, 1) := by decide +kernel
theorem dM_put_318 : decode cM_put 318 = .ok (.getfield 90, 3) := by decide +kernel
theorem dM_put_321 : decode cM_put 321 = .ok (.iload_n 1, 1) := by decide +kernel
theorem dM_put_322 : decode cM_put 322 = .ok (.iconst 1, 1) := by decide +kernel
theorem dM_put_323 : decode cM_put 323 = .ok (.if_icmp .ne 7, 3) := by decide +kernel
theorem dM_put_326 : decode cM_put 326 = .ok (.iconst 1, 1) := by decide +kernel
theorem dM_put_327 : decode cM_put 327 = .ok (.goto 4, 3) := by decide +kernel
theorem dM_put_330 : decode cM_put 330 = .ok (.iconst 0, 1) := by decide +kernel
theorem dM_put_331 : decode cM_put 331 = .ok (.iadd, 1) := by decide +kernel
theorem dM_put_332 : decode cM_put 332 = .ok (.putfield 90, 3) := by decide +kernel
theorem dM_put_335 : decode cM_put 335 = .ok (.iload 4, 2) := by decide +kernel
theorem dM_put_337 : decode cM_put 337 = .ok (.iconst (-1), 1) := by decide +kernel
theorem dM_put_338 : decode cM_put 338 = .ok (.if_icmp .eq 20, 3) := by decide +kernel
theorem dM_put_341 : decode cM_put 341 = .ok (.iload 5, 2) := by decide +kernel
theorem dM_put_343 : decode cM_put 343 = .ok (.ifCond .eq 15, 3) := by decide +kernel
theorem dM_put_346 : decode cM_put 346 = .ok (.aload_n 0, 1) := by decide +kernel
theorem dM_put_347 : decode cM_put 347 = .ok (.getfield 23, 3) := by decide +kernel
theorem dM_put_350 : decode cM_put 350 = .ok (.iload 4, 2) := by decide +kernel
theorem dM_put_352 : decode cM_put 352 = .ok (.iload 8, 2) := by decide +kernel
theorem dM_put_354 : decode cM_put 354 = .ok (.iastore, 1) := by decide +kernel
theorem dM_put_355 : decode cM_put 355 = .ok (.goto 18, 3) := by decide +kernel
theorem dM_put_358 : decode cM_put 358 = .ok (.iload 4, 2) := by decide +kernel
theorem dM_put_360 : decode cM_put 360 = .ok (.iconst (-1), 1) := by decide +kernel
theorem dM_put_361 : decode cM_put 361 = .ok (.if_icmp .eq 12, 3) := by decide +kernel
theorem dM_put_364 : decode cM_put 364 = .ok (.aload_n 0, 1) := by decide +kernel
theorem dM_put_365 : decode cM_put 365 = .ok (.getfield 20, 3) := by decide +kernel
theorem dM_put_368 : decode cM_put 368 = .ok (.iload 4, 2) := by decide +kernel
theorem dM_put_370 : decode cM_put 370 = .ok (.iload 8, 2) := by decide +kernel
theorem dM_put_372 : decode cM_put 372 = .ok (.iastore, 1) := by decide +kernel
theorem dM_put_373 : decode cM_put 373 = .ok (.aload_n 0, 1) := by decide +kernel
theorem dM_put_374 : decode cM_put 374 = .ok (.dup, 1) := by decide +kernel
theorem dM_put_375 : decode cM_put 375 = .ok (.getfield 87, 3) := by decide +kernel
theorem dM_put_378 : decode cM_put 378 = .ok (.iconst 1, 1) := by decide +kernel
theorem dM_put_379 : decode cM_put 379 = .ok (.iadd, 1) := by decide +kernel
theorem dM_put_380 : decode cM_put 380 = .ok (.putfield 87, 3) := by decide +kernel
theorem dM_put_383 : decode cM_put 383 = .ok (.aload_n 0, 1) := by decide +kernel
theorem dM_put_384 : decode cM_put 384 = .ok (.getfield 72, 3) := by decide +kernel
theorem dM_put_387 : decode cM_put 387 = .ok (.ifCond .le 18, 3) := by decide +kernel
theorem dM_put_390 : decode cM_put 390 = .ok (.aload_n 0, 1) := by decide +kernel
theorem dM_put_391 : decode cM_put 391 = .ok (.getfield 44, 3) := by decide +kernel
theorem dM_put_394 : decode cM_put 394 = .ok (.aload_n 0, 1) := by decide +kernel
theorem dM_put_395 : decode cM_put 395 = .ok (.getfield 72, 3) := by decide +kernel
theorem dM_put_398 : decode cM_put 398 = .ok (.iconst 1, 1) := by decide +kernel
theorem dM_put_399 : decode cM_put 399 = .ok (.isub, 1) := by decide +kernel
theorem dM_put_400 : decode cM_put 400 = .ok (.dup2, 1) := by decide +kernel
theorem dM_put_401 : decode cM_put 401 = .ok (.iaload, 1) := by decide +kernel
theorem dM_put_402 : decode cM_put 402 = .ok (.iconst 1, 1) := by decide +kernel
theorem dM_put_403 : decode cM_put 403 = .ok (.isub, 1) := by decide +kernel
theorem dM_put_404 : decode cM_put 404 = .ok (.iastore, 1) := by decide +kernel
theorem dM_put_405 : decode cM_put 405 = .ok (.aload_n 0, 1) := by decide +kernel
theorem dM_put_406 : decode cM_put 406 = .ok (.getfield 41, 3) := by decide +kernel
theorem dM_put_409 : decode cM_put 409 = .ok (.aload_n 0, 1) := by decide +kernel
theorem dM_put_410 : decode cM_put 410 = .ok (.getfield 72, 3) := by decide +kernel
theorem dM_put_413 : decode cM_put 413 = .ok (.iload 8, 2) := by decide +kernel
theorem dM_put_415 : decode cM_put 415 = .ok (.iastore, 1) := by decide +kernel
theorem dM_put_416 : decode cM_put 416 = .ok (.aload_n 0, 1) := by decide +kernel
theorem dM_put_417 : decode cM_put 417 = .ok (.getfield 44, 3) := by decide +kernel
theorem dM_put_420 : decode cM_put 420 = .ok (.aload_n 0, 1) := by decide +kernel
theorem dM_put_421 : decode cM_put 421 = .ok (.getfield 72, 3) := by decide +kernel
theorem dM_put_424 : decode cM_put 424 = .ok (.iload_n 1, 1) := by decide +kernel
theorem dM_put_425 : decode cM_put 425 = .ok (.invokestatic 96, 3) := by decide +kernel
theorem dM_put_428 : decode cM_put 428 = .ok (.iastore, 1) := by decide +kernel
theorem dM_put_429 : decode cM_put 429 = .ok (.aload_n 0, 1) := by decide +kernel
theorem dM_put_430 : decode cM_put 430 = .ok (.dup, 1) := by decide +kernel
theorem dM_put_431 : decode cM_put 431 = .ok (.getfield 72, 3) := by decide +kernel
theorem dM_put_434 : decode cM_put 434 = .ok (.iconst 1, 1) := by decide +kernel
theorem dM_put_435 : decode cM_put 435 = .ok (.iadd, 1) := by decide +kernel
theorem dM_put_436 : decode cM_put 436 = .ok (.putfield 72, 3) := by decide +kernel
theorem dM_put_439 : decode cM_put 439 = .ok (.aload_n 0, 1) := by decide +kernel
theorem dM_put_440 : decode cM_put 440 = .ok (.getfield 72, 3) := by decide +kernel
theorem dM_put_443 : decode cM_put 443 = .ok (.ifCond .le 48, 3) := by decide +kernel
theorem dM_put_446 : decode cM_put 446 = .ok (.aload_n 0, 1) := by decide +kernel
theorem dM_put_447 : decode cM_put 447 = .ok (.getfield 44, 3) := by decide +kernel
theorem dM_put_450 : decode cM_put 450 = .ok (.aload_n 0, 1) := by decide +kernel
theorem dM_put_451 : decode cM_put 451 = .ok (.getfield 72, 3) := by decide +kernel
theorem dM_put_454 : decode cM_put 454 = .ok (.iconst 1, 1) := by decide +kernel
theorem dM_put_455 : decode cM_put 455 = .ok (.isub, 1) := by decide +kernel
theorem dM_put_456 : decode cM_put 456 = .ok (.iaload, 1) := by decide +kernel
theorem dM_put_457 : decode cM_put 457 = .ok (.ifCond .ne 34, 3) := by decide +kernel
theorem dM_put_460 : decode cM_put 460 = .ok (.aload_n 0, 1) := by decide +kernel
theorem dM_put_461 : decode cM_put 461 = .ok (.dup, 1) := by decide +kernel
theorem dM_put_462 : decode cM_put 462 = .ok (.getfield 72, 3) := by decide +kernel
theorem dM_put_465 : decode cM_put 465 = .ok (.iconst 1, 1) := by decide +kernel
theorem dM_put_466 : decode cM_put 466 = .ok (.isub, 1) := by decide +kernel
theorem dM_put_467 : decode cM_put 467 = .ok (.putfield 72, 3) := by decide +kernel
theorem dM_put_470 : decode cM_put 470 = .ok (.aload_n 0, 1) := by decide +kernel
theorem dM_put_471 : decode cM_put 471 = .ok (.getfield 26, 3) := by decide +kernel
theorem dM_put_474 : decode cM_put 474 = .ok (.aload_n 0, 1) := by decide +kernel
theorem dM_put_475 : decode cM_put 475 = .ok (.getfield 41, 3) := by decide +kernel
theorem dM_put_478 : decode cM_put 478 = .ok (.aload_n 0, 1) := by decide +kernel
theorem dM_put_479 : decode cM_put 479 = .ok (.getfield 72, 3) := by decide +kernel
theorem dM_put_482 : decode cM_put 482 = .ok (.iaload, 1) := by decide +kernel
theorem dM_put_483 : decode cM_put 483 = .ok (.aload_n 0, 1) := by decide +kernel
theorem dM_put_484 : decode cM_put 484 = .ok (.getfield 87, 3) := by decide +kernel
theorem dM_put_487 : decode cM_put 487 = .ok (.iastore, 1) := by decide +kernel
theorem dM_put_488 : decode cM_put 488 = .ok (.goto (-49), 3) := by decide +kernel
theorem dM_put_491 : decode cM_put 491 = .ok (.aload_n 0, 1) := by decide +kernel
theorem dM_put_492 : decode cM_put 492 = .ok (.dup, 1) := by decide +kernel
theorem dM_put_493 : decode cM_put 493 = .ok (.getfield 7, 3) := by decide +kernel
theorem dM_put_496 : decode cM_put 496 = .ok (.iload_n 1, 1) := by decide +kernel
theorem dM_put_497 : decode cM_put 497 = .ok (.invokestatic 96, 3) := by decide +kernel
theorem dM_put_500 : decode cM_put 500 = .ok (.iconst 1, 1) := by decide +kernel
theorem dM_put_501 : decode cM_put 501 = .ok (.isub, 1) := by decide +kernel
theorem dM_put_502 : decode cM_put 502 = .ok (.iadd, 1) := by decide +kernel
theorem dM_put_503 : decode cM_put 503 = .ok (.putfield 7, 3) := by decide +kernel
theorem dM_put_506 : decode cM_put 506 = .ok (.aload_n 0, 1) := by decide +kernel
theorem dM_put_507 : decode cM_put 507 = .ok (.getfield 7, 3) := by decide +kernel
theorem dM_put_510 : decode cM_put 510 = .ok (.ireturn, 1) := by decide +kernel
theorem dM_isSaid_0 : decode cM_isSaid 0 = .ok (.iload_n 1, 1) := by decide +kernel
theorem dM_isSaid_1 : decode cM_isSaid 1 = .ok (.ifCond .lt 9, 3) := by decide +kernel
theorem dM_isSaid_4 : decode cM_isSaid 4 = .ok (.iload_n 1, 1) := by decide +kernel
theorem dM_isSaid_5 : decode cM_isSaid 5 = .ok (.bipush 10, 2) := by decide +kernel
theorem dM_isSaid_7 : decode cM_isSaid 7 = .ok (.if_icmp .le 5, 3) := by decide +kernel
theorem dM_isSaid_10 : decode cM_isSaid 10 = .ok (.iconst 0, 1) := by decide +kernel
theorem dM_isSaid_11 : decode cM_isSaid 11 = .ok (.ireturn, 1) := by decide +kernel
theorem dM_isSaid_12 : decode cM_isSaid 12 = .ok (.iload_n 1, 1) := by decide +kernel
theorem dM_isSaid_13 : decode cM_isSaid 13 = .ok (.iconst 2, 1) := by decide +kernel
theorem dM_isSaid_14 : decode cM_isSaid 14 = .ok (.if_icmp .eq 9, 3) := by decide +kernel
theorem dM_isSaid_17 : decode cM_isSaid 17 = .ok (.iload_n 1, 1) := by decide +kernel
theorem dM_isSaid_18 : decode cM_isSaid 18 = .ok (.bipush 10, 2) := by decide +kernel
theorem dM_isSaid_20 : decode cM_isSaid 20 = .ok (.if_icmp .ne 20, 3) := by decide +kernel
theorem dM_isSaid_23 : decode cM_isSaid 23 = .ok (.iload_n 2, 1) := by decide +kernel
theorem dM_isSaid_24 : decode cM_isSaid 24 = .ok (.iconst 3, 1) := by decide +kernel
theorem dM_isSaid_25 : decode cM_isSaid 25 = .ok (.if_icmp .le 13, 3) := by decide +kernel
theorem dM_isSaid_28 : decode cM_isSaid 28 = .ok (.iload_n 2, 1) := by decide +kernel
theorem dM_isSaid_29 : decode cM_isSaid 29 = .ok (.bipush 16, 2) := by decide +kernel
theorem dM_isSaid_31 : decode cM_isSaid 31 = .ok (.if_icmp .ge 7, 3) := by decide +kernel
theorem dM_isSaid_34 : decode cM_isSaid 34 = .ok (.iconst 1, 1) := by decide +kernel
theorem dM_isSaid_35 : decode cM_isSaid 35 = .ok (.goto 4, 3) := by decide +kernel
theorem dM_isSaid_38 : decode cM_isSaid 38 = .ok (.iconst 0, 1) := by decide +kernel
theorem dM_isSaid_39 : decode cM_isSaid 39 = .ok (.ireturn, 1) := by decide +kernel
theorem dM_isSaid_40 : decode cM_isSaid 40 = .ok (.iload_n 1, 1) := by decide +kernel
theorem dM_isSaid_41 : decode cM_isSaid 41 = .ok (.iconst 3, 1) := by decide +kernel
theorem dM_isSaid_42 : decode cM_isSaid 42 = .ok (.if_icmp .ne 21, 3) := by decide +kernel
theorem dM_isSaid_45 : decode cM_isSaid 45 = .ok (.iload_n 2, 1) := by decide +kernel
theorem dM_isSaid_46 : decode cM_isSaid 46 = .ok (.ifCond .lt 15, 3) := by decide +kernel
theorem dM_isSaid_49 : decode cM_isSaid 49 = .ok (.iload_n 2, 1) := by decide +kernel
theorem dM_isSaid_50 : decode cM_isSaid 50 = .ok (.aload_n 0, 1) := by decide +kernel
theorem dM_isSaid_51 : decode cM_isSaid 51 = .ok (.invokevirtual 75, 3) := by decide +kernel
theorem dM_isSaid_54 : decode cM_isSaid 54 = .ok (.if_icmp .ge 7, 3) := by decide +kernel
theorem dM_isSaid_57 : decode cM_isSaid 57 = .ok (.iconst 1, 1) := by decide +kernel
theorem dM_isSaid_58 : decode cM_isSaid 58 = .ok (.goto 4, 3) := by decide +kernel
theorem dM_isSaid_61 : decode cM_isSaid 61 = .ok (.iconst 0, 1) := by decide +kernel
theorem dM_isSaid_62 : decode cM_isSaid 62 = .ok (.ireturn, 1) := by decide +kernel
theorem dM_isSaid_63 : decode cM_isSaid 63 = .ok (.iload_n 1, 1) := by decide +kernel
theorem dM_isSaid_64 : decode cM_isSaid 64 = .ok (.iconst 4, 1) := by decide +kernel
theorem dM_isSaid_65 : decode cM_isSaid 65 = .ok (.if_icmp .eq 8, 3) := by decide +kernel
theorem dM_isSaid_68 : decode cM_isSaid 68 = .ok (.iload_n 1, 1) := by decide +kernel
theorem dM_isSaid_69 : decode cM_isSaid 69 = .ok (.iconst 5, 1) := by decide +kernel
theorem dM_isSaid_70 : decode cM_isSaid 70 = .ok (.if_icmp .ne 23, 3) := by decide +kernel
theorem dM_isSaid_73 : decode cM_isSaid 73 = .ok (.iload_n 2, 1) := by decide +kernel
theorem dM_isSaid_74 : decode cM_isSaid 74 = .ok (.bipush (-17), 2) := by decide +kernel
theorem dM_isSaid_76 : decode cM_isSaid 76 = .ok (.if_icmp .le 13, 3) := by decide +kernel
theorem dM_isSaid_79 : decode cM_isSaid 79 = .ok (.iload_n 2, 1) := by decide +kernel
theorem dM_isSaid_80 : decode cM_isSaid 80 = .ok (.bipush 16, 2) := by decide +kernel
theorem dM_isSaid_82 : decode cM_isSaid 82 = .ok (.if_icmp .ge 7, 3) := by decide +kernel
theorem dM_isSaid_85 : decode cM_isSaid 85 = .ok (.iconst 1, 1) := by decide +kernel
theorem dM_isSaid_86 : decode cM_isSaid 86 = .ok (.goto 16, 3) := by decide +kernel
theorem dM_isSaid_89 : decode cM_isSaid 89 = .ok (.iconst 0, 1) := by decide +kernel
theorem dM_isSaid_90 : decode cM_isSaid 90 = .ok (.goto 12, 3) := by decide +kernel
theorem dM_isSaid_93 : decode cM_isSaid 93 = .ok (.iload_n 2, 1) := by decide +kernel
theorem dM_isSaid_94 : decode cM_isSaid 94 = .ok (.ifCond .ne 7, 3) := by decide +kernel
theorem dM_isSaid_97 : decode cM_isSaid 97 = .ok (.iconst 1, 1) := by decide +kernel
theorem dM_isSaid_98 : decode cM_isSaid 98 = .ok (.goto 4, 3) := by decide +kernel
theorem dM_isSaid_101 : decode cM_isSaid 101 = .ok (.iconst 0, 1) := by decide +kernel
theorem dM_isSaid_102 : decode cM_isSaid 102 = .ok (.ireturn, 1) := by decide +kernel
theorem dM_trapsHere_0 : decode cM_trapsHere 0 = .ok (.aload_n 0, 1) := by decide +kernel
theorem dM_trapsHere_1 : decode cM_trapsHere 1 = .ok (.getfield 72, 3) := by decide +kernel
theorem dM_trapsHere_4 : decode cM_trapsHere 4 = .ok (.ifCond .ne 7, 3) := by decide +kernel
theorem dM_trapsHere_7 : decode cM_trapsHere 7 = .ok (.iconst 0, 1) := by decide +kernel
theorem dM_trapsHere_8 : decode cM_trapsHere 8 = .ok (.goto 46, 3) := by decide +kernel
theorem dM_trapsHere_11 : decode cM_trapsHere 11 = .ok (.aload_n 0, 1) := by decide +kernel
theorem dM_trapsHere_12 : decode cM_trapsHere 12 = .ok (.getfield 32, 3) := by decide +kernel
theorem dM_trapsHere_15 : decode cM_trapsHere 15 = .ok (.aload_n 0, 1) := by decide +kernel
theorem dM_trapsHere_16 : decode cM_trapsHere 16 = .ok (.getfield 41, 3) := by decide +kernel
theorem dM_trapsHere_19 : decode cM_trapsHere 19 = .ok (.aload_n 0, 1) := by decide +kernel
theorem dM_trapsHere_20 : decode cM_trapsHere 20 = .ok (.getfield 72, 3) := by decide +kernel
theorem dM_trapsHere_23 : decode cM_trapsHere 23 = .ok (.iconst 1, 1) := by decide +kernel
theorem dM_trapsHere_24 : decode cM_trapsHere 24 = .ok (.isub, 1) := by decide +kernel
theorem dM_trapsHere_25 : decode cM_trapsHere 25 = .ok (.iaload, 1) := by decide +kernel
theorem dM_trapsHere_26 : decode cM_trapsHere 26 = .ok (.iaload, 1) := by decide +kernel
theorem dM_trapsHere_27 : decode cM_trapsHere 27 = .ok (.aload_n 0, 1) := by decide +kernel
theorem dM_trapsHere_28 : decode cM_trapsHere 28 = .ok (.getfield 13, 3) := by decide +kernel
theorem dM_trapsHere_31 : decode cM_trapsHere 31 = .ok (.aload_n 0, 1) := by decide +kernel
theorem dM_trapsHere_32 : decode cM_trapsHere 32 = .ok (.getfield 41, 3) := by decide +kernel
theorem dM_trapsHere_35 : decode cM_trapsHere 35 = .ok (.aload_n 0, 1) := by decide +kernel
theorem dM_trapsHere_36 : decode cM_trapsHere 36 = .ok (.getfield 72, 3) := by decide +kernel
theorem dM_trapsHere_39 : decode cM_trapsHere 39 = .ok (.iconst 1, 1) := by decide +kernel
theorem dM_trapsHere_40 : decode cM_trapsHere 40 = .ok (.isub, 1) := by decide +kernel
theorem dM_trapsHere_41 : decode cM_trapsHere 41 = .ok (.iaload, 1) := by decide +kernel
theorem dM_trapsHere_42 : decode cM_trapsHere 42 = .ok (.iaload, 1) := by decide +kernel
theorem dM_trapsHere_43 : decode cM_trapsHere 43 = .ok (.bipush 9, 2) := by decide +kernel
theorem dM_trapsHere_45 : decode cM_trapsHere 45 = .ok (.if_icmp .ne 7, 3) := by decide +kernel
theorem dM_trapsHere_48 : decode cM_trapsHere 48 = .ok (.iconst 1, 1) := by decide +kernel
theorem dM_trapsHere_49 : decode cM_trapsHere 49 = .ok (.goto 4, 3) := by decide +kernel
theorem dM_trapsHere_52 : decode cM_trapsHere 52 = .ok (.iconst 0, 1) := by decide +kernel
theorem dM_trapsHere_53 : decode cM_trapsHere 53 = .ok (.iadd, 1) := by decide +kernel
theorem dM_trapsHere_54 : decode cM_trapsHere 54 = .ok (.ireturn, 1) := by decide +kernel
theorem dM_fails_0 : decode cM_fails 0 = .ok (.aload_n 0, 1) := by decide +kernel
theorem dM_fails_1 : decode cM_fails 1 = .ok (.iload_n 1, 1) := by decide +kernel
theorem dM_fails_2 : decode cM_fails 2 = .ok (.ifCond .eq 7, 3) := by decide +kernel
theorem dM_fails_5 : decode cM_fails 5 = .ok (.iconst 1, 1) := by decide +kernel
theorem dM_fails_6 : decode cM_fails 6 = .ok (.goto 12, 3) := by decide +kernel
theorem dM_fails_9 : decode cM_fails 9 = .ok (.iload_n 2, 1) := by decide +kernel
theorem dM_fails_10 : decode cM_fails 10 = .ok (.ifCond .eq 7, 3) := by decide +kernel
theorem dM_fails_13 : decode cM_fails 13 = .ok (.iconst 2, 1) := by decide +kernel
theorem dM_fails_14 : decode cM_fails 14 = .ok (.goto 4, 3) := by decide +kernel
theorem dM_fails_17 : decode cM_fails 17 = .ok (.iconst 0, 1) := by decide +kernel
theorem dM_fails_18 : decode cM_fails 18 = .ok (.putfield 69, 3) := by decide +kernel
theorem dM_fails_21 : decode cM_fails 21 = .ok (.aload_n 0, 1) := by decide +kernel
theorem dM_fails_22 : decode cM_fails 22 = .ok (.getfield 69, 3) := by decide +kernel
theorem dM_fails_25 : decode cM_fails 25 = .ok (.ifCond .le 7, 3) := by decide +kernel
theorem dM_fails_28 : decode cM_fails 28 = .ok (.iconst 1, 1) := by decide +kernel
theorem dM_fails_29 : decode cM_fails 29 = .ok (.goto 4, 3) := by decide +kernel
theorem dM_fails_32 : decode cM_fails 32 = .ok (.iconst 0, 1) := by decide +kernel
theorem dM_fails_33 : decode cM_fails 33 = .ok (.ireturn, 1) := by decide +kernel
theorem dM_partsOf_0 : decode cM_partsOf 0 = .ok (.iload_n 0, 1) := by decide +kernel
theorem dM_partsOf_1 : decode cM_partsOf 1 = .ok (.iconst 4, 1) := by decide +kernel
theorem dM_partsOf_2 : decode cM_partsOf 2 = .ok (.if_icmp .ge 7, 3) := by decide +kernel
theorem dM_partsOf_5 : decode cM_partsOf 5 = .ok (.iconst 0, 1) := by decide +kernel
theorem dM_partsOf_6 : decode cM_partsOf 6 = .ok (.goto 25, 3) := by decide +kernel
theorem dM_partsOf_9 : decode cM_partsOf 9 = .ok (.iload_n 0, 1) := by decide +kernel
theorem dM_partsOf_10 : decode cM_partsOf 10 = .ok (.iconst 4, 1) := by decide +kernel
theorem dM_partsOf_11 : decode cM_partsOf 11 = .ok (.if_icmp .eq 15, 3) := by decide +kernel
theorem dM_partsOf_14 : decode cM_partsOf 14 = .ok (.iload_n 0, 1) := by decide +kernel
theorem dM_partsOf_15 : decode cM_partsOf 15 = .ok (.bipush 6, 2) := by decide +kernel
theorem dM_partsOf_17 : decode cM_partsOf 17 = .ok (.if_icmp .eq 9, 3) := by decide +kernel
theorem dM_partsOf_20 : decode cM_partsOf 20 = .ok (.iload_n 0, 1) := by decide +kernel
theorem dM_partsOf_21 : decode cM_partsOf 21 = .ok (.bipush 7, 2) := by decide +kernel
theorem dM_partsOf_23 : decode cM_partsOf 23 = .ok (.if_icmp .ne 7, 3) := by decide +kernel
theorem dM_partsOf_26 : decode cM_partsOf 26 = .ok (.iconst 2, 1) := by decide +kernel
theorem dM_partsOf_27 : decode cM_partsOf 27 = .ok (.goto 4, 3) := by decide +kernel
theorem dM_partsOf_30 : decode cM_partsOf 30 = .ok (.iconst 1, 1) := by decide +kernel
theorem dM_partsOf_31 : decode cM_partsOf 31 = .ok (.ireturn, 1) := by decide +kernel
theorem dM_start_0 : decode cM_start 0 = .ok (.aload_n 0, 1) := by decide +kernel
theorem dM_start_1 : decode cM_start 1 = .ok (.aload_n 0, 1) := by decide +kernel
theorem dM_start_2 : decode cM_start 2 = .ok (.getfield 7, 3) := by decide +kernel
theorem dM_start_5 : decode cM_start 5 = .ok (.ifCond .le 7, 3) := by decide +kernel
theorem dM_start_8 : decode cM_start 8 = .ok (.iconst 1, 1) := by decide +kernel
theorem dM_start_9 : decode cM_start 9 = .ok (.goto 4, 3) := by decide +kernel
theorem dM_start_12 : decode cM_start 12 = .ok (.iconst 0, 1) := by decide +kernel
theorem dM_start_13 : decode cM_start 13 = .ok (.iconst 0, 1) := by decide +kernel
theorem dM_start_14 : decode cM_start 14 = .ok (.invokevirtual 83, 3) := by decide +kernel
theorem dM_start_17 : decode cM_start 17 = .ok (.ifCond .eq 5, 3) := by decide +kernel
theorem dM_start_20 : decode cM_start 20 = .ok (.iconst 0, 1) := by decide +kernel
theorem dM_start_21 : decode cM_start 21 = .ok (.ireturn, 1) := by decide +kernel
theorem dM_start_22 : decode cM_start 22 = .ok (.aload_n 0, 1) := by decide +kernel
theorem dM_start_23 : decode cM_start 23 = .ok (.iconst 0, 1) := by decide +kernel
theorem dM_start_24 : decode cM_start 24 = .ok (.invokevirtual 110, 3) := by decide +kernel
theorem dM_start_27 : decode cM_start 27 = .ok (.iconst 0, 1) := by decide +kernel
theorem dM_start_28 : decode cM_start 28 = .ok (.istore_n 1, 1) := by decide +kernel
theorem dM_start_29 : decode cM_start 29 = .ok (.iconst 0, 1) := by decide +kernel
theorem dM_start_30 : decode cM_start 30 = .ok (.istore_n 2, 1) := by decide +kernel
theorem dM_start_31 : decode cM_start 31 = .ok (.iload_n 2, 1) := by decide +kernel
theorem dM_start_32 : decode cM_start 32 = .ok (.aload_n 0, 1) := by decide +kernel
theorem dM_start_33 : decode cM_start 33 = .ok (.getfield 87, 3) := by decide +kernel
theorem dM_start_36 : decode cM_start 36 = .ok (.if_icmp .ge 44, 3) := by decide +kernel
theorem dM_start_39 : decode cM_start 39 = .ok (.aload_n 0, 1) := by decide +kernel
theorem dM_start_40 : decode cM_start 40 = .ok (.getfield 13, 3) := by decide +kernel
theorem dM_start_43 : decode cM_start 43 = .ok (.iload_n 2, 1) := by decide +kernel
theorem dM_start_44 : decode cM_start 44 = .ok (.iaload, 1) := by decide +kernel
theorem dM_start_45 : decode cM_start 45 = .ok (.bipush 8, 2) := by decide +kernel
theorem dM_start_47 : decode cM_start 47 = .ok (.if_icmp .eq 6, 3) := by decide +kernel
theorem dM_start_50 : decode cM_start 50 = .ok (.goto 24, 3) := by decide +kernel
theorem dM_start_53 : decode cM_start 53 = .ok (.iinc 1 1, 3) := by decide +kernel
theorem dM_start_56 : decode cM_start 56 = .ok (.aload_n 0, 1) := by decide +kernel
theorem dM_start_57 : decode cM_start 57 = .ok (.aload_n 0, 1) := by decide +kernel
theorem dM_start_58 : decode cM_start 58 = .ok (.getfield 20, 3) := by decide +kernel
theorem dM_start_61 : decode cM_start 61 = .ok (.iload_n 2, 1) := by decide +kernel
theorem dM_start_62 : decode cM_start 62 = .ok (.iaload, 1) := by decide +kernel
theorem dM_start_63 : decode cM_start 63 = .ok (.invokevirtual 100, 3) := by decide +kernel
theorem dM_start_66 : decode cM_start 66 = .ok (.iconst 1, 1) := by decide +kernel
theorem dM_start_67 : decode cM_start 67 = .ok (.iand, 1) := by decide +kernel
theorem dM_start_68 : decode cM_start 68 = .ok (.iconst 1, 1) := by decide +kernel
theorem dM_start_69 : decode cM_start 69 = .ok (.if_icmp .ne 5, 3) := by decide +kernel
theorem dM_start_72 : decode cM_start 72 = .ok (.iload_n 1, 1) := by decide +kernel
theorem dM_start_73 : decode cM_start 73 = .ok (.ireturn, 1) := by decide +kernel
theorem dM_start_74 : decode cM_start 74 = .ok (.iinc 2 1, 3) := by decide +kernel
theorem dM_start_77 : decode cM_start 77 = .ok (.goto (-46), 3) := by decide +kernel
theorem dM_start_80 : decode cM_start 80 = .ok (.aload_n 0, 1) := by decide +kernel
theorem dM_start_81 : decode cM_start 81 = .ok (.iconst 1, 1) := by decide +kernel
theorem dM_start_82 : decode cM_start 82 = .ok (.putfield 114, 3) := by decide +kernel
theorem dM_start_85 : decode cM_start 85 = .ok (.aload_n 0, 1) := by decide +kernel
theorem dM_start_86 : decode cM_start 86 = .ok (.iconst 1, 1) := by decide +kernel
theorem dM_start_87 : decode cM_start 87 = .ok (.putfield 117, 3) := by decide +kernel
theorem dM_start_90 : decode cM_start 90 = .ok (.iconst 0, 1) := by decide +kernel
theorem dM_start_91 : decode cM_start 91 = .ok (.ireturn, 1) := by decide +kernel
theorem dM_rest_0 : decode cM_rest 0 = .ok (.aload_n 0, 1) := by decide +kernel
theorem dM_rest_1 : decode cM_rest 1 = .ok (.iload_n 1, 1) := by decide +kernel
theorem dM_rest_2 : decode cM_rest 2 = .ok (.putfield 114, 3) := by decide +kernel
theorem dM_rest_5 : decode cM_rest 5 = .ok (.aload_n 0, 1) := by decide +kernel
theorem dM_rest_6 : decode cM_rest 6 = .ok (.iconst 0, 1) := by decide +kernel
theorem dM_rest_7 : decode cM_rest 7 = .ok (.putfield 121, 3) := by decide +kernel
theorem dM_rest_10 : decode cM_rest 10 = .ok (.iconst 0, 1) := by decide +kernel
theorem dM_rest_11 : decode cM_rest 11 = .ok (.istore_n 2, 1) := by decide +kernel
theorem dM_rest_12 : decode cM_rest 12 = .ok (.iload_n 2, 1) := by decide +kernel
theorem dM_rest_13 : decode cM_rest 13 = .ok (.bipush 32, 2) := by decide +kernel
theorem dM_rest_15 : decode cM_rest 15 = .ok (.if_icmp .ge 16, 3) := by decide +kernel
theorem dM_rest_18 : decode cM_rest 18 = .ok (.aload_n 0, 1) := by decide +kernel
theorem dM_rest_19 : decode cM_rest 19 = .ok (.getfield 47, 3) := by decide +kernel
theorem dM_rest_22 : decode cM_rest 22 = .ok (.iload_n 2, 1) := by decide +kernel
theorem dM_rest_23 : decode cM_rest 23 = .ok (.iconst 0, 1) := by decide +kernel
theorem dM_rest_24 : decode cM_rest 24 = .ok (.bastore, 1) := by decide +kernel
theorem dM_rest_25 : decode cM_rest 25 = .ok (.iinc 2 1, 3) := by decide +kernel
theorem dM_rest_28 : decode cM_rest 28 = .ok (.goto (-16), 3) := by decide +kernel
theorem dM_rest_31 : decode cM_rest 31 = .ok (.iconst 0, 1) := by decide +kernel
theorem dM_rest_32 : decode cM_rest 32 = .ok (.istore_n 2, 1) := by decide +kernel
theorem dM_rest_33 : decode cM_rest 33 = .ok (.iload_n 2, 1) := by decide +kernel
theorem dM_rest_34 : decode cM_rest 34 = .ok (.bipush 16, 2) := by decide +kernel
theorem dM_rest_36 : decode cM_rest 36 = .ok (.if_icmp .ge 16, 3) := by decide +kernel
theorem dM_rest_39 : decode cM_rest 39 = .ok (.aload_n 0, 1) := by decide +kernel
theorem dM_rest_40 : decode cM_rest 40 = .ok (.getfield 54, 3) := by decide +kernel
theorem dM_rest_43 : decode cM_rest 43 = .ok (.iload_n 2, 1) := by decide +kernel
theorem dM_rest_44 : decode cM_rest 44 = .ok (.iconst 0, 1) := by decide +kernel
theorem dM_rest_45 : decode cM_rest 45 = .ok (.iastore, 1) := by decide +kernel
theorem dM_rest_46 : decode cM_rest 46 = .ok (.iinc 2 1, 3) := by decide +kernel
theorem dM_rest_49 : decode cM_rest 49 = .ok (.goto (-16), 3) := by decide +kernel
theorem dM_rest_52 : decode cM_rest 52 = .ok (.return_, 1) := by decide +kernel
theorem dM_codes_0 : decode cM_codes 0 = .ok (.aload_n 0, 1) := by decide +kernel
theorem dM_codes_1 : decode cM_codes 1 = .ok (.getfield 20, 3) := by decide +kernel
theorem dM_codes_4 : decode cM_codes 4 = .ok (.iload_n 1, 1) := by decide +kernel
theorem dM_codes_5 : decode cM_codes 5 = .ok (.iaload, 1) := by decide +kernel
theorem dM_codes_6 : decode cM_codes 6 = .ok (.iconst (-1), 1) := by decide +kernel
theorem dM_codes_7 : decode cM_codes 7 = .ok (.if_icmp .ne 7, 3) := by decide +kernel
theorem dM_codes_10 : decode cM_codes 10 = .ok (.iconst 0, 1) := by decide +kernel
theorem dM_codes_11 : decode cM_codes 11 = .ok (.goto 13, 3) := by decide +kernel
theorem dM_codes_14 : decode cM_codes 14 = .ok (.aload_n 0, 1) := by decide +kernel
theorem dM_codes_15 : decode cM_codes 15 = .ok (.aload_n 0, 1) := by decide +kernel
theorem dM_codes_16 : decode cM_codes 16 = .ok (.getfield 20, 3) := by decide +kernel
theorem dM_codes_19 : decode cM_codes 19 = .ok (.iload_n 1, 1) := by decide +kernel
theorem dM_codes_20 : decode cM_codes 20 = .ok (.iaload, 1) := by decide +kernel
theorem dM_codes_21 : decode cM_codes 21 = .ok (.invokevirtual 100, 3) := by decide +kernel
theorem dM_codes_24 : decode cM_codes 24 = .ok (.istore_n 2, 1) := by decide +kernel
theorem dM_codes_25 : decode cM_codes 25 = .ok (.aload_n 0, 1) := by decide +kernel
theorem dM_codes_26 : decode cM_codes 26 = .ok (.getfield 23, 3) := by decide +kernel
theorem dM_codes_29 : decode cM_codes 29 = .ok (.iload_n 1, 1) := by decide +kernel
theorem dM_codes_30 : decode cM_codes 30 = .ok (.iaload, 1) := by decide +kernel
theorem dM_codes_31 : decode cM_codes 31 = .ok (.iconst (-1), 1) := by decide +kernel
theorem dM_codes_32 : decode cM_codes 32 = .ok (.if_icmp .ne 7, 3) := by decide +kernel
theorem dM_codes_35 : decode cM_codes 35 = .ok (.iconst 0, 1) := by decide +kernel
theorem dM_codes_36 : decode cM_codes 36 = .ok (.goto 13, 3) := by decide +kernel
theorem dM_codes_39 : decode cM_codes 39 = .ok (.aload_n 0, 1) := by decide +kernel
theorem dM_codes_40 : decode cM_codes 40 = .ok (.aload_n 0, 1) := by decide +kernel
theorem dM_codes_41 : decode cM_codes 41 = .ok (.getfield 23, 3) := by decide +kernel
theorem dM_codes_44 : decode cM_codes 44 = .ok (.iload_n 1, 1) := by decide +kernel
theorem dM_codes_45 : decode cM_codes 45 = .ok (.iaload, 1) := by decide +kernel
theorem dM_codes_46 : decode cM_codes 46 = .ok (.invokevirtual 100, 3) := by decide +kernel
theorem dM_codes_49 : decode cM_codes 49 = .ok (.istore_n 3, 1) := by decide +kernel
theorem dM_codes_50 : decode cM_codes 50 = .ok (.aload_n 0, 1) := by decide +kernel
theorem dM_codes_51 : decode cM_codes 51 = .ok (.getfield 13, 3) := by decide +kernel
theorem dM_codes_54 : decode cM_codes 54 = .ok (.iload_n 1, 1) := by decide +kernel
theorem dM_codes_55 : decode cM_codes 55 = .ok (.iaload, 1) := by decide +kernel
theorem dM_codes_56 : decode cM_codes 56 = .ok (.tableswitch 106 0 9 #[56, 58, 56, 60, 69, 106, 73, 90, 96, 101], 56) := by decide +kernel
theorem dM_codes_112 : decode cM_codes 112 = .ok (.iconst 1, 1) := by decide +kernel
theorem dM_codes_113 : decode cM_codes 113 = .ok (.ireturn, 1) := by decide +kernel
theorem dM_codes_114 : decode cM_codes 114 = .ok (.iconst 2, 1) := by decide +kernel
theorem dM_codes_115 : decode cM_codes 115 = .ok (.ireturn, 1) := by decide +kernel
theorem dM_codes_116 : decode cM_codes 116 = .ok (.iconst 4, 1) := by decide +kernel
theorem dM_codes_117 : decode cM_codes 117 = .ok (.aload_n 0, 1) := by decide +kernel
theorem dM_codes_118 : decode cM_codes 118 = .ok (.getfield 17, 3) := by decide +kernel
theorem dM_codes_121 : decode cM_codes 121 = .ok (.iload_n 1, 1) := by decide +kernel
theorem dM_codes_122 : decode cM_codes 122 = .ok (.iaload, 1) := by decide +kernel
theorem dM_codes_123 : decode cM_codes 123 = .ok (.ishl, 1) := by decide +kernel
theorem dM_codes_124 : decode cM_codes 124 = .ok (.ireturn, 1) := by decide +kernel
theorem dM_codes_125 : decode cM_codes 125 = .ok (.iload_n 2, 1) := by decide +kernel
theorem dM_codes_126 : decode cM_codes 126 = .ok (.iload_n 3, 1) := by decide +kernel
theorem dM_codes_127 : decode cM_codes 127 = .ok (.ior, 1) := by decide +kernel
theorem dM_codes_128 : decode cM_codes 128 = .ok (.ireturn, 1) := by decide +kernel
theorem dM_codes_129 : decode cM_codes 129 = .ok (.iload_n 2, 1) := by decide +kernel
theorem dM_codes_130 : decode cM_codes 130 = .ok (.iconst 1, 1) := by decide +kernel
theorem dM_codes_131 : decode cM_codes 131 = .ok (.iand, 1) := by decide +kernel
theorem dM_codes_132 : decode cM_codes 132 = .ok (.ifCond .ne 7, 3) := by decide +kernel
theorem dM_codes_135 : decode cM_codes 135 = .ok (.iload_n 2, 1) := by decide +kernel
theorem dM_codes_136 : decode cM_codes 136 = .ok (.goto 9, 3) := by decide +kernel
theorem dM_codes_139 : decode cM_codes 139 = .ok (.iload_n 2, 1) := by decide +kernel
theorem dM_codes_140 : decode cM_codes 140 = .ok (.bipush (-2), 2) := by decide +kernel
theorem dM_codes_142 : decode cM_codes 142 = .ok (.iand, 1) := by decide +kernel
theorem dM_codes_143 : decode cM_codes 143 = .ok (.iload_n 3, 1) := by decide +kernel
theorem dM_codes_144 : decode cM_codes 144 = .ok (.ior, 1) := by decide +kernel
theorem dM_codes_145 : decode cM_codes 145 = .ok (.ireturn, 1) := by decide +kernel
theorem dM_codes_146 : decode cM_codes 146 = .ok (.iload_n 2, 1) := by decide +kernel
theorem dM_codes_147 : decode cM_codes 147 = .ok (.iload_n 3, 1) := by decide +kernel
theorem dM_codes_148 : decode cM_codes 148 = .ok (.invokestatic 103, 3) := by decide +kernel
theorem dM_codes_151 : decode cM_codes 151 = .ok (.ireturn, 1) := by decide +kernel
theorem dM_codes_152 : decode cM_codes 152 = .ok (.iload_n 2, 1) := by decide +kernel
theorem dM_codes_153 : decode cM_codes 153 = .ok (.bipush (-2), 2) := by decide +kernel
theorem dM_codes_155 : decode cM_codes 155 = .ok (.iand, 1) := by decide +kernel
theorem dM_codes_156 : decode cM_codes 156 = .ok (.ireturn, 1) := by decide +kernel
theorem dM_codes_157 : decode cM_codes 157 = .ok (.iload_n 2, 1) := by decide +kernel
theorem dM_codes_158 : decode cM_codes 158 = .ok (.invokestatic 107, 3) := by decide +kernel
theorem dM_codes_161 : decode cM_codes 161 = .ok (.ireturn, 1) := by decide +kernel
theorem dM_codes_162 : decode cM_codes 162 = .ok (.iload_n 2, 1) := by decide +kernel
theorem dM_codes_163 : decode cM_codes 163 = .ok (.ireturn, 1) := by decide +kernel
theorem dM_pairs_0 : decode cM_pairs 0 = .ok (.iconst 0, 1) := by decide +kernel
theorem dM_pairs_1 : decode cM_pairs 1 = .ok (.istore_n 2, 1) := by decide +kernel
theorem dM_pairs_2 : decode cM_pairs 2 = .ok (.iconst 0, 1) := by decide +kernel
theorem dM_pairs_3 : decode cM_pairs 3 = .ok (.istore_n 3, 1) := by decide +kernel
theorem dM_pairs_4 : decode cM_pairs 4 = .ok (.iload_n 3, 1) := by decide +kernel
theorem dM_pairs_5 : decode cM_pairs 5 = .ok (.bipush 8, 2) := by decide +kernel
theorem dM_pairs_7 : decode cM_pairs 7 = .ok (.if_icmp .ge 65, 3) := by decide +kernel
theorem dM_pairs_10 : decode cM_pairs 10 = .ok (.iconst 0, 1) := by decide +kernel
theorem dM_pairs_11 : decode cM_pairs 11 = .ok (.istore 4, 2) := by decide +kernel
theorem dM_pairs_13 : decode cM_pairs 13 = .ok (.iload 4, 2) := by decide +kernel
theorem dM_pairs_15 : decode cM_pairs 15 = .ok (.bipush 8, 2) := by decide +kernel
theorem dM_pairs_17 : decode cM_pairs 17 = .ok (.if_icmp .ge 49, 3) := by decide +kernel
theorem dM_pairs_20 : decode cM_pairs 20 = .ok (.iload_n 0, 1) := by decide +kernel
theorem dM_pairs_21 : decode cM_pairs 21 = .ok (.iload_n 3, 1) := by decide +kernel
theorem dM_pairs_22 : decode cM_pairs 22 = .ok (.ishr, 1) := by decide +kernel
theorem dM_pairs_23 : decode cM_pairs 23 = .ok (.iconst 1, 1) := by decide +kernel
theorem dM_pairs_24 : decode cM_pairs 24 = .ok (.iand, 1) := by decide +kernel
theorem dM_pairs_25 : decode cM_pairs 25 = .ok (.iconst 1, 1) := by decide +kernel
theorem dM_pairs_26 : decode cM_pairs 26 = .ok (.if_icmp .ne 32, 3) := by decide +kernel
theorem dM_pairs_29 : decode cM_pairs 29 = .ok (.iload_n 1, 1) := by decide +kernel
theorem dM_pairs_30 : decode cM_pairs 30 = .ok (.iload 4, 2) := by decide +kernel
theorem dM_pairs_32 : decode cM_pairs 32 = .ok (.ishr, 1) := by decide +kernel
theorem dM_pairs_33 : decode cM_pairs 33 = .ok (.iconst 1, 1) := by decide +kernel
theorem dM_pairs_34 : decode cM_pairs 34 = .ok (.iand, 1) := by decide +kernel
theorem dM_pairs_35 : decode cM_pairs 35 = .ok (.iconst 1, 1) := by decide +kernel
theorem dM_pairs_36 : decode cM_pairs 36 = .ok (.if_icmp .ne 22, 3) := by decide +kernel
theorem dM_pairs_39 : decode cM_pairs 39 = .ok (.iload_n 2, 1) := by decide +kernel
theorem dM_pairs_40 : decode cM_pairs 40 = .ok (.iconst 1, 1) := by decide +kernel
theorem dM_pairs_41 : decode cM_pairs 41 = .ok (.iload_n 3, 1) := by decide +kernel
theorem dM_pairs_42 : decode cM_pairs 42 = .ok (.iload 4, 2) := by decide +kernel
theorem dM_pairs_44 : decode cM_pairs 44 = .ok (.if_icmp .le 7, 3) := by decide +kernel
theorem dM_pairs_47 : decode cM_pairs 47 = .ok (.iload_n 3, 1) := by decide +kernel
theorem dM_pairs_48 : decode cM_pairs 48 = .ok (.goto 5, 3) := by decide +kernel
theorem dM_pairs_51 : decode cM_pairs 51 = .ok (.iload 4, 2) := by decide +kernel
theorem dM_pairs_53 : decode cM_pairs 53 = .ok (.ishl, 1) := by decide +kernel
theorem dM_pairs_54 : decode cM_pairs 54 = .ok (.ior, 1) := by decide +kernel
theorem dM_pairs_55 : decode cM_pairs 55 = .ok (.goto 4, 3) := by decide +kernel
theorem dM_pairs_58 : decode cM_pairs 58 = .ok (.iload_n 2, 1) := by decide +kernel
theorem dM_pairs_59 : decode cM_pairs 59 = .ok (.istore_n 2, 1) := by decide +kernel
theorem dM_pairs_60 : decode cM_pairs 60 = .ok (.iinc 4 1, 3) := by decide +kernel
theorem dM_pairs_63 : decode cM_pairs 63 = .ok (.goto (-50), 3) := by decide +kernel
theorem dM_pairs_66 : decode cM_pairs 66 = .ok (.iinc 3 1, 3) := by decide +kernel
theorem dM_pairs_69 : decode cM_pairs 69 = .ok (.goto (-65), 3) := by decide +kernel
theorem dM_pairs_72 : decode cM_pairs 72 = .ok (.iload_n 2, 1) := by decide +kernel
theorem dM_pairs_73 : decode cM_pairs 73 = .ok (.ireturn, 1) := by decide +kernel
