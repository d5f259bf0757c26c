theorem dM_caught_0 : decode cM_caught 0 = .ok (.iload_n 0, 1) := by decide +kernel
theorem dM_caught_1 : decode cM_caught 1 = .ok (.iconst 3, 1) := by decide +kernel
theorem dM_caught_2 : decode cM_caught 2 = .ok (.iand, 1) := by decide +kernel
theorem dM_caught_3 : decode cM_caught 3 = .ok (.iload_n 0, 1) := by decide +kernel
theorem dM_caught_4 : decode cM_caught 4 = .ok (.iconst 2, 1) := by decide +kernel
theorem dM_caught_5 : decode cM_caught 5 = .ok (.ishr, 1) := by decide +kernel
theorem dM_caught_6 : decode cM_caught 6 = .ok (.iconst 1, 1) := by decide +kernel
theorem dM_caught_7 : decode cM_caught 7 = .ok (.iand, 1) := by decide +kernel
theorem dM_caught_8 : decode cM_caught 8 = .ok (.ior, 1) := by decide +kernel
theorem dM_caught_9 : decode cM_caught 9 = .ok (.iload_n 0, 1) := by decide +kernel
theorem dM_caught_10 : decode cM_caught 10 = .ok (.iconst 3, 1) := by decide +kernel
theorem dM_caught_11 : decode cM_caught 11 = .ok (.ishr, 1) := by decide +kernel
theorem dM_caught_12 : decode cM_caught 12 = .ok (.iconst 2, 1) := by decide +kernel
theorem dM_caught_13 : decode cM_caught 13 = .ok (.ishl, 1) := by decide +kernel
theorem dM_caught_14 : decode cM_caught 14 = .ok (.ior, 1) := by decide +kernel
theorem dM_caught_15 : decode cM_caught 15 = .ok (.ireturn, 1) := by decide +kernel
theorem dM_clear_0 : decode cM_clear 0 = .ok (.aload_n 0, 1) := by decide +kernel
theorem dM_clear_1 : decode cM_clear 1 = .ok (.iconst 0, 1) := by decide +kernel
theorem dM_clear_2 : decode cM_clear 2 = .ok (.putfield 69, 3) := by decide +kernel
theorem dM_clear_5 : decode cM_clear 5 = .ok (.aload_n 0, 1) := by decide +kernel
theorem dM_clear_6 : decode cM_clear 6 = .ok (.getfield 87, 3) := by decide +kernel
theorem dM_clear_9 : decode cM_clear 9 = .ok (.istore_n 1, 1) := by decide +kernel
theorem dM_clear_10 : decode cM_clear 10 = .ok (.aload_n 0, 1) := by decide +kernel
theorem dM_clear_11 : decode cM_clear 11 = .ok (.iconst 0, 1) := by decide +kernel
theorem dM_clear_12 : decode cM_clear 12 = .ok (.putfield 87, 3) := by decide +kernel
theorem dM_clear_15 : decode cM_clear 15 = .ok (.aload_n 0, 1) := by decide +kernel
theorem dM_clear_16 : decode cM_clear 16 = .ok (.iconst 0, 1) := by decide +kernel
theorem dM_clear_17 : decode cM_clear 17 = .ok (.putfield 90, 3) := by decide +kernel
theorem dM_clear_20 : decode cM_clear 20 = .ok (.aload_n 0, 1) := by decide +kernel
theorem dM_clear_21 : decode cM_clear 21 = .ok (.iconst 0, 1) := by decide +kernel
theorem dM_clear_22 : decode cM_clear 22 = .ok (.putfield 93, 3) := by decide +kernel
theorem dM_clear_25 : decode cM_clear 25 = .ok (.aload_n 0, 1) := by decide +kernel
theorem dM_clear_26 : decode cM_clear 26 = .ok (.iconst 1, 1) := by decide +kernel
theorem dM_clear_27 : decode cM_clear 27 = .ok (.putfield 7, 3) := by decide +kernel
theorem dM_clear_30 : decode cM_clear 30 = .ok (.aload_n 0, 1) := by decide +kernel
theorem dM_clear_31 : decode cM_clear 31 = .ok (.iconst 0, 1) := by decide +kernel
theorem dM_clear_32 : decode cM_clear 32 = .ok (.putfield 72, 3) := by decide +kernel
theorem dM_clear_35 : decode cM_clear 35 = .ok (.aload_n 0, 1) := by decide +kernel
theorem dM_clear_36 : decode cM_clear 36 = .ok (.iconst 0, 1) := by decide +kernel
theorem dM_clear_37 : decode cM_clear 37 = .ok (.invokevirtual 110, 3) := by decide +kernel
theorem dM_clear_40 : decode cM_clear 40 = .ok (.iload_n 1, 1) := by decide +kernel
theorem dM_clear_41 : decode cM_clear 41 = .ok (.ireturn, 1) := by decide +kernel
theorem dM_instant_0 : decode cM_instant 0 = .ok (.aload_n 0, 1) := by decide +kernel
theorem dM_instant_1 : decode cM_instant 1 = .ok (.getfield 114, 3) := by decide +kernel
theorem dM_instant_4 : decode cM_instant 4 = .ok (.iconst 1, 1) := by decide +kernel
theorem dM_instant_5 : decode cM_instant 5 = .ok (.if_icmp .ne 7, 3) := by decide +kernel
theorem dM_instant_8 : decode cM_instant 8 = .ok (.iconst 1, 1) := by decide +kernel
theorem dM_instant_9 : decode cM_instant 9 = .ok (.goto 4, 3) := by decide +kernel
theorem dM_instant_12 : decode cM_instant 12 = .ok (.iconst 0, 1) := by decide +kernel
theorem dM_instant_13 : decode cM_instant 13 = .ok (.istore_n 2, 1) := by decide +kernel
theorem dM_instant_14 : decode cM_instant 14 = .ok (.aload_n 0, 1) := by decide +kernel
theorem dM_instant_15 : decode cM_instant 15 = .ok (.iload_n 2, 1) := by decide +kernel
theorem dM_instant_16 : decode cM_instant 16 = .ok (.ifCond .ne 7, 3) := by decide +kernel
theorem dM_instant_19 : decode cM_instant 19 = .ok (.iconst 1, 1) := by decide +kernel
theorem dM_instant_20 : decode cM_instant 20 = .ok (.goto 4, 3) := by decide +kernel
theorem dM_instant_23 : decode cM_instant 23 = .ok (.iconst 0, 1) := by decide +kernel
theorem dM_instant_24 : decode cM_instant 24 = .ok (.iload_n 2, 1) := by decide +kernel
theorem dM_instant_25 : decode cM_instant 25 = .ok (.ifCond .eq 17, 3) := by decide +kernel
theorem dM_instant_28 : decode cM_instant 28 = .ok (.iload_n 1, 1) := by decide +kernel
theorem dM_instant_29 : decode cM_instant 29 = .ok (.ifCond .lt 9, 3) := by decide +kernel
theorem dM_instant_32 : decode cM_instant 32 = .ok (.iload_n 1, 1) := by decide +kernel
theorem dM_instant_33 : decode cM_instant 33 = .ok (.bipush 15, 2) := by decide +kernel
theorem dM_instant_35 : decode cM_instant 35 = .ok (.if_icmp .le 7, 3) := by decide +kernel
theorem dM_instant_38 : decode cM_instant 38 = .ok (.iconst 1, 1) := by decide +kernel
theorem dM_instant_39 : decode cM_instant 39 = .ok (.goto 4, 3) := by decide +kernel
theorem dM_instant_42 : decode cM_instant 42 = .ok (.iconst 0, 1) := by decide +kernel
theorem dM_instant_43 : decode cM_instant 43 = .ok (.invokevirtual 83, 3) := by decide +kernel
theorem dM_instant_46 : decode cM_instant 46 = .ok (.ifCond .eq 5, 3) := by decide +kernel
theorem dM_instant_49 : decode cM_instant 49 = .ok (.iconst 0, 1) := by decide +kernel
theorem dM_instant_50 : decode cM_instant 50 = .ok (.ireturn, 1) := by decide +kernel
theorem dM_instant_51 : decode cM_instant 51 = .ok (.aload_n 0, 1) := by decide +kernel
theorem dM_instant_52 : decode cM_instant 52 = .ok (.iload_n 1, 1) := by decide +kernel
theorem dM_instant_53 : decode cM_instant 53 = .ok (.invokevirtual 180, 3) := by decide +kernel
theorem dM_instant_56 : decode cM_instant 56 = .ok (.istore_n 3, 1) := by decide +kernel
theorem dM_instant_57 : decode cM_instant 57 = .ok (.iconst 0, 1) := by decide +kernel
theorem dM_instant_58 : decode cM_instant 58 = .ok (.istore 4, 2) := by decide +kernel
theorem dM_instant_60 : decode cM_instant 60 = .ok (.iload 4, 2) := by decide +kernel
theorem dM_instant_62 : decode cM_instant 62 = .ok (.bipush 16, 2) := by decide +kernel
theorem dM_instant_64 : decode cM_instant 64 = .ok (.if_icmp .ge 23, 3) := by decide +kernel
theorem dM_instant_67 : decode cM_instant 67 = .ok (.aload_n 0, 1) := by decide +kernel
theorem dM_instant_68 : decode cM_instant 68 = .ok (.getfield 54, 3) := by decide +kernel
theorem dM_instant_71 : decode cM_instant 71 = .ok (.iload 4, 2) := by decide +kernel
theorem dM_instant_73 : decode cM_instant 73 = .ok (.aload_n 0, 1) := by decide +kernel
theorem dM_instant_74 : decode cM_instant 74 = .ok (.getfield 57, 3) := by decide +kernel
theorem dM_instant_77 : decode cM_instant 77 = .ok (.iload 4, 2) := by decide +kernel
theorem dM_instant_79 : decode cM_instant 79 = .ok (.iaload, 1) := by decide +kernel
theorem dM_instant_80 : decode cM_instant 80 = .ok (.iastore, 1) := by decide +kernel
theorem dM_instant_81 : decode cM_instant 81 = .ok (.iinc 4 1, 3) := by decide +kernel
theorem dM_instant_84 : decode cM_instant 84 = .ok (.goto (-24), 3) := by decide +kernel
theorem dM_instant_87 : decode cM_instant 87 = .ok (.iload_n 3, 1) := by decide +kernel
theorem dM_instant_88 : decode cM_instant 88 = .ok (.iconst (-1), 1) := by decide +kernel
theorem dM_instant_89 : decode cM_instant 89 = .ok (.if_icmp .ne 5, 3) := by decide +kernel
theorem dM_instant_92 : decode cM_instant 92 = .ok (.iconst 2, 1) := by decide +kernel
theorem dM_instant_93 : decode cM_instant 93 = .ok (.ireturn, 1) := by decide +kernel
theorem dM_instant_94 : decode cM_instant 94 = .ok (.aload_n 0, 1) := by decide +kernel
theorem dM_instant_95 : decode cM_instant 95 = .ok (.dup, 1) := by decide +kernel
theorem dM_instant_96 : decode cM_instant 96 = .ok (.getfield 121, 3) := by decide +kernel
theorem dM_instant_99 : decode cM_instant 99 = .ok (.iconst 1, 1) := by decide +kernel
theorem dM_instant_100 : decode cM_instant 100 = .ok (.iadd, 1) := by decide +kernel
theorem dM_instant_101 : decode cM_instant 101 = .ok (.putfield 121, 3) := by decide +kernel
theorem dM_instant_104 : decode cM_instant 104 = .ok (.aload_n 0, 1) := by decide +kernel
theorem dM_instant_105 : decode cM_instant 105 = .ok (.iconst 0, 1) := by decide +kernel
theorem dM_instant_106 : decode cM_instant 106 = .ok (.putfield 117, 3) := by decide +kernel
theorem dM_instant_109 : decode cM_instant 109 = .ok (.iconst 0, 1) := by decide +kernel
theorem dM_instant_110 : decode cM_instant 110 = .ok (.istore 4, 2) := by decide +kernel
theorem dM_instant_112 : decode cM_instant 112 = .ok (.iload 4, 2) := by decide +kernel
theorem dM_instant_114 : decode cM_instant 114 = .ok (.bipush 32, 2) := by decide +kernel
theorem dM_instant_116 : decode cM_instant 116 = .ok (.if_icmp .ge 36, 3) := by decide +kernel
theorem dM_instant_119 : decode cM_instant 119 = .ok (.aload_n 0, 1) := by decide +kernel
theorem dM_instant_120 : decode cM_instant 120 = .ok (.getfield 47, 3) := by decide +kernel
theorem dM_instant_123 : decode cM_instant 123 = .ok (.iload 4, 2) := by decide +kernel
theorem dM_instant_125 : decode cM_instant 125 = .ok (.iload_n 3, 1) := by decide +kernel
theorem dM_instant_126 : decode cM_instant 126 = .ok (.iconst 1, 1) := by decide +kernel
theorem dM_instant_127 : decode cM_instant 127 = .ok (.if_icmp .ne 17, 3) := by decide +kernel
theorem dM_instant_130 : decode cM_instant 130 = .ok (.aload_n 0, 1) := by decide +kernel
theorem dM_instant_131 : decode cM_instant 131 = .ok (.getfield 51, 3) := by decide +kernel
theorem dM_instant_134 : decode cM_instant 134 = .ok (.iload 4, 2) := by decide +kernel
theorem dM_instant_136 : decode cM_instant 136 = .ok (.baload, 1) := by decide +kernel
theorem dM_instant_137 : decode cM_instant 137 = .ok (.ifCond .eq 7, 3) := by decide +kernel
theorem dM_instant_140 : decode cM_instant 140 = .ok (.iconst 1, 1) := by decide +kernel
theorem dM_instant_141 : decode cM_instant 141 = .ok (.goto 4, 3) := by decide +kernel
theorem dM_instant_144 : decode cM_instant 144 = .ok (.iconst 0, 1) := by decide +kernel
theorem dM_instant_145 : decode cM_instant 145 = .ok (.bastore, 1) := by decide +kernel
theorem dM_instant_146 : decode cM_instant 146 = .ok (.iinc 4 1, 3) := by decide +kernel
theorem dM_instant_149 : decode cM_instant 149 = .ok (.goto (-37), 3) := by decide +kernel
theorem dM_instant_152 : decode cM_instant 152 = .ok (.aload_n 0, 1) := by decide +kernel
theorem dM_instant_153 : decode cM_instant 153 = .ok (.iload_n 3, 1) := by decide +kernel
theorem dM_instant_154 : decode cM_instant 154 = .ok (.iconst 1, 1) := by decide +kernel
theorem dM_instant_155 : decode cM_instant 155 = .ok (.if_icmp .ne 7, 3) := by decide +kernel
theorem dM_instant_158 : decode cM_instant 158 = .ok (.iconst 1, 1) := by decide +kernel
theorem dM_instant_159 : decode cM_instant 159 = .ok (.goto 4, 3) := by decide +kernel
theorem dM_instant_162 : decode cM_instant 162 = .ok (.iconst 2, 1) := by decide +kernel
theorem dM_instant_163 : decode cM_instant 163 = .ok (.putfield 114, 3) := by decide +kernel
theorem dM_instant_166 : decode cM_instant 166 = .ok (.iload_n 3, 1) := by decide +kernel
theorem dM_instant_167 : decode cM_instant 167 = .ok (.iconst 1, 1) := by decide +kernel
theorem dM_instant_168 : decode cM_instant 168 = .ok (.if_icmp .ne 7, 3) := by decide +kernel
theorem dM_instant_171 : decode cM_instant 171 = .ok (.iconst 0, 1) := by decide +kernel
theorem dM_instant_172 : decode cM_instant 172 = .ok (.goto 4, 3) := by decide +kernel
theorem dM_instant_175 : decode cM_instant 175 = .ok (.iconst 1, 1) := by decide +kernel
theorem dM_instant_176 : decode cM_instant 176 = .ok (.ireturn, 1) := by decide +kernel
theorem dM_react_0 : decode cM_react 0 = .ok (.iconst 0, 1) := by decide +kernel
theorem dM_react_1 : decode cM_react 1 = .ok (.istore_n 2, 1) := by decide +kernel
theorem dM_react_2 : decode cM_react 2 = .ok (.iload_n 2, 1) := by decide +kernel
theorem dM_react_3 : decode cM_react 3 = .ok (.bipush 16, 2) := by decide +kernel
theorem dM_react_5 : decode cM_react 5 = .ok (.bipush 27, 2) := by decide +kernel
theorem dM_react_7 : decode cM_react 7 = .ok (.aload_n 0, 1) := by decide +kernel
theorem dM_react_8 : decode cM_react 8 = .ok (.getfield 87, 3) := by decide +kernel
theorem dM_react_11 : decode cM_react 11 = .ok (.imul, 1) := by decide +kernel
theorem dM_react_12 : decode cM_react 12 = .ok (.iadd, 1) := by decide +kernel
theorem dM_react_13 : decode cM_react 13 = .ok (.if_icmp .ge 29, 3) := by decide +kernel
theorem dM_react_16 : decode cM_react 16 = .ok (.aload_n 0, 1) := by decide +kernel
theorem dM_react_17 : decode cM_react 17 = .ok (.getfield 57, 3) := by decide +kernel
theorem dM_react_20 : decode cM_react 20 = .ok (.iload_n 2, 1) := by decide +kernel
theorem dM_react_21 : decode cM_react 21 = .ok (.iload_n 2, 1) := by decide +kernel
theorem dM_react_22 : decode cM_react 22 = .ok (.iconst 4, 1) := by decide +kernel
theorem dM_react_23 : decode cM_react 23 = .ok (.if_icmp .ge 11, 3) := by decide +kernel
theorem dM_react_26 : decode cM_react 26 = .ok (.iload_n 1, 1) := by decide +kernel
theorem dM_react_27 : decode cM_react 27 = .ok (.iload_n 2, 1) := by decide +kernel
theorem dM_react_28 : decode cM_react 28 = .ok (.ishr, 1) := by decide +kernel
theorem dM_react_29 : decode cM_react 29 = .ok (.iconst 1, 1) := by decide +kernel
theorem dM_react_30 : decode cM_react 30 = .ok (.iand, 1) := by decide +kernel
theorem dM_react_31 : decode cM_react 31 = .ok (.goto 4, 3) := by decide +kernel
theorem dM_react_34 : decode cM_react 34 = .ok (.iconst 2, 1) := by decide +kernel
theorem dM_react_35 : decode cM_react 35 = .ok (.iastore, 1) := by decide +kernel
theorem dM_react_36 : decode cM_react 36 = .ok (.iinc 2 1, 3) := by decide +kernel
theorem dM_react_39 : decode cM_react 39 = .ok (.goto (-37), 3) := by decide +kernel
theorem dM_react_42 : decode cM_react 42 = .ok (.iconst 1, 1) := by decide +kernel
theorem dM_react_43 : decode cM_react 43 = .ok (.istore_n 2, 1) := by decide +kernel
theorem dM_react_44 : decode cM_react 44 = .ok (.iconst (-1), 1) := by decide +kernel
theorem dM_react_45 : decode cM_react 45 = .ok (.istore_n 3, 1) := by decide +kernel
theorem dM_react_46 : decode cM_react 46 = .ok (.iload_n 2, 1) := by decide +kernel
theorem dM_react_47 : decode cM_react 47 = .ok (.ifCond .eq 124, 3) := by decide +kernel
theorem dM_react_50 : decode cM_react 50 = .ok (.iconst 0, 1) := by decide +kernel
theorem dM_react_51 : decode cM_react 51 = .ok (.istore 4, 2) := by decide +kernel
theorem dM_react_53 : decode cM_react 53 = .ok (.iload 4, 2) := by decide +kernel
theorem dM_react_55 : decode cM_react 55 = .ok (.bipush 16, 2) := by decide +kernel
theorem dM_react_57 : decode cM_react 57 = .ok (.bipush 27, 2) := by decide +kernel
theorem dM_react_59 : decode cM_react 59 = .ok (.aload_n 0, 1) := by decide +kernel
theorem dM_react_60 : decode cM_react 60 = .ok (.getfield 87, 3) := by decide +kernel
theorem dM_react_63 : decode cM_react 63 = .ok (.imul, 1) := by decide +kernel
theorem dM_react_64 : decode cM_react 64 = .ok (.iadd, 1) := by decide +kernel
theorem dM_react_65 : decode cM_react 65 = .ok (.if_icmp .ge 25, 3) := by decide +kernel
theorem dM_react_68 : decode cM_react 68 = .ok (.aload_n 0, 1) := by decide +kernel
theorem dM_react_69 : decode cM_react 69 = .ok (.getfield 60, 3) := by decide +kernel
theorem dM_react_72 : decode cM_react 72 = .ok (.iload 4, 2) := by decide +kernel
theorem dM_react_74 : decode cM_react 74 = .ok (.iconst 0, 1) := by decide +kernel
theorem dM_react_75 : decode cM_react 75 = .ok (.bastore, 1) := by decide +kernel
theorem dM_react_76 : decode cM_react 76 = .ok (.aload_n 0, 1) := by decide +kernel
theorem dM_react_77 : decode cM_react 77 = .ok (.getfield 63, 3) := by decide +kernel
theorem dM_react_80 : decode cM_react 80 = .ok (.iload 4, 2) := by decide +kernel
theorem dM_react_82 : decode cM_react 82 = .ok (.iconst 0, 1) := by decide +kernel
theorem dM_react_83 : decode cM_react 83 = .ok (.bastore, 1) := by decide +kernel
theorem dM_react_84 : decode cM_react 84 = .ok (.iinc 4 1, 3) := by decide +kernel
theorem dM_react_87 : decode cM_react 87 = .ok (.goto (-34), 3) := by decide +kernel
theorem dM_react_90 : decode cM_react 90 = .ok (.iconst 0, 1) := by decide +kernel
theorem dM_react_91 : decode cM_react 91 = .ok (.istore 4, 2) := by decide +kernel
theorem dM_react_93 : decode cM_react 93 = .ok (.iload 4, 2) := by decide +kernel
theorem dM_react_95 : decode cM_react 95 = .ok (.bipush 16, 2) := by decide +kernel
theorem dM_react_97 : decode cM_react 97 = .ok (.if_icmp .ge 18, 3) := by decide +kernel
theorem dM_react_100 : decode cM_react 100 = .ok (.aload_n 0, 1) := by decide +kernel
theorem dM_react_101 : decode cM_react 101 = .ok (.getfield 66, 3) := by decide +kernel
theorem dM_react_104 : decode cM_react 104 = .ok (.iload 4, 2) := by decide +kernel
theorem dM_react_106 : decode cM_react 106 = .ok (.iload 4, 2) := by decide +kernel
theorem dM_react_108 : decode cM_react 108 = .ok (.iastore, 1) := by decide +kernel
theorem dM_react_109 : decode cM_react 109 = .ok (.iinc 4 1, 3) := by decide +kernel
theorem dM_react_112 : decode cM_react 112 = .ok (.goto (-19), 3) := by decide +kernel
theorem dM_react_115 : decode cM_react 115 = .ok (.iconst 0, 1) := by decide +kernel
theorem dM_react_116 : decode cM_react 116 = .ok (.istore 4, 2) := by decide +kernel
theorem dM_react_118 : decode cM_react 118 = .ok (.iload 4, 2) := by decide +kernel
theorem dM_react_120 : decode cM_react 120 = .ok (.bipush 32, 2) := by decide +kernel
theorem dM_react_122 : decode cM_react 122 = .ok (.if_icmp .ge 17, 3) := by decide +kernel
theorem dM_react_125 : decode cM_react 125 = .ok (.aload_n 0, 1) := by decide +kernel
theorem dM_react_126 : decode cM_react 126 = .ok (.getfield 51, 3) := by decide +kernel
theorem dM_react_129 : decode cM_react 129 = .ok (.iload 4, 2) := by decide +kernel
theorem dM_react_131 : decode cM_react 131 = .ok (.iconst 0, 1) := by decide +kernel
theorem dM_react_132 : decode cM_react 132 = .ok (.bastore, 1) := by decide +kernel
theorem dM_react_133 : decode cM_react 133 = .ok (.iinc 4 1, 3) := by decide +kernel
theorem dM_react_136 : decode cM_react 136 = .ok (.goto (-18), 3) := by decide +kernel
theorem dM_react_139 : decode cM_react 139 = .ok (.aload_n 0, 1) := by decide +kernel
theorem dM_react_140 : decode cM_react 140 = .ok (.iconst 0, 1) := by decide +kernel
theorem dM_react_141 : decode cM_react 141 = .ok (.putfield 167, 3) := by decide +kernel
theorem dM_react_144 : decode cM_react 144 = .ok (.aload_n 0, 1) := by decide +kernel
theorem dM_react_145 : decode cM_react 145 = .ok (.iconst 0, 1) := by decide +kernel
theorem dM_react_146 : decode cM_react 146 = .ok (.putfield 173, 3) := by decide +kernel
theorem dM_react_149 : decode cM_react 149 = .ok (.aload_n 0, 1) := by decide +kernel
theorem dM_react_150 : decode cM_react 150 = .ok (.iconst 0, 1) := by decide +kernel
theorem dM_react_151 : decode cM_react 151 = .ok (.aload_n 0, 1) := by decide +kernel
theorem dM_react_152 : decode cM_react 152 = .ok (.getfield 117, 3) := by decide +kernel
theorem dM_react_155 : decode cM_react 155 = .ok (.iconst 1, 1) := by decide +kernel
theorem dM_react_156 : decode cM_react 156 = .ok (.invokevirtual 142, 3) := by decide +kernel
theorem dM_react_159 : decode cM_react 159 = .ok (.invokestatic 164, 3) := by decide +kernel
theorem dM_react_162 : decode cM_react 162 = .ok (.istore_n 3, 1) := by decide +kernel
theorem dM_react_163 : decode cM_react 163 = .ok (.aload_n 0, 1) := by decide +kernel
theorem dM_react_164 : decode cM_react 164 = .ok (.invokevirtual 176, 3) := by decide +kernel
theorem dM_react_167 : decode cM_react 167 = .ok (.istore_n 2, 1) := by decide +kernel
theorem dM_react_168 : decode cM_react 168 = .ok (.goto (-122), 3) := by decide +kernel
theorem dM_react_171 : decode cM_react 171 = .ok (.iconst 4, 1) := by decide +kernel
theorem dM_react_172 : decode cM_react 172 = .ok (.istore 4, 2) := by decide +kernel
theorem dM_react_174 : decode cM_react 174 = .ok (.iload 4, 2) := by decide +kernel
theorem dM_react_176 : decode cM_react 176 = .ok (.bipush 16, 2) := by decide +kernel
theorem dM_react_178 : decode cM_react 178 = .ok (.if_icmp .ge 36, 3) := by decide +kernel
theorem dM_react_181 : decode cM_react 181 = .ok (.aload_n 0, 1) := by decide +kernel
theorem dM_react_182 : decode cM_react 182 = .ok (.aload_n 0, 1) := by decide +kernel
theorem dM_react_183 : decode cM_react 183 = .ok (.getfield 173, 3) := by decide +kernel
theorem dM_react_186 : decode cM_react 186 = .ok (.ifCond .ne 14, 3) := by decide +kernel
theorem dM_react_189 : decode cM_react 189 = .ok (.aload_n 0, 1) := by decide +kernel
theorem dM_react_190 : decode cM_react 190 = .ok (.getfield 57, 3) := by decide +kernel
theorem dM_react_193 : decode cM_react 193 = .ok (.iload 4, 2) := by decide +kernel
theorem dM_react_195 : decode cM_react 195 = .ok (.iaload, 1) := by decide +kernel
theorem dM_react_196 : decode cM_react 196 = .ok (.iconst 2, 1) := by decide +kernel
theorem dM_react_197 : decode cM_react 197 = .ok (.if_icmp .ne 7, 3) := by decide +kernel
theorem dM_react_200 : decode cM_react 200 = .ok (.iconst 1, 1) := by decide +kernel
theorem dM_react_201 : decode cM_react 201 = .ok (.goto 4, 3) := by decide +kernel
theorem dM_react_204 : decode cM_react 204 = .ok (.iconst 0, 1) := by decide +kernel
theorem dM_react_205 : decode cM_react 205 = .ok (.putfield 173, 3) := by decide +kernel
theorem dM_react_208 : decode cM_react 208 = .ok (.iinc 4 1, 3) := by decide +kernel
theorem dM_react_211 : decode cM_react 211 = .ok (.goto (-37), 3) := by decide +kernel
theorem dM_react_214 : decode cM_react 214 = .ok (.aload_n 0, 1) := by decide +kernel
theorem dM_react_215 : decode cM_react 215 = .ok (.getfield 173, 3) := by decide +kernel
theorem dM_react_218 : decode cM_react 218 = .ok (.ifCond .eq 7, 3) := by decide +kernel
theorem dM_react_221 : decode cM_react 221 = .ok (.iconst (-1), 1) := by decide +kernel
theorem dM_react_222 : decode cM_react 222 = .ok (.goto 4, 3) := by decide +kernel
theorem dM_react_225 : decode cM_react 225 = .ok (.iload_n 3, 1) := by decide +kernel
theorem dM_react_226 : decode cM_react 226 = .ok (.ireturn, 1) := by decide +kernel
theorem dM_run_0 : decode cM_run 0 = .ok (.aload_n 0, 1) := by decide +kernel
theorem dM_run_1 : decode cM_run 1 = .ok (.getfield 13, 3) := by decide +kernel
theorem dM_run_4 : decode cM_run 4 = .ok (.iload_n 1, 1) := by decide +kernel
theorem dM_run_5 : decode cM_run 5 = .ok (.iaload, 1) := by decide +kernel
theorem dM_run_6 : decode cM_run 6 = .ok (.tableswitch 223 0 9 #[54, 61, 54, 54, 88, 96, 104, 162, 170, 215], 54) := by decide +kernel
theorem dM_run_60 : decode cM_run 60 = .ok (.aload_n 0, 1) := by decide +kernel
theorem dM_run_61 : decode cM_run 61 = .ok (.iload_n 1, 1) := by decide +kernel
theorem dM_run_62 : decode cM_run 62 = .ok (.iload_n 3, 1) := by decide +kernel
theorem dM_run_63 : decode cM_run 63 = .ok (.invokevirtual 127, 3) := by decide +kernel
theorem dM_run_66 : decode cM_run 66 = .ok (.ireturn, 1) := by decide +kernel
theorem dM_run_67 : decode cM_run 67 = .ok (.iload_n 2, 1) := by decide +kernel
theorem dM_run_68 : decode cM_run 68 = .ok (.ifCond .eq 12, 3) := by decide +kernel
theorem dM_run_71 : decode cM_run 71 = .ok (.aload_n 0, 1) := by decide +kernel
theorem dM_run_72 : decode cM_run 72 = .ok (.iload_n 1, 1) := by decide +kernel
theorem dM_run_73 : decode cM_run 73 = .ok (.iload_n 3, 1) := by decide +kernel
theorem dM_run_74 : decode cM_run 74 = .ok (.invokevirtual 127, 3) := by decide +kernel
theorem dM_run_77 : decode cM_run 77 = .ok (.goto 16, 3) := by decide +kernel
theorem dM_run_80 : decode cM_run 80 = .ok (.iconst 1, 1) := by decide +kernel
theorem dM_run_81 : decode cM_run 81 = .ok (.iload_n 3, 1) := by decide +kernel
theorem dM_run_82 : decode cM_run 82 = .ok (.ifCond .eq 7, 3) := by decide +kernel
theorem dM_run_85 : decode cM_run 85 = .ok (.iconst 0, 1) := by decide +kernel
theorem dM_run_86 : decode cM_run 86 = .ok (.goto 4, 3) := by decide +kernel
theorem dM_run_89 : decode cM_run 89 = .ok (.iconst (-1), 1) := by decide +kernel
theorem dM_run_90 : decode cM_run 90 = .ok (.invokestatic 124, 3) := by decide +kernel
theorem dM_run_93 : decode cM_run 93 = .ok (.ireturn, 1) := by decide +kernel
theorem dM_run_94 : decode cM_run 94 = .ok (.aload_n 0, 1) := by decide +kernel
theorem dM_run_95 : decode cM_run 95 = .ok (.iload_n 1, 1) := by decide +kernel
theorem dM_run_96 : decode cM_run 96 = .ok (.iload_n 2, 1) := by decide +kernel
theorem dM_run_97 : decode cM_run 97 = .ok (.iload_n 3, 1) := by decide +kernel
theorem dM_run_98 : decode cM_run 98 = .ok (.invokevirtual 131, 3) := by decide +kernel
theorem dM_run_101 : decode cM_run 101 = .ok (.ireturn, 1) := by decide +kernel
theorem dM_run_102 : decode cM_run 102 = .ok (.aload_n 0, 1) := by decide +kernel
theorem dM_run_103 : decode cM_run 103 = .ok (.iload_n 1, 1) := by decide +kernel
theorem dM_run_104 : decode cM_run 104 = .ok (.iload_n 2, 1) := by decide +kernel
theorem dM_run_105 : decode cM_run 105 = .ok (.iload_n 3, 1) := by decide +kernel
theorem dM_run_106 : decode cM_run 106 = .ok (.invokevirtual 135, 3) := by decide +kernel
theorem dM_run_109 : decode cM_run 109 = .ok (.ireturn, 1) := by decide +kernel
theorem dM_run_110 : decode cM_run 110 = .ok (.iload_n 2, 1) := by decide +kernel
theorem dM_run_111 : decode cM_run 111 = .ok (.ifCond .ne 16, 3) := by decide +kernel
theorem dM_run_114 : decode cM_run 114 = .ok (.aload_n 0, 1) := by decide +kernel
theorem dM_run_115 : decode cM_run 115 = .ok (.aload_n 0, 1) := by decide +kernel
theorem dM_run_116 : decode cM_run 116 = .ok (.getfield 20, 3) := by decide +kernel
theorem dM_run_119 : decode cM_run 119 = .ok (.iload_n 1, 1) := by decide +kernel
theorem dM_run_120 : decode cM_run 120 = .ok (.iaload, 1) := by decide +kernel
theorem dM_run_121 : decode cM_run 121 = .ok (.invokevirtual 138, 3) := by decide +kernel
theorem dM_run_124 : decode cM_run 124 = .ok (.ifCond .eq 31, 3) := by decide +kernel
theorem dM_run_127 : decode cM_run 127 = .ok (.aload_n 0, 1) := by decide +kernel
theorem dM_run_128 : decode cM_run 128 = .ok (.iload_n 1, 1) := by decide +kernel
theorem dM_run_129 : decode cM_run 129 = .ok (.aload_n 0, 1) := by decide +kernel
theorem dM_run_130 : decode cM_run 130 = .ok (.aload_n 0, 1) := by decide +kernel
theorem dM_run_131 : decode cM_run 131 = .ok (.getfield 20, 3) := by decide +kernel
theorem dM_run_134 : decode cM_run 134 = .ok (.iload_n 1, 1) := by decide +kernel
theorem dM_run_135 : decode cM_run 135 = .ok (.iaload, 1) := by decide +kernel
theorem dM_run_136 : decode cM_run 136 = .ok (.iload_n 2, 1) := by decide +kernel
theorem dM_run_137 : decode cM_run 137 = .ok (.iload_n 3, 1) := by decide +kernel
theorem dM_run_138 : decode cM_run 138 = .ok (.invokevirtual 142, 3) := by decide +kernel
theorem dM_run_141 : decode cM_run 141 = .ok (.aload_n 0, 1) := by decide +kernel
theorem dM_run_142 : decode cM_run 142 = .ok (.getfield 23, 3) := by decide +kernel
theorem dM_run_145 : decode cM_run 145 = .ok (.iload_n 1, 1) := by decide +kernel
theorem dM_run_146 : decode cM_run 146 = .ok (.iaload, 1) := by decide +kernel
theorem dM_run_147 : decode cM_run 147 = .ok (.iload_n 2, 1) := by decide +kernel
theorem dM_run_148 : decode cM_run 148 = .ok (.iload_n 3, 1) := by decide +kernel
theorem dM_run_149 : decode cM_run 149 = .ok (.invokevirtual 145, 3) := by decide +kernel
theorem dM_run_152 : decode cM_run 152 = .ok (.goto 15, 3) := by decide +kernel
theorem dM_run_155 : decode cM_run 155 = .ok (.aload_n 0, 1) := by decide +kernel
theorem dM_run_156 : decode cM_run 156 = .ok (.aload_n 0, 1) := by decide +kernel
theorem dM_run_157 : decode cM_run 157 = .ok (.getfield 23, 3) := by decide +kernel
theorem dM_run_160 : decode cM_run 160 = .ok (.iload_n 1, 1) := by decide +kernel
theorem dM_run_161 : decode cM_run 161 = .ok (.iaload, 1) := by decide +kernel
theorem dM_run_162 : decode cM_run 162 = .ok (.iconst 0, 1) := by decide +kernel
theorem dM_run_163 : decode cM_run 163 = .ok (.iload_n 3, 1) := by decide +kernel
theorem dM_run_164 : decode cM_run 164 = .ok (.invokevirtual 142, 3) := by decide +kernel
theorem dM_run_167 : decode cM_run 167 = .ok (.ireturn, 1) := by decide +kernel
theorem dM_run_168 : decode cM_run 168 = .ok (.aload_n 0, 1) := by decide +kernel
theorem dM_run_169 : decode cM_run 169 = .ok (.iload_n 1, 1) := by decide +kernel
theorem dM_run_170 : decode cM_run 170 = .ok (.iload_n 2, 1) := by decide +kernel
theorem dM_run_171 : decode cM_run 171 = .ok (.iload_n 3, 1) := by decide +kernel
theorem dM_run_172 : decode cM_run 172 = .ok (.invokevirtual 149, 3) := by decide +kernel
theorem dM_run_175 : decode cM_run 175 = .ok (.ireturn, 1) := by decide +kernel
theorem dM_run_176 : decode cM_run 176 = .ok (.iload_n 2, 1) := by decide +kernel
theorem dM_run_177 : decode cM_run 177 = .ok (.ifCond .eq 18, 3) := by decide +kernel
theorem dM_run_180 : decode cM_run 180 = .ok (.aload_n 0, 1) := by decide +kernel
theorem dM_run_181 : decode cM_run 181 = .ok (.aload_n 0, 1) := by decide +kernel
theorem dM_run_182 : decode cM_run 182 = .ok (.getfield 20, 3) := by decide +kernel
theorem dM_run_185 : decode cM_run 185 = .ok (.iload_n 1, 1) := by decide +kernel
theorem dM_run_186 : decode cM_run 186 = .ok (.iaload, 1) := by decide +kernel
theorem dM_run_187 : decode cM_run 187 = .ok (.iconst 1, 1) := by decide +kernel
theorem dM_run_188 : decode cM_run 188 = .ok (.iload_n 3, 1) := by decide +kernel
theorem dM_run_189 : decode cM_run 189 = .ok (.invokevirtual 142, 3) := by decide +kernel
theorem dM_run_192 : decode cM_run 192 = .ok (.goto 28, 3) := by decide +kernel
theorem dM_run_195 : decode cM_run 195 = .ok (.aload_n 0, 1) := by decide +kernel
theorem dM_run_196 : decode cM_run 196 = .ok (.iload_n 1, 1) := by decide +kernel
theorem dM_run_197 : decode cM_run 197 = .ok (.aload_n 0, 1) := by decide +kernel
theorem dM_run_198 : decode cM_run 198 = .ok (.aload_n 0, 1) := by decide +kernel
theorem dM_run_199 : decode cM_run 199 = .ok (.getfield 20, 3) := by decide +kernel
theorem dM_run_202 : decode cM_run 202 = .ok (.iload_n 1, 1) := by decide +kernel
theorem dM_run_203 : decode cM_run 203 = .ok (.iaload, 1) := by decide +kernel
theorem dM_run_204 : decode cM_run 204 = .ok (.iconst 0, 1) := by decide +kernel
theorem dM_run_205 : decode cM_run 205 = .ok (.iload_n 3, 1) := by decide +kernel
theorem dM_run_206 : decode cM_run 206 = .ok (.invokevirtual 142, 3) := by decide +kernel
theorem dM_run_209 : decode cM_run 209 = .ok (.aload_n 0, 1) := by decide +kernel
theorem dM_run_210 : decode cM_run 210 = .ok (.getfield 20, 3) := by decide +kernel
theorem dM_run_213 : decode cM_run 213 = .ok (.iload_n 1, 1) := by decide +kernel
theorem dM_run_214 : decode cM_run 214 = .ok (.iaload, 1) := by decide +kernel
theorem dM_run_215 : decode cM_run 215 = .ok (.iconst 0, 1) := by decide +kernel
theorem dM_run_216 : decode cM_run 216 = .ok (.iload_n 3, 1) := by decide +kernel
theorem dM_run_217 : decode cM_run 217 = .ok (.invokevirtual 145, 3) := by decide +kernel
theorem dM_run_220 : decode cM_run 220 = .ok (.ireturn, 1) := by decide +kernel
theorem dM_run_221 : decode cM_run 221 = .ok (.aload_n 0, 1) := by decide +kernel
theorem dM_run_222 : decode cM_run 222 = .ok (.iload_n 1, 1) := by decide +kernel
theorem dM_run_223 : decode cM_run 223 = .ok (.iload_n 2, 1) := by decide +kernel
theorem dM_run_224 : decode cM_run 224 = .ok (.iload_n 3, 1) := by decide +kernel
theorem dM_run_225 : decode cM_run 225 = .ok (.invokevirtual 152, 3) := by decide +kernel
theorem dM_run_228 : decode cM_run 228 = .ok (.ireturn, 1) := by decide +kernel
theorem dM_run_229 : decode cM_run 229 = .ok (.aload_n 0, 1) := by decide +kernel
theorem dM_run_230 : decode cM_run 230 = .ok (.iload_n 1, 1) := by decide +kernel
theorem dM_run_231 : decode cM_run 231 = .ok (.iload_n 2, 1) := by decide +kernel
theorem dM_run_232 : decode cM_run 232 = .ok (.iload_n 3, 1) := by decide +kernel
theorem dM_run_233 : decode cM_run 233 = .ok (.invokevirtual 155, 3) := by decide +kernel
theorem dM_run_236 : decode cM_run 236 = .ok (.ireturn, 1) := by decide +kernel
theorem dM_simple_0 : decode cM_simple 0 = .ok (.aload_n 0, 1) := by decide +kernel
theorem dM_simple_1 : decode cM_simple 1 = .ok (.getfield 13, 3) := by decide +kernel
theorem dM_simple_4 : decode cM_simple 4 = .ok (.iload_n 1, 1) := by decide +kernel
theorem dM_simple_5 : decode cM_simple 5 = .ok (.iaload, 1) := by decide +kernel
theorem dM_simple_6 : decode cM_simple 6 = .ok (.iconst 1, 1) := by decide +kernel
theorem dM_simple_7 : decode cM_simple 7 = .ok (.if_icmp .ne 7, 3) := by decide +kernel
theorem dM_simple_10 : decode cM_simple 10 = .ok (.iconst 1, 1) := by decide +kernel
theorem dM_simple_11 : decode cM_simple 11 = .ok (.goto 25, 3) := by decide +kernel
theorem dM_simple_14 : decode cM_simple 14 = .ok (.aload_n 0, 1) := by decide +kernel
theorem dM_simple_15 : decode cM_simple 15 = .ok (.getfield 13, 3) := by decide +kernel
theorem dM_simple_18 : decode cM_simple 18 = .ok (.iload_n 1, 1) := by decide +kernel
theorem dM_simple_19 : decode cM_simple 19 = .ok (.iaload, 1) := by decide +kernel
theorem dM_simple_20 : decode cM_simple 20 = .ok (.iconst 3, 1) := by decide +kernel
theorem dM_simple_21 : decode cM_simple 21 = .ok (.if_icmp .ne 14, 3) := by decide +kernel
theorem dM_simple_24 : decode cM_simple 24 = .ok (.iconst 2, 1) := by decide +kernel
theorem dM_simple_25 : decode cM_simple 25 = .ok (.aload_n 0, 1) := by decide +kernel
theorem dM_simple_26 : decode cM_simple 26 = .ok (.getfield 17, 3) := by decide +kernel
theorem dM_simple_29 : decode cM_simple 29 = .ok (.iload_n 1, 1) := by decide +kernel
theorem dM_simple_30 : decode cM_simple 30 = .ok (.iaload, 1) := by decide +kernel
theorem dM_simple_31 : decode cM_simple 31 = .ok (.iadd, 1) := by decide +kernel
theorem dM_simple_32 : decode cM_simple 32 = .ok (.goto 4, 3) := by decide +kernel
theorem dM_simple_35 : decode cM_simple 35 = .ok (.iconst 0, 1) := by decide +kernel
theorem dM_simple_36 : decode cM_simple 36 = .ok (.istore_n 3, 1) := by decide +kernel
theorem dM_simple_37 : decode cM_simple 37 = .ok (.aload_n 0, 1) := by decide +kernel
theorem dM_simple_38 : decode cM_simple 38 = .ok (.getfield 13, 3) := by decide +kernel
theorem dM_simple_41 : decode cM_simple 41 = .ok (.iload_n 1, 1) := by decide +kernel
theorem dM_simple_42 : decode cM_simple 42 = .ok (.iaload, 1) := by decide +kernel
theorem dM_simple_43 : decode cM_simple 43 = .ok (.iconst 2, 1) := by decide +kernel
theorem dM_simple_44 : decode cM_simple 44 = .ok (.if_icmp .ne 64, 3) := by decide +kernel
theorem dM_simple_47 : decode cM_simple 47 = .ok (.aload_n 0, 1) := by decide +kernel
theorem dM_simple_48 : decode cM_simple 48 = .ok (.getfield 63, 3) := by decide +kernel
theorem dM_simple_51 : decode cM_simple 51 = .ok (.aload_n 0, 1) := by decide +kernel
theorem dM_simple_52 : decode cM_simple 52 = .ok (.getfield 66, 3) := by decide +kernel
theorem dM_simple_55 : decode cM_simple 55 = .ok (.aload_n 0, 1) := by decide +kernel
theorem dM_simple_56 : decode cM_simple 56 = .ok (.getfield 17, 3) := by decide +kernel
theorem dM_simple_59 : decode cM_simple 59 = .ok (.iload_n 1, 1) := by decide +kernel
theorem dM_simple_60 : decode cM_simple 60 = .ok (.iaload, 1) := by decide +kernel
theorem dM_simple_61 : decode cM_simple 61 = .ok (.iaload, 1) := by decide +kernel
theorem dM_simple_62 : decode cM_simple 62 = .ok (.iconst 1, 1) := by decide +kernel
theorem dM_simple_63 : decode cM_simple 63 = .ok (.bastore, 1) := by decide +kernel
theorem dM_simple_64 : decode cM_simple 64 = .ok (.aload_n 0, 1) := by decide +kernel
theorem dM_simple_65 : decode cM_simple 65 = .ok (.getfield 60, 3) := by decide +kernel
theorem dM_simple_68 : decode cM_simple 68 = .ok (.aload_n 0, 1) := by decide +kernel
theorem dM_simple_69 : decode cM_simple 69 = .ok (.getfield 66, 3) := by decide +kernel
theorem dM_simple_72 : decode cM_simple 72 = .ok (.aload_n 0, 1) := by decide +kernel
theorem dM_simple_73 : decode cM_simple 73 = .ok (.getfield 17, 3) := by decide +kernel
theorem dM_simple_76 : decode cM_simple 76 = .ok (.iload_n 1, 1) := by decide +kernel
theorem dM_simple_77 : decode cM_simple 77 = .ok (.iaload, 1) := by decide +kernel
theorem dM_simple_78 : decode cM_simple 78 = .ok (.iaload, 1) := by decide +kernel
theorem dM_simple_79 : decode cM_simple 79 = .ok (.aload_n 0, 1) := by decide +kernel
theorem dM_simple_80 : decode cM_simple 80 = .ok (.getfield 60, 3) := by decide +kernel
theorem dM_simple_83 : decode cM_simple 83 = .ok (.aload_n 0, 1) := by decide +kernel
theorem dM_simple_84 : decode cM_simple 84 = .ok (.getfield 66, 3) := by decide +kernel
theorem dM_simple_87 : decode cM_simple 87 = .ok (.aload_n 0, 1) := by decide +kernel
theorem dM_simple_88 : decode cM_simple 88 = .ok (.getfield 17, 3) := by decide +kernel
theorem dM_simple_91 : decode cM_simple 91 = .ok (.iload_n 1, 1) := by decide +kernel
theorem dM_simple_92 : decode cM_simple 92 = .ok (.iaload, 1) := by decide +kernel
theorem dM_simple_93 : decode cM_simple 93 = .ok (.iaload, 1) := by decide +kernel
theorem dM_simple_94 : decode cM_simple 94 = .ok (.baload, 1) := by decide +kernel
theorem dM_simple_95 : decode cM_simple 95 = .ok (.ifCond .ne 7, 3) := by decide +kernel
theorem dM_simple_98 : decode cM_simple 98 = .ok (.iload_n 2, 1) := by decide +kernel
theorem dM_simple_99 : decode cM_simple 99 = .ok (.ifCond .eq 7, 3) := by decide +kernel
theorem dM_simple_102 : decode cM_simple 102 = .ok (.iconst 1, 1) := by decide +kernel
theorem dM_simple_103 : decode cM_simple 103 = .ok (.goto 4, 3) := by decide +kernel
theorem dM_simple_106 : decode cM_simple 106 = .ok (.iconst 0, 1) := by decide +kernel
theorem dM_simple_107 : decode cM_simple 107 = .ok (.bastore, 1) := by decide +kernel
theorem dM_simple_108 : decode cM_simple 108 = .ok (.aload_n 0, 1) := by decide +kernel
theorem dM_simple_109 : decode cM_simple 109 = .ok (.getfield 13, 3) := by decide +kernel
theorem dM_simple_112 : decode cM_simple 112 = .ok (.iload_n 1, 1) := by decide +kernel
theorem dM_simple_113 : decode cM_simple 113 = .ok (.iaload, 1) := by decide +kernel
theorem dM_simple_114 : decode cM_simple 114 = .ok (.iconst 1, 1) := by decide +kernel
theorem dM_simple_115 : decode cM_simple 115 = .ok (.if_icmp .ne 19, 3) := by decide +kernel
theorem dM_simple_118 : decode cM_simple 118 = .ok (.iload_n 2, 1) := by decide +kernel
theorem dM_simple_119 : decode cM_simple 119 = .ok (.ifCond .eq 15, 3) := by decide +kernel
theorem dM_simple_122 : decode cM_simple 122 = .ok (.aload_n 0, 1) := by decide +kernel
theorem dM_simple_123 : decode cM_simple 123 = .ok (.getfield 51, 3) := by decide +kernel
theorem dM_simple_126 : decode cM_simple 126 = .ok (.aload_n 0, 1) := by decide +kernel
theorem dM_simple_127 : decode cM_simple 127 = .ok (.getfield 38, 3) := by decide +kernel
theorem dM_simple_130 : decode cM_simple 130 = .ok (.iload_n 1, 1) := by decide +kernel
theorem dM_simple_131 : decode cM_simple 131 = .ok (.iaload, 1) := by decide +kernel
theorem dM_simple_132 : decode cM_simple 132 = .ok (.iconst 1, 1) := by decide +kernel
theorem dM_simple_133 : decode cM_simple 133 = .ok (.bastore, 1) := by decide +kernel
theorem dM_simple_134 : decode cM_simple 134 = .ok (.iconst 1, 1) := by decide +kernel
theorem dM_simple_135 : decode cM_simple 135 = .ok (.iload_n 3, 1) := by decide +kernel
theorem dM_simple_136 : decode cM_simple 136 = .ok (.ishl, 1) := by decide +kernel
theorem dM_simple_137 : decode cM_simple 137 = .ok (.iload_n 2, 1) := by decide +kernel
theorem dM_simple_138 : decode cM_simple 138 = .ok (.ifCond .eq 7, 3) := by decide +kernel
theorem dM_simple_141 : decode cM_simple 141 = .ok (.iload_n 3, 1) := by decide +kernel
theorem dM_simple_142 : decode cM_simple 142 = .ok (.goto 4, 3) := by decide +kernel
theorem dM_simple_145 : decode cM_simple 145 = .ok (.iconst (-1), 1) := by decide +kernel
theorem dM_simple_146 : decode cM_simple 146 = .ok (.invokestatic 124, 3) := by decide +kernel
theorem dM_simple_149 : decode cM_simple 149 = .ok (.ireturn, 1) := by decide +kernel
theorem dM_outcome_0 : decode cM_outcome 0 = .ok (.iload_n 0, 1) := by decide +kernel
theorem dM_outcome_1 : decode cM_outcome 1 = .ok (.iload_n 1, 1) := by decide +kernel
theorem dM_outcome_2 : decode cM_outcome 2 = .ok (.iconst 1, 1) := by decide +kernel
theorem dM_outcome_3 : decode cM_outcome 3 = .ok (.iadd, 1) := by decide +kernel
theorem dM_outcome_4 : decode cM_outcome 4 = .ok (.bipush 8, 2) := by decide +kernel
theorem dM_outcome_6 : decode cM_outcome 6 = .ok (.ishl, 1) := by decide +kernel
theorem dM_outcome_7 : decode cM_outcome 7 = .ok (.ior, 1) := by decide +kernel
theorem dM_outcome_8 : decode cM_outcome 8 = .ok (.ireturn, 1) := by decide +kernel
theorem dM_present_0 : decode cM_present 0 = .ok (.iload_n 2, 1) := by decide +kernel
theorem dM_present_1 : decode cM_present 1 = .ok (.ifCond .ne 38, 3) := by decide +kernel
theorem dM_present_4 : decode cM_present 4 = .ok (.aload_n 0, 1) := by decide +kernel
theorem dM_present_5 : decode cM_present 5 = .ok (.aload_n 0, 1) := by decide +kernel
theorem dM_present_6 : decode cM_present 6 = .ok (.aload_n 0, 1) := by decide +kernel
theorem dM_present_7 : decode cM_present 7 = .ok (.getfield 20, 3) := by decide +kernel
theorem dM_present_10 : decode cM_present 10 = .ok (.iload_n 1, 1) := by decide +kernel
theorem dM_present_11 : decode cM_present 11 = .ok (.iaload, 1) := by decide +kernel
theorem dM_present_12 : decode cM_present 12 = .ok (.invokevirtual 138, 3) := by decide +kernel
theorem dM_present_15 : decode cM_present 15 = .ok (.ifCond .eq 12, 3) := by decide +kernel
theorem dM_present_18 : decode cM_present 18 = .ok (.aload_n 0, 1) := by decide +kernel
theorem dM_present_19 : decode cM_present 19 = .ok (.getfield 20, 3) := by decide +kernel
theorem dM_present_22 : decode cM_present 22 = .ok (.iload_n 1, 1) := by decide +kernel
theorem dM_present_23 : decode cM_present 23 = .ok (.iaload, 1) := by decide +kernel
theorem dM_present_24 : decode cM_present 24 = .ok (.goto 9, 3) := by decide +kernel
theorem dM_present_27 : decode cM_present 27 = .ok (.aload_n 0, 1) := by decide +kernel
theorem dM_present_28 : decode cM_present 28 = .ok (.getfield 23, 3) := by decide +kernel
theorem dM_present_31 : decode cM_present 31 = .ok (.iload_n 1, 1) := by decide +kernel
theorem dM_present_32 : decode cM_present 32 = .ok (.iaload, 1) := by decide +kernel
theorem dM_present_33 : decode cM_present 33 = .ok (.iconst 0, 1) := by decide +kernel
theorem dM_present_34 : decode cM_present 34 = .ok (.iload_n 3, 1) := by decide +kernel
theorem dM_present_35 : decode cM_present 35 = .ok (.invokevirtual 142, 3) := by decide +kernel
theorem dM_present_38 : decode cM_present 38 = .ok (.ireturn, 1) := by decide +kernel
theorem dM_present_39 : decode cM_present 39 = .ok (.aload_n 0, 1) := by decide +kernel
theorem dM_present_40 : decode cM_present 40 = .ok (.aload_n 0, 1) := by decide +kernel
theorem dM_present_41 : decode cM_present 41 = .ok (.getfield 17, 3) := by decide +kernel
theorem dM_present_44 : decode cM_present 44 = .ok (.iload_n 1, 1) := by decide +kernel
theorem dM_present_45 : decode cM_present 45 = .ok (.iaload, 1) := by decide +kernel
theorem dM_present_46 : decode cM_present 46 = .ok (.invokevirtual 158, 3) := by decide +kernel
theorem dM_present_49 : decode cM_present 49 = .ok (.istore 4, 2) := by decide +kernel
theorem dM_present_51 : decode cM_present 51 = .ok (.iload 4, 2) := by decide +kernel
theorem dM_present_53 : decode cM_present 53 = .ok (.iconst 2, 1) := by decide +kernel
theorem dM_present_54 : decode cM_present 54 = .ok (.if_icmp .eq 31, 3) := by decide +kernel
theorem dM_present_57 : decode cM_present 57 = .ok (.aload_n 0, 1) := by decide +kernel
theorem dM_present_58 : decode cM_present 58 = .ok (.iload 4, 2) := by decide +kernel
theorem dM_present_60 : decode cM_present 60 = .ok (.iconst 1, 1) := by decide +kernel
theorem dM_present_61 : decode cM_present 61 = .ok (.if_icmp .ne 12, 3) := by decide +kernel
theorem dM_present_64 : decode cM_present 64 = .ok (.aload_n 0, 1) := by decide +kernel
theorem dM_present_65 : decode cM_present 65 = .ok (.getfield 20, 3) := by decide +kernel
theorem dM_present_68 : decode cM_present 68 = .ok (.iload_n 1, 1) := by decide +kernel
theorem dM_present_69 : decode cM_present 69 = .ok (.iaload, 1) := by decide +kernel
theorem dM_present_70 : decode cM_present 70 = .ok (.goto 9, 3) := by decide +kernel
theorem dM_present_73 : decode cM_present 73 = .ok (.aload_n 0, 1) := by decide +kernel
theorem dM_present_74 : decode cM_present 74 = .ok (.getfield 23, 3) := by decide +kernel
theorem dM_present_77 : decode cM_present 77 = .ok (.iload_n 1, 1) := by decide +kernel
theorem dM_present_78 : decode cM_present 78 = .ok (.iaload, 1) := by decide +kernel
theorem dM_present_79 : decode cM_present 79 = .ok (.iconst 1, 1) := by decide +kernel
theorem dM_present_80 : decode cM_present 80 = .ok (.iload_n 3, 1) := by decide +kernel
theorem dM_present_81 : decode cM_present 81 = .ok (.invokevirtual 142, 3) := by decide +kernel
theorem dM_present_84 : decode cM_present 84 = .ok (.ireturn, 1) := by decide +kernel
theorem dM_present_85 : decode cM_present 85 = .ok (.aload_n 0, 1) := by decide +kernel
theorem dM_present_86 : decode cM_present 86 = .ok (.aload_n 0, 1) := by decide +kernel
theorem dM_present_87 : decode cM_present 87 = .ok (.getfield 20, 3) := by decide +kernel
theorem dM_present_90 : decode cM_present 90 = .ok (.iload_n 1, 1) := by decide +kernel
theorem dM_present_91 : decode cM_present 91 = .ok (.iaload, 1) := by decide +kernel
theorem dM_present_92 : decode cM_present 92 = .ok (.iconst 1, 1) := by decide +kernel
theorem dM_present_93 : decode cM_present 93 = .ok (.iconst 0, 1) := by decide +kernel
theorem dM_present_94 : decode cM_present 94 = .ok (.invokevirtual 142, 3) := by decide +kernel
theorem dM_present_97 : decode cM_present 97 = .ok (.istore 5, 2) := by decide +kernel
theorem dM_present_99 : decode cM_present 99 = .ok (.aload_n 0, 1) := by decide +kernel
theorem dM_present_100 : decode cM_present 100 = .ok (.aload_n 0, 1) := by decide +kernel
theorem dM_present_101 : decode cM_present 101 = .ok (.getfield 23, 3) := by decide +kernel
theorem dM_present_104 : decode cM_present 104 = .ok (.iload_n 1, 1) := by decide +kernel
theorem dM_present_105 : decode cM_present 105 = .ok (.iaload, 1) := by decide +kernel
theorem dM_present_106 : decode cM_present 106 = .ok (.iconst 1, 1) := by decide +kernel
theorem dM_present_107 : decode cM_present 107 = .ok (.iconst 0, 1) := by decide +kernel
theorem dM_present_108 : decode cM_present 108 = .ok (.invokevirtual 142, 3) := by decide +kernel
theorem dM_present_111 : decode cM_present 111 = .ok (.istore 6, 2) := by decide +kernel
theorem dM_present_113 : decode cM_present 113 = .ok (.iload 5, 2) := by decide +kernel
theorem dM_present_115 : decode cM_present 115 = .ok (.invokestatic 161, 3) := by decide +kernel
theorem dM_present_118 : decode cM_present 118 = .ok (.iload 6, 2) := by decide +kernel
theorem dM_present_120 : decode cM_present 120 = .ok (.invokestatic 161, 3) := by decide +kernel
theorem dM_present_123 : decode cM_present 123 = .ok (.ior, 1) := by decide +kernel
theorem dM_present_124 : decode cM_present 124 = .ok (.iconst (-1), 1) := by decide +kernel
theorem dM_present_125 : decode cM_present 125 = .ok (.invokestatic 124, 3) := by decide +kernel
theorem dM_present_128 : decode cM_present 128 = .ok (.ireturn, 1) := by decide +kernel
theorem dM_has_0 : decode cM_has 0 = .ok (.iload_n 1, 1) := by decide +kernel
theorem dM_has_1 : decode cM_has 1 = .ok (.istore_n 2, 1) := by decide +kernel
theorem dM_has_2 : decode cM_has 2 = .ok (.iload_n 2, 1) := by decide +kernel
theorem dM_has_3 : decode cM_has 3 = .ok (.aload_n 0, 1) := by decide +kernel
theorem dM_has_4 : decode cM_has 4 = .ok (.getfield 26, 3) := by decide +kernel
theorem dM_has_7 : decode cM_has 7 = .ok (.iload_n 1, 1) := by decide +kernel
theorem dM_has_8 : decode cM_has 8 = .ok (.iaload, 1) := by decide +kernel
theorem dM_has_9 : decode cM_has 9 = .ok (.if_icmp .ge 35, 3) := by decide +kernel
theorem dM_has_12 : decode cM_has 12 = .ok (.aload_n 0, 1) := by decide +kernel
theorem dM_has_13 : decode cM_has 13 = .ok (.getfield 38, 3) := by decide +kernel
theorem dM_has_16 : decode cM_has 16 = .ok (.iload_n 2, 1) := by decide +kernel
theorem dM_has_17 : decode cM_has 17 = .ok (.iaload, 1) := by decide +kernel
theorem dM_has_18 : decode cM_has 18 = .ok (.iconst (-1), 1) := by decide +kernel
theorem dM_has_19 : decode cM_has 19 = .ok (.if_icmp .eq 19, 3) := by decide +kernel
theorem dM_has_22 : decode cM_has 22 = .ok (.aload_n 0, 1) := by decide +kernel
theorem dM_has_23 : decode cM_has 23 = .ok (.getfield 47, 3) := by decide +kernel
theorem dM_has_26 : decode cM_has 26 = .ok (.aload_n 0, 1) := by decide +kernel
theorem dM_has_27 : decode cM_has 27 = .ok (.getfield 38, 3) := by decide +kernel
theorem dM_has_30 : decode cM_has 30 = .ok (.iload_n 2, 1) := by decide +kernel
theorem dM_has_31 : decode cM_has 31 = .ok (.iaload, 1) := by decide +kernel
theorem dM_has_32 : decode cM_has 32 = .ok (.baload, 1) := by decide +kernel
theorem dM_has_33 : decode cM_has 33 = .ok (.ifCond .eq 5, 3) := by decide +kernel
theorem dM_has_36 : decode cM_has 36 = .ok (.iconst 1, 1) := by decide +kernel
theorem dM_has_37 : decode cM_has 37 = .ok (.ireturn, 1) := by decide +kernel
theorem dM_has_38 : decode cM_has 38 = .ok (.iinc 2 1, 3) := by decide +kernel
theorem dM_has_41 : decode cM_has 41 = .ok (.goto (-39), 3) := by decide +kernel
theorem dM_has_44 : decode cM_has 44 = .ok (.iconst 0, 1) := by decide +kernel
theorem dM_has_45 : decode cM_has 45 = .ok (.ireturn, 1) := by decide +kernel
theorem dM_test_0 : decode cM_test 0 = .ok (.aload_n 0, 1) := by decide +kernel
theorem dM_test_1 : decode cM_test 1 = .ok (.getfield 57, 3) := by decide +kernel
theorem dM_test_4 : decode cM_test 4 = .ok (.aload_n 0, 1) := by decide +kernel
theorem dM_test_5 : decode cM_test 5 = .ok (.getfield 66, 3) := by decide +kernel
theorem dM_test_8 : decode cM_test 8 = .ok (.iload_n 1, 1) := by decide +kernel
theorem dM_test_9 : decode cM_test 9 = .ok (.ifCond .ge 9, 3) := by decide +kernel
theorem dM_test_12 : decode cM_test 12 = .ok (.iconst (-1), 1) := by decide +kernel
theorem dM_test_13 : decode cM_test 13 = .ok (.iload_n 1, 1) := by decide +kernel
theorem dM_test_14 : decode cM_test 14 = .ok (.isub, 1) := by decide +kernel
theorem dM_test_15 : decode cM_test 15 = .ok (.goto 4, 3) := by decide +kernel
theorem dM_test_18 : decode cM_test 18 = .ok (.iload_n 1, 1) := by decide +kernel
theorem dM_test_19 : decode cM_test 19 = .ok (.iaload, 1) := by decide +kernel
theorem dM_test_20 : decode cM_test 20 = .ok (.iaload, 1) := by decide +kernel
theorem dM_test_21 : decode cM_test 21 = .ok (.istore_n 2, 1) := by decide +kernel
theorem dM_test_22 : decode cM_test 22 = .ok (.iload_n 2, 1) := by decide +kernel
theorem dM_test_23 : decode cM_test 23 = .ok (.iconst 2, 1) := by decide +kernel
theorem dM_test_24 : decode cM_test 24 = .ok (.if_icmp .eq 7, 3) := by decide +kernel
theorem dM_test_27 : decode cM_test 27 = .ok (.iload_n 1, 1) := by decide +kernel
theorem dM_test_28 : decode cM_test 28 = .ok (.ifCond .lt 7, 3) := by decide +kernel
theorem dM_test_31 : decode cM_test 31 = .ok (.iload_n 2, 1) := by decide +kernel
theorem dM_test_32 : decode cM_test 32 = .ok (.goto 6, 3) := by decide +kernel
theorem dM_test_35 : decode cM_test 35 = .ok (.iconst 1, 1) := by decide +kernel
theorem dM_test_36 : decode cM_test 36 = .ok (.iload_n 2, 1) := by decide +kernel
theorem dM_test_37 : decode cM_test 37 = .ok (.isub, 1) := by decide +kernel
theorem dM_test_38 : decode cM_test 38 = .ok (.ireturn, 1) := by decide +kernel
theorem dM_canOf_0 : decode cM_canOf 0 = .ok (.iload_n 0, 1) := by decide +kernel
theorem dM_canOf_1 : decode cM_canOf 1 = .ok (.sipush 255, 3) := by decide +kernel
theorem dM_canOf_4 : decode cM_canOf 4 = .ok (.iand, 1) := by decide +kernel
theorem dM_canOf_5 : decode cM_canOf 5 = .ok (.ireturn, 1) := by decide +kernel
theorem dM_suspend_0 : decode cM_suspend 0 = .ok (.iload_n 2, 1) := by decide +kernel
theorem dM_suspend_1 : decode cM_suspend 1 = .ok (.ifCond .eq 7, 3) := by decide +kernel
theorem dM_suspend_4 : decode cM_suspend 4 = .ok (.iconst 0, 1) := by decide +kernel
theorem dM_suspend_5 : decode cM_suspend 5 = .ok (.goto 13, 3) := by decide +kernel
theorem dM_suspend_8 : decode cM_suspend 8 = .ok (.aload_n 0, 1) := by decide +kernel
theorem dM_suspend_9 : decode cM_suspend 9 = .ok (.aload_n 0, 1) := by decide +kernel
theorem dM_suspend_10 : decode cM_suspend 10 = .ok (.getfield 17, 3) := by decide +kernel
theorem dM_suspend_13 : decode cM_suspend 13 = .ok (.iload_n 1, 1) := by decide +kernel
theorem dM_suspend_14 : decode cM_suspend 14 = .ok (.iaload, 1) := by decide +kernel
theorem dM_suspend_15 : decode cM_suspend 15 = .ok (.invokevirtual 158, 3) := by decide +kernel
theorem dM_suspend_18 : decode cM_suspend 18 = .ok (.istore 4, 2) := by decide +kernel
theorem dM_suspend_20 : decode cM_suspend 20 = .ok (.iload 4, 2) := by decide +kernel
theorem dM_suspend_22 : decode cM_suspend 22 = .ok (.ifCond .ne 16, 3) := by decide +kernel
theorem dM_suspend_25 : decode cM_suspend 25 = .ok (.aload_n 0, 1) := by decide +kernel
theorem dM_suspend_26 : decode cM_suspend 26 = .ok (.aload_n 0, 1) := by decide +kernel
theorem dM_suspend_27 : decode cM_suspend 27 = .ok (.getfield 20, 3) := by decide +kernel
theorem dM_suspend_30 : decode cM_suspend 30 = .ok (.iload_n 1, 1) := by decide +kernel
theorem dM_suspend_31 : decode cM_suspend 31 = .ok (.iaload, 1) := by decide +kernel
theorem dM_suspend_32 : decode cM_suspend 32 = .ok (.iload_n 2, 1) := by decide +kernel
theorem dM_suspend_33 : decode cM_suspend 33 = .ok (.iload_n 3, 1) := by decide +kernel
theorem dM_suspend_34 : decode cM_suspend 34 = .ok (.invokevirtual 142, 3) := by decide +kernel
theorem dM_suspend_37 : decode cM_suspend 37 = .ok (.ireturn, 1) := by decide +kernel
theorem dM_suspend_38 : decode cM_suspend 38 = .ok (.iload 4, 2) := by decide +kernel
theorem dM_suspend_40 : decode cM_suspend 40 = .ok (.iconst 2, 1) := by decide +kernel
theorem dM_suspend_41 : decode cM_suspend 41 = .ok (.if_icmp .ne 25, 3) := by decide +kernel
theorem dM_suspend_44 : decode cM_suspend 44 = .ok (.aload_n 0, 1) := by decide +kernel
theorem dM_suspend_45 : decode cM_suspend 45 = .ok (.aload_n 0, 1) := by decide +kernel
theorem dM_suspend_46 : decode cM_suspend 46 = .ok (.getfield 20, 3) := by decide +kernel
theorem dM_suspend_49 : decode cM_suspend 49 = .ok (.iload_n 1, 1) := by decide +kernel
theorem dM_suspend_50 : decode cM_suspend 50 = .ok (.iaload, 1) := by decide +kernel
theorem dM_suspend_51 : decode cM_suspend 51 = .ok (.iconst 0, 1) := by decide +kernel
theorem dM_suspend_52 : decode cM_suspend 52 = .ok (.iconst 0, 1) := by decide +kernel
theorem dM_suspend_53 : decode cM_suspend 53 = .ok (.invokevirtual 142, 3) := by decide +kernel
theorem dM_suspend_56 : decode cM_suspend 56 = .ok (.invokestatic 161, 3) := by decide +kernel
theorem dM_suspend_59 : decode cM_suspend 59 = .ok (.iconst 2, 1) := by decide +kernel
theorem dM_suspend_60 : decode cM_suspend 60 = .ok (.ior, 1) := by decide +kernel
theorem dM_suspend_61 : decode cM_suspend 61 = .ok (.iconst (-1), 1) := by decide +kernel
theorem dM_suspend_62 : decode cM_suspend 62 = .ok (.invokestatic 124, 3) := by decide +kernel
theorem dM_suspend_65 : decode cM_suspend 65 = .ok (.ireturn, 1) := by decide +kernel
theorem dM_suspend_66 : decode cM_suspend 66 = .ok (.iload_n 1, 1) := by decide +kernel
theorem dM_suspend_67 : decode cM_suspend 67 = .ok (.istore 5, 2) := by decide +kernel
theorem dM_suspend_69 : decode cM_suspend 69 = .ok (.iload 5, 2) := by decide +kernel
theorem dM_suspend_71 : decode cM_suspend 71 = .ok (.aload_n 0, 1) := by decide +kernel
theorem dM_suspend_72 : decode cM_suspend 72 = .ok (.getfield 26, 3) := by decide +kernel
theorem dM_suspend_75 : decode cM_suspend 75 = .ok (.iload_n 1, 1) := by decide +kernel
theorem dM_suspend_76 : decode cM_suspend 76 = .ok (.iaload, 1) := by decide +kernel
theorem dM_suspend_77 : decode cM_suspend 77 = .ok (.if_icmp .ge 48, 3) := by decide +kernel
theorem dM_suspend_80 : decode cM_suspend 80 = .ok (.iload_n 3, 1) := by decide +kernel
theorem dM_suspend_81 : decode cM_suspend 81 = .ok (.ifCond .eq 44, 3) := by decide +kernel
theorem dM_suspend_84 : decode cM_suspend 84 = .ok (.aload_n 0, 1) := by decide +kernel
theorem dM_suspend_85 : decode cM_suspend 85 = .ok (.getfield 38, 3) := by decide +kernel
theorem dM_suspend_88 : decode cM_suspend 88 = .ok (.iload 5, 2) := by decide +kernel
theorem dM_suspend_90 : decode cM_suspend 90 = .ok (.iaload, 1) := by decide +kernel
theorem dM_suspend_91 : decode cM_suspend 91 = .ok (.iconst (-1), 1) := by decide +kernel
theorem dM_suspend_92 : decode cM_suspend 92 = .ok (.if_icmp .eq 27, 3) := by decide +kernel
theorem dM_suspend_95 : decode cM_suspend 95 = .ok (.aload_n 0, 1) := by decide +kernel
theorem dM_suspend_96 : decode cM_suspend 96 = .ok (.getfield 51, 3) := by decide +kernel
theorem dM_suspend_99 : decode cM_suspend 99 = .ok (.aload_n 0, 1) := by decide +kernel
theorem dM_suspend_100 : decode cM_suspend 100 = .ok (.getfield 38, 3) := by decide +kernel
theorem dM_suspend_103 : decode cM_suspend 103 = .ok (.iload 5, 2) := by decide +kernel
theorem dM_suspend_105 : decode cM_suspend 105 = .ok (.iaload, 1) := by decide +kernel
theorem dM_suspend_106 : decode cM_suspend 106 = .ok (.aload_n 0, 1) := by decide +kernel
theorem dM_suspend_107 : decode cM_suspend 107 = .ok (.getfield 47, 3) := by decide +kernel
theorem dM_suspend_110 : decode cM_suspend 110 = .ok (.aload_n 0, 1) := by decide +kernel
theorem dM_suspend_111 : decode cM_suspend 111 = .ok (.getfield 38, 3) := by decide +kernel
theorem dM_suspend_114 : decode cM_suspend 114 = .ok (.iload 5, 2) := by decide +kernel
theorem dM_suspend_116 : decode cM_suspend 116 = .ok (.iaload, 1) := by decide +kernel
theorem dM_suspend_117 : decode cM_suspend 117 = .ok (.baload, 1) := by decide +kernel
theorem dM_suspend_118 : decode cM_suspend 118 = .ok (.bastore, 1) := by decide +kernel
theorem dM_suspend_119 : decode cM_suspend 119 = .ok (.iinc 5 1, 3) := by decide +kernel
theorem dM_suspend_122 : decode cM_suspend 122 = .ok (.goto (-53), 3) := by decide +kernel
theorem dM_suspend_125 : decode cM_suspend 125 = .ok (.iconst 2, 1) := by decide +kernel
theorem dM_suspend_126 : decode cM_suspend 126 = .ok (.iload_n 3, 1) := by decide +kernel
theorem dM_suspend_127 : decode cM_suspend 127 = .ok (.ifCond .eq 7, 3) := by decide +kernel
theorem dM_suspend_130 : decode cM_suspend 130 = .ok (.iconst 1, 1) := by decide +kernel
theorem dM_suspend_131 : decode cM_suspend 131 = .ok (.goto 4, 3) := by decide +kernel
theorem dM_suspend_134 : decode cM_suspend 134 = .ok (.iconst (-1), 1) := by decide +kernel
theorem dM_suspend_135 : decode cM_suspend 135 = .ok (.invokestatic 124, 3) := by decide +kernel
theorem dM_suspend_138 : decode cM_suspend 138 = .ok (.ireturn, 1) := by decide +kernel
theorem dM_behind_0 : decode cM_behind 0 = .ok (.iload_n 2, 1) := by decide +kernel
theorem dM_behind_1 : decode cM_behind 1 = .ok (.invokestatic 164, 3) := by decide +kernel
theorem dM_behind_4 : decode cM_behind 4 = .ok (.ifCond .ne 7, 3) := by decide +kernel
theorem dM_behind_7 : decode cM_behind 7 = .ok (.iconst 1, 1) := by decide +kernel
theorem dM_behind_8 : decode cM_behind 8 = .ok (.goto 4, 3) := by decide +kernel
theorem dM_behind_11 : decode cM_behind 11 = .ok (.iconst 0, 1) := by decide +kernel
theorem dM_behind_12 : decode cM_behind 12 = .ok (.istore 6, 2) := by decide +kernel
theorem dM_behind_14 : decode cM_behind 14 = .ok (.iload_n 2, 1) := by decide +kernel
theorem dM_behind_15 : decode cM_behind 15 = .ok (.invokestatic 161, 3) := by decide +kernel
theorem dM_behind_18 : decode cM_behind 18 = .ok (.iconst 1, 1) := by decide +kernel
theorem dM_behind_19 : decode cM_behind 19 = .ok (.iand, 1) := by decide +kernel
theorem dM_behind_20 : decode cM_behind 20 = .ok (.ifCond .ne 5, 3) := by decide +kernel
theorem dM_behind_23 : decode cM_behind 23 = .ok (.iload_n 2, 1) := by decide +kernel
theorem dM_behind_24 : decode cM_behind 24 = .ok (.ireturn, 1) := by decide +kernel
theorem dM_behind_25 : decode cM_behind 25 = .ok (.aload_n 0, 1) := by decide +kernel
theorem dM_behind_26 : decode cM_behind 26 = .ok (.getfield 167, 3) := by decide +kernel
theorem dM_behind_29 : decode cM_behind 29 = .ok (.istore 7, 2) := by decide +kernel
theorem dM_behind_31 : decode cM_behind 31 = .ok (.aload_n 0, 1) := by decide +kernel
theorem dM_behind_32 : decode cM_behind 32 = .ok (.iload 4, 2) := by decide +kernel
theorem dM_behind_34 : decode cM_behind 34 = .ok (.ifCond .eq 10, 3) := by decide +kernel
theorem dM_behind_37 : decode cM_behind 37 = .ok (.aload_n 0, 1) := by decide +kernel
theorem dM_behind_38 : decode cM_behind 38 = .ok (.getfield 167, 3) := by decide +kernel
theorem dM_behind_41 : decode cM_behind 41 = .ok (.goto 11, 3) := by decide +kernel
theorem dM_behind_44 : decode cM_behind 44 = .ok (.iconst 1, 1) := by decide +kernel
theorem dM_behind_45 : decode cM_behind 45 = .ok (.aload_n 0, 1) := by decide +kernel
theorem dM_behind_46 : decode cM_behind 46 = .ok (.getfield 29, 3) := by decide +kernel
theorem dM_behind_49 : decode cM_behind 49 = .ok (.iload_n 1, 1) := by decide +kernel
theorem dM_behind_50 : decode cM_behind 50 = .ok (.iaload, 1) := by decide +kernel
theorem dM_behind_51 : decode cM_behind 51 = .ok (.iadd, 1) := by decide +kernel
theorem dM_behind_52 : decode cM_behind 52 = .ok (.putfield 167, 3) := by decide +kernel
theorem dM_behind_55 : decode cM_behind 55 = .ok (.aload_n 0, 1) := by decide +kernel
theorem dM_behind_56 : decode cM_behind 56 = .ok (.iload_n 3, 1) := by decide +kernel
theorem dM_behind_57 : decode cM_behind 57 = .ok (.iconst 1, 1) := by decide +kernel
theorem dM_behind_58 : decode cM_behind 58 = .ok (.iload 5, 2) := by decide +kernel
theorem dM_behind_60 : decode cM_behind 60 = .ok (.ifCond .eq 12, 3) := by decide +kernel
theorem dM_behind_63 : decode cM_behind 63 = .ok (.iload 6, 2) := by decide +kernel
theorem dM_behind_65 : decode cM_behind 65 = .ok (.ifCond .eq 7, 3) := by decide +kernel
theorem dM_behind_68 : decode cM_behind 68 = .ok (.iconst 1, 1) := by decide +kernel
theorem dM_behind_69 : decode cM_behind 69 = .ok (.goto 4, 3) := by decide +kernel
theorem dM_behind_72 : decode cM_behind 72 = .ok (.iconst 0, 1) := by decide +kernel
theorem dM_behind_73 : decode cM_behind 73 = .ok (.invokevirtual 142, 3) := by decide +kernel
theorem dM_behind_76 : decode cM_behind 76 = .ok (.istore 8, 2) := by decide +kernel
theorem dM_behind_78 : decode cM_behind 78 = .ok (.aload_n 0, 1) := by decide +kernel
theorem dM_behind_79 : decode cM_behind 79 = .ok (.iload 7, 2) := by decide +kernel
theorem dM_behind_81 : decode cM_behind 81 = .ok (.putfield 167, 3) := by decide +kernel
theorem dM_behind_84 : decode cM_behind 84 = .ok (.iload_n 2, 1) := by decide +kernel
theorem dM_behind_85 : decode cM_behind 85 = .ok (.invokestatic 161, 3) := by decide +kernel
theorem dM_behind_88 : decode cM_behind 88 = .ok (.bipush (-2), 2) := by decide +kernel
theorem dM_behind_90 : decode cM_behind 90 = .ok (.iand, 1) := by decide +kernel
theorem dM_behind_91 : decode cM_behind 91 = .ok (.iload 8, 2) := by decide +kernel
theorem dM_behind_93 : decode cM_behind 93 = .ok (.invokestatic 161, 3) := by decide +kernel
theorem dM_behind_96 : decode cM_behind 96 = .ok (.ior, 1) := by decide +kernel
theorem dM_behind_97 : decode cM_behind 97 = .ok (.iload 6, 2) := by decide +kernel
theorem dM_behind_99 : decode cM_behind 99 = .ok (.ifCond .eq 11, 3) := by decide +kernel
theorem dM_behind_102 : decode cM_behind 102 = .ok (.iload 8, 2) := by decide +kernel
theorem dM_behind_104 : decode cM_behind 104 = .ok (.invokestatic 164, 3) := by decide +kernel
theorem dM_behind_107 : decode cM_behind 107 = .ok (.goto 7, 3) := by decide +kernel
theorem dM_behind_110 : decode cM_behind 110 = .ok (.iload_n 2, 1) := by decide +kernel
theorem dM_behind_111 : decode cM_behind 111 = .ok (.invokestatic 164, 3) := by decide +kernel
theorem dM_behind_114 : decode cM_behind 114 = .ok (.invokestatic 124, 3) := by decide +kernel
theorem dM_behind_117 : decode cM_behind 117 = .ok (.ireturn, 1) := by decide +kernel
theorem dM_mustOf_0 : decode cM_mustOf 0 = .ok (.iload_n 0, 1) := by decide +kernel
theorem dM_mustOf_1 : decode cM_mustOf 1 = .ok (.bipush 8, 2) := by decide +kernel
theorem dM_mustOf_3 : decode cM_mustOf 3 = .ok (.ishr, 1) := by decide +kernel
theorem dM_mustOf_4 : decode cM_mustOf 4 = .ok (.iconst 1, 1) := by decide +kernel
theorem dM_mustOf_5 : decode cM_mustOf 5 = .ok (.isub, 1) := by decide +kernel
theorem dM_mustOf_6 : decode cM_mustOf 6 = .ok (.ireturn, 1) := by decide +kernel
theorem dM_parallel_0 : decode cM_parallel 0 = .ok (.aload_n 0, 1) := by decide +kernel
theorem dM_parallel_1 : decode cM_parallel 1 = .ok (.aload_n 0, 1) := by decide +kernel
theorem dM_parallel_2 : decode cM_parallel 2 = .ok (.getfield 20, 3) := by decide +kernel
theorem dM_parallel_5 : decode cM_parallel 5 = .ok (.iload_n 1, 1) := by decide +kernel
theorem dM_parallel_6 : decode cM_parallel 6 = .ok (.iaload, 1) := by decide +kernel
theorem dM_parallel_7 : decode cM_parallel 7 = .ok (.iload_n 2, 1) := by decide +kernel
theorem dM_parallel_8 : decode cM_parallel 8 = .ok (.iload_n 3, 1) := by decide +kernel
theorem dM_parallel_9 : decode cM_parallel 9 = .ok (.invokevirtual 170, 3) := by decide +kernel
theorem dM_parallel_12 : decode cM_parallel 12 = .ok (.istore 4, 2) := by decide +kernel
theorem dM_parallel_14 : decode cM_parallel 14 = .ok (.aload_n 0, 1) := by decide +kernel
theorem dM_parallel_15 : decode cM_parallel 15 = .ok (.aload_n 0, 1) := by decide +kernel
theorem dM_parallel_16 : decode cM_parallel 16 = .ok (.getfield 23, 3) := by decide +kernel
theorem dM_parallel_19 : decode cM_parallel 19 = .ok (.iload_n 1, 1) := by decide +kernel
theorem dM_parallel_20 : decode cM_parallel 20 = .ok (.iaload, 1) := by decide +kernel
theorem dM_parallel_21 : decode cM_parallel 21 = .ok (.iload_n 2, 1) := by decide +kernel
theorem dM_parallel_22 : decode cM_parallel 22 = .ok (.iload_n 3, 1) := by decide +kernel
theorem dM_parallel_23 : decode cM_parallel 23 = .ok (.invokevirtual 170, 3) := by decide +kernel
theorem dM_parallel_26 : decode cM_parallel 26 = .ok (.istore 5, 2) := by decide +kernel
theorem dM_parallel_28 : decode cM_parallel 28 = .ok (.iload 4, 2) := by decide +kernel
theorem dM_parallel_30 : decode cM_parallel 30 = .ok (.invokestatic 164, 3) := by decide +kernel
theorem dM_parallel_33 : decode cM_parallel 33 = .ok (.iconst (-1), 1) := by decide +kernel
theorem dM_parallel_34 : decode cM_parallel 34 = .ok (.if_icmp .eq 16, 3) := by decide +kernel
theorem dM_parallel_37 : decode cM_parallel 37 = .ok (.iload 5, 2) := by decide +kernel
theorem dM_parallel_39 : decode cM_parallel 39 = .ok (.invokestatic 164, 3) := by decide +kernel
theorem dM_parallel_42 : decode cM_parallel 42 = .ok (.iconst (-1), 1) := by decide +kernel
theorem dM_parallel_43 : decode cM_parallel 43 = .ok (.if_icmp .eq 7, 3) := by decide +kernel
theorem dM_parallel_46 : decode cM_parallel 46 = .ok (.iconst 1, 1) := by decide +kernel
theorem dM_parallel_47 : decode cM_parallel 47 = .ok (.goto 4, 3) := by decide +kernel
theorem dM_parallel_50 : decode cM_parallel 50 = .ok (.iconst 0, 1) := by decide +kernel
theorem dM_parallel_51 : decode cM_parallel 51 = .ok (.istore 6, 2) := by decide +kernel
theorem dM_parallel_53 : decode cM_parallel 53 = .ok (.iload 4, 2) := by decide +kernel
theorem dM_parallel_55 : decode cM_parallel 55 = .ok (.invokestatic 161, 3) := by decide +kernel
theorem dM_parallel_58 : decode cM_parallel 58 = .ok (.iload 5, 2) := by decide +kernel
theorem dM_parallel_60 : decode cM_parallel 60 = .ok (.invokestatic 161, 3) := by decide +kernel
theorem dM_parallel_63 : decode cM_parallel 63 = .ok (.invokestatic 103, 3) := by decide +kernel
theorem dM_parallel_66 : decode cM_parallel 66 = .ok (.iload 6, 2) := by decide +kernel
theorem dM_parallel_68 : decode cM_parallel 68 = .ok (.ifCond .eq 32, 3) := by decide +kernel
theorem dM_parallel_71 : decode cM_parallel 71 = .ok (.iload 4, 2) := by decide +kernel
theorem dM_parallel_73 : decode cM_parallel 73 = .ok (.invokestatic 164, 3) := by decide +kernel
theorem dM_parallel_76 : decode cM_parallel 76 = .ok (.iload 5, 2) := by decide +kernel
theorem dM_parallel_78 : decode cM_parallel 78 = .ok (.invokestatic 164, 3) := by decide +kernel
theorem dM_parallel_81 : decode cM_parallel 81 = .ok (.if_icmp .le 11, 3) := by decide +kernel
theorem dM_parallel_84 : decode cM_parallel 84 = .ok (.iload 4, 2) := by decide +kernel
theorem dM_parallel_86 : decode cM_parallel 86 = .ok (.invokestatic 164, 3) := by decide +kernel
theorem dM_parallel_89 : decode cM_parallel 89 = .ok (.goto 12, 3) := by decide +kernel
theorem dM_parallel_92 : decode cM_parallel 92 = .ok (.iload 5, 2) := by decide +kernel
theorem dM_parallel_94 : decode cM_parallel 94 = .ok (.invokestatic 164, 3) := by decide +kernel
theorem dM_parallel_97 : decode cM_parallel 97 = .ok (.goto 4, 3) := by decide +kernel
theorem dM_parallel_100 : decode cM_parallel 100 = .ok (.iconst (-1), 1) := by decide +kernel
theorem dM_parallel_101 : decode cM_parallel 101 = .ok (.invokestatic 124, 3) := by decide +kernel
theorem dM_parallel_104 : decode cM_parallel 104 = .ok (.ireturn, 1) := by decide +kernel
theorem dM_side_0 : decode cM_side 0 = .ok (.iload_n 2, 1) := by decide +kernel
theorem dM_side_1 : decode cM_side 1 = .ok (.ifCond .ne 11, 3) := by decide +kernel
theorem dM_side_4 : decode cM_side 4 = .ok (.aload_n 0, 1) := by decide +kernel
theorem dM_side_5 : decode cM_side 5 = .ok (.iload_n 1, 1) := by decide +kernel
theorem dM_side_6 : decode cM_side 6 = .ok (.invokevirtual 138, 3) := by decide +kernel
theorem dM_side_9 : decode cM_side 9 = .ok (.ifCond .eq 13, 3) := by decide +kernel
theorem dM_side_12 : decode cM_side 12 = .ok (.aload_n 0, 1) := by decide +kernel
theorem dM_side_13 : decode cM_side 13 = .ok (.iload_n 1, 1) := by decide +kernel
theorem dM_side_14 : decode cM_side 14 = .ok (.iload_n 2, 1) := by decide +kernel
theorem dM_side_15 : decode cM_side 15 = .ok (.iload_n 3, 1) := by decide +kernel
theorem dM_side_16 : decode cM_side 16 = .ok (.invokevirtual 142, 3) := by decide +kernel
theorem dM_side_19 : decode cM_side 19 = .ok (.goto 16, 3) := by decide +kernel
theorem dM_side_22 : decode cM_side 22 = .ok (.iconst 1, 1) := by decide +kernel
theorem dM_side_23 : decode cM_side 23 = .ok (.iload_n 3, 1) := by decide +kernel
theorem dM_side_24 : decode cM_side 24 = .ok (.ifCond .eq 7, 3) := by decide +kernel
theorem dM_side_27 : decode cM_side 27 = .ok (.iconst 0, 1) := by decide +kernel
theorem dM_side_28 : decode cM_side 28 = .ok (.goto 4, 3) := by decide +kernel
theorem dM_side_31 : decode cM_side 31 = .ok (.iconst (-1), 1) := by decide +kernel
theorem dM_side_32 : decode cM_side 32 = .ok (.invokestatic 124, 3) := by decide +kernel
theorem dM_side_35 : decode cM_side 35 = .ok (.ireturn, 1) := by decide +kernel
theorem dM_trap_0 : decode cM_trap 0 = .ok (.aload_n 0, 1) := by decide +kernel
theorem dM_trap_1 : decode cM_trap 1 = .ok (.aload_n 0, 1) := by decide +kernel
theorem dM_trap_2 : decode cM_trap 2 = .ok (.getfield 20, 3) := by decide +kernel
theorem dM_trap_5 : decode cM_trap 5 = .ok (.iload_n 1, 1) := by decide +kernel
theorem dM_trap_6 : decode cM_trap 6 = .ok (.iaload, 1) := by decide +kernel
theorem dM_trap_7 : decode cM_trap 7 = .ok (.iload_n 2, 1) := by decide +kernel
theorem dM_trap_8 : decode cM_trap 8 = .ok (.iload_n 3, 1) := by decide +kernel
theorem dM_trap_9 : decode cM_trap 9 = .ok (.invokevirtual 142, 3) := by decide +kernel
theorem dM_trap_12 : decode cM_trap 12 = .ok (.istore 4, 2) := by decide +kernel
theorem dM_trap_14 : decode cM_trap 14 = .ok (.iload 4, 2) := by decide +kernel
theorem dM_trap_16 : decode cM_trap 16 = .ok (.invokestatic 164, 3) := by decide +kernel
theorem dM_trap_19 : decode cM_trap 19 = .ok (.istore 5, 2) := by decide +kernel
theorem dM_trap_21 : decode cM_trap 21 = .ok (.iload_n 1, 1) := by decide +kernel
theorem dM_trap_22 : decode cM_trap 22 = .ok (.istore 6, 2) := by decide +kernel
theorem dM_trap_24 : decode cM_trap 24 = .ok (.iload 6, 2) := by decide +kernel
theorem dM_trap_26 : decode cM_trap 26 = .ok (.aload_n 0, 1) := by decide +kernel
theorem dM_trap_27 : decode cM_trap 27 = .ok (.getfield 26, 3) := by decide +kernel
theorem dM_trap_30 : decode cM_trap 30 = .ok (.iload_n 1, 1) := by decide +kernel
theorem dM_trap_31 : decode cM_trap 31 = .ok (.iaload, 1) := by decide +kernel
theorem dM_trap_32 : decode cM_trap 32 = .ok (.if_icmp .ge 39, 3) := by decide +kernel
theorem dM_trap_35 : decode cM_trap 35 = .ok (.iload 5, 2) := by decide +kernel
theorem dM_trap_37 : decode cM_trap 37 = .ok (.iconst 2, 1) := by decide +kernel
theorem dM_trap_38 : decode cM_trap 38 = .ok (.if_icmp .ne 33, 3) := by decide +kernel
theorem dM_trap_41 : decode cM_trap 41 = .ok (.aload_n 0, 1) := by decide +kernel
theorem dM_trap_42 : decode cM_trap 42 = .ok (.getfield 38, 3) := by decide +kernel
theorem dM_trap_45 : decode cM_trap 45 = .ok (.iload 6, 2) := by decide +kernel
theorem dM_trap_47 : decode cM_trap 47 = .ok (.iaload, 1) := by decide +kernel
theorem dM_trap_48 : decode cM_trap 48 = .ok (.iconst (-1), 1) := by decide +kernel
theorem dM_trap_49 : decode cM_trap 49 = .ok (.if_icmp .eq 16, 3) := by decide +kernel
theorem dM_trap_52 : decode cM_trap 52 = .ok (.aload_n 0, 1) := by decide +kernel
theorem dM_trap_53 : decode cM_trap 53 = .ok (.getfield 51, 3) := by decide +kernel
theorem dM_trap_56 : decode cM_trap 56 = .ok (.aload_n 0, 1) := by decide +kernel
theorem dM_trap_57 : decode cM_trap 57 = .ok (.getfield 38, 3) := by decide +kernel
theorem dM_trap_60 : decode cM_trap 60 = .ok (.iload 6, 2) := by decide +kernel
theorem dM_trap_62 : decode cM_trap 62 = .ok (.iaload, 1) := by decide +kernel
theorem dM_trap_63 : decode cM_trap 63 = .ok (.iconst 0, 1) := by decide +kernel
theorem dM_trap_64 : decode cM_trap 64 = .ok (.bastore, 1) := by decide +kernel
theorem dM_trap_65 : decode cM_trap 65 = .ok (.iinc 6 1, 3) := by decide +kernel
theorem dM_trap_68 : decode cM_trap 68 = .ok (.goto (-44), 3) := by decide +kernel
theorem dM_trap_71 : decode cM_trap 71 = .ok (.iload 4, 2) := by decide +kernel
theorem dM_trap_73 : decode cM_trap 73 = .ok (.invokestatic 161, 3) := by decide +kernel
theorem dM_trap_76 : decode cM_trap 76 = .ok (.invokestatic 107, 3) := by decide +kernel
theorem dM_trap_79 : decode cM_trap 79 = .ok (.iload 5, 2) := by decide +kernel
theorem dM_trap_81 : decode cM_trap 81 = .ok (.iconst 2, 1) := by decide +kernel
theorem dM_trap_82 : decode cM_trap 82 = .ok (.if_icmp .ne 7, 3) := by decide +kernel
theorem dM_trap_85 : decode cM_trap 85 = .ok (.iconst 0, 1) := by decide +kernel
theorem dM_trap_86 : decode cM_trap 86 = .ok (.goto 18, 3) := by decide +kernel
theorem dM_trap_89 : decode cM_trap 89 = .ok (.iload 5, 2) := by decide +kernel
theorem dM_trap_91 : decode cM_trap 91 = .ok (.iconst 2, 1) := by decide +kernel
theorem dM_trap_92 : decode cM_trap 92 = .ok (.if_icmp .le 10, 3) := by decide +kernel
theorem dM_trap_95 : decode cM_trap 95 = .ok (.iload 5, 2) := by decide +kernel
theorem dM_trap_97 : decode cM_trap 97 = .ok (.iconst 1, 1) := by decide +kernel
theorem dM_trap_98 : decode cM_trap 98 = .ok (.isub, 1) := by decide +kernel
theorem dM_trap_99 : decode cM_trap 99 = .ok (.goto 5, 3) := by decide +kernel
theorem dM_trap_102 : decode cM_trap 102 = .ok (.iload 5, 2) := by decide +kernel
theorem dM_trap_104 : decode cM_trap 104 = .ok (.invokestatic 124, 3) := by decide +kernel
theorem dM_trap_107 : decode cM_trap 107 = .ok (.ireturn, 1) := by decide +kernel
theorem dM_local_0 : decode cM_local 0 = .ok (.aload_n 0, 1) := by decide +kernel
theorem dM_local_1 : decode cM_local 1 = .ok (.getfield 66, 3) := by decide +kernel
theorem dM_local_4 : decode cM_local 4 = .ok (.aload_n 0, 1) := by decide +kernel
theorem dM_local_5 : decode cM_local 5 = .ok (.getfield 17, 3) := by decide +kernel
theorem dM_local_8 : decode cM_local 8 = .ok (.iload_n 1, 1) := by decide +kernel
theorem dM_local_9 : decode cM_local 9 = .ok (.iaload, 1) := by decide +kernel
theorem dM_local_10 : decode cM_local 10 = .ok (.iaload, 1) := by decide +kernel
theorem dM_local_11 : decode cM_local 11 = .ok (.istore 4, 2) := by decide +kernel
theorem dM_local_13 : decode cM_local 13 = .ok (.bipush 16, 2) := by decide +kernel
theorem dM_local_15 : decode cM_local 15 = .ok (.bipush 27, 2) := by decide +kernel
theorem dM_local_17 : decode cM_local 17 = .ok (.iload_n 1, 1) := by decide +kernel
theorem dM_local_18 : decode cM_local 18 = .ok (.imul, 1) := by decide +kernel
theorem dM_local_19 : decode cM_local 19 = .ok (.iadd, 1) := by decide +kernel
theorem dM_local_20 : decode cM_local 20 = .ok (.iload_n 2, 1) := by decide +kernel
theorem dM_local_21 : decode cM_local 21 = .ok (.ifCond .eq 10, 3) := by decide +kernel
theorem dM_local_24 : decode cM_local 24 = .ok (.aload_n 0, 1) := by decide +kernel
theorem dM_local_25 : decode cM_local 25 = .ok (.getfield 167, 3) := by decide +kernel
theorem dM_local_28 : decode cM_local 28 = .ok (.goto 5, 3) := by decide +kernel
theorem dM_local_31 : decode cM_local 31 = .ok (.bipush 26, 2) := by decide +kernel
theorem dM_local_33 : decode cM_local 33 = .ok (.iadd, 1) := by decide +kernel
theorem dM_local_34 : decode cM_local 34 = .ok (.istore 5, 2) := by decide +kernel
theorem dM_local_36 : decode cM_local 36 = .ok (.aload_n 0, 1) := by decide +kernel
theorem dM_local_37 : decode cM_local 37 = .ok (.getfield 66, 3) := by decide +kernel
theorem dM_local_40 : decode cM_local 40 = .ok (.aload_n 0, 1) := by decide +kernel
theorem dM_local_41 : decode cM_local 41 = .ok (.getfield 17, 3) := by decide +kernel
theorem dM_local_44 : decode cM_local 44 = .ok (.iload_n 1, 1) := by decide +kernel
theorem dM_local_45 : decode cM_local 45 = .ok (.iaload, 1) := by decide +kernel
theorem dM_local_46 : decode cM_local 46 = .ok (.iload 5, 2) := by decide +kernel
theorem dM_local_48 : decode cM_local 48 = .ok (.iastore, 1) := by decide +kernel
theorem dM_local_49 : decode cM_local 49 = .ok (.aload_n 0, 1) := by decide +kernel
theorem dM_local_50 : decode cM_local 50 = .ok (.aload_n 0, 1) := by decide +kernel
theorem dM_local_51 : decode cM_local 51 = .ok (.getfield 173, 3) := by decide +kernel
theorem dM_local_54 : decode cM_local 54 = .ok (.ifCond .ne 18, 3) := by decide +kernel
theorem dM_local_57 : decode cM_local 57 = .ok (.iload_n 3, 1) := by decide +kernel
theorem dM_local_58 : decode cM_local 58 = .ok (.ifCond .eq 18, 3) := by decide +kernel
theorem dM_local_61 : decode cM_local 61 = .ok (.aload_n 0, 1) := by decide +kernel
theorem dM_local_62 : decode cM_local 62 = .ok (.getfield 57, 3) := by decide +kernel
theorem dM_local_65 : decode cM_local 65 = .ok (.iload 5, 2) := by decide +kernel
theorem dM_local_67 : decode cM_local 67 = .ok (.iaload, 1) := by decide +kernel
theorem dM_local_68 : decode cM_local 68 = .ok (.iconst 2, 1) := by decide +kernel
theorem dM_local_69 : decode cM_local 69 = .ok (.if_icmp .ne 7, 3) := by decide +kernel
theorem dM_local_72 : decode cM_local 72 = .ok (.iconst 1, 1) := by decide +kernel
theorem dM_local_73 : decode cM_local 73 = .ok (.goto 4, 3) := by decide +kernel
theorem dM_local_76 : decode cM_local 76 = .ok (.iconst 0, 1) := by decide +kernel
theorem dM_local_77 : decode cM_local 77 = .ok (.putfield 173, 3) := by decide +kernel
theorem dM_local_80 : decode cM_local 80 = .ok (.aload_n 0, 1) := by decide +kernel
theorem dM_local_81 : decode cM_local 81 = .ok (.aload_n 0, 1) := by decide +kernel
theorem dM_local_82 : decode cM_local 82 = .ok (.getfield 20, 3) := by decide +kernel
theorem dM_local_85 : decode cM_local 85 = .ok (.iload_n 1, 1) := by decide +kernel
theorem dM_local_86 : decode cM_local 86 = .ok (.iaload, 1) := by decide +kernel
theorem dM_local_87 : decode cM_local 87 = .ok (.iload_n 2, 1) := by decide +kernel
theorem dM_local_88 : decode cM_local 88 = .ok (.iload_n 3, 1) := by decide +kernel
theorem dM_local_89 : decode cM_local 89 = .ok (.invokevirtual 142, 3) := by decide +kernel
theorem dM_local_92 : decode cM_local 92 = .ok (.istore 6, 2) := by decide +kernel
theorem dM_local_94 : decode cM_local 94 = .ok (.aload_n 0, 1) := by decide +kernel
theorem dM_local_95 : decode cM_local 95 = .ok (.getfield 66, 3) := by decide +kernel
theorem dM_local_98 : decode cM_local 98 = .ok (.aload_n 0, 1) := by decide +kernel
theorem dM_local_99 : decode cM_local 99 = .ok (.getfield 17, 3) := by decide +kernel
theorem dM_local_102 : decode cM_local 102 = .ok (.iload_n 1, 1) := by decide +kernel
theorem dM_local_103 : decode cM_local 103 = .ok (.iaload, 1) := by decide +kernel
theorem dM_local_104 : decode cM_local 104 = .ok (.iload 4, 2) := by decide +kernel
theorem dM_local_106 : decode cM_local 106 = .ok (.iastore, 1) := by decide +kernel
theorem dM_local_107 : decode cM_local 107 = .ok (.iload 6, 2) := by decide +kernel
theorem dM_local_109 : decode cM_local 109 = .ok (.ireturn, 1) := by decide +kernel
theorem dM_learns_0 : decode cM_learns 0 = .ok (.iconst 0, 1) := by decide +kernel
theorem dM_learns_1 : decode cM_learns 1 = .ok (.istore_n 1, 1) := by decide +kernel
theorem dM_learns_2 : decode cM_learns 2 = .ok (.iconst 4, 1) := by decide +kernel
theorem dM_learns_3 : decode cM_learns 3 = .ok (.istore_n 2, 1) := by decide +kernel
theorem dM_learns_4 : decode cM_learns 4 = .ok (.iload_n 2, 1) := by decide +kernel
theorem dM_learns_5 : decode cM_learns 5 = .ok (.bipush 16, 2) := by decide +kernel
theorem dM_learns_7 : decode cM_learns 7 = .ok (.bipush 27, 2) := by decide +kernel
theorem dM_learns_9 : decode cM_learns 9 = .ok (.aload_n 0, 1) := by decide +kernel
theorem dM_learns_10 : decode cM_learns 10 = .ok (.getfield 87, 3) := by decide +kernel
theorem dM_learns_13 : decode cM_learns 13 = .ok (.imul, 1) := by decide +kernel
theorem dM_learns_14 : decode cM_learns 14 = .ok (.iadd, 1) := by decide +kernel
theorem dM_learns_15 : decode cM_learns 15 = .ok (.if_icmp .ge 62, 3) := by decide +kernel
theorem dM_learns_18 : decode cM_learns 18 = .ok (.aload_n 0, 1) := by decide +kernel
theorem dM_learns_19 : decode cM_learns 19 = .ok (.getfield 57, 3) := by decide +kernel
theorem dM_learns_22 : decode cM_learns 22 = .ok (.iload_n 2, 1) := by decide +kernel
theorem dM_learns_23 : decode cM_learns 23 = .ok (.iaload, 1) := by decide +kernel
theorem dM_learns_24 : decode cM_learns 24 = .ok (.iconst 2, 1) := by decide +kernel
theorem dM_learns_25 : decode cM_learns 25 = .ok (.if_icmp .ne 46, 3) := by decide +kernel
theorem dM_learns_28 : decode cM_learns 28 = .ok (.aload_n 0, 1) := by decide +kernel
theorem dM_learns_29 : decode cM_learns 29 = .ok (.getfield 60, 3) := by decide +kernel
theorem dM_learns_32 : decode cM_learns 32 = .ok (.iload_n 2, 1) := by decide +kernel
theorem dM_learns_33 : decode cM_learns 33 = .ok (.baload, 1) := by decide +kernel
theorem dM_learns_34 : decode cM_learns 34 = .ok (.ifCond .ne 15, 3) := by decide +kernel
theorem dM_learns_37 : decode cM_learns 37 = .ok (.aload_n 0, 1) := by decide +kernel
theorem dM_learns_38 : decode cM_learns 38 = .ok (.getfield 63, 3) := by decide +kernel
theorem dM_learns_41 : decode cM_learns 41 = .ok (.iload_n 2, 1) := by decide +kernel
theorem dM_learns_42 : decode cM_learns 42 = .ok (.baload, 1) := by decide +kernel
theorem dM_learns_43 : decode cM_learns 43 = .ok (.ifCond .eq 6, 3) := by decide +kernel
theorem dM_learns_46 : decode cM_learns 46 = .ok (.goto 25, 3) := by decide +kernel
theorem dM_learns_49 : decode cM_learns 49 = .ok (.aload_n 0, 1) := by decide +kernel
theorem dM_learns_50 : decode cM_learns 50 = .ok (.getfield 57, 3) := by decide +kernel
theorem dM_learns_53 : decode cM_learns 53 = .ok (.iload_n 2, 1) := by decide +kernel
theorem dM_learns_54 : decode cM_learns 54 = .ok (.aload_n 0, 1) := by decide +kernel
theorem dM_learns_55 : decode cM_learns 55 = .ok (.getfield 60, 3) := by decide +kernel
theorem dM_learns_58 : decode cM_learns 58 = .ok (.iload_n 2, 1) := by decide +kernel
theorem dM_learns_59 : decode cM_learns 59 = .ok (.baload, 1) := by decide +kernel
theorem dM_learns_60 : decode cM_learns 60 = .ok (.ifCond .eq 7, 3) := by decide +kernel
theorem dM_learns_63 : decode cM_learns 63 = .ok (.iconst 1, 1) := by decide +kernel
theorem dM_learns_64 : decode cM_learns 64 = .ok (.goto 4, 3) := by decide +kernel
theorem dM_learns_67 : decode cM_learns 67 = .ok (.iconst 0, 1) := by decide +kernel
theorem dM_learns_68 : decode cM_learns 68 = .ok (.iastore, 1) := by decide +kernel
theorem dM_learns_69 : decode cM_learns 69 = .ok (.iconst 1, 1) := by decide +kernel
theorem dM_learns_70 : decode cM_learns 70 = .ok (.istore_n 1, 1) := by decide +kernel
theorem dM_learns_71 : decode cM_learns 71 = .ok (.iinc 2 1, 3) := by decide +kernel
theorem dM_learns_74 : decode cM_learns 74 = .ok (.goto (-70), 3) := by decide +kernel
theorem dM_learns_77 : decode cM_learns 77 = .ok (.iload_n 1, 1) := by decide +kernel
theorem dM_learns_78 : decode cM_learns 78 = .ok (.ireturn, 1) := by decide +kernel
theorem dM_status_0 : decode cM_status 0 = .ok (.aload_n 0, 1) := by decide +kernel
theorem dM_status_1 : decode cM_status 1 = .ok (.iload_n 1, 1) := by decide +kernel
theorem dM_status_2 : decode cM_status 2 = .ok (.ifCond .lt 9, 3) := by decide +kernel
theorem dM_status_5 : decode cM_status 5 = .ok (.iload_n 1, 1) := by decide +kernel
theorem dM_status_6 : decode cM_status 6 = .ok (.bipush 15, 2) := by decide +kernel
theorem dM_status_8 : decode cM_status 8 = .ok (.if_icmp .le 7, 3) := by decide +kernel
theorem dM_status_11 : decode cM_status 11 = .ok (.iconst 1, 1) := by decide +kernel
theorem dM_status_12 : decode cM_status 12 = .ok (.goto 4, 3) := by decide +kernel
theorem dM_status_15 : decode cM_status 15 = .ok (.iconst 0, 1) := by decide +kernel
theorem dM_status_16 : decode cM_status 16 = .ok (.iconst 0, 1) := by decide +kernel
theorem dM_status_17 : decode cM_status 17 = .ok (.invokevirtual 83, 3) := by decide +kernel
theorem dM_status_20 : decode cM_status 20 = .ok (.ifCond .eq 5, 3) := by decide +kernel
theorem dM_status_23 : decode cM_status 23 = .ok (.iconst 0, 1) := by decide +kernel
theorem dM_status_24 : decode cM_status 24 = .ok (.ireturn, 1) := by decide +kernel
theorem dM_status_25 : decode cM_status 25 = .ok (.aload_n 0, 1) := by decide +kernel
theorem dM_status_26 : decode cM_status 26 = .ok (.getfield 54, 3) := by decide +kernel
theorem dM_status_29 : decode cM_status 29 = .ok (.iload_n 1, 1) := by decide +kernel
theorem dM_status_30 : decode cM_status 30 = .ok (.iaload, 1) := by decide +kernel
theorem dM_status_31 : decode cM_status 31 = .ok (.ireturn, 1) := by decide +kernel
theorem dM_selected_0 : decode cM_selected 0 = .ok (.aload_n 0, 1) := by decide +kernel
theorem dM_selected_1 : decode cM_selected 1 = .ok (.iload_n 1, 1) := by decide +kernel
theorem dM_selected_2 : decode cM_selected 2 = .ok (.ifCond .lt 11, 3) := by decide +kernel
theorem dM_selected_5 : decode cM_selected 5 = .ok (.iload_n 1, 1) := by decide +kernel
theorem dM_selected_6 : decode cM_selected 6 = .ok (.aload_n 0, 1) := by decide +kernel
theorem dM_selected_7 : decode cM_selected 7 = .ok (.getfield 90, 3) := by decide +kernel
theorem dM_selected_10 : decode cM_selected 10 = .ok (.if_icmp .lt 7, 3) := by decide +kernel
theorem dM_selected_13 : decode cM_selected 13 = .ok (.iconst 1, 1) := by decide +kernel
theorem dM_selected_14 : decode cM_selected 14 = .ok (.goto 4, 3) := by decide +kernel
theorem dM_selected_17 : decode cM_selected 17 = .ok (.iconst 0, 1) := by decide +kernel
theorem dM_selected_18 : decode cM_selected 18 = .ok (.iconst 0, 1) := by decide +kernel
theorem dM_selected_19 : decode cM_selected 19 = .ok (.invokevirtual 83, 3) := by decide +kernel
theorem dM_selected_22 : decode cM_selected 22 = .ok (.ifCond .ne 16, 3) := by decide +kernel
theorem dM_selected_25 : decode cM_selected 25 = .ok (.aload_n 0, 1) := by decide +kernel
theorem dM_selected_26 : decode cM_selected 26 = .ok (.getfield 47, 3) := by decide +kernel
theorem dM_selected_29 : decode cM_selected 29 = .ok (.iload_n 1, 1) := by decide +kernel
theorem dM_selected_30 : decode cM_selected 30 = .ok (.baload, 1) := by decide +kernel
theorem dM_selected_31 : decode cM_selected 31 = .ok (.ifCond .eq 7, 3) := by decide +kernel
theorem dM_selected_34 : decode cM_selected 34 = .ok (.iconst 1, 1) := by decide +kernel
theorem dM_selected_35 : decode cM_selected 35 = .ok (.goto 4, 3) := by decide +kernel
theorem dM_selected_38 : decode cM_selected 38 = .ok (.iconst 0, 1) := by decide +kernel
theorem dM_selected_39 : decode cM_selected 39 = .ok (.ireturn, 1) := by decide +kernel
theorem dM_reacts_0 : decode cM_reacts 0 = .ok (.aload_n 0, 1) := by decide +kernel
theorem dM_reacts_1 : decode cM_reacts 1 = .ok (.aload_n 0, 1) := by decide +kernel
theorem dM_reacts_2 : decode cM_reacts 2 = .ok (.getfield 114, 3) := by decide +kernel
theorem dM_reacts_5 : decode cM_reacts 5 = .ok (.iconst 1, 1) := by decide +kernel
theorem dM_reacts_6 : decode cM_reacts 6 = .ok (.if_icmp .eq 7, 3) := by decide +kernel
theorem dM_reacts_9 : decode cM_reacts 9 = .ok (.iconst 1, 1) := by decide +kernel
theorem dM_reacts_10 : decode cM_reacts 10 = .ok (.goto 4, 3) := by decide +kernel
theorem dM_reacts_13 : decode cM_reacts 13 = .ok (.iconst 0, 1) := by decide +kernel
theorem dM_reacts_14 : decode cM_reacts 14 = .ok (.iconst 0, 1) := by decide +kernel
theorem dM_reacts_15 : decode cM_reacts 15 = .ok (.invokevirtual 83, 3) := by decide +kernel
theorem dM_reacts_18 : decode cM_reacts 18 = .ok (.ifCond .eq 5, 3) := by decide +kernel
theorem dM_reacts_21 : decode cM_reacts 21 = .ok (.iconst 0, 1) := by decide +kernel
theorem dM_reacts_22 : decode cM_reacts 22 = .ok (.ireturn, 1) := by decide +kernel
theorem dM_reacts_23 : decode cM_reacts 23 = .ok (.iconst 0, 1) := by decide +kernel
theorem dM_reacts_24 : decode cM_reacts 24 = .ok (.istore_n 1, 1) := by decide +kernel
theorem dM_reacts_25 : decode cM_reacts 25 = .ok (.iconst 0, 1) := by decide +kernel
theorem dM_reacts_26 : decode cM_reacts 26 = .ok (.istore_n 2, 1) := by decide +kernel
theorem dM_reacts_27 : decode cM_reacts 27 = .ok (.iload_n 2, 1) := by decide +kernel
theorem dM_reacts_28 : decode cM_reacts 28 = .ok (.bipush 16, 2) := by decide +kernel
theorem dM_reacts_30 : decode cM_reacts 30 = .ok (.if_icmp .ge 26, 3) := by decide +kernel
theorem dM_reacts_33 : decode cM_reacts 33 = .ok (.iload_n 1, 1) := by decide +kernel
theorem dM_reacts_34 : decode cM_reacts 34 = .ok (.aload_n 0, 1) := by decide +kernel
theorem dM_reacts_35 : decode cM_reacts 35 = .ok (.iload_n 2, 1) := by decide +kernel
theorem dM_reacts_36 : decode cM_reacts 36 = .ok (.invokevirtual 180, 3) := by decide +kernel
theorem dM_reacts_39 : decode cM_reacts 39 = .ok (.iconst (-1), 1) := by decide +kernel
theorem dM_reacts_40 : decode cM_reacts 40 = .ok (.if_icmp .ne 7, 3) := by decide +kernel
theorem dM_reacts_43 : decode cM_reacts 43 = .ok (.iconst 0, 1) := by decide +kernel
theorem dM_reacts_44 : decode cM_reacts 44 = .ok (.goto 4, 3) := by decide +kernel
theorem dM_reacts_47 : decode cM_reacts 47 = .ok (.iconst 1, 1) := by decide +kernel
theorem dM_reacts_48 : decode cM_reacts 48 = .ok (.iadd, 1) := by decide +kernel
theorem dM_reacts_49 : decode cM_reacts 49 = .ok (.istore_n 1, 1) := by decide +kernel
theorem dM_reacts_50 : decode cM_reacts 50 = .ok (.iinc 2 1, 3) := by decide +kernel
theorem dM_reacts_53 : decode cM_reacts 53 = .ok (.goto (-26), 3) := by decide +kernel
theorem dM_reacts_56 : decode cM_reacts 56 = .ok (.iload_n 1, 1) := by decide +kernel
theorem dM_reacts_57 : decode cM_reacts 57 = .ok (.ireturn, 1) := by decide +kernel
theorem dM_emits_0 : decode cM_emits 0 = .ok (.aload_n 0, 1) := by decide +kernel
theorem dM_emits_1 : decode cM_emits 1 = .ok (.getfield 114, 3) := by decide +kernel
theorem dM_emits_4 : decode cM_emits 4 = .ok (.iconst 1, 1) := by decide +kernel
theorem dM_emits_5 : decode cM_emits 5 = .ok (.if_icmp .ne 7, 3) := by decide +kernel
theorem dM_emits_8 : decode cM_emits 8 = .ok (.iconst 1, 1) := by decide +kernel
theorem dM_emits_9 : decode cM_emits 9 = .ok (.goto 4, 3) := by decide +kernel
theorem dM_emits_12 : decode cM_emits 12 = .ok (.iconst 0, 1) := by decide +kernel
theorem dM_emits_13 : decode cM_emits 13 = .ok (.istore_n 2, 1) := by decide +kernel
theorem dM_emits_14 : decode cM_emits 14 = .ok (.aload_n 0, 1) := by decide +kernel
theorem dM_emits_15 : decode cM_emits 15 = .ok (.iload_n 2, 1) := by decide +kernel
theorem dM_emits_16 : decode cM_emits 16 = .ok (.ifCond .ne 7, 3) := by decide +kernel
theorem dM_emits_19 : decode cM_emits 19 = .ok (.iconst 1, 1) := by decide +kernel
theorem dM_emits_20 : decode cM_emits 20 = .ok (.goto 4, 3) := by decide +kernel
theorem dM_emits_23 : decode cM_emits 23 = .ok (.iconst 0, 1) := by decide +kernel
theorem dM_emits_24 : decode cM_emits 24 = .ok (.iload_n 2, 1) := by decide +kernel
theorem dM_emits_25 : decode cM_emits 25 = .ok (.ifCond .eq 18, 3) := by decide +kernel
theorem dM_emits_28 : decode cM_emits 28 = .ok (.iload_n 1, 1) := by decide +kernel
theorem dM_emits_29 : decode cM_emits 29 = .ok (.iconst 4, 1) := by decide +kernel
theorem dM_emits_30 : decode cM_emits 30 = .ok (.if_icmp .lt 9, 3) := by decide +kernel
theorem dM_emits_33 : decode cM_emits 33 = .ok (.iload_n 1, 1) := by decide +kernel
theorem dM_emits_34 : decode cM_emits 34 = .ok (.bipush 15, 2) := by decide +kernel
theorem dM_emits_36 : decode cM_emits 36 = .ok (.if_icmp .le 7, 3) := by decide +kernel
theorem dM_emits_39 : decode cM_emits 39 = .ok (.iconst 1, 1) := by decide +kernel
theorem dM_emits_40 : decode cM_emits 40 = .ok (.goto 4, 3) := by decide +kernel
theorem dM_emits_43 : decode cM_emits 43 = .ok (.iconst 0, 1) := by decide +kernel
theorem dM_emits_44 : decode cM_emits 44 = .ok (.invokevirtual 83, 3) := by decide +kernel
theorem dM_emits_47 : decode cM_emits 47 = .ok (.ifCond .eq 5, 3) := by decide +kernel
theorem dM_emits_50 : decode cM_emits 50 = .ok (.iconst 0, 1) := by decide +kernel
theorem dM_emits_51 : decode cM_emits 51 = .ok (.ireturn, 1) := by decide +kernel
theorem dM_emits_52 : decode cM_emits 52 = .ok (.iconst 0, 1) := by decide +kernel
theorem dM_emits_53 : decode cM_emits 53 = .ok (.istore_n 3, 1) := by decide +kernel
theorem dM_emits_54 : decode cM_emits 54 = .ok (.iconst 0, 1) := by decide +kernel
theorem dM_emits_55 : decode cM_emits 55 = .ok (.istore 4, 2) := by decide +kernel
theorem dM_emits_57 : decode cM_emits 57 = .ok (.iload 4, 2) := by decide +kernel
theorem dM_emits_59 : decode cM_emits 59 = .ok (.bipush 16, 2) := by decide +kernel
theorem dM_emits_61 : decode cM_emits 61 = .ok (.if_icmp .ge 40, 3) := by decide +kernel
theorem dM_emits_64 : decode cM_emits 64 = .ok (.iload_n 3, 1) := by decide +kernel
theorem dM_emits_65 : decode cM_emits 65 = .ok (.aload_n 0, 1) := by decide +kernel
theorem dM_emits_66 : decode cM_emits 66 = .ok (.iload 4, 2) := by decide +kernel
theorem dM_emits_68 : decode cM_emits 68 = .ok (.invokevirtual 180, 3) := by decide +kernel
theorem dM_emits_71 : decode cM_emits 71 = .ok (.iconst (-1), 1) := by decide +kernel
theorem dM_emits_72 : decode cM_emits 72 = .ok (.if_icmp .eq 20, 3) := by decide +kernel
theorem dM_emits_75 : decode cM_emits 75 = .ok (.aload_n 0, 1) := by decide +kernel
theorem dM_emits_76 : decode cM_emits 76 = .ok (.getfield 57, 3) := by decide +kernel
theorem dM_emits_79 : decode cM_emits 79 = .ok (.iload_n 1, 1) := by decide +kernel
theorem dM_emits_80 : decode cM_emits 80 = .ok (.iaload, 1) := by decide +kernel
theorem dM_emits_81 : decode cM_emits 81 = .ok (.iconst 1, 1) := by decide +kernel
theorem dM_emits_82 : decode cM_emits 82 = .ok (.if_icmp .ne 10, 3) := by decide +kernel
theorem dM_emits_85 : decode cM_emits 85 = .ok (.iconst 1, 1) := by decide +kernel
theorem dM_emits_86 : decode cM_emits 86 = .ok (.iload 4, 2) := by decide +kernel
theorem dM_emits_88 : decode cM_emits 88 = .ok (.ishl, 1) := by decide +kernel
theorem dM_emits_89 : decode cM_emits 89 = .ok (.goto 4, 3) := by decide +kernel
theorem dM_emits_92 : decode cM_emits 92 = .ok (.iconst 0, 1) := by decide +kernel
theorem dM_emits_93 : decode cM_emits 93 = .ok (.ior, 1) := by decide +kernel
theorem dM_emits_94 : decode cM_emits 94 = .ok (.istore_n 3, 1) := by decide +kernel
theorem dM_emits_95 : decode cM_emits 95 = .ok (.iinc 4 1, 3) := by decide +kernel
theorem dM_emits_98 : decode cM_emits 98 = .ok (.goto (-41), 3) := by decide +kernel
theorem dM_emits_101 : decode cM_emits 101 = .ok (.iload_n 3, 1) := by decide +kernel
theorem dM_emits_102 : decode cM_emits 102 = .ok (.ireturn, 1) := by decide +kernel
theorem dM_count_0 : decode cM_count 0 = .ok (.aload_n 0, 1) := by decide +kernel
theorem dM_count_1 : decode cM_count 1 = .ok (.iconst 0, 1) := by decide +kernel
theorem dM_count_2 : decode cM_count 2 = .ok (.putfield 69, 3) := by decide +kernel
theorem dM_count_5 : decode cM_count 5 = .ok (.iconst 0, 1) := by decide +kernel
theorem dM_count_6 : decode cM_count 6 = .ok (.istore_n 2, 1) := by decide +kernel
theorem dM_count_7 : decode cM_count 7 = .ok (.iload_n 1, 1) := by decide +kernel
theorem dM_count_8 : decode cM_count 8 = .ok (.tableswitch 148 0 7 #[48, 53, 58, 63, 100, 105, 110, 143], 48) := by decide +kernel
theorem dM_count_56 : decode cM_count 56 = .ok (.aload_n 0, 1) := by decide +kernel
theorem dM_count_57 : decode cM_count 57 = .ok (.getfield 87, 3) := by decide +kernel
theorem dM_count_60 : decode cM_count 60 = .ok (.ireturn, 1) := by decide +kernel
theorem dM_count_61 : decode cM_count 61 = .ok (.aload_n 0, 1) := by decide +kernel
theorem dM_count_62 : decode cM_count 62 = .ok (.getfield 7, 3) := by decide +kernel
theorem dM_count_65 : decode cM_count 65 = .ok (.ireturn, 1) := by decide +kernel
theorem dM_count_66 : decode cM_count 66 = .ok (.aload_n 0, 1) := by decide +kernel
theorem dM_count_67 : decode cM_count 67 = .ok (.getfield 90, 3) := by decide +kernel
theorem dM_count_70 : decode cM_count 70 = .ok (.ireturn, 1) := by decide +kernel
theorem dM_count_71 : decode cM_count 71 = .ok (.iconst 0, 1) := by decide +kernel
theorem dM_count_72 : decode cM_count 72 = .ok (.istore_n 3, 1) := by decide +kernel
theorem dM_count_73 : decode cM_count 73 = .ok (.iload_n 3, 1) := by decide +kernel
theorem dM_count_74 : decode cM_count 74 = .ok (.aload_n 0, 1) := by decide +kernel
theorem dM_count_75 : decode cM_count 75 = .ok (.getfield 87, 3) := by decide +kernel
theorem dM_count_78 : decode cM_count 78 = .ok (.if_icmp .ge 28, 3) := by decide +kernel
theorem dM_count_81 : decode cM_count 81 = .ok (.iload_n 2, 1) := by decide +kernel
theorem dM_count_82 : decode cM_count 82 = .ok (.aload_n 0, 1) := by decide +kernel
theorem dM_count_83 : decode cM_count 83 = .ok (.getfield 13, 3) := by decide +kernel
theorem dM_count_86 : decode cM_count 86 = .ok (.iload_n 3, 1) := by decide +kernel
theorem dM_count_87 : decode cM_count 87 = .ok (.iaload, 1) := by decide +kernel
theorem dM_count_88 : decode cM_count 88 = .ok (.bipush 8, 2) := by decide +kernel
theorem dM_count_90 : decode cM_count 90 = .ok (.if_icmp .ne 7, 3) := by decide +kernel
theorem dM_count_93 : decode cM_count 93 = .ok (.iconst 1, 1) := by decide +kernel
theorem dM_count_94 : decode cM_count 94 = .ok (.goto 4, 3) := by decide +kernel
theorem dM_count_97 : decode cM_count 97 = .ok (.iconst 0, 1) := by decide +kernel
theorem dM_count_98 : decode cM_count 98 = .ok (.iadd, 1) := by decide +kernel
theorem dM_count_99 : decode cM_count 99 = .ok (.istore_n 2, 1) := by decide +kernel
theorem dM_count_100 : decode cM_count 100 = .ok (.iinc 3 1, 3) := by decide +kernel
theorem dM_count_103 : decode cM_count 103 = .ok (.goto (-30), 3) := by decide +kernel
theorem dM_count_106 : decode cM_count 106 = .ok (.iload_n 2, 1) := by decide +kernel
theorem dM_count_107 : decode cM_count 107 = .ok (.ireturn, 1) := by decide +kernel
theorem dM_count_108 : decode cM_count 108 = .ok (.aload_n 0, 1) := by decide +kernel
theorem dM_count_109 : decode cM_count 109 = .ok (.getfield 93, 3) := by decide +kernel
theorem dM_count_112 : decode cM_count 112 = .ok (.ireturn, 1) := by decide +kernel
theorem dM_count_113 : decode cM_count 113 = .ok (.aload_n 0, 1) := by decide +kernel
theorem dM_count_114 : decode cM_count 114 = .ok (.getfield 121, 3) := by decide +kernel
theorem dM_count_117 : decode cM_count 117 = .ok (.ireturn, 1) := by decide +kernel
theorem dM_count_118 : decode cM_count 118 = .ok (.iconst 0, 1) := by decide +kernel
theorem dM_count_119 : decode cM_count 119 = .ok (.istore_n 3, 1) := by decide +kernel
theorem dM_count_120 : decode cM_count 120 = .ok (.iload_n 3, 1) := by decide +kernel
theorem dM_count_121 : decode cM_count 121 = .ok (.bipush 32, 2) := by decide +kernel
theorem dM_count_123 : decode cM_count 123 = .ok (.if_icmp .ge 26, 3) := by decide +kernel
theorem dM_count_126 : decode cM_count 126 = .ok (.iload_n 2, 1) := by decide +kernel
theorem dM_count_127 : decode cM_count 127 = .ok (.aload_n 0, 1) := by decide +kernel
theorem dM_count_128 : decode cM_count 128 = .ok (.getfield 47, 3) := by decide +kernel
theorem dM_count_131 : decode cM_count 131 = .ok (.iload_n 3, 1) := by decide +kernel
theorem dM_count_132 : decode cM_count 132 = .ok (.baload, 1) := by decide +kernel
theorem dM_count_133 : decode cM_count 133 = .ok (.ifCond .eq 7, 3) := by decide +kernel
theorem dM_count_136 : decode cM_count 136 = .ok (.iconst 1, 1) := by decide +kernel
theorem dM_count_137 : decode cM_count 137 = .ok (.goto 4, 3) := by decide +kernel
theorem dM_count_140 : decode cM_count 140 = .ok (.iconst 0, 1) := by decide +kernel
theorem dM_count_141 : decode cM_count 141 = .ok (.iadd, 1) := by decide +kernel
theorem dM_count_142 : decode cM_count 142 = .ok (.istore_n 2, 1) := by decide +kernel
theorem dM_count_143 : decode cM_count 143 = .ok (.iinc 3 1, 3) := by decide +kernel
theorem dM_count_146 : decode cM_count 146 = .ok (.goto (-26), 3) := by decide +kernel
theorem dM_count_149 : decode cM_count 149 = .ok (.iload_n 2, 1) := by decide +kernel
theorem dM_count_150 : decode cM_count 150 = .ok (.ireturn, 1) := by decide +kernel
theorem dM_count_151 : decode cM_count 151 = .ok (.aload_n 0, 1) := by decide +kernel
theorem dM_count_152 : decode cM_count 152 = .ok (.getfield 114, 3) := by decide +kernel
theorem dM_count_155 : decode cM_count 155 = .ok (.ireturn, 1) := by decide +kernel
theorem dM_count_156 : decode cM_count 156 = .ok (.iconst (-1), 1) := by decide +kernel
theorem dM_count_157 : decode cM_count 157 = .ok (.ireturn, 1) := by decide +kernel
theorem dL_law_0 : decode cL_law 0 = .ok (.new 8, 3) := by decide +kernel
theorem dL_law_3 : decode cL_law 3 = .ok (.dup, 1) := by decide +kernel
theorem dL_law_4 : decode cL_law 4 = .ok (.invokespecial 40, 3) := by decide +kernel
theorem dL_law_7 : decode cL_law 7 = .ok (.astore_n 1, 1) := by decide +kernel
theorem dL_law_8 : decode cL_law 8 = .ok (.new 41, 3) := by decide +kernel
theorem dL_law_11 : decode cL_law 11 = .ok (.dup, 1) := by decide +kernel
theorem dL_law_12 : decode cL_law 12 = .ok (.invokespecial 43, 3) := by decide +kernel
theorem dL_law_15 : decode cL_law 15 = .ok (.astore_n 2, 1) := by decide +kernel
theorem dL_law_16 : decode cL_law 16 = .ok (.iconst 1, 1) := by decide +kernel
theorem dL_law_17 : decode cL_law 17 = .ok (.newarray .long, 2) := by decide +kernel
theorem dL_law_19 : decode cL_law 19 = .ok (.astore_n 3, 1) := by decide +kernel
theorem dL_law_20 : decode cL_law 20 = .ok (.iconst 0, 1) := by decide +kernel
theorem dL_law_21 : decode cL_law 21 = .ok (.istore 4, 2) := by decide +kernel
theorem dL_law_23 : decode cL_law 23 = .ok (.iload 4, 2) := by decide +kernel
theorem dL_law_25 : decode cL_law 25 = .ok (.aload_n 0, 1) := by decide +kernel
theorem dL_law_26 : decode cL_law 26 = .ok (.arraylength, 1) := by decide +kernel
theorem dL_law_27 : decode cL_law 27 = .ok (.iconst 3, 1) := by decide +kernel
theorem dL_law_28 : decode cL_law 28 = .ok (.isub, 1) := by decide +kernel
theorem dL_law_29 : decode cL_law 29 = .ok (.if_icmp .gt 490, 3) := by decide +kernel
theorem dL_law_32 : decode cL_law 32 = .ok (.aload_n 0, 1) := by decide +kernel
theorem dL_law_33 : decode cL_law 33 = .ok (.iload 4, 2) := by decide +kernel
theorem dL_law_35 : decode cL_law 35 = .ok (.iaload, 1) := by decide +kernel
theorem dL_law_36 : decode cL_law 36 = .ok (.bipush 15, 2) := by decide +kernel
theorem dL_law_38 : decode cL_law 38 = .ok (.iand, 1) := by decide +kernel
theorem dL_law_39 : decode cL_law 39 = .ok (.tableswitch 474 0 8 #[49, 117, 161, 174, 230, 286, 349, 393, 449], 49) := by decide +kernel
theorem dL_law_88 : decode cL_law 88 = .ok (.aload_n 1, 1) := by decide +kernel
theorem dL_law_89 : decode cL_law 89 = .ok (.aload_n 0, 1) := by decide +kernel
theorem dL_law_90 : decode cL_law 90 = .ok (.iload 4, 2) := by decide +kernel
theorem dL_law_92 : decode cL_law 92 = .ok (.iconst 1, 1) := by decide +kernel
theorem dL_law_93 : decode cL_law 93 = .ok (.iadd, 1) := by decide +kernel
theorem dL_law_94 : decode cL_law 94 = .ok (.iaload, 1) := by decide +kernel
theorem dL_law_95 : decode cL_law 95 = .ok (.aload_n 0, 1) := by decide +kernel
theorem dL_law_96 : decode cL_law 96 = .ok (.iload 4, 2) := by decide +kernel
theorem dL_law_98 : decode cL_law 98 = .ok (.iconst 2, 1) := by decide +kernel
theorem dL_law_99 : decode cL_law 99 = .ok (.iadd, 1) := by decide +kernel
theorem dL_law_100 : decode cL_law 100 = .ok (.iaload, 1) := by decide +kernel
theorem dL_law_101 : decode cL_law 101 = .ok (.aload_n 3, 1) := by decide +kernel
theorem dL_law_102 : decode cL_law 102 = .ok (.invokestatic 44, 3) := by decide +kernel
theorem dL_law_105 : decode cL_law 105 = .ok (.istore 5, 2) := by decide +kernel
theorem dL_law_107 : decode cL_law 107 = .ok (.aload_n 2, 1) := by decide +kernel
theorem dL_law_108 : decode cL_law 108 = .ok (.aload_n 0, 1) := by decide +kernel
theorem dL_law_109 : decode cL_law 109 = .ok (.iload 4, 2) := by decide +kernel
theorem dL_law_111 : decode cL_law 111 = .ok (.iconst 1, 1) := by decide +kernel
theorem dL_law_112 : decode cL_law 112 = .ok (.iadd, 1) := by decide +kernel
theorem dL_law_113 : decode cL_law 113 = .ok (.iaload, 1) := by decide +kernel
theorem dL_law_114 : decode cL_law 114 = .ok (.aload_n 0, 1) := by decide +kernel
theorem dL_law_115 : decode cL_law 115 = .ok (.iload 4, 2) := by decide +kernel
theorem dL_law_117 : decode cL_law 117 = .ok (.iconst 2, 1) := by decide +kernel
theorem dL_law_118 : decode cL_law 118 = .ok (.iadd, 1) := by decide +kernel
theorem dL_law_119 : decode cL_law 119 = .ok (.iaload, 1) := by decide +kernel
theorem dL_law_120 : decode cL_law 120 = .ok (.invokevirtual 49, 3) := by decide +kernel
theorem dL_law_123 : decode cL_law 123 = .ok (.istore 6, 2) := by decide +kernel
theorem dL_law_125 : decode cL_law 125 = .ok (.aload_n 2, 1) := by decide +kernel
theorem dL_law_126 : decode cL_law 126 = .ok (.invokevirtual 50, 3) := by decide +kernel
theorem dL_law_129 : decode cL_law 129 = .ok (.iload 5, 2) := by decide +kernel
theorem dL_law_131 : decode cL_law 131 = .ok (.if_icmp .eq 5, 3) := by decide +kernel
theorem dL_law_134 : decode cL_law 134 = .ok (.iconst 0, 1) := by decide +kernel
theorem dL_law_135 : decode cL_law 135 = .ok (.ireturn, 1) := by decide +kernel
theorem dL_law_136 : decode cL_law 136 = .ok (.iload 5, 2) := by decide +kernel
theorem dL_law_138 : decode cL_law 138 = .ok (.ifCond .ne 15, 3) := by decide +kernel
theorem dL_law_141 : decode cL_law 141 = .ok (.aload_n 3, 1) := by decide +kernel
theorem dL_law_142 : decode cL_law 142 = .ok (.iconst 0, 1) := by decide +kernel
theorem dL_law_143 : decode cL_law 143 = .ok (.laload, 1) := by decide +kernel
theorem dL_law_144 : decode cL_law 144 = .ok (.iload 6, 2) := by decide +kernel
theorem dL_law_146 : decode cL_law 146 = .ok (.i2l, 1) := by decide +kernel
theorem dL_law_147 : decode cL_law 147 = .ok (.lcmp, 1) := by decide +kernel
theorem dL_law_148 : decode cL_law 148 = .ok (.ifCond .eq 5, 3) := by decide +kernel
theorem dL_law_151 : decode cL_law 151 = .ok (.iconst 0, 1) := by decide +kernel
theorem dL_law_152 : decode cL_law 152 = .ok (.ireturn, 1) := by decide +kernel
theorem dL_law_153 : decode cL_law 153 = .ok (.goto 360, 3) := by decide +kernel
theorem dL_law_156 : decode cL_law 156 = .ok (.aload_n 1, 1) := by decide +kernel
theorem dL_law_157 : decode cL_law 157 = .ok (.aload_n 3, 1) := by decide +kernel
theorem dL_law_158 : decode cL_law 158 = .ok (.invokestatic 53, 3) := by decide +kernel
theorem dL_law_161 : decode cL_law 161 = .ok (.istore 5, 2) := by decide +kernel
theorem dL_law_163 : decode cL_law 163 = .ok (.aload_n 2, 1) := by decide +kernel
theorem dL_law_164 : decode cL_law 164 = .ok (.invokevirtual 56, 3) := by decide +kernel
theorem dL_law_167 : decode cL_law 167 = .ok (.istore 6, 2) := by decide +kernel
theorem dL_law_169 : decode cL_law 169 = .ok (.aload_n 2, 1) := by decide +kernel
theorem dL_law_170 : decode cL_law 170 = .ok (.invokevirtual 50, 3) := by decide +kernel
theorem dL_law_173 : decode cL_law 173 = .ok (.iload 5, 2) := by decide +kernel
theorem dL_law_175 : decode cL_law 175 = .ok (.if_icmp .eq 5, 3) := by decide +kernel
theorem dL_law_178 : decode cL_law 178 = .ok (.iconst 0, 1) := by decide +kernel
theorem dL_law_179 : decode cL_law 179 = .ok (.ireturn, 1) := by decide +kernel
theorem dL_law_180 : decode cL_law 180 = .ok (.iload 5, 2) := by decide +kernel
theorem dL_law_182 : decode cL_law 182 = .ok (.ifCond .ne 15, 3) := by decide +kernel
theorem dL_law_185 : decode cL_law 185 = .ok (.aload_n 3, 1) := by decide +kernel
theorem dL_law_186 : decode cL_law 186 = .ok (.iconst 0, 1) := by decide +kernel
theorem dL_law_187 : decode cL_law 187 = .ok (.laload, 1) := by decide +kernel
theorem dL_law_188 : decode cL_law 188 = .ok (.iload 6, 2) := by decide +kernel
theorem dL_law_190 : decode cL_law 190 = .ok (.i2l, 1) := by decide +kernel
theorem dL_law_191 : decode cL_law 191 = .ok (.lcmp, 1) := by decide +kernel
theorem dL_law_192 : decode cL_law 192 = .ok (.ifCond .eq 5, 3) := by decide +kernel
theorem dL_law_195 : decode cL_law 195 = .ok (.iconst 0, 1) := by decide +kernel
theorem dL_law_196 : decode cL_law 196 = .ok (.ireturn, 1) := by decide +kernel
theorem dL_law_197 : decode cL_law 197 = .ok (.goto 316, 3) := by decide +kernel
theorem dL_law_200 : decode cL_law 200 = .ok (.aload_n 1, 1) := by decide +kernel
theorem dL_law_201 : decode cL_law 201 = .ok (.invokevirtual 57, 3) := by decide +kernel
theorem dL_law_204 : decode cL_law 204 = .ok (.aload_n 2, 1) := by decide +kernel
theorem dL_law_205 : decode cL_law 205 = .ok (.invokevirtual 60, 3) := by decide +kernel
theorem dL_law_208 : decode cL_law 208 = .ok (.if_icmp .eq 305, 3) := by decide +kernel
theorem dL_law_211 : decode cL_law 211 = .ok (.iconst 0, 1) := by decide +kernel
theorem dL_law_212 : decode cL_law 212 = .ok (.ireturn, 1) := by decide +kernel
theorem dL_law_213 : decode cL_law 213 = .ok (.aload_n 1, 1) := by decide +kernel
theorem dL_law_214 : decode cL_law 214 = .ok (.aload_n 0, 1) := by decide +kernel
theorem dL_law_215 : decode cL_law 215 = .ok (.iload 4, 2) := by decide +kernel
theorem dL_law_217 : decode cL_law 217 = .ok (.iconst 1, 1) := by decide +kernel
theorem dL_law_218 : decode cL_law 218 = .ok (.iadd, 1) := by decide +kernel
theorem dL_law_219 : decode cL_law 219 = .ok (.iaload, 1) := by decide +kernel
theorem dL_law_220 : decode cL_law 220 = .ok (.aload_n 3, 1) := by decide +kernel
theorem dL_law_221 : decode cL_law 221 = .ok (.invokestatic 61, 3) := by decide +kernel
theorem dL_law_224 : decode cL_law 224 = .ok (.istore 5, 2) := by decide +kernel
theorem dL_law_226 : decode cL_law 226 = .ok (.aload_n 2, 1) := by decide +kernel
theorem dL_law_227 : decode cL_law 227 = .ok (.aload_n 0, 1) := by decide +kernel
theorem dL_law_228 : decode cL_law 228 = .ok (.iload 4, 2) := by decide +kernel
theorem dL_law_230 : decode cL_law 230 = .ok (.iconst 1, 1) := by decide +kernel
theorem dL_law_231 : decode cL_law 231 = .ok (.iadd, 1) := by decide +kernel
theorem dL_law_232 : decode cL_law 232 = .ok (.iaload, 1) := by decide +kernel
theorem dL_law_233 : decode cL_law 233 = .ok (.invokevirtual 64, 3) := by decide +kernel
theorem dL_law_236 : decode cL_law 236 = .ok (.istore 6, 2) := by decide +kernel
theorem dL_law_238 : decode cL_law 238 = .ok (.aload_n 2, 1) := by decide +kernel
theorem dL_law_239 : decode cL_law 239 = .ok (.invokevirtual 50, 3) := by decide +kernel
theorem dL_law_242 : decode cL_law 242 = .ok (.iload 5, 2) := by decide +kernel
theorem dL_law_244 : decode cL_law 244 = .ok (.if_icmp .eq 5, 3) := by decide +kernel
theorem dL_law_247 : decode cL_law 247 = .ok (.iconst 0, 1) := by decide +kernel
theorem dL_law_248 : decode cL_law 248 = .ok (.ireturn, 1) := by decide +kernel
theorem dL_law_249 : decode cL_law 249 = .ok (.iload 5, 2) := by decide +kernel
theorem dL_law_251 : decode cL_law 251 = .ok (.ifCond .ne 15, 3) := by decide +kernel
theorem dL_law_254 : decode cL_law 254 = .ok (.aload_n 3, 1) := by decide +kernel
theorem dL_law_255 : decode cL_law 255 = .ok (.iconst 0, 1) := by decide +kernel
theorem dL_law_256 : decode cL_law 256 = .ok (.laload, 1) := by decide +kernel
theorem dL_law_257 : decode cL_law 257 = .ok (.iload 6, 2) := by decide +kernel
theorem dL_law_259 : decode cL_law 259 = .ok (.i2l, 1) := by decide +kernel
theorem dL_law_260 : decode cL_law 260 = .ok (.lcmp, 1) := by decide +kernel
theorem dL_law_261 : decode cL_law 261 = .ok (.ifCond .eq 5, 3) := by decide +kernel
theorem dL_law_264 : decode cL_law 264 = .ok (.iconst 0, 1) := by decide +kernel
theorem dL_law_265 : decode cL_law 265 = .ok (.ireturn, 1) := by decide +kernel
theorem dL_law_266 : decode cL_law 266 = .ok (.goto 247, 3) := by decide +kernel
theorem dL_law_269 : decode cL_law 269 = .ok (.aload_n 1, 1) := by decide +kernel
theorem dL_law_270 : decode cL_law 270 = .ok (.aload_n 0, 1) := by decide +kernel
theorem dL_law_271 : decode cL_law 271 = .ok (.iload 4, 2) := by decide +kernel
theorem dL_law_273 : decode cL_law 273 = .ok (.iconst 1, 1) := by decide +kernel
theorem dL_law_274 : decode cL_law 274 = .ok (.iadd, 1) := by decide +kernel
theorem dL_law_275 : decode cL_law 275 = .ok (.iaload, 1) := by decide +kernel
theorem dL_law_276 : decode cL_law 276 = .ok (.aload_n 3, 1) := by decide +kernel
theorem dL_law_277 : decode cL_law 277 = .ok (.invokestatic 65, 3) := by decide +kernel
theorem dL_law_280 : decode cL_law 280 = .ok (.istore 5, 2) := by decide +kernel
theorem dL_law_282 : decode cL_law 282 = .ok (.aload_n 2, 1) := by decide +kernel
theorem dL_law_283 : decode cL_law 283 = .ok (.aload_n 0, 1) := by decide +kernel
theorem dL_law_284 : decode cL_law 284 = .ok (.iload 4, 2) := by decide +kernel
theorem dL_law_286 : decode cL_law 286 = .ok (.iconst 1, 1) := by decide +kernel
theorem dL_law_287 : decode cL_law 287 = .ok (.iadd, 1) := by decide +kernel
theorem dL_law_288 : decode cL_law 288 = .ok (.iaload, 1) := by decide +kernel
theorem dL_law_289 : decode cL_law 289 = .ok (.invokevirtual 67, 3) := by decide +kernel
theorem dL_law_292 : decode cL_law 292 = .ok (.istore 6, 2) := by decide +kernel
theorem dL_law_294 : decode cL_law 294 = .ok (.aload_n 2, 1) := by decide +kernel
theorem dL_law_295 : decode cL_law 295 = .ok (.invokevirtual 50, 3) := by decide +kernel
theorem dL_law_298 : decode cL_law 298 = .ok (.iload 5, 2) := by decide +kernel
theorem dL_law_300 : decode cL_law 300 = .ok (.if_icmp .eq 5, 3) := by decide +kernel
theorem dL_law_303 : decode cL_law 303 = .ok (.iconst 0, 1) := by decide +kernel
theorem dL_law_304 : decode cL_law 304 = .ok (.ireturn, 1) := by decide +kernel
theorem dL_law_305 : decode cL_law 305 = .ok (.iload 5, 2) := by decide +kernel
theorem dL_law_307 : decode cL_law 307 = .ok (.ifCond .ne 15, 3) := by decide +kernel
theorem dL_law_310 : decode cL_law 310 = .ok (.aload_n 3, 1) := by decide +kernel
theorem dL_law_311 : decode cL_law 311 = .ok (.iconst 0, 1) := by decide +kernel
theorem dL_law_312 : decode cL_law 312 = .ok (.laload, 1) := by decide +kernel
theorem dL_law_313 : decode cL_law 313 = .ok (.iload 6, 2) := by decide +kernel
theorem dL_law_315 : decode cL_law 315 = .ok (.i2l, 1) := by decide +kernel
theorem dL_law_316 : decode cL_law 316 = .ok (.lcmp, 1) := by decide +kernel
theorem dL_law_317 : decode cL_law 317 = .ok (.ifCond .eq 5, 3) := by decide +kernel
theorem dL_law_320 : decode cL_law 320 = .ok (.iconst 0, 1) := by decide +kernel
theorem dL_law_321 : decode cL_law 321 = .ok (.ireturn, 1) := by decide +kernel
theorem dL_law_322 : decode cL_law 322 = .ok (.goto 191, 3) := by decide +kernel
theorem dL_law_325 : decode cL_law 325 = .ok (.aload_n 1, 1) := by decide +kernel
theorem dL_law_326 : decode cL_law 326 = .ok (.aload_n 0, 1) := by decide +kernel
theorem dL_law_327 : decode cL_law 327 = .ok (.iload 4, 2) := by decide +kernel
theorem dL_law_329 : decode cL_law 329 = .ok (.iconst 1, 1) := by decide +kernel
theorem dL_law_330 : decode cL_law 330 = .ok (.iadd, 1) := by decide +kernel
theorem dL_law_331 : decode cL_law 331 = .ok (.iaload, 1) := by decide +kernel
theorem dL_law_332 : decode cL_law 332 = .ok (.aload_n 3, 1) := by decide +kernel
theorem dL_law_333 : decode cL_law 333 = .ok (.invokestatic 68, 3) := by decide +kernel
theorem dL_law_336 : decode cL_law 336 = .ok (.istore 5, 2) := by decide +kernel
theorem dL_law_338 : decode cL_law 338 = .ok (.aload_n 2, 1) := by decide +kernel
theorem dL_law_339 : decode cL_law 339 = .ok (.aload_n 0, 1) := by decide +kernel
theorem dL_law_340 : decode cL_law 340 = .ok (.iload 4, 2) := by decide +kernel
theorem dL_law_342 : decode cL_law 342 = .ok (.iconst 1, 1) := by decide +kernel
theorem dL_law_343 : decode cL_law 343 = .ok (.iadd, 1) := by decide +kernel
theorem dL_law_344 : decode cL_law 344 = .ok (.iaload, 1) := by decide +kernel
theorem dL_law_345 : decode cL_law 345 = .ok (.invokevirtual 70, 3) := by decide +kernel
theorem dL_law_348 : decode cL_law 348 = .ok (.istore 6, 2) := by decide +kernel
theorem dL_law_350 : decode cL_law 350 = .ok (.aload_n 2, 1) := by decide +kernel
theorem dL_law_351 : decode cL_law 351 = .ok (.invokevirtual 50, 3) := by decide +kernel
theorem dL_law_354 : decode cL_law 354 = .ok (.iload 5, 2) := by decide +kernel
theorem dL_law_356 : decode cL_law 356 = .ok (.if_icmp .eq 5, 3) := by decide +kernel
theorem dL_law_359 : decode cL_law 359 = .ok (.iconst 0, 1) := by decide +kernel
theorem dL_law_360 : decode cL_law 360 = .ok (.ireturn, 1) := by decide +kernel
theorem dL_law_361 : decode cL_law 361 = .ok (.iload 5, 2) := by decide +kernel
theorem dL_law_363 : decode cL_law 363 = .ok (.ifCond .ne 22, 3) := by decide +kernel
theorem dL_law_366 : decode cL_law 366 = .ok (.aload_n 3, 1) := by decide +kernel
theorem dL_law_367 : decode cL_law 367 = .ok (.iconst 0, 1) := by decide +kernel
theorem dL_law_368 : decode cL_law 368 = .ok (.laload, 1) := by decide +kernel
theorem dL_law_369 : decode cL_law 369 = .ok (.iload 6, 2) := by decide +kernel
theorem dL_law_371 : decode cL_law 371 = .ok (.ifCond .eq 7, 3) := by decide +kernel
theorem dL_law_374 : decode cL_law 374 = .ok (.lconst 1, 1) := by decide +kernel
theorem dL_law_375 : decode cL_law 375 = .ok (.goto 4, 3) := by decide +kernel
theorem dL_law_378 : decode cL_law 378 = .ok (.lconst 0, 1) := by decide +kernel
theorem dL_law_379 : decode cL_law 379 = .ok (.lcmp, 1) := by decide +kernel
theorem dL_law_380 : decode cL_law 380 = .ok (.ifCond .eq 5, 3) := by decide +kernel
theorem dL_law_383 : decode cL_law 383 = .ok (.iconst 0, 1) := by decide +kernel
theorem dL_law_384 : decode cL_law 384 = .ok (.ireturn, 1) := by decide +kernel
theorem dL_law_385 : decode cL_law 385 = .ok (.goto 128, 3) := by decide +kernel
theorem dL_law_388 : decode cL_law 388 = .ok (.aload_n 1, 1) := by decide +kernel
theorem dL_law_389 : decode cL_law 389 = .ok (.aload_n 3, 1) := by decide +kernel
theorem dL_law_390 : decode cL_law 390 = .ok (.invokestatic 71, 3) := by decide +kernel
theorem dL_law_393 : decode cL_law 393 = .ok (.istore 5, 2) := by decide +kernel
theorem dL_law_395 : decode cL_law 395 = .ok (.aload_n 2, 1) := by decide +kernel
theorem dL_law_396 : decode cL_law 396 = .ok (.invokevirtual 73, 3) := by decide +kernel
theorem dL_law_399 : decode cL_law 399 = .ok (.istore 6, 2) := by decide +kernel
theorem dL_law_401 : decode cL_law 401 = .ok (.aload_n 2, 1) := by decide +kernel
theorem dL_law_402 : decode cL_law 402 = .ok (.invokevirtual 50, 3) := by decide +kernel
theorem dL_law_405 : decode cL_law 405 = .ok (.iload 5, 2) := by decide +kernel
theorem dL_law_407 : decode cL_law 407 = .ok (.if_icmp .eq 5, 3) := by decide +kernel
theorem dL_law_410 : decode cL_law 410 = .ok (.iconst 0, 1) := by decide +kernel
theorem dL_law_411 : decode cL_law 411 = .ok (.ireturn, 1) := by decide +kernel
theorem dL_law_412 : decode cL_law 412 = .ok (.iload 5, 2) := by decide +kernel
theorem dL_law_414 : decode cL_law 414 = .ok (.ifCond .ne 15, 3) := by decide +kernel
theorem dL_law_417 : decode cL_law 417 = .ok (.aload_n 3, 1) := by decide +kernel
theorem dL_law_418 : decode cL_law 418 = .ok (.iconst 0, 1) := by decide +kernel
theorem dL_law_419 : decode cL_law 419 = .ok (.laload, 1) := by decide +kernel
theorem dL_law_420 : decode cL_law 420 = .ok (.iload 6, 2) := by decide +kernel
theorem dL_law_422 : decode cL_law 422 = .ok (.i2l, 1) := by decide +kernel
theorem dL_law_423 : decode cL_law 423 = .ok (.lcmp, 1) := by decide +kernel
theorem dL_law_424 : decode cL_law 424 = .ok (.ifCond .eq 5, 3) := by decide +kernel
theorem dL_law_427 : decode cL_law 427 = .ok (.iconst 0, 1) := by decide +kernel
theorem dL_law_428 : decode cL_law 428 = .ok (.ireturn, 1) := by decide +kernel
theorem dL_law_429 : decode cL_law 429 = .ok (.goto 84, 3) := by decide +kernel
theorem dL_law_432 : decode cL_law 432 = .ok (.aload_n 1, 1) := by decide +kernel
theorem dL_law_433 : decode cL_law 433 = .ok (.aload_n 0, 1) := by decide +kernel
theorem dL_law_434 : decode cL_law 434 = .ok (.iload 4, 2) := by decide +kernel
theorem dL_law_436 : decode cL_law 436 = .ok (.iconst 1, 1) := by decide +kernel
theorem dL_law_437 : decode cL_law 437 = .ok (.iadd, 1) := by decide +kernel
theorem dL_law_438 : decode cL_law 438 = .ok (.iaload, 1) := by decide +kernel
theorem dL_law_439 : decode cL_law 439 = .ok (.aload_n 3, 1) := by decide +kernel
theorem dL_law_440 : decode cL_law 440 = .ok (.invokestatic 74, 3) := by decide +kernel
theorem dL_law_443 : decode cL_law 443 = .ok (.istore 5, 2) := by decide +kernel
theorem dL_law_445 : decode cL_law 445 = .ok (.aload_n 2, 1) := by decide +kernel
theorem dL_law_446 : decode cL_law 446 = .ok (.aload_n 0, 1) := by decide +kernel
theorem dL_law_447 : decode cL_law 447 = .ok (.iload 4, 2) := by decide +kernel
theorem dL_law_449 : decode cL_law 449 = .ok (.iconst 1, 1) := by decide +kernel
theorem dL_law_450 : decode cL_law 450 = .ok (.iadd, 1) := by decide +kernel
theorem dL_law_451 : decode cL_law 451 = .ok (.iaload, 1) := by decide +kernel
theorem dL_law_452 : decode cL_law 452 = .ok (.invokevirtual 76, 3) := by decide +kernel
theorem dL_law_455 : decode cL_law 455 = .ok (.istore 6, 2) := by decide +kernel
theorem dL_law_457 : decode cL_law 457 = .ok (.aload_n 2, 1) := by decide +kernel
theorem dL_law_458 : decode cL_law 458 = .ok (.invokevirtual 50, 3) := by decide +kernel
theorem dL_law_461 : decode cL_law 461 = .ok (.iload 5, 2) := by decide +kernel
theorem dL_law_463 : decode cL_law 463 = .ok (.if_icmp .eq 5, 3) := by decide +kernel
theorem dL_law_466 : decode cL_law 466 = .ok (.iconst 0, 1) := by decide +kernel
theorem dL_law_467 : decode cL_law 467 = .ok (.ireturn, 1) := by decide +kernel
theorem dL_law_468 : decode cL_law 468 = .ok (.iload 5, 2) := by decide +kernel
theorem dL_law_470 : decode cL_law 470 = .ok (.ifCond .ne 15, 3) := by decide +kernel
theorem dL_law_473 : decode cL_law 473 = .ok (.aload_n 3, 1) := by decide +kernel
theorem dL_law_474 : decode cL_law 474 = .ok (.iconst 0, 1) := by decide +kernel
theorem dL_law_475 : decode cL_law 475 = .ok (.laload, 1) := by decide +kernel
theorem dL_law_476 : decode cL_law 476 = .ok (.iload 6, 2) := by decide +kernel
theorem dL_law_478 : decode cL_law 478 = .ok (.i2l, 1) := by decide +kernel
theorem dL_law_479 : decode cL_law 479 = .ok (.lcmp, 1) := by decide +kernel
theorem dL_law_480 : decode cL_law 480 = .ok (.ifCond .eq 5, 3) := by decide +kernel
theorem dL_law_483 : decode cL_law 483 = .ok (.iconst 0, 1) := by decide +kernel
theorem dL_law_484 : decode cL_law 484 = .ok (.ireturn, 1) := by decide +kernel
theorem dL_law_485 : decode cL_law 485 = .ok (.goto 28, 3) := by decide +kernel
theorem dL_law_488 : decode cL_law 488 = .ok (.aload_n 1, 1) := by decide +kernel
theorem dL_law_489 : decode cL_law 489 = .ok (.aload_n 0, 1) := by decide +kernel
theorem dL_law_490 : decode cL_law 490 = .ok (.iload 4, 2) := by decide +kernel
theorem dL_law_492 : decode cL_law 492 = .ok (.iconst 1, 1) := by decide +kernel
theorem dL_law_493 : decode cL_law 493 = .ok (.iadd, 1) := by decide +kernel
theorem dL_law_494 : decode cL_law 494 = .ok (.iaload, 1) := by decide +kernel
theorem dL_law_495 : decode cL_law 495 = .ok (.invokevirtual 77, 3) := by decide +kernel
theorem dL_law_498 : decode cL_law 498 = .ok (.aload_n 2, 1) := by decide +kernel
theorem dL_law_499 : decode cL_law 499 = .ok (.aload_n 0, 1) := by decide +kernel
theorem dL_law_500 : decode cL_law 500 = .ok (.iload 4, 2) := by decide +kernel
theorem dL_law_502 : decode cL_law 502 = .ok (.iconst 1, 1) := by decide +kernel
theorem dL_law_503 : decode cL_law 503 = .ok (.iadd, 1) := by decide +kernel
theorem dL_law_504 : decode cL_law 504 = .ok (.iaload, 1) := by decide +kernel
theorem dL_law_505 : decode cL_law 505 = .ok (.invokevirtual 80, 3) := by decide +kernel
theorem dL_law_508 : decode cL_law 508 = .ok (.if_icmp .eq 5, 3) := by decide +kernel
theorem dL_law_511 : decode cL_law 511 = .ok (.iconst 0, 1) := by decide +kernel
theorem dL_law_512 : decode cL_law 512 = .ok (.ireturn, 1) := by decide +kernel
theorem dL_law_513 : decode cL_law 513 = .ok (.iinc 4 3, 3) := by decide +kernel
theorem dL_law_516 : decode cL_law 516 = .ok (.goto (-493), 3) := by decide +kernel
theorem dL_law_519 : decode cL_law 519 = .ok (.iconst 1, 1) := by decide +kernel
theorem dL_law_520 : decode cL_law 520 = .ok (.ireturn, 1) := by decide +kernel
