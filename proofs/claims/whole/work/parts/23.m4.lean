theorem dX8_countLevel_0 : decode cX8_countLevel 0 = .ok (.iload_n 2, 1) := by decide +kernel
theorem dX8_countLevel_1 : decode cX8_countLevel 1 = .ok (.istore_n 3, 1) := by decide +kernel
theorem dX8_countLevel_2 : decode cX8_countLevel 2 = .ok (.iconst 0, 1) := by decide +kernel
theorem dX8_countLevel_3 : decode cX8_countLevel 3 = .ok (.istore 4, 2) := by decide +kernel
theorem dX8_countLevel_5 : decode cX8_countLevel 5 = .ok (.iconst (-1), 1) := by decide +kernel
theorem dX8_countLevel_6 : decode cX8_countLevel 6 = .ok (.istore 5, 2) := by decide +kernel
theorem dX8_countLevel_8 : decode cX8_countLevel 8 = .ok (.iconst 1, 1) := by decide +kernel
theorem dX8_countLevel_9 : decode cX8_countLevel 9 = .ok (.istore 6, 2) := by decide +kernel
theorem dX8_countLevel_11 : decode cX8_countLevel 11 = .ok (.iload 6, 2) := by decide +kernel
theorem dX8_countLevel_13 : decode cX8_countLevel 13 = .ok (.ifCond .eq 199, 3) := by decide +kernel
theorem dX8_countLevel_16 : decode cX8_countLevel 16 = .ok (.aload_n 1, 1) := by decide +kernel
theorem dX8_countLevel_17 : decode cX8_countLevel 17 = .ok (.iload_n 3, 1) := by decide +kernel
theorem dX8_countLevel_18 : decode cX8_countLevel 18 = .ok (.iaload, 1) := by decide +kernel
theorem dX8_countLevel_19 : decode cX8_countLevel 19 = .ok (.istore 7, 2) := by decide +kernel
theorem dX8_countLevel_21 : decode cX8_countLevel 21 = .ok (.iinc 3 1, 3) := by decide +kernel
theorem dX8_countLevel_24 : decode cX8_countLevel 24 = .ok (.iload 7, 2) := by decide +kernel
theorem dX8_countLevel_26 : decode cX8_countLevel 26 = .ok (.iconst 1, 1) := by decide +kernel
theorem dX8_countLevel_27 : decode cX8_countLevel 27 = .ok (.if_icmp .eq 15, 3) := by decide +kernel
theorem dX8_countLevel_30 : decode cX8_countLevel 30 = .ok (.iload 7, 2) := by decide +kernel
theorem dX8_countLevel_32 : decode cX8_countLevel 32 = .ok (.iconst 2, 1) := by decide +kernel
theorem dX8_countLevel_33 : decode cX8_countLevel 33 = .ok (.if_icmp .eq 9, 3) := by decide +kernel
theorem dX8_countLevel_36 : decode cX8_countLevel 36 = .ok (.iload 7, 2) := by decide +kernel
theorem dX8_countLevel_38 : decode cX8_countLevel 38 = .ok (.iconst 3, 1) := by decide +kernel
theorem dX8_countLevel_39 : decode cX8_countLevel 39 = .ok (.if_icmp .ne 26, 3) := by decide +kernel
theorem dX8_countLevel_42 : decode cX8_countLevel 42 = .ok (.aload_n 0, 1) := by decide +kernel
theorem dX8_countLevel_43 : decode cX8_countLevel 43 = .ok (.getfield 97, 3) := by decide +kernel
theorem dX8_countLevel_46 : decode cX8_countLevel 46 = .ok (.iload 4, 2) := by decide +kernel
theorem dX8_countLevel_48 : decode cX8_countLevel 48 = .ok (.iload 7, 2) := by decide +kernel
theorem dX8_countLevel_50 : decode cX8_countLevel 50 = .ok (.iastore, 1) := by decide +kernel
theorem dX8_countLevel_51 : decode cX8_countLevel 51 = .ok (.aload_n 0, 1) := by decide +kernel
theorem dX8_countLevel_52 : decode cX8_countLevel 52 = .ok (.getfield 100, 3) := by decide +kernel
theorem dX8_countLevel_55 : decode cX8_countLevel 55 = .ok (.iload 4, 2) := by decide +kernel
theorem dX8_countLevel_57 : decode cX8_countLevel 57 = .ok (.iconst (-1), 1) := by decide +kernel
theorem dX8_countLevel_58 : decode cX8_countLevel 58 = .ok (.iastore, 1) := by decide +kernel
theorem dX8_countLevel_59 : decode cX8_countLevel 59 = .ok (.iinc 4 1, 3) := by decide +kernel
theorem dX8_countLevel_62 : decode cX8_countLevel 62 = .ok (.goto (-51), 3) := by decide +kernel
theorem dX8_countLevel_65 : decode cX8_countLevel 65 = .ok (.iload 7, 2) := by decide +kernel
theorem dX8_countLevel_67 : decode cX8_countLevel 67 = .ok (.ifCond .ne 7, 3) := by decide +kernel
theorem dX8_countLevel_70 : decode cX8_countLevel 70 = .ok (.iconst 0, 1) := by decide +kernel
theorem dX8_countLevel_71 : decode cX8_countLevel 71 = .ok (.goto 13, 3) := by decide +kernel
theorem dX8_countLevel_74 : decode cX8_countLevel 74 = .ok (.aload_n 0, 1) := by decide +kernel
theorem dX8_countLevel_75 : decode cX8_countLevel 75 = .ok (.iconst 4, 1) := by decide +kernel
theorem dX8_countLevel_76 : decode cX8_countLevel 76 = .ok (.iload 7, 2) := by decide +kernel
theorem dX8_countLevel_78 : decode cX8_countLevel 78 = .ok (.iconst 4, 1) := by decide +kernel
theorem dX8_countLevel_79 : decode cX8_countLevel 79 = .ok (.isub, 1) := by decide +kernel
theorem dX8_countLevel_80 : decode cX8_countLevel 80 = .ok (.iconst (-1), 1) := by decide +kernel
theorem dX8_countLevel_81 : decode cX8_countLevel 81 = .ok (.invokevirtual 127, 3) := by decide +kernel
theorem dX8_countLevel_84 : decode cX8_countLevel 84 = .ok (.istore 5, 2) := by decide +kernel
theorem dX8_countLevel_86 : decode cX8_countLevel 86 = .ok (.iconst 1, 1) := by decide +kernel
theorem dX8_countLevel_87 : decode cX8_countLevel 87 = .ok (.istore 8, 2) := by decide +kernel
theorem dX8_countLevel_89 : decode cX8_countLevel 89 = .ok (.iload 8, 2) := by decide +kernel
theorem dX8_countLevel_91 : decode cX8_countLevel 91 = .ok (.ifCond .eq 101, 3) := by decide +kernel
theorem dX8_countLevel_94 : decode cX8_countLevel 94 = .ok (.iload 4, 2) := by decide +kernel
theorem dX8_countLevel_96 : decode cX8_countLevel 96 = .ok (.ifCond .le 96, 3) := by decide +kernel
theorem dX8_countLevel_99 : decode cX8_countLevel 99 = .ok (.iload 5, 2) := by decide +kernel
theorem dX8_countLevel_101 : decode cX8_countLevel 101 = .ok (.ifCond .lt 91, 3) := by decide +kernel
theorem dX8_countLevel_104 : decode cX8_countLevel 104 = .ok (.aload_n 0, 1) := by decide +kernel
theorem dX8_countLevel_105 : decode cX8_countLevel 105 = .ok (.getfield 97, 3) := by decide +kernel
theorem dX8_countLevel_108 : decode cX8_countLevel 108 = .ok (.iload 4, 2) := by decide +kernel
theorem dX8_countLevel_110 : decode cX8_countLevel 110 = .ok (.iconst 1, 1) := by decide +kernel
theorem dX8_countLevel_111 : decode cX8_countLevel 111 = .ok (.isub, 1) := by decide +kernel
theorem dX8_countLevel_112 : decode cX8_countLevel 112 = .ok (.iaload, 1) := by decide +kernel
theorem dX8_countLevel_113 : decode cX8_countLevel 113 = .ok (.istore 9, 2) := by decide +kernel
theorem dX8_countLevel_115 : decode cX8_countLevel 115 = .ok (.iload 9, 2) := by decide +kernel
theorem dX8_countLevel_117 : decode cX8_countLevel 117 = .ok (.iconst 1, 1) := by decide +kernel
theorem dX8_countLevel_118 : decode cX8_countLevel 118 = .ok (.if_icmp .eq 32, 3) := by decide +kernel
theorem dX8_countLevel_121 : decode cX8_countLevel 121 = .ok (.aload_n 0, 1) := by decide +kernel
theorem dX8_countLevel_122 : decode cX8_countLevel 122 = .ok (.getfield 100, 3) := by decide +kernel
theorem dX8_countLevel_125 : decode cX8_countLevel 125 = .ok (.iload 4, 2) := by decide +kernel
theorem dX8_countLevel_127 : decode cX8_countLevel 127 = .ok (.iconst 1, 1) := by decide +kernel
theorem dX8_countLevel_128 : decode cX8_countLevel 128 = .ok (.isub, 1) := by decide +kernel
theorem dX8_countLevel_129 : decode cX8_countLevel 129 = .ok (.iaload, 1) := by decide +kernel
theorem dX8_countLevel_130 : decode cX8_countLevel 130 = .ok (.ifCond .ge 20, 3) := by decide +kernel
theorem dX8_countLevel_133 : decode cX8_countLevel 133 = .ok (.aload_n 0, 1) := by decide +kernel
theorem dX8_countLevel_134 : decode cX8_countLevel 134 = .ok (.getfield 100, 3) := by decide +kernel
theorem dX8_countLevel_137 : decode cX8_countLevel 137 = .ok (.iload 4, 2) := by decide +kernel
theorem dX8_countLevel_139 : decode cX8_countLevel 139 = .ok (.iconst 1, 1) := by decide +kernel
theorem dX8_countLevel_140 : decode cX8_countLevel 140 = .ok (.isub, 1) := by decide +kernel
theorem dX8_countLevel_141 : decode cX8_countLevel 141 = .ok (.iload 5, 2) := by decide +kernel
theorem dX8_countLevel_143 : decode cX8_countLevel 143 = .ok (.iastore, 1) := by decide +kernel
theorem dX8_countLevel_144 : decode cX8_countLevel 144 = .ok (.iconst 0, 1) := by decide +kernel
theorem dX8_countLevel_145 : decode cX8_countLevel 145 = .ok (.istore 8, 2) := by decide +kernel
theorem dX8_countLevel_147 : decode cX8_countLevel 147 = .ok (.goto 42, 3) := by decide +kernel
theorem dX8_countLevel_150 : decode cX8_countLevel 150 = .ok (.iload 9, 2) := by decide +kernel
theorem dX8_countLevel_152 : decode cX8_countLevel 152 = .ok (.iconst 1, 1) := by decide +kernel
theorem dX8_countLevel_153 : decode cX8_countLevel 153 = .ok (.if_icmp .ne 14, 3) := by decide +kernel
theorem dX8_countLevel_156 : decode cX8_countLevel 156 = .ok (.aload_n 0, 1) := by decide +kernel
theorem dX8_countLevel_157 : decode cX8_countLevel 157 = .ok (.iconst 1, 1) := by decide +kernel
theorem dX8_countLevel_158 : decode cX8_countLevel 158 = .ok (.iload 5, 2) := by decide +kernel
theorem dX8_countLevel_160 : decode cX8_countLevel 160 = .ok (.iconst (-1), 1) := by decide +kernel
theorem dX8_countLevel_161 : decode cX8_countLevel 161 = .ok (.invokevirtual 127, 3) := by decide +kernel
theorem dX8_countLevel_164 : decode cX8_countLevel 164 = .ok (.goto 20, 3) := by decide +kernel
theorem dX8_countLevel_167 : decode cX8_countLevel 167 = .ok (.aload_n 0, 1) := by decide +kernel
theorem dX8_countLevel_168 : decode cX8_countLevel 168 = .ok (.iload 9, 2) := by decide +kernel
theorem dX8_countLevel_170 : decode cX8_countLevel 170 = .ok (.aload_n 0, 1) := by decide +kernel
theorem dX8_countLevel_171 : decode cX8_countLevel 171 = .ok (.getfield 100, 3) := by decide +kernel
theorem dX8_countLevel_174 : decode cX8_countLevel 174 = .ok (.iload 4, 2) := by decide +kernel
theorem dX8_countLevel_176 : decode cX8_countLevel 176 = .ok (.iconst 1, 1) := by decide +kernel
theorem dX8_countLevel_177 : decode cX8_countLevel 177 = .ok (.isub, 1) := by decide +kernel
theorem dX8_countLevel_178 : decode cX8_countLevel 178 = .ok (.iaload, 1) := by decide +kernel
theorem dX8_countLevel_179 : decode cX8_countLevel 179 = .ok (.iload 5, 2) := by decide +kernel
theorem dX8_countLevel_181 : decode cX8_countLevel 181 = .ok (.invokevirtual 127, 3) := by decide +kernel
theorem dX8_countLevel_184 : decode cX8_countLevel 184 = .ok (.istore 5, 2) := by decide +kernel
theorem dX8_countLevel_186 : decode cX8_countLevel 186 = .ok (.iinc 4 (-1), 3) := by decide +kernel
theorem dX8_countLevel_189 : decode cX8_countLevel 189 = .ok (.goto (-100), 3) := by decide +kernel
theorem dX8_countLevel_192 : decode cX8_countLevel 192 = .ok (.iload 5, 2) := by decide +kernel
theorem dX8_countLevel_194 : decode cX8_countLevel 194 = .ok (.ifCond .lt 12, 3) := by decide +kernel
theorem dX8_countLevel_197 : decode cX8_countLevel 197 = .ok (.iload 8, 2) := by decide +kernel
theorem dX8_countLevel_199 : decode cX8_countLevel 199 = .ok (.ifCond .ne 7, 3) := by decide +kernel
theorem dX8_countLevel_202 : decode cX8_countLevel 202 = .ok (.iconst 1, 1) := by decide +kernel
theorem dX8_countLevel_203 : decode cX8_countLevel 203 = .ok (.goto 4, 3) := by decide +kernel
theorem dX8_countLevel_206 : decode cX8_countLevel 206 = .ok (.iconst 0, 1) := by decide +kernel
theorem dX8_countLevel_207 : decode cX8_countLevel 207 = .ok (.istore 6, 2) := by decide +kernel
theorem dX8_countLevel_209 : decode cX8_countLevel 209 = .ok (.goto (-198), 3) := by decide +kernel
theorem dX8_countLevel_212 : decode cX8_countLevel 212 = .ok (.aload_n 0, 1) := by decide +kernel
theorem dX8_countLevel_213 : decode cX8_countLevel 213 = .ok (.iload_n 3, 1) := by decide +kernel
theorem dX8_countLevel_214 : decode cX8_countLevel 214 = .ok (.putfield 273, 3) := by decide +kernel
theorem dX8_countLevel_217 : decode cX8_countLevel 217 = .ok (.iload 5, 2) := by decide +kernel
theorem dX8_countLevel_219 : decode cX8_countLevel 219 = .ok (.ireturn, 1) := by decide +kernel
theorem dy_X8_countLevel : DY yX8_countLevel 2 := by decide +kernel
theorem dX8_countSingle_0 : decode cX8_countSingle 0 = .ok (.aload_n 1, 1) := by decide +kernel
theorem dX8_countSingle_1 : decode cX8_countSingle 1 = .ok (.iload_n 2, 1) := by decide +kernel
theorem dX8_countSingle_2 : decode cX8_countSingle 2 = .ok (.iaload, 1) := by decide +kernel
theorem dX8_countSingle_3 : decode cX8_countSingle 3 = .ok (.iconst 1, 1) := by decide +kernel
theorem dX8_countSingle_4 : decode cX8_countSingle 4 = .ok (.if_icmp .ne 16, 3) := by decide +kernel
theorem dX8_countSingle_7 : decode cX8_countSingle 7 = .ok (.aload_n 0, 1) := by decide +kernel
theorem dX8_countSingle_8 : decode cX8_countSingle 8 = .ok (.iconst 1, 1) := by decide +kernel
theorem dX8_countSingle_9 : decode cX8_countSingle 9 = .ok (.aload_n 1, 1) := by decide +kernel
theorem dX8_countSingle_10 : decode cX8_countSingle 10 = .ok (.iload_n 2, 1) := by decide +kernel
theorem dX8_countSingle_11 : decode cX8_countSingle 11 = .ok (.iconst 1, 1) := by decide +kernel
theorem dX8_countSingle_12 : decode cX8_countSingle 12 = .ok (.iadd, 1) := by decide +kernel
theorem dX8_countSingle_13 : decode cX8_countSingle 13 = .ok (.iaload, 1) := by decide +kernel
theorem dX8_countSingle_14 : decode cX8_countSingle 14 = .ok (.iconst (-1), 1) := by decide +kernel
theorem dX8_countSingle_15 : decode cX8_countSingle 15 = .ok (.iconst (-1), 1) := by decide +kernel
theorem dX8_countSingle_16 : decode cX8_countSingle 16 = .ok (.invokevirtual 131, 3) := by decide +kernel
theorem dX8_countSingle_19 : decode cX8_countSingle 19 = .ok (.ireturn, 1) := by decide +kernel
theorem dX8_countSingle_20 : decode cX8_countSingle 20 = .ok (.aload_n 0, 1) := by decide +kernel
theorem dX8_countSingle_21 : decode cX8_countSingle 21 = .ok (.aload_n 1, 1) := by decide +kernel
theorem dX8_countSingle_22 : decode cX8_countSingle 22 = .ok (.aload_n 1, 1) := by decide +kernel
theorem dX8_countSingle_23 : decode cX8_countSingle 23 = .ok (.iload_n 2, 1) := by decide +kernel
theorem dX8_countSingle_24 : decode cX8_countSingle 24 = .ok (.iaload, 1) := by decide +kernel
theorem dX8_countSingle_25 : decode cX8_countSingle 25 = .ok (.ifCond .ne 9, 3) := by decide +kernel
theorem dX8_countSingle_28 : decode cX8_countSingle 28 = .ok (.iload_n 2, 1) := by decide +kernel
theorem dX8_countSingle_29 : decode cX8_countSingle 29 = .ok (.iconst 1, 1) := by decide +kernel
theorem dX8_countSingle_30 : decode cX8_countSingle 30 = .ok (.iadd, 1) := by decide +kernel
theorem dX8_countSingle_31 : decode cX8_countSingle 31 = .ok (.goto 6, 3) := by decide +kernel
theorem dX8_countSingle_34 : decode cX8_countSingle 34 = .ok (.iload_n 2, 1) := by decide +kernel
theorem dX8_countSingle_35 : decode cX8_countSingle 35 = .ok (.iconst 2, 1) := by decide +kernel
theorem dX8_countSingle_36 : decode cX8_countSingle 36 = .ok (.iadd, 1) := by decide +kernel
theorem dX8_countSingle_37 : decode cX8_countSingle 37 = .ok (.invokevirtual 279, 3) := by decide +kernel
theorem dX8_countSingle_40 : decode cX8_countSingle 40 = .ok (.istore_n 3, 1) := by decide +kernel
theorem dX8_countSingle_41 : decode cX8_countSingle 41 = .ok (.iload_n 3, 1) := by decide +kernel
theorem dX8_countSingle_42 : decode cX8_countSingle 42 = .ok (.ifCond .lt 9, 3) := by decide +kernel
theorem dX8_countSingle_45 : decode cX8_countSingle 45 = .ok (.aload_n 1, 1) := by decide +kernel
theorem dX8_countSingle_46 : decode cX8_countSingle 46 = .ok (.iload_n 2, 1) := by decide +kernel
theorem dX8_countSingle_47 : decode cX8_countSingle 47 = .ok (.iaload, 1) := by decide +kernel
theorem dX8_countSingle_48 : decode cX8_countSingle 48 = .ok (.ifCond .ne 20, 3) := by decide +kernel
theorem dX8_countSingle_51 : decode cX8_countSingle 51 = .ok (.iload_n 3, 1) := by decide +kernel
theorem dX8_countSingle_52 : decode cX8_countSingle 52 = .ok (.ifCond .ge 7, 3) := by decide +kernel
theorem dX8_countSingle_55 : decode cX8_countSingle 55 = .ok (.iconst (-1), 1) := by decide +kernel
theorem dX8_countSingle_56 : decode cX8_countSingle 56 = .ok (.goto 11, 3) := by decide +kernel
theorem dX8_countSingle_59 : decode cX8_countSingle 59 = .ok (.aload_n 0, 1) := by decide +kernel
theorem dX8_countSingle_60 : decode cX8_countSingle 60 = .ok (.iconst 0, 1) := by decide +kernel
theorem dX8_countSingle_61 : decode cX8_countSingle 61 = .ok (.iload_n 3, 1) := by decide +kernel
theorem dX8_countSingle_62 : decode cX8_countSingle 62 = .ok (.iconst (-1), 1) := by decide +kernel
theorem dX8_countSingle_63 : decode cX8_countSingle 63 = .ok (.iconst (-1), 1) := by decide +kernel
theorem dX8_countSingle_64 : decode cX8_countSingle 64 = .ok (.invokevirtual 131, 3) := by decide +kernel
theorem dX8_countSingle_67 : decode cX8_countSingle 67 = .ok (.ireturn, 1) := by decide +kernel
theorem dX8_countSingle_68 : decode cX8_countSingle 68 = .ok (.aload_n 0, 1) := by decide +kernel
theorem dX8_countSingle_69 : decode cX8_countSingle 69 = .ok (.aload_n 1, 1) := by decide +kernel
theorem dX8_countSingle_70 : decode cX8_countSingle 70 = .ok (.aload_n 0, 1) := by decide +kernel
theorem dX8_countSingle_71 : decode cX8_countSingle 71 = .ok (.getfield 273, 3) := by decide +kernel
theorem dX8_countSingle_74 : decode cX8_countSingle 74 = .ok (.invokevirtual 279, 3) := by decide +kernel
theorem dX8_countSingle_77 : decode cX8_countSingle 77 = .ok (.istore 4, 2) := by decide +kernel
theorem dX8_countSingle_79 : decode cX8_countSingle 79 = .ok (.iload 4, 2) := by decide +kernel
theorem dX8_countSingle_81 : decode cX8_countSingle 81 = .ok (.ifCond .ge 7, 3) := by decide +kernel
theorem dX8_countSingle_84 : decode cX8_countSingle 84 = .ok (.iconst (-1), 1) := by decide +kernel
theorem dX8_countSingle_85 : decode cX8_countSingle 85 = .ok (.goto 16, 3) := by decide +kernel
theorem dX8_countSingle_88 : decode cX8_countSingle 88 = .ok (.aload_n 0, 1) := by decide +kernel
theorem dX8_countSingle_89 : decode cX8_countSingle 89 = .ok (.iconst 2, 1) := by decide +kernel
theorem dX8_countSingle_90 : decode cX8_countSingle 90 = .ok (.aload_n 1, 1) := by decide +kernel
theorem dX8_countSingle_91 : decode cX8_countSingle 91 = .ok (.iload_n 2, 1) := by decide +kernel
theorem dX8_countSingle_92 : decode cX8_countSingle 92 = .ok (.iconst 1, 1) := by decide +kernel
theorem dX8_countSingle_93 : decode cX8_countSingle 93 = .ok (.iadd, 1) := by decide +kernel
theorem dX8_countSingle_94 : decode cX8_countSingle 94 = .ok (.iaload, 1) := by decide +kernel
theorem dX8_countSingle_95 : decode cX8_countSingle 95 = .ok (.iload_n 3, 1) := by decide +kernel
theorem dX8_countSingle_96 : decode cX8_countSingle 96 = .ok (.iload 4, 2) := by decide +kernel
theorem dX8_countSingle_98 : decode cX8_countSingle 98 = .ok (.invokevirtual 131, 3) := by decide +kernel
theorem dX8_countSingle_101 : decode cX8_countSingle 101 = .ok (.ireturn, 1) := by decide +kernel
theorem dy_X8_countSingle : DY yX8_countSingle 2 := by decide +kernel
theorem dX8_countTerm_0 : decode cX8_countTerm 0 = .ok (.iload_n 2, 1) := by decide +kernel
theorem dX8_countTerm_1 : decode cX8_countTerm 1 = .ok (.istore_n 3, 1) := by decide +kernel
theorem dX8_countTerm_2 : decode cX8_countTerm 2 = .ok (.iconst 0, 1) := by decide +kernel
theorem dX8_countTerm_3 : decode cX8_countTerm 3 = .ok (.istore 4, 2) := by decide +kernel
theorem dX8_countTerm_5 : decode cX8_countTerm 5 = .ok (.iconst (-1), 1) := by decide +kernel
theorem dX8_countTerm_6 : decode cX8_countTerm 6 = .ok (.istore 5, 2) := by decide +kernel
theorem dX8_countTerm_8 : decode cX8_countTerm 8 = .ok (.iconst 1, 1) := by decide +kernel
theorem dX8_countTerm_9 : decode cX8_countTerm 9 = .ok (.istore 6, 2) := by decide +kernel
theorem dX8_countTerm_11 : decode cX8_countTerm 11 = .ok (.iload 6, 2) := by decide +kernel
theorem dX8_countTerm_13 : decode cX8_countTerm 13 = .ok (.ifCond .eq 226, 3) := by decide +kernel
theorem dX8_countTerm_16 : decode cX8_countTerm 16 = .ok (.aload_n 1, 1) := by decide +kernel
theorem dX8_countTerm_17 : decode cX8_countTerm 17 = .ok (.iload_n 3, 1) := by decide +kernel
theorem dX8_countTerm_18 : decode cX8_countTerm 18 = .ok (.iaload, 1) := by decide +kernel
theorem dX8_countTerm_19 : decode cX8_countTerm 19 = .ok (.istore 7, 2) := by decide +kernel
theorem dX8_countTerm_21 : decode cX8_countTerm 21 = .ok (.iload 7, 2) := by decide +kernel
theorem dX8_countTerm_23 : decode cX8_countTerm 23 = .ok (.iconst 3, 1) := by decide +kernel
theorem dX8_countTerm_24 : decode cX8_countTerm 24 = .ok (.if_icmp .lt 29, 3) := by decide +kernel
theorem dX8_countTerm_27 : decode cX8_countTerm 27 = .ok (.aload_n 0, 1) := by decide +kernel
theorem dX8_countTerm_28 : decode cX8_countTerm 28 = .ok (.getfield 88, 3) := by decide +kernel
theorem dX8_countTerm_31 : decode cX8_countTerm 31 = .ok (.iload 4, 2) := by decide +kernel
theorem dX8_countTerm_33 : decode cX8_countTerm 33 = .ok (.iload 7, 2) := by decide +kernel
theorem dX8_countTerm_35 : decode cX8_countTerm 35 = .ok (.iastore, 1) := by decide +kernel
theorem dX8_countTerm_36 : decode cX8_countTerm 36 = .ok (.aload_n 0, 1) := by decide +kernel
theorem dX8_countTerm_37 : decode cX8_countTerm 37 = .ok (.getfield 91, 3) := by decide +kernel
theorem dX8_countTerm_40 : decode cX8_countTerm 40 = .ok (.iload 4, 2) := by decide +kernel
theorem dX8_countTerm_42 : decode cX8_countTerm 42 = .ok (.iconst 0, 1) := by decide +kernel
theorem dX8_countTerm_43 : decode cX8_countTerm 43 = .ok (.iastore, 1) := by decide +kernel
theorem dX8_countTerm_44 : decode cX8_countTerm 44 = .ok (.iinc 4 1, 3) := by decide +kernel
theorem dX8_countTerm_47 : decode cX8_countTerm 47 = .ok (.iinc 3 1, 3) := by decide +kernel
theorem dX8_countTerm_50 : decode cX8_countTerm 50 = .ok (.goto (-39), 3) := by decide +kernel
theorem dX8_countTerm_53 : decode cX8_countTerm 53 = .ok (.aload_n 0, 1) := by decide +kernel
theorem dX8_countTerm_54 : decode cX8_countTerm 54 = .ok (.aload_n 1, 1) := by decide +kernel
theorem dX8_countTerm_55 : decode cX8_countTerm 55 = .ok (.iload_n 3, 1) := by decide +kernel
theorem dX8_countTerm_56 : decode cX8_countTerm 56 = .ok (.invokevirtual 276, 3) := by decide +kernel
theorem dX8_countTerm_59 : decode cX8_countTerm 59 = .ok (.istore 5, 2) := by decide +kernel
theorem dX8_countTerm_61 : decode cX8_countTerm 61 = .ok (.aload_n 1, 1) := by decide +kernel
theorem dX8_countTerm_62 : decode cX8_countTerm 62 = .ok (.iload_n 3, 1) := by decide +kernel
theorem dX8_countTerm_63 : decode cX8_countTerm 63 = .ok (.invokestatic 152, 3) := by decide +kernel
theorem dX8_countTerm_66 : decode cX8_countTerm 66 = .ok (.istore_n 3, 1) := by decide +kernel
theorem dX8_countTerm_67 : decode cX8_countTerm 67 = .ok (.iconst 1, 1) := by decide +kernel
theorem dX8_countTerm_68 : decode cX8_countTerm 68 = .ok (.istore 8, 2) := by decide +kernel
theorem dX8_countTerm_70 : decode cX8_countTerm 70 = .ok (.iload 8, 2) := by decide +kernel
theorem dX8_countTerm_72 : decode cX8_countTerm 72 = .ok (.ifCond .eq 147, 3) := by decide +kernel
theorem dX8_countTerm_75 : decode cX8_countTerm 75 = .ok (.iload 4, 2) := by decide +kernel
theorem dX8_countTerm_77 : decode cX8_countTerm 77 = .ok (.ifCond .le 142, 3) := by decide +kernel
theorem dX8_countTerm_80 : decode cX8_countTerm 80 = .ok (.iload 5, 2) := by decide +kernel
theorem dX8_countTerm_82 : decode cX8_countTerm 82 = .ok (.ifCond .lt 137, 3) := by decide +kernel
theorem dX8_countTerm_85 : decode cX8_countTerm 85 = .ok (.iload 4, 2) := by decide +kernel
theorem dX8_countTerm_87 : decode cX8_countTerm 87 = .ok (.iconst 1, 1) := by decide +kernel
theorem dX8_countTerm_88 : decode cX8_countTerm 88 = .ok (.isub, 1) := by decide +kernel
theorem dX8_countTerm_89 : decode cX8_countTerm 89 = .ok (.istore 9, 2) := by decide +kernel
theorem dX8_countTerm_91 : decode cX8_countTerm 91 = .ok (.aload_n 0, 1) := by decide +kernel
theorem dX8_countTerm_92 : decode cX8_countTerm 92 = .ok (.getfield 94, 3) := by decide +kernel
theorem dX8_countTerm_95 : decode cX8_countTerm 95 = .ok (.iconst 3, 1) := by decide +kernel
theorem dX8_countTerm_96 : decode cX8_countTerm 96 = .ok (.iload 9, 2) := by decide +kernel
theorem dX8_countTerm_98 : decode cX8_countTerm 98 = .ok (.imul, 1) := by decide +kernel
theorem dX8_countTerm_99 : decode cX8_countTerm 99 = .ok (.aload_n 0, 1) := by decide +kernel
theorem dX8_countTerm_100 : decode cX8_countTerm 100 = .ok (.getfield 91, 3) := by decide +kernel
theorem dX8_countTerm_103 : decode cX8_countTerm 103 = .ok (.iload 9, 2) := by decide +kernel
theorem dX8_countTerm_105 : decode cX8_countTerm 105 = .ok (.iaload, 1) := by decide +kernel
theorem dX8_countTerm_106 : decode cX8_countTerm 106 = .ok (.iadd, 1) := by decide +kernel
theorem dX8_countTerm_107 : decode cX8_countTerm 107 = .ok (.iload 5, 2) := by decide +kernel
theorem dX8_countTerm_109 : decode cX8_countTerm 109 = .ok (.iastore, 1) := by decide +kernel
theorem dX8_countTerm_110 : decode cX8_countTerm 110 = .ok (.aload_n 0, 1) := by decide +kernel
theorem dX8_countTerm_111 : decode cX8_countTerm 111 = .ok (.getfield 91, 3) := by decide +kernel
theorem dX8_countTerm_114 : decode cX8_countTerm 114 = .ok (.iload 9, 2) := by decide +kernel
theorem dX8_countTerm_116 : decode cX8_countTerm 116 = .ok (.dup2, 1) := by decide +kernel
theorem dX8_countTerm_117 : decode cX8_countTerm 117 = .ok (.iaload, 1) := by decide +kernel
theorem dX8_countTerm_118 : decode cX8_countTerm 118 = .ok (.iconst 1, 1) := by decide +kernel
theorem dX8_countTerm_119 : decode cX8_countTerm 119 = .ok (.iadd, 1) := by decide +kernel
theorem dX8_countTerm_120 : decode cX8_countTerm 120 = .ok (.iastore, 1) := by decide +kernel
theorem dX8_countTerm_121 : decode cX8_countTerm 121 = .ok (.aload_n 0, 1) := by decide +kernel
theorem dX8_countTerm_122 : decode cX8_countTerm 122 = .ok (.getfield 91, 3) := by decide +kernel
theorem dX8_countTerm_125 : decode cX8_countTerm 125 = .ok (.iload 9, 2) := by decide +kernel
theorem dX8_countTerm_127 : decode cX8_countTerm 127 = .ok (.iaload, 1) := by decide +kernel
theorem dX8_countTerm_128 : decode cX8_countTerm 128 = .ok (.aload_n 0, 1) := by decide +kernel
theorem dX8_countTerm_129 : decode cX8_countTerm 129 = .ok (.getfield 88, 3) := by decide +kernel
theorem dX8_countTerm_132 : decode cX8_countTerm 132 = .ok (.iload 9, 2) := by decide +kernel
theorem dX8_countTerm_134 : decode cX8_countTerm 134 = .ok (.iaload, 1) := by decide +kernel
theorem dX8_countTerm_135 : decode cX8_countTerm 135 = .ok (.invokestatic 148, 3) := by decide +kernel
theorem dX8_countTerm_138 : decode cX8_countTerm 138 = .ok (.if_icmp .ne 7, 3) := by decide +kernel
theorem dX8_countTerm_141 : decode cX8_countTerm 141 = .ok (.iconst 1, 1) := by decide +kernel
theorem dX8_countTerm_142 : decode cX8_countTerm 142 = .ok (.goto 4, 3) := by decide +kernel
theorem dX8_countTerm_145 : decode cX8_countTerm 145 = .ok (.iconst 0, 1) := by decide +kernel
theorem dX8_countTerm_146 : decode cX8_countTerm 146 = .ok (.istore 8, 2) := by decide +kernel
theorem dX8_countTerm_148 : decode cX8_countTerm 148 = .ok (.iload 8, 2) := by decide +kernel
theorem dX8_countTerm_150 : decode cX8_countTerm 150 = .ok (.ifCond .eq 66, 3) := by decide +kernel
theorem dX8_countTerm_153 : decode cX8_countTerm 153 = .ok (.aload_n 0, 1) := by decide +kernel
theorem dX8_countTerm_154 : decode cX8_countTerm 154 = .ok (.aload_n 0, 1) := by decide +kernel
theorem dX8_countTerm_155 : decode cX8_countTerm 155 = .ok (.getfield 88, 3) := by decide +kernel
theorem dX8_countTerm_158 : decode cX8_countTerm 158 = .ok (.iload 9, 2) := by decide +kernel
theorem dX8_countTerm_160 : decode cX8_countTerm 160 = .ok (.iaload, 1) := by decide +kernel
theorem dX8_countTerm_161 : decode cX8_countTerm 161 = .ok (.aload_n 0, 1) := by decide +kernel
theorem dX8_countTerm_162 : decode cX8_countTerm 162 = .ok (.getfield 94, 3) := by decide +kernel
theorem dX8_countTerm_165 : decode cX8_countTerm 165 = .ok (.iconst 3, 1) := by decide +kernel
theorem dX8_countTerm_166 : decode cX8_countTerm 166 = .ok (.iload 9, 2) := by decide +kernel
theorem dX8_countTerm_168 : decode cX8_countTerm 168 = .ok (.imul, 1) := by decide +kernel
theorem dX8_countTerm_169 : decode cX8_countTerm 169 = .ok (.iaload, 1) := by decide +kernel
theorem dX8_countTerm_170 : decode cX8_countTerm 170 = .ok (.aload_n 0, 1) := by decide +kernel
theorem dX8_countTerm_171 : decode cX8_countTerm 171 = .ok (.getfield 94, 3) := by decide +kernel
theorem dX8_countTerm_174 : decode cX8_countTerm 174 = .ok (.iconst 3, 1) := by decide +kernel
theorem dX8_countTerm_175 : decode cX8_countTerm 175 = .ok (.iload 9, 2) := by decide +kernel
theorem dX8_countTerm_177 : decode cX8_countTerm 177 = .ok (.imul, 1) := by decide +kernel
theorem dX8_countTerm_178 : decode cX8_countTerm 178 = .ok (.iconst 1, 1) := by decide +kernel
theorem dX8_countTerm_179 : decode cX8_countTerm 179 = .ok (.iadd, 1) := by decide +kernel
theorem dX8_countTerm_180 : decode cX8_countTerm 180 = .ok (.iaload, 1) := by decide +kernel
theorem dX8_countTerm_181 : decode cX8_countTerm 181 = .ok (.aload_n 0, 1) := by decide +kernel
theorem dX8_countTerm_182 : decode cX8_countTerm 182 = .ok (.getfield 88, 3) := by decide +kernel
theorem dX8_countTerm_185 : decode cX8_countTerm 185 = .ok (.iload 9, 2) := by decide +kernel
theorem dX8_countTerm_187 : decode cX8_countTerm 187 = .ok (.iaload, 1) := by decide +kernel
theorem dX8_countTerm_188 : decode cX8_countTerm 188 = .ok (.bipush 6, 2) := by decide +kernel
theorem dX8_countTerm_190 : decode cX8_countTerm 190 = .ok (.if_icmp .ne 17, 3) := by decide +kernel
theorem dX8_countTerm_193 : decode cX8_countTerm 193 = .ok (.aload_n 0, 1) := by decide +kernel
theorem dX8_countTerm_194 : decode cX8_countTerm 194 = .ok (.getfield 94, 3) := by decide +kernel
theorem dX8_countTerm_197 : decode cX8_countTerm 197 = .ok (.iconst 3, 1) := by decide +kernel
theorem dX8_countTerm_198 : decode cX8_countTerm 198 = .ok (.iload 9, 2) := by decide +kernel
theorem dX8_countTerm_200 : decode cX8_countTerm 200 = .ok (.imul, 1) := by decide +kernel
theorem dX8_countTerm_201 : decode cX8_countTerm 201 = .ok (.iconst 2, 1) := by decide +kernel
theorem dX8_countTerm_202 : decode cX8_countTerm 202 = .ok (.iadd, 1) := by decide +kernel
theorem dX8_countTerm_203 : decode cX8_countTerm 203 = .ok (.iaload, 1) := by decide +kernel
theorem dX8_countTerm_204 : decode cX8_countTerm 204 = .ok (.goto 4, 3) := by decide +kernel
theorem dX8_countTerm_207 : decode cX8_countTerm 207 = .ok (.iconst (-1), 1) := by decide +kernel
theorem dX8_countTerm_208 : decode cX8_countTerm 208 = .ok (.invokevirtual 131, 3) := by decide +kernel
theorem dX8_countTerm_211 : decode cX8_countTerm 211 = .ok (.istore 5, 2) := by decide +kernel
theorem dX8_countTerm_213 : decode cX8_countTerm 213 = .ok (.iinc 4 (-1), 3) := by decide +kernel
theorem dX8_countTerm_216 : decode cX8_countTerm 216 = .ok (.goto (-146), 3) := by decide +kernel
theorem dX8_countTerm_219 : decode cX8_countTerm 219 = .ok (.iload 5, 2) := by decide +kernel
theorem dX8_countTerm_221 : decode cX8_countTerm 221 = .ok (.ifCond .lt 12, 3) := by decide +kernel
theorem dX8_countTerm_224 : decode cX8_countTerm 224 = .ok (.iload 8, 2) := by decide +kernel
theorem dX8_countTerm_226 : decode cX8_countTerm 226 = .ok (.ifCond .ne 7, 3) := by decide +kernel
theorem dX8_countTerm_229 : decode cX8_countTerm 229 = .ok (.iconst 1, 1) := by decide +kernel
theorem dX8_countTerm_230 : decode cX8_countTerm 230 = .ok (.goto 4, 3) := by decide +kernel
theorem dX8_countTerm_233 : decode cX8_countTerm 233 = .ok (.iconst 0, 1) := by decide +kernel
theorem dX8_countTerm_234 : decode cX8_countTerm 234 = .ok (.istore 6, 2) := by decide +kernel
theorem dX8_countTerm_236 : decode cX8_countTerm 236 = .ok (.goto (-225), 3) := by decide +kernel
theorem dX8_countTerm_239 : decode cX8_countTerm 239 = .ok (.iload 5, 2) := by decide +kernel
theorem dX8_countTerm_241 : decode cX8_countTerm 241 = .ok (.ireturn, 1) := by decide +kernel
theorem dy_X8_countTerm : DY yX8_countTerm 2 := by decide +kernel
theorem dX8_answer_0 : decode cX8_answer 0 = .ok (.aload_n 0, 1) := by decide +kernel
theorem dX8_answer_1 : decode cX8_answer 1 = .ok (.getfield 22, 3) := by decide +kernel
theorem dX8_answer_4 : decode cX8_answer 4 = .ok (.istore_n 3, 1) := by decide +kernel
theorem dX8_answer_5 : decode cX8_answer 5 = .ok (.aload_n 0, 1) := by decide +kernel
theorem dX8_answer_6 : decode cX8_answer 6 = .ok (.getfield 109, 3) := by decide +kernel
theorem dX8_answer_9 : decode cX8_answer 9 = .ok (.istore 4, 2) := by decide +kernel
theorem dX8_answer_11 : decode cX8_answer 11 = .ok (.aload_n 0, 1) := by decide +kernel
theorem dX8_answer_12 : decode cX8_answer 12 = .ok (.iconst 0, 1) := by decide +kernel
theorem dX8_answer_13 : decode cX8_answer 13 = .ok (.putfield 78, 3) := by decide +kernel
theorem dX8_answer_16 : decode cX8_answer 16 = .ok (.aload_n 0, 1) := by decide +kernel
theorem dX8_answer_17 : decode cX8_answer 17 = .ok (.aload_n 1, 1) := by decide +kernel
theorem dX8_answer_18 : decode cX8_answer 18 = .ok (.iload_n 2, 1) := by decide +kernel
theorem dX8_answer_19 : decode cX8_answer 19 = .ok (.invokevirtual 282, 3) := by decide +kernel
theorem dX8_answer_22 : decode cX8_answer 22 = .ok (.istore 5, 2) := by decide +kernel
theorem dX8_answer_24 : decode cX8_answer 24 = .ok (.aload_n 0, 1) := by decide +kernel
theorem dX8_answer_25 : decode cX8_answer 25 = .ok (.iconst 1, 1) := by decide +kernel
theorem dX8_answer_26 : decode cX8_answer 26 = .ok (.putfield 78, 3) := by decide +kernel
theorem dX8_answer_29 : decode cX8_answer 29 = .ok (.iload 5, 2) := by decide +kernel
theorem dX8_answer_31 : decode cX8_answer 31 = .ok (.ifCond .ge 21, 3) := by decide +kernel
theorem dX8_answer_34 : decode cX8_answer 34 = .ok (.aload_n 0, 1) := by decide +kernel
theorem dX8_answer_35 : decode cX8_answer 35 = .ok (.iload_n 3, 1) := by decide +kernel
theorem dX8_answer_36 : decode cX8_answer 36 = .ok (.putfield 22, 3) := by decide +kernel
theorem dX8_answer_39 : decode cX8_answer 39 = .ok (.aload_n 0, 1) := by decide +kernel
theorem dX8_answer_40 : decode cX8_answer 40 = .ok (.iload 4, 2) := by decide +kernel
theorem dX8_answer_42 : decode cX8_answer 42 = .ok (.putfield 109, 3) := by decide +kernel
theorem dX8_answer_45 : decode cX8_answer 45 = .ok (.aload_n 0, 1) := by decide +kernel
theorem dX8_answer_46 : decode cX8_answer 46 = .ok (.iconst 2, 1) := by decide +kernel
theorem dX8_answer_47 : decode cX8_answer 47 = .ok (.putfield 106, 3) := by decide +kernel
theorem dX8_answer_50 : decode cX8_answer 50 = .ok (.iconst 0, 1) := by decide +kernel
theorem dX8_answer_51 : decode cX8_answer 51 = .ok (.ireturn, 1) := by decide +kernel
theorem dX8_answer_52 : decode cX8_answer 52 = .ok (.iload 5, 2) := by decide +kernel
theorem dX8_answer_54 : decode cX8_answer 54 = .ok (.ireturn, 1) := by decide +kernel
theorem dy_X8_answer : DY yX8_answer 2 := by decide +kernel
theorem dX8_begin_0 : decode cX8_begin 0 = .ok (.aload_n 0, 1) := by decide +kernel
theorem dX8_begin_1 : decode cX8_begin 1 = .ok (.iload_n 1, 1) := by decide +kernel
theorem dX8_begin_2 : decode cX8_begin 2 = .ok (.aload_n 0, 1) := by decide +kernel
theorem dX8_begin_3 : decode cX8_begin 3 = .ok (.getfield 53, 3) := by decide +kernel
theorem dX8_begin_6 : decode cX8_begin 6 = .ok (.iconst 0, 1) := by decide +kernel
theorem dX8_begin_7 : decode cX8_begin 7 = .ok (.invokevirtual 176, 3) := by decide +kernel
theorem dX8_begin_10 : decode cX8_begin 10 = .ok (.istore_n 2, 1) := by decide +kernel
theorem dX8_begin_11 : decode cX8_begin 11 = .ok (.aload_n 0, 1) := by decide +kernel
theorem dX8_begin_12 : decode cX8_begin 12 = .ok (.iconst 0, 1) := by decide +kernel
theorem dX8_begin_13 : decode cX8_begin 13 = .ok (.putfield 261, 3) := by decide +kernel
theorem dX8_begin_16 : decode cX8_begin 16 = .ok (.aload_n 0, 1) := by decide +kernel
theorem dX8_begin_17 : decode cX8_begin 17 = .ok (.iconst 0, 1) := by decide +kernel
theorem dX8_begin_18 : decode cX8_begin 18 = .ok (.putfield 228, 3) := by decide +kernel
theorem dX8_begin_21 : decode cX8_begin 21 = .ok (.return_, 1) := by decide +kernel
theorem dy_X8_begin : DY yX8_begin 1 := by decide +kernel
theorem dX8_hasBelow_0 : decode cX8_hasBelow 0 = .ok (.iconst 1, 1) := by decide +kernel
theorem dX8_hasBelow_1 : decode cX8_hasBelow 1 = .ok (.istore_n 3, 1) := by decide +kernel
theorem dX8_hasBelow_2 : decode cX8_hasBelow 2 = .ok (.iconst 0, 1) := by decide +kernel
theorem dX8_hasBelow_3 : decode cX8_hasBelow 3 = .ok (.istore 4, 2) := by decide +kernel
theorem dX8_hasBelow_5 : decode cX8_hasBelow 5 = .ok (.iload 4, 2) := by decide +kernel
theorem dX8_hasBelow_7 : decode cX8_hasBelow 7 = .ok (.iload_n 1, 1) := by decide +kernel
theorem dX8_hasBelow_8 : decode cX8_hasBelow 8 = .ok (.if_icmp .ge 100, 3) := by decide +kernel
theorem dX8_hasBelow_11 : decode cX8_hasBelow 11 = .ok (.aload_n 0, 1) := by decide +kernel
theorem dX8_hasBelow_12 : decode cX8_hasBelow 12 = .ok (.iload 4, 2) := by decide +kernel
theorem dX8_hasBelow_14 : decode cX8_hasBelow 14 = .ok (.iaload, 1) := by decide +kernel
theorem dX8_hasBelow_15 : decode cX8_hasBelow 15 = .ok (.ifCond .ne 10, 3) := by decide +kernel
theorem dX8_hasBelow_18 : decode cX8_hasBelow 18 = .ok (.iload 4, 2) := by decide +kernel
theorem dX8_hasBelow_20 : decode cX8_hasBelow 20 = .ok (.iconst 1, 1) := by decide +kernel
theorem dX8_hasBelow_21 : decode cX8_hasBelow 21 = .ok (.iadd, 1) := by decide +kernel
theorem dX8_hasBelow_22 : decode cX8_hasBelow 22 = .ok (.goto 19, 3) := by decide +kernel
theorem dX8_hasBelow_25 : decode cX8_hasBelow 25 = .ok (.aload_n 0, 1) := by decide +kernel
theorem dX8_hasBelow_26 : decode cX8_hasBelow 26 = .ok (.iload 4, 2) := by decide +kernel
theorem dX8_hasBelow_28 : decode cX8_hasBelow 28 = .ok (.iaload, 1) := by decide +kernel
theorem dX8_hasBelow_29 : decode cX8_hasBelow 29 = .ok (.iconst 2, 1) := by decide +kernel
theorem dX8_hasBelow_30 : decode cX8_hasBelow 30 = .ok (.if_icmp .ne 10, 3) := by decide +kernel
theorem dX8_hasBelow_33 : decode cX8_hasBelow 33 = .ok (.iload 4, 2) := by decide +kernel
theorem dX8_hasBelow_35 : decode cX8_hasBelow 35 = .ok (.iconst 2, 1) := by decide +kernel
theorem dX8_hasBelow_36 : decode cX8_hasBelow 36 = .ok (.iadd, 1) := by decide +kernel
theorem dX8_hasBelow_37 : decode cX8_hasBelow 37 = .ok (.goto 4, 3) := by decide +kernel
theorem dX8_hasBelow_40 : decode cX8_hasBelow 40 = .ok (.iconst 0, 1) := by decide +kernel
theorem dX8_hasBelow_41 : decode cX8_hasBelow 41 = .ok (.istore 5, 2) := by decide +kernel
theorem dX8_hasBelow_43 : decode cX8_hasBelow 43 = .ok (.iload 5, 2) := by decide +kernel
theorem dX8_hasBelow_45 : decode cX8_hasBelow 45 = .ok (.ifCond .le 12, 3) := by decide +kernel
theorem dX8_hasBelow_48 : decode cX8_hasBelow 48 = .ok (.aload_n 0, 1) := by decide +kernel
theorem dX8_hasBelow_49 : decode cX8_hasBelow 49 = .ok (.iload 4, 2) := by decide +kernel
theorem dX8_hasBelow_51 : decode cX8_hasBelow 51 = .ok (.invokestatic 152, 3) := by decide +kernel
theorem dX8_hasBelow_54 : decode cX8_hasBelow 54 = .ok (.goto 4, 3) := by decide +kernel
theorem dX8_hasBelow_57 : decode cX8_hasBelow 57 = .ok (.iconst 0, 1) := by decide +kernel
theorem dX8_hasBelow_58 : decode cX8_hasBelow 58 = .ok (.istore 6, 2) := by decide +kernel
theorem dX8_hasBelow_60 : decode cX8_hasBelow 60 = .ok (.iload 5, 2) := by decide +kernel
theorem dX8_hasBelow_62 : decode cX8_hasBelow 62 = .ok (.istore 7, 2) := by decide +kernel
theorem dX8_hasBelow_64 : decode cX8_hasBelow 64 = .ok (.iload 7, 2) := by decide +kernel
theorem dX8_hasBelow_66 : decode cX8_hasBelow 66 = .ok (.iload 6, 2) := by decide +kernel
theorem dX8_hasBelow_68 : decode cX8_hasBelow 68 = .ok (.if_icmp .ge 29, 3) := by decide +kernel
theorem dX8_hasBelow_71 : decode cX8_hasBelow 71 = .ok (.iload_n 3, 1) := by decide +kernel
theorem dX8_hasBelow_72 : decode cX8_hasBelow 72 = .ok (.ifCond .eq 17, 3) := by decide +kernel
theorem dX8_hasBelow_75 : decode cX8_hasBelow 75 = .ok (.aload_n 0, 1) := by decide +kernel
theorem dX8_hasBelow_76 : decode cX8_hasBelow 76 = .ok (.iload 7, 2) := by decide +kernel
theorem dX8_hasBelow_78 : decode cX8_hasBelow 78 = .ok (.iaload, 1) := by decide +kernel
theorem dX8_hasBelow_79 : decode cX8_hasBelow 79 = .ok (.iconst 4, 1) := by decide +kernel
theorem dX8_hasBelow_80 : decode cX8_hasBelow 80 = .ok (.iload_n 2, 1) := by decide +kernel
theorem dX8_hasBelow_81 : decode cX8_hasBelow 81 = .ok (.iadd, 1) := by decide +kernel
theorem dX8_hasBelow_82 : decode cX8_hasBelow 82 = .ok (.if_icmp .ge 7, 3) := by decide +kernel
theorem dX8_hasBelow_85 : decode cX8_hasBelow 85 = .ok (.iconst 1, 1) := by decide +kernel
theorem dX8_hasBelow_86 : decode cX8_hasBelow 86 = .ok (.goto 4, 3) := by decide +kernel
theorem dX8_hasBelow_89 : decode cX8_hasBelow 89 = .ok (.iconst 0, 1) := by decide +kernel
theorem dX8_hasBelow_90 : decode cX8_hasBelow 90 = .ok (.istore_n 3, 1) := by decide +kernel
theorem dX8_hasBelow_91 : decode cX8_hasBelow 91 = .ok (.iinc 7 1, 3) := by decide +kernel
theorem dX8_hasBelow_94 : decode cX8_hasBelow 94 = .ok (.goto (-30), 3) := by decide +kernel
theorem dX8_hasBelow_97 : decode cX8_hasBelow 97 = .ok (.aload_n 0, 1) := by decide +kernel
theorem dX8_hasBelow_98 : decode cX8_hasBelow 98 = .ok (.iload 4, 2) := by decide +kernel
theorem dX8_hasBelow_100 : decode cX8_hasBelow 100 = .ok (.invokestatic 152, 3) := by decide +kernel
theorem dX8_hasBelow_103 : decode cX8_hasBelow 103 = .ok (.istore 4, 2) := by decide +kernel
theorem dX8_hasBelow_105 : decode cX8_hasBelow 105 = .ok (.goto (-100), 3) := by decide +kernel
theorem dX8_hasBelow_108 : decode cX8_hasBelow 108 = .ok (.iload_n 3, 1) := by decide +kernel
theorem dX8_hasBelow_109 : decode cX8_hasBelow 109 = .ok (.ireturn, 1) := by decide +kernel
theorem dy_X8_hasBelow : DY yX8_hasBelow 3 := by decide +kernel
theorem dX8_reasonOf_0 : decode cX8_reasonOf 0 = .ok (.aload_n 0, 1) := by decide +kernel
theorem dX8_reasonOf_1 : decode cX8_reasonOf 1 = .ok (.iload_n 2, 1) := by decide +kernel
theorem dX8_reasonOf_2 : decode cX8_reasonOf 2 = .ok (.aload_n 0, 1) := by decide +kernel
theorem dX8_reasonOf_3 : decode cX8_reasonOf 3 = .ok (.getfield 53, 3) := by decide +kernel
theorem dX8_reasonOf_6 : decode cX8_reasonOf 6 = .ok (.iconst 0, 1) := by decide +kernel
theorem dX8_reasonOf_7 : decode cX8_reasonOf 7 = .ok (.invokevirtual 176, 3) := by decide +kernel
theorem dX8_reasonOf_10 : decode cX8_reasonOf 10 = .ok (.istore 4, 2) := by decide +kernel
theorem dX8_reasonOf_12 : decode cX8_reasonOf 12 = .ok (.aload_n 0, 1) := by decide +kernel
theorem dX8_reasonOf_13 : decode cX8_reasonOf 13 = .ok (.getfield 53, 3) := by decide +kernel
theorem dX8_reasonOf_16 : decode cX8_reasonOf 16 = .ok (.iload 4, 2) := by decide +kernel
theorem dX8_reasonOf_18 : decode cX8_reasonOf 18 = .ok (.iload_n 1, 1) := by decide +kernel
theorem dX8_reasonOf_19 : decode cX8_reasonOf 19 = .ok (.invokestatic 291, 3) := by decide +kernel
theorem dX8_reasonOf_22 : decode cX8_reasonOf 22 = .ok (.istore 5, 2) := by decide +kernel
theorem dX8_reasonOf_24 : decode cX8_reasonOf 24 = .ok (.iload_n 3, 1) := by decide +kernel
theorem dX8_reasonOf_25 : decode cX8_reasonOf 25 = .ok (.ifCond .lt 44, 3) := by decide +kernel
theorem dX8_reasonOf_28 : decode cX8_reasonOf 28 = .ok (.aload_n 0, 1) := by decide +kernel
theorem dX8_reasonOf_29 : decode cX8_reasonOf 29 = .ok (.aload_n 0, 1) := by decide +kernel
theorem dX8_reasonOf_30 : decode cX8_reasonOf 30 = .ok (.iload_n 3, 1) := by decide +kernel
theorem dX8_reasonOf_31 : decode cX8_reasonOf 31 = .ok (.aload_n 0, 1) := by decide +kernel
theorem dX8_reasonOf_32 : decode cX8_reasonOf 32 = .ok (.getfield 62, 3) := by decide +kernel
theorem dX8_reasonOf_35 : decode cX8_reasonOf 35 = .ok (.iconst 0, 1) := by decide +kernel
theorem dX8_reasonOf_36 : decode cX8_reasonOf 36 = .ok (.invokevirtual 176, 3) := by decide +kernel
theorem dX8_reasonOf_39 : decode cX8_reasonOf 39 = .ok (.putfield 179, 3) := by decide +kernel
theorem dX8_reasonOf_42 : decode cX8_reasonOf 42 = .ok (.iload 5, 2) := by decide +kernel
theorem dX8_reasonOf_44 : decode cX8_reasonOf 44 = .ok (.ifCond .eq 22, 3) := by decide +kernel
theorem dX8_reasonOf_47 : decode cX8_reasonOf 47 = .ok (.aload_n 0, 1) := by decide +kernel
theorem dX8_reasonOf_48 : decode cX8_reasonOf 48 = .ok (.getfield 62, 3) := by decide +kernel
theorem dX8_reasonOf_51 : decode cX8_reasonOf 51 = .ok (.aload_n 0, 1) := by decide +kernel
theorem dX8_reasonOf_52 : decode cX8_reasonOf 52 = .ok (.getfield 179, 3) := by decide +kernel
theorem dX8_reasonOf_55 : decode cX8_reasonOf 55 = .ok (.iload_n 1, 1) := by decide +kernel
theorem dX8_reasonOf_56 : decode cX8_reasonOf 56 = .ok (.invokestatic 291, 3) := by decide +kernel
theorem dX8_reasonOf_59 : decode cX8_reasonOf 59 = .ok (.ifCond .eq 7, 3) := by decide +kernel
theorem dX8_reasonOf_62 : decode cX8_reasonOf 62 = .ok (.iconst 1, 1) := by decide +kernel
theorem dX8_reasonOf_63 : decode cX8_reasonOf 63 = .ok (.goto 4, 3) := by decide +kernel
theorem dX8_reasonOf_66 : decode cX8_reasonOf 66 = .ok (.iconst 0, 1) := by decide +kernel
theorem dX8_reasonOf_67 : decode cX8_reasonOf 67 = .ok (.istore 5, 2) := by decide +kernel
theorem dX8_reasonOf_69 : decode cX8_reasonOf 69 = .ok (.iload 5, 2) := by decide +kernel
theorem dX8_reasonOf_71 : decode cX8_reasonOf 71 = .ok (.ifCond .ne 6, 3) := by decide +kernel
theorem dX8_reasonOf_74 : decode cX8_reasonOf 74 = .ok (.bipush 8, 2) := by decide +kernel
theorem dX8_reasonOf_76 : decode cX8_reasonOf 76 = .ok (.ireturn, 1) := by decide +kernel
theorem dX8_reasonOf_77 : decode cX8_reasonOf 77 = .ok (.aload_n 0, 1) := by decide +kernel
theorem dX8_reasonOf_78 : decode cX8_reasonOf 78 = .ok (.iload_n 2, 1) := by decide +kernel
theorem dX8_reasonOf_79 : decode cX8_reasonOf 79 = .ok (.invokevirtual 285, 3) := by decide +kernel
theorem dX8_reasonOf_82 : decode cX8_reasonOf 82 = .ok (.aload_n 0, 1) := by decide +kernel
theorem dX8_reasonOf_83 : decode cX8_reasonOf 83 = .ok (.iconst 0, 1) := by decide +kernel
theorem dX8_reasonOf_84 : decode cX8_reasonOf 84 = .ok (.invokevirtual 267, 3) := by decide +kernel
theorem dX8_reasonOf_87 : decode cX8_reasonOf 87 = .ok (.istore 6, 2) := by decide +kernel
theorem dX8_reasonOf_89 : decode cX8_reasonOf 89 = .ok (.iload 6, 2) := by decide +kernel
theorem dX8_reasonOf_91 : decode cX8_reasonOf 91 = .ok (.ifCond .gt 7, 3) := by decide +kernel
theorem dX8_reasonOf_94 : decode cX8_reasonOf 94 = .ok (.iload_n 3, 1) := by decide +kernel
theorem dX8_reasonOf_95 : decode cX8_reasonOf 95 = .ok (.ifCond .ge 6, 3) := by decide +kernel
theorem dX8_reasonOf_98 : decode cX8_reasonOf 98 = .ok (.iload 6, 2) := by decide +kernel
theorem dX8_reasonOf_100 : decode cX8_reasonOf 100 = .ok (.ireturn, 1) := by decide +kernel
theorem dX8_reasonOf_101 : decode cX8_reasonOf 101 = .ok (.aload_n 0, 1) := by decide +kernel
theorem dX8_reasonOf_102 : decode cX8_reasonOf 102 = .ok (.iload_n 3, 1) := by decide +kernel
theorem dX8_reasonOf_103 : decode cX8_reasonOf 103 = .ok (.invokevirtual 285, 3) := by decide +kernel
theorem dX8_reasonOf_106 : decode cX8_reasonOf 106 = .ok (.aload_n 0, 1) := by decide +kernel
theorem dX8_reasonOf_107 : decode cX8_reasonOf 107 = .ok (.iconst 0, 1) := by decide +kernel
theorem dX8_reasonOf_108 : decode cX8_reasonOf 108 = .ok (.invokevirtual 240, 3) := by decide +kernel
theorem dX8_reasonOf_111 : decode cX8_reasonOf 111 = .ok (.istore 6, 2) := by decide +kernel
theorem dX8_reasonOf_113 : decode cX8_reasonOf 113 = .ok (.iload 6, 2) := by decide +kernel
theorem dX8_reasonOf_115 : decode cX8_reasonOf 115 = .ok (.ifCond .ne 11, 3) := by decide +kernel
theorem dX8_reasonOf_118 : decode cX8_reasonOf 118 = .ok (.aload_n 0, 1) := by decide +kernel
theorem dX8_reasonOf_119 : decode cX8_reasonOf 119 = .ok (.iconst 0, 1) := by decide +kernel
theorem dX8_reasonOf_120 : decode cX8_reasonOf 120 = .ok (.invokevirtual 243, 3) := by decide +kernel
theorem dX8_reasonOf_123 : decode cX8_reasonOf 123 = .ok (.goto 5, 3) := by decide +kernel
theorem dX8_reasonOf_126 : decode cX8_reasonOf 126 = .ok (.iload 6, 2) := by decide +kernel
theorem dX8_reasonOf_128 : decode cX8_reasonOf 128 = .ok (.istore 6, 2) := by decide +kernel
theorem dX8_reasonOf_130 : decode cX8_reasonOf 130 = .ok (.iload 6, 2) := by decide +kernel
theorem dX8_reasonOf_132 : decode cX8_reasonOf 132 = .ok (.ifCond .le 6, 3) := by decide +kernel
theorem dX8_reasonOf_135 : decode cX8_reasonOf 135 = .ok (.iload 6, 2) := by decide +kernel
theorem dX8_reasonOf_137 : decode cX8_reasonOf 137 = .ok (.ireturn, 1) := by decide +kernel
theorem dX8_reasonOf_138 : decode cX8_reasonOf 138 = .ok (.aload_n 0, 1) := by decide +kernel
theorem dX8_reasonOf_139 : decode cX8_reasonOf 139 = .ok (.aload_n 0, 1) := by decide +kernel
theorem dX8_reasonOf_140 : decode cX8_reasonOf 140 = .ok (.iload_n 2, 1) := by decide +kernel
theorem dX8_reasonOf_141 : decode cX8_reasonOf 141 = .ok (.aload_n 0, 1) := by decide +kernel
theorem dX8_reasonOf_142 : decode cX8_reasonOf 142 = .ok (.getfield 56, 3) := by decide +kernel
theorem dX8_reasonOf_145 : decode cX8_reasonOf 145 = .ok (.iconst 0, 1) := by decide +kernel
theorem dX8_reasonOf_146 : decode cX8_reasonOf 146 = .ok (.invokevirtual 176, 3) := by decide +kernel
theorem dX8_reasonOf_149 : decode cX8_reasonOf 149 = .ok (.putfield 186, 3) := by decide +kernel
theorem dX8_reasonOf_152 : decode cX8_reasonOf 152 = .ok (.aload_n 0, 1) := by decide +kernel
theorem dX8_reasonOf_153 : decode cX8_reasonOf 153 = .ok (.invokevirtual 237, 3) := by decide +kernel
theorem dX8_reasonOf_156 : decode cX8_reasonOf 156 = .ok (.ifCond .ge 5, 3) := by decide +kernel
theorem dX8_reasonOf_159 : decode cX8_reasonOf 159 = .ok (.iconst 5, 1) := by decide +kernel
theorem dX8_reasonOf_160 : decode cX8_reasonOf 160 = .ok (.ireturn, 1) := by decide +kernel
theorem dX8_reasonOf_161 : decode cX8_reasonOf 161 = .ok (.aload_n 0, 1) := by decide +kernel
theorem dX8_reasonOf_162 : decode cX8_reasonOf 162 = .ok (.aload_n 0, 1) := by decide +kernel
theorem dX8_reasonOf_163 : decode cX8_reasonOf 163 = .ok (.getfield 66, 3) := by decide +kernel
theorem dX8_reasonOf_166 : decode cX8_reasonOf 166 = .ok (.iconst 0, 1) := by decide +kernel
theorem dX8_reasonOf_167 : decode cX8_reasonOf 167 = .ok (.aload_n 0, 1) := by decide +kernel
theorem dX8_reasonOf_168 : decode cX8_reasonOf 168 = .ok (.getfield 56, 3) := by decide +kernel
theorem dX8_reasonOf_171 : decode cX8_reasonOf 171 = .ok (.iconst 0, 1) := by decide +kernel
theorem dX8_reasonOf_172 : decode cX8_reasonOf 172 = .ok (.invokevirtual 270, 3) := by decide +kernel
theorem dX8_reasonOf_175 : decode cX8_reasonOf 175 = .ok (.ifCond .eq 7, 3) := by decide +kernel
theorem dX8_reasonOf_178 : decode cX8_reasonOf 178 = .ok (.iconst 0, 1) := by decide +kernel
theorem dX8_reasonOf_179 : decode cX8_reasonOf 179 = .ok (.goto 5, 3) := by decide +kernel
theorem dX8_reasonOf_182 : decode cX8_reasonOf 182 = .ok (.bipush 7, 2) := by decide +kernel
theorem dX8_reasonOf_184 : decode cX8_reasonOf 184 = .ok (.ireturn, 1) := by decide +kernel
theorem dy_X8_reasonOf : DY yX8_reasonOf 3 := by decide +kernel
abbrev rm_X8_countLevel : Room := { frames := 1, cells := 0, slots := 0, locals := 25 }
abbrev rm_X8_countSingle : Room := { frames := 2, cells := 0, slots := 0, locals := 54 }
abbrev rm_X8_countTerm : Room := { frames := 3, cells := 0, slots := 0, locals := 78 }
abbrev rm_X8_answer : Room := { frames := 4, cells := 0, slots := 0, locals := 107 }
abbrev rm_X8_begin : Room := { frames := 2, cells := 0, slots := 0, locals := 52 }
abbrev rm_X8_hasBelow : Room := { frames := 2, cells := 0, slots := 0, locals := 44 }
abbrev rm_X8_reasonOf : Room := { frames := 414, cells := 0, slots := 0, locals := 16432 }
def j_X8_countLevel_42 (n : Nat) (K11 : St → Nat → Int32 → Int32 → Int32 → Int32 → Option (St × Int32)) (S : St) (a1 : Nat) (l3 : Int32) (l4 : Int32) (l5 : Int32) (l6 : Int32) (l7 : Int32) : Option (St × Int32) :=
  pI S 388 0 l4 100 l7 fun S1 =>
  pI S1 389 0 l4 100 (-1) fun S4 =>
  bV (l4 + 1) fun v7 =>
  K11 S4 a1 l3 v7 l5 l6
def j_X8_countLevel_184 (n : Nat) (K11 : St → Nat → Int32 → Int32 → Int32 → Int32 → Option (St × Int32)) (K89 : St → Nat → Int32 → Int32 → Int32 → Int32 → Option (St × Int32)) (S : St) (a1 : Nat) (l3 : Int32) (l4 : Int32) (l8 : Int32) (s0 : Int32) : Option (St × Int32) :=
  bV (l4 + (-1)) fun v1 =>
  K89 S a1 l3 v1 s0 l8
def j_X8_countLevel_150 (n : Nat) (K11 : St → Nat → Int32 → Int32 → Int32 → Int32 → Option (St × Int32)) (K89 : St → Nat → Int32 → Int32 → Int32 → Int32 → Option (St × Int32)) (S : St) (a1 : Nat) (l3 : Int32) (l4 : Int32) (l5 : Int32) (l8 : Int32) (l9 : Int32) : Option (St × Int32) :=
  if l9 = 1 then
    bI (f_X8_numberOfLevel n S 1 l5 (-1)) fun S8 v10 =>
    j_X8_countLevel_184 n K11 K89 S8 a1 l3 l4 l8 v10
  else
    gI S 389 0 (l4 - 1) 100 fun v2 =>
    bI (f_X8_numberOfLevel n S l9 v2 l5) fun S5 v7 =>
    j_X8_countLevel_184 n K11 K89 S5 a1 l3 l4 l8 v7
def j_X8_countLevel_207 (n : Nat) (K11 : St → Nat → Int32 → Int32 → Int32 → Int32 → Option (St × Int32)) (S : St) (a1 : Nat) (l3 : Int32) (l4 : Int32) (l5 : Int32) (s0 : Int32) : Option (St × Int32) :=
  K11 S a1 l3 l4 l5 s0
def j_X8_countLevel_206 (n : Nat) (K11 : St → Nat → Int32 → Int32 → Int32 → Int32 → Option (St × Int32)) (S : St) (a1 : Nat) (l3 : Int32) (l4 : Int32) (l5 : Int32) : Option (St × Int32) :=
  j_X8_countLevel_207 n K11 S a1 l3 l4 l5 0
def j_X8_countLevel_192 (n : Nat) (K11 : St → Nat → Int32 → Int32 → Int32 → Int32 → Option (St × Int32)) (S : St) (a1 : Nat) (l3 : Int32) (l4 : Int32) (l5 : Int32) (l8 : Int32) : Option (St × Int32) :=
  if l5 < 0 then
    j_X8_countLevel_206 n K11 S a1 l3 l4 l5
  else
    if l8 = 0 then
      j_X8_countLevel_207 n K11 S a1 l3 l4 l5 1
    else
      j_X8_countLevel_206 n K11 S a1 l3 l4 l5
def l_X8_countLevel_89 (n : Nat) (K11 : St → Nat → Int32 → Int32 → Int32 → Int32 → Option (St × Int32)) : Nat → St → Nat → Int32 → Int32 → Int32 → Int32 → Option (St × Int32)
  | 0, _, _, _, _, _, _ => none
  | m + 1, S, a1, l3, l4, l5, l8 =>
    if l8 = 0 then
      j_X8_countLevel_192 n K11 S a1 l3 l4 l5 l8
    else
      if l4 ≤ 0 then
        j_X8_countLevel_192 n K11 S a1 l3 l4 l5 l8
      else
        if l5 < 0 then
          j_X8_countLevel_192 n K11 S a1 l3 l4 l5 l8
        else
          gI S 388 0 (l4 - 1) 100 fun v4 =>
          if v4 = 1 then
            j_X8_countLevel_150 n K11 (fun S a1 l3 l4 l5 l8 => l_X8_countLevel_89 n K11 m S a1 l3 l4 l5 l8) S a1 l3 l4 l5 l8 v4
          else
            gI S 389 0 (l4 - 1) 100 fun v8 =>
            if 0 ≤ v8 then
              j_X8_countLevel_150 n K11 (fun S a1 l3 l4 l5 l8 => l_X8_countLevel_89 n K11 m S a1 l3 l4 l5 l8) S a1 l3 l4 l5 l8 v4
            else
              pI S 389 0 (l4 - 1) 100 l5 fun S12 =>
              l_X8_countLevel_89 n K11 m S12 a1 l3 l4 l5 0
def j_X8_countLevel_84 (n : Nat) (K11 : St → Nat → Int32 → Int32 → Int32 → Int32 → Option (St × Int32)) (S : St) (a1 : Nat) (l3 : Int32) (l4 : Int32) (s0 : Int32) : Option (St × Int32) :=
  l_X8_countLevel_89 n K11 n S a1 l3 l4 s0 1
def l_X8_countLevel_11 (n : Nat) : Nat → St → Nat → Int32 → Int32 → Int32 → Int32 → Option (St × Int32)
  | 0, _, _, _, _, _, _ => none
  | m + 1, S, a1, l3, l4, l5, l6 =>
    if l6 = 0 then
      pS S 387 0 l3 fun S2 =>
      some (S2, l5)
    else
      gI S a1 0 l3 (ln a1) fun v4 =>
      bV (l3 + 1) fun v7 =>
      if v4 = 1 then
        j_X8_countLevel_42 n (fun S a1 l3 l4 l5 l6 => l_X8_countLevel_11 n m S a1 l3 l4 l5 l6) S a1 v7 l4 l5 l6 v4
      else
        if v4 = 2 then
          j_X8_countLevel_42 n (fun S a1 l3 l4 l5 l6 => l_X8_countLevel_11 n m S a1 l3 l4 l5 l6) S a1 v7 l4 l5 l6 v4
        else
          if v4 = 3 then
            j_X8_countLevel_42 n (fun S a1 l3 l4 l5 l6 => l_X8_countLevel_11 n m S a1 l3 l4 l5 l6) S a1 v7 l4 l5 l6 v4
          else
            if v4 = 0 then
              j_X8_countLevel_84 n (fun S a1 l3 l4 l5 l6 => l_X8_countLevel_11 n m S a1 l3 l4 l5 l6) S a1 v7 l4 0
            else
              bI (f_X8_numberOfLevel n S 4 (v4 - 4) (-1)) fun S13 v15 =>
              j_X8_countLevel_84 n (fun S a1 l3 l4 l5 l6 => l_X8_countLevel_11 n m S a1 l3 l4 l5 l6) S13 a1 v7 l4 v15
def f_X8_countLevel (n : Nat) (S : St) (a1 : Nat) (a2 : Int32) : Option (St × Int32) :=
  l_X8_countLevel_11 n n S a1 a2 0 (-1) 1
set_option maxRecDepth 100000 in
set_option maxHeartbeats 4000000 in
theorem t_X8_countLevel_42 {n : Nat} {K11 : St → Nat → Int32 → Int32 → Int32 → Int32 → Option (St × Int32)} {x : XC} (hx : CX x cX8_countLevel 10 RX8) (hR : x_R x = rm_X8_countLevel) (hKS : ∀ k ∈ KM, k ∈ x_K x) {out : St × Int32} (hE : EI x cX8_countLevel out) (hK11 : ∀ {S : St} {a1 : Nat} {l3 : Int32} {l4 : Int32} {l5 : Int32} {l6 : Int32} (_ : (1, a1, 0) ∈ KM), K11 S a1 l3 l4 l5 l6 = some out → WX x 10 0 0 S 11 [(0, .ref (x_ad x 0 7 0)), (1, .ref (x_ad x 1 a1 0)), (3, .int l3), (4, .int l4), (5, .int l5), (6, .int l6)] []) {S : St} {a1 : Nat} {l3 : Int32} {l4 : Int32} {l5 : Int32} {l6 : Int32} {l7 : Int32} (h_a1 : (1, a1, 0) ∈ KM) (h : j_X8_countLevel_42 n K11 S a1 l3 l4 l5 l6 l7 = some out) : WX x 10 0 0 S 42 [(0, .ref (x_ad x 0 7 0)), (1, .ref (x_ad x 1 a1 0)), (3, .int l3), (4, .int l4), (5, .int l5), (6, .int l6), (7, .int l7)] [] := by
  unfold j_X8_countLevel_42 at h
  refine r_aload_n (k0 := 0) hx dX8_countLevel_42 rfl rfl ?_
  refine g_388 hx (k_0_7 hKS) wf_X8_97 dX8_countLevel_43 ?_
  refine r_iload (k0 := 3) hx dX8_countLevel_46 rfl ?_
  refine r_iload (k0 := 6) hx dX8_countLevel_48 rfl ?_
  obtain ⟨S1, e2, i3, h⟩ := pI_some h
  refine r_iast hx (k_1_388 hKS) rfl i3 e2 dX8_countLevel_50 ?_
  refine r_aload_n (k0 := 0) hx dX8_countLevel_51 rfl rfl ?_
  refine g_389 hx (k_0_7 hKS) wf_X8_100 dX8_countLevel_52 ?_
  refine r_iload (k0 := 3) hx dX8_countLevel_55 rfl ?_
  refine r_iconst (v := -1) hx dX8_countLevel_57 (by decide) ?_
  obtain ⟨S4, e5, i6, h⟩ := pI_some h
  refine r_iast hx (k_1_389 hKS) rfl i6 e5 dX8_countLevel_58 ?_
  obtain ⟨v7, e8, h⟩ := bV_some h
  refine r_iinc (k := 3) (v := v7) (lv' := [(4, .int v7), (0, .ref (x_ad x 0 7 0)), (1, .ref (x_ad x 1 a1 0)), (3, .int l3), (5, .int l5), (6, .int l6), (7, .int l7)]) hx dX8_countLevel_59 rfl (by rw [e8]; rfl) (by decide) rfl ?_
  refine r_goto (tgt := 11) hx dX8_countLevel_62 (by decide) ?_
  refine WX.sub (lv' := [(0, .ref (x_ad x 0 7 0)), (1, .ref (x_ad x 1 a1 0)), (3, .int l3), (4, .int v7), (5, .int l5), (6, .int l6)]) ?_ [1, 2, 3, 0, 4, 5] rfl
  exact hK11 h_a1 h
set_option maxRecDepth 100000 in
set_option maxHeartbeats 4000000 in
theorem t_X8_countLevel_184 {n : Nat} {K11 : St → Nat → Int32 → Int32 → Int32 → Int32 → Option (St × Int32)} {K89 : St → Nat → Int32 → Int32 → Int32 → Int32 → Option (St × Int32)} {x : XC} (hx : CX x cX8_countLevel 10 RX8) (hR : x_R x = rm_X8_countLevel) (hKS : ∀ k ∈ KM, k ∈ x_K x) {out : St × Int32} (hE : EI x cX8_countLevel out) (hK11 : ∀ {S : St} {a1 : Nat} {l3 : Int32} {l4 : Int32} {l5 : Int32} {l6 : Int32} (_ : (1, a1, 0) ∈ KM), K11 S a1 l3 l4 l5 l6 = some out → WX x 10 0 0 S 11 [(0, .ref (x_ad x 0 7 0)), (1, .ref (x_ad x 1 a1 0)), (3, .int l3), (4, .int l4), (5, .int l5), (6, .int l6)] []) (hK89 : ∀ {S : St} {a1 : Nat} {l3 : Int32} {l4 : Int32} {l5 : Int32} {l8 : Int32} (_ : (1, a1, 0) ∈ KM), K89 S a1 l3 l4 l5 l8 = some out → WX x 10 0 0 S 89 [(0, .ref (x_ad x 0 7 0)), (1, .ref (x_ad x 1 a1 0)), (3, .int l3), (4, .int l4), (5, .int l5), (8, .int l8)] []) {S : St} {a1 : Nat} {l3 : Int32} {l4 : Int32} {l8 : Int32} {s0 : Int32} (h_a1 : (1, a1, 0) ∈ KM) (h : j_X8_countLevel_184 n K11 K89 S a1 l3 l4 l8 s0 = some out) : WX x 10 0 0 S 184 [(0, .ref (x_ad x 0 7 0)), (1, .ref (x_ad x 1 a1 0)), (3, .int l3), (4, .int l4), (8, .int l8)] [.int s0] := by
  unfold j_X8_countLevel_184 at h
  refine r_istore (lv' := [(5, .int s0), (0, .ref (x_ad x 0 7 0)), (1, .ref (x_ad x 1 a1 0)), (3, .int l3), (4, .int l4), (8, .int l8)]) hx dX8_countLevel_184 (by decide) rfl ?_
  obtain ⟨v1, e2, h⟩ := bV_some h
  refine r_iinc (k := 4) (v := v1) (lv' := [(4, .int v1), (5, .int s0), (0, .ref (x_ad x 0 7 0)), (1, .ref (x_ad x 1 a1 0)), (3, .int l3), (8, .int l8)]) hx dX8_countLevel_186 rfl (by rw [e2]; rfl) (by decide) rfl ?_
  refine r_goto (tgt := 89) hx dX8_countLevel_189 (by decide) ?_
  refine WX.sub (lv' := [(0, .ref (x_ad x 0 7 0)), (1, .ref (x_ad x 1 a1 0)), (3, .int l3), (4, .int v1), (5, .int s0), (8, .int l8)]) ?_ [2, 3, 4, 0, 1, 5] rfl
  exact hK89 h_a1 h
set_option maxRecDepth 100000 in
set_option maxHeartbeats 4000000 in
theorem t_X8_countLevel_150 {n : Nat} {K11 : St → Nat → Int32 → Int32 → Int32 → Int32 → Option (St × Int32)} {K89 : St → Nat → Int32 → Int32 → Int32 → Int32 → Option (St × Int32)} {x : XC} (hx : CX x cX8_countLevel 10 RX8) (hR : x_R x = rm_X8_countLevel) (hKS : ∀ k ∈ KM, k ∈ x_K x) {out : St × Int32} (hE : EI x cX8_countLevel out) (hK11 : ∀ {S : St} {a1 : Nat} {l3 : Int32} {l4 : Int32} {l5 : Int32} {l6 : Int32} (_ : (1, a1, 0) ∈ KM), K11 S a1 l3 l4 l5 l6 = some out → WX x 10 0 0 S 11 [(0, .ref (x_ad x 0 7 0)), (1, .ref (x_ad x 1 a1 0)), (3, .int l3), (4, .int l4), (5, .int l5), (6, .int l6)] []) (hK89 : ∀ {S : St} {a1 : Nat} {l3 : Int32} {l4 : Int32} {l5 : Int32} {l8 : Int32} (_ : (1, a1, 0) ∈ KM), K89 S a1 l3 l4 l5 l8 = some out → WX x 10 0 0 S 89 [(0, .ref (x_ad x 0 7 0)), (1, .ref (x_ad x 1 a1 0)), (3, .int l3), (4, .int l4), (5, .int l5), (8, .int l8)] []) {S : St} {a1 : Nat} {l3 : Int32} {l4 : Int32} {l5 : Int32} {l8 : Int32} {l9 : Int32} (h_a1 : (1, a1, 0) ∈ KM) (h : j_X8_countLevel_150 n K11 K89 S a1 l3 l4 l5 l8 l9 = some out) : WX x 10 0 0 S 150 [(0, .ref (x_ad x 0 7 0)), (1, .ref (x_ad x 1 a1 0)), (3, .int l3), (4, .int l4), (5, .int l5), (8, .int l8), (9, .int l9)] [] := by
  unfold j_X8_countLevel_150 at h
  refine r_iload (k0 := 6) hx dX8_countLevel_150 rfl ?_
  refine r_iconst (v := 1) hx dX8_countLevel_152 (by decide) ?_
  refine r_icmp_ne (tgt := 167) hx dX8_countLevel_153 (by decide) (fun c1 => ?_) (fun c1 => ?_)
  · have h := ite_f h c1
    refine r_aload_n (k0 := 0) hx dX8_countLevel_167 rfl rfl ?_
    refine r_iload (k0 := 6) hx dX8_countLevel_168 rfl ?_
    refine r_aload_n (k0 := 0) hx dX8_countLevel_170 rfl rfl ?_
    refine g_389 hx (k_0_7 hKS) wf_X8_100 dX8_countLevel_171 ?_
    refine r_iload (k0 := 3) hx dX8_countLevel_174 rfl ?_
    refine r_iconst (v := 1) hx dX8_countLevel_176 (by decide) ?_
    refine r_isub hx dX8_countLevel_177 ?_
    obtain ⟨v2, e3, i4, h⟩ := gI_some h
    refine r_iald hx (k_1_389 hKS) rfl i4 e3 dX8_countLevel_178 ?_
    refine r_iload (k0 := 4) hx dX8_countLevel_179 rfl ?_
    obtain ⟨S5, v7, c6, h⟩ := bI_some h
    refine r_Vi (ci := 7) (As := [.int l9, .int v2, .int l5]) (rest := []) hx (C_X8_numberOfLevel (c := x_y x) hKS c6) (k_0_7 hKS) rfl wl_X8_127 wi_X8_numberOfLevel we_X8_numberOfLevel wn_X8 wc_X8_numberOfLevel dy_X8_numberOfLevel rfl (by rw [hR]; decide +kernel) rfl (Nat.le_of_ble_eq_true rfl) dX8_countLevel_181 ?_
    refine WX.sub (lv' := [(0, .ref (x_ad x 0 7 0)), (1, .ref (x_ad x 1 a1 0)), (3, .int l3), (4, .int l4), (8, .int l8)]) ?_ [0, 1, 2, 3, 5] rfl
    exact t_X8_countLevel_184 hx hR hKS hE hK11 hK89 h_a1 h
  · have h := ite_t h c1
    refine r_aload_n (k0 := 0) hx dX8_countLevel_156 rfl rfl ?_
    refine r_iconst (v := 1) hx dX8_countLevel_157 (by decide) ?_
    refine r_iload (k0 := 4) hx dX8_countLevel_158 rfl ?_
    refine r_iconst (v := -1) hx dX8_countLevel_160 (by decide) ?_
    obtain ⟨S8, v10, c9, h⟩ := bI_some h
    refine r_Vi (ci := 7) (As := [.int 1, .int l5, .int (-1)]) (rest := []) hx (C_X8_numberOfLevel (c := x_y x) hKS c9) (k_0_7 hKS) rfl wl_X8_127 wi_X8_numberOfLevel we_X8_numberOfLevel wn_X8 wc_X8_numberOfLevel dy_X8_numberOfLevel rfl (by rw [hR]; decide +kernel) rfl (Nat.le_of_ble_eq_true rfl) dX8_countLevel_161 ?_
    refine r_goto (tgt := 184) hx dX8_countLevel_164 (by decide) ?_
    refine WX.sub (lv' := [(0, .ref (x_ad x 0 7 0)), (1, .ref (x_ad x 1 a1 0)), (3, .int l3), (4, .int l4), (8, .int l8)]) ?_ [0, 1, 2, 3, 5] rfl
    exact t_X8_countLevel_184 hx hR hKS hE hK11 hK89 h_a1 h
set_option maxRecDepth 100000 in
set_option maxHeartbeats 4000000 in
theorem t_X8_countLevel_207 {n : Nat} {K11 : St → Nat → Int32 → Int32 → Int32 → Int32 → Option (St × Int32)} {x : XC} (hx : CX x cX8_countLevel 10 RX8) (hR : x_R x = rm_X8_countLevel) (hKS : ∀ k ∈ KM, k ∈ x_K x) {out : St × Int32} (hE : EI x cX8_countLevel out) (hK11 : ∀ {S : St} {a1 : Nat} {l3 : Int32} {l4 : Int32} {l5 : Int32} {l6 : Int32} (_ : (1, a1, 0) ∈ KM), K11 S a1 l3 l4 l5 l6 = some out → WX x 10 0 0 S 11 [(0, .ref (x_ad x 0 7 0)), (1, .ref (x_ad x 1 a1 0)), (3, .int l3), (4, .int l4), (5, .int l5), (6, .int l6)] []) {S : St} {a1 : Nat} {l3 : Int32} {l4 : Int32} {l5 : Int32} {s0 : Int32} (h_a1 : (1, a1, 0) ∈ KM) (h : j_X8_countLevel_207 n K11 S a1 l3 l4 l5 s0 = some out) : WX x 10 0 0 S 207 [(0, .ref (x_ad x 0 7 0)), (1, .ref (x_ad x 1 a1 0)), (3, .int l3), (4, .int l4), (5, .int l5)] [.int s0] := by
  unfold j_X8_countLevel_207 at h
  refine r_istore (lv' := [(6, .int s0), (0, .ref (x_ad x 0 7 0)), (1, .ref (x_ad x 1 a1 0)), (3, .int l3), (4, .int l4), (5, .int l5)]) hx dX8_countLevel_207 (by decide) rfl ?_
  refine r_goto (tgt := 11) hx dX8_countLevel_209 (by decide) ?_
  refine WX.sub (lv' := [(0, .ref (x_ad x 0 7 0)), (1, .ref (x_ad x 1 a1 0)), (3, .int l3), (4, .int l4), (5, .int l5), (6, .int s0)]) ?_ [1, 2, 3, 4, 5, 0] rfl
  exact hK11 h_a1 h
set_option maxRecDepth 100000 in
set_option maxHeartbeats 4000000 in
theorem t_X8_countLevel_206 {n : Nat} {K11 : St → Nat → Int32 → Int32 → Int32 → Int32 → Option (St × Int32)} {x : XC} (hx : CX x cX8_countLevel 10 RX8) (hR : x_R x = rm_X8_countLevel) (hKS : ∀ k ∈ KM, k ∈ x_K x) {out : St × Int32} (hE : EI x cX8_countLevel out) (hK11 : ∀ {S : St} {a1 : Nat} {l3 : Int32} {l4 : Int32} {l5 : Int32} {l6 : Int32} (_ : (1, a1, 0) ∈ KM), K11 S a1 l3 l4 l5 l6 = some out → WX x 10 0 0 S 11 [(0, .ref (x_ad x 0 7 0)), (1, .ref (x_ad x 1 a1 0)), (3, .int l3), (4, .int l4), (5, .int l5), (6, .int l6)] []) {S : St} {a1 : Nat} {l3 : Int32} {l4 : Int32} {l5 : Int32} (h_a1 : (1, a1, 0) ∈ KM) (h : j_X8_countLevel_206 n K11 S a1 l3 l4 l5 = some out) : WX x 10 0 0 S 206 [(0, .ref (x_ad x 0 7 0)), (1, .ref (x_ad x 1 a1 0)), (3, .int l3), (4, .int l4), (5, .int l5)] [] := by
  unfold j_X8_countLevel_206 at h
  refine r_iconst (v := 0) hx dX8_countLevel_206 (by decide) ?_
  exact t_X8_countLevel_207 hx hR hKS hE hK11 h_a1 h
set_option maxRecDepth 100000 in
set_option maxHeartbeats 4000000 in
theorem t_X8_countLevel_192 {n : Nat} {K11 : St → Nat → Int32 → Int32 → Int32 → Int32 → Option (St × Int32)} {x : XC} (hx : CX x cX8_countLevel 10 RX8) (hR : x_R x = rm_X8_countLevel) (hKS : ∀ k ∈ KM, k ∈ x_K x) {out : St × Int32} (hE : EI x cX8_countLevel out) (hK11 : ∀ {S : St} {a1 : Nat} {l3 : Int32} {l4 : Int32} {l5 : Int32} {l6 : Int32} (_ : (1, a1, 0) ∈ KM), K11 S a1 l3 l4 l5 l6 = some out → WX x 10 0 0 S 11 [(0, .ref (x_ad x 0 7 0)), (1, .ref (x_ad x 1 a1 0)), (3, .int l3), (4, .int l4), (5, .int l5), (6, .int l6)] []) {S : St} {a1 : Nat} {l3 : Int32} {l4 : Int32} {l5 : Int32} {l8 : Int32} (h_a1 : (1, a1, 0) ∈ KM) (h : j_X8_countLevel_192 n K11 S a1 l3 l4 l5 l8 = some out) : WX x 10 0 0 S 192 [(0, .ref (x_ad x 0 7 0)), (1, .ref (x_ad x 1 a1 0)), (3, .int l3), (4, .int l4), (5, .int l5), (8, .int l8)] [] := by
  unfold j_X8_countLevel_192 at h
  refine r_iload (k0 := 4) hx dX8_countLevel_192 rfl ?_
  refine r_if_lt (tgt := 206) hx dX8_countLevel_194 (by decide) (fun c1 => ?_) (fun c1 => ?_)
  · have h := ite_t h c1
    refine WX.sub (lv' := [(0, .ref (x_ad x 0 7 0)), (1, .ref (x_ad x 1 a1 0)), (3, .int l3), (4, .int l4), (5, .int l5)]) ?_ [0, 1, 2, 3, 4] rfl
    exact t_X8_countLevel_206 hx hR hKS hE hK11 h_a1 h
  · have h := ite_f h c1
    refine r_iload (k0 := 5) hx dX8_countLevel_197 rfl ?_
    refine r_if_ne (tgt := 206) hx dX8_countLevel_199 (by decide) (fun c2 => ?_) (fun c2 => ?_)
    · have h := ite_f h c2
      refine WX.sub (lv' := [(0, .ref (x_ad x 0 7 0)), (1, .ref (x_ad x 1 a1 0)), (3, .int l3), (4, .int l4), (5, .int l5)]) ?_ [0, 1, 2, 3, 4] rfl
      exact t_X8_countLevel_206 hx hR hKS hE hK11 h_a1 h
    · have h := ite_t h c2
      refine r_iconst (v := 1) hx dX8_countLevel_202 (by decide) ?_
      refine r_goto (tgt := 207) hx dX8_countLevel_203 (by decide) ?_
      refine WX.sub (lv' := [(0, .ref (x_ad x 0 7 0)), (1, .ref (x_ad x 1 a1 0)), (3, .int l3), (4, .int l4), (5, .int l5)]) ?_ [0, 1, 2, 3, 4] rfl
      exact t_X8_countLevel_207 hx hR hKS hE hK11 h_a1 h
set_option maxRecDepth 100000 in
set_option maxHeartbeats 4000000 in
theorem t_X8_countLevel_89 {n : Nat} {K11 : St → Nat → Int32 → Int32 → Int32 → Int32 → Option (St × Int32)} {x : XC} (hx : CX x cX8_countLevel 10 RX8) (hR : x_R x = rm_X8_countLevel) (hKS : ∀ k ∈ KM, k ∈ x_K x) {out : St × Int32} (hE : EI x cX8_countLevel out) (hK11 : ∀ {S : St} {a1 : Nat} {l3 : Int32} {l4 : Int32} {l5 : Int32} {l6 : Int32} (_ : (1, a1, 0) ∈ KM), K11 S a1 l3 l4 l5 l6 = some out → WX x 10 0 0 S 11 [(0, .ref (x_ad x 0 7 0)), (1, .ref (x_ad x 1 a1 0)), (3, .int l3), (4, .int l4), (5, .int l5), (6, .int l6)] []) : ∀ {m : Nat} {S : St} {a1 : Nat} {l3 : Int32} {l4 : Int32} {l5 : Int32} {l8 : Int32} (h_a1 : (1, a1, 0) ∈ KM) (h : l_X8_countLevel_89 n K11 m S a1 l3 l4 l5 l8 = some out), WX x 10 0 0 S 89 [(0, .ref (x_ad x 0 7 0)), (1, .ref (x_ad x 1 a1 0)), (3, .int l3), (4, .int l4), (5, .int l5), (8, .int l8)] [] := by
  intro m
  induction m with
  | zero => intro S a1 l3 l4 l5 l8 h_a1 h; cases h
  | succ m ih =>
    intro S a1 l3 l4 l5 l8 h_a1 h
    unfold l_X8_countLevel_89 at h
    refine r_iload (k0 := 5) hx dX8_countLevel_89 rfl ?_
    refine r_if_eq (tgt := 192) hx dX8_countLevel_91 (by decide) (fun c1 => ?_) (fun c1 => ?_)
    · have h := ite_t h c1
      exact t_X8_countLevel_192 hx hR hKS hE hK11 h_a1 h
    · have h := ite_f h c1
      refine r_iload (k0 := 3) hx dX8_countLevel_94 rfl ?_
      refine r_if_le (tgt := 192) hx dX8_countLevel_96 (by decide) (fun c2 => ?_) (fun c2 => ?_)
      · have h := ite_t h c2
        exact t_X8_countLevel_192 hx hR hKS hE hK11 h_a1 h
      · have h := ite_f h c2
        refine r_iload (k0 := 4) hx dX8_countLevel_99 rfl ?_
        refine r_if_lt (tgt := 192) hx dX8_countLevel_101 (by decide) (fun c3 => ?_) (fun c3 => ?_)
        · have h := ite_t h c3
          exact t_X8_countLevel_192 hx hR hKS hE hK11 h_a1 h
        · have h := ite_f h c3
          refine r_aload_n (k0 := 0) hx dX8_countLevel_104 rfl rfl ?_
          refine g_388 hx (k_0_7 hKS) wf_X8_97 dX8_countLevel_105 ?_
          refine r_iload (k0 := 3) hx dX8_countLevel_108 rfl ?_
          refine r_iconst (v := 1) hx dX8_countLevel_110 (by decide) ?_
          refine r_isub hx dX8_countLevel_111 ?_
          obtain ⟨v4, e5, i6, h⟩ := gI_some h
          refine r_iald hx (k_1_388 hKS) rfl i6 e5 dX8_countLevel_112 ?_
          refine r_istore (lv' := [(9, .int v4), (0, .ref (x_ad x 0 7 0)), (1, .ref (x_ad x 1 a1 0)), (3, .int l3), (4, .int l4), (5, .int l5), (8, .int l8)]) hx dX8_countLevel_113 (by decide) rfl ?_
          refine r_iload (k0 := 0) hx dX8_countLevel_115 rfl ?_
          refine r_iconst (v := 1) hx dX8_countLevel_117 (by decide) ?_
          refine r_icmp_eq (tgt := 150) hx dX8_countLevel_118 (by decide) (fun c7 => ?_) (fun c7 => ?_)
          · have h := ite_t h c7
            refine WX.sub (lv' := [(0, .ref (x_ad x 0 7 0)), (1, .ref (x_ad x 1 a1 0)), (3, .int l3), (4, .int l4), (5, .int l5), (8, .int l8), (9, .int v4)]) ?_ [1, 2, 3, 4, 5, 6, 0] rfl
            exact t_X8_countLevel_150 hx hR hKS hE hK11 ih h_a1 h
          · have h := ite_f h c7
            refine r_aload_n (k0 := 1) hx dX8_countLevel_121 rfl rfl ?_
            refine g_389 hx (k_0_7 hKS) wf_X8_100 dX8_countLevel_122 ?_
            refine r_iload (k0 := 4) hx dX8_countLevel_125 rfl ?_
            refine r_iconst (v := 1) hx dX8_countLevel_127 (by decide) ?_
            refine r_isub hx dX8_countLevel_128 ?_
            obtain ⟨v8, e9, i10, h⟩ := gI_some h
            refine r_iald hx (k_1_389 hKS) rfl i10 e9 dX8_countLevel_129 ?_
            refine r_if_ge (tgt := 150) hx dX8_countLevel_130 (by decide) (fun c11 => ?_) (fun c11 => ?_)
            · have h := ite_t h c11
              refine WX.sub (lv' := [(0, .ref (x_ad x 0 7 0)), (1, .ref (x_ad x 1 a1 0)), (3, .int l3), (4, .int l4), (5, .int l5), (8, .int l8), (9, .int v4)]) ?_ [1, 2, 3, 4, 5, 6, 0] rfl
              exact t_X8_countLevel_150 hx hR hKS hE hK11 ih h_a1 h
            · have h := ite_f h c11
              refine r_aload_n (k0 := 1) hx dX8_countLevel_133 rfl rfl ?_
              refine g_389 hx (k_0_7 hKS) wf_X8_100 dX8_countLevel_134 ?_
              refine r_iload (k0 := 4) hx dX8_countLevel_137 rfl ?_
              refine r_iconst (v := 1) hx dX8_countLevel_139 (by decide) ?_
              refine r_isub hx dX8_countLevel_140 ?_
              refine r_iload (k0 := 5) hx dX8_countLevel_141 rfl ?_
              obtain ⟨S12, e13, i14, h⟩ := pI_some h
              refine r_iast hx (k_1_389 hKS) rfl i14 e13 dX8_countLevel_143 ?_
              refine r_iconst (v := 0) hx dX8_countLevel_144 (by decide) ?_
              refine r_istore (lv' := [(8, .int 0), (9, .int v4), (0, .ref (x_ad x 0 7 0)), (1, .ref (x_ad x 1 a1 0)), (3, .int l3), (4, .int l4), (5, .int l5)]) hx dX8_countLevel_145 (by decide) rfl ?_
              refine r_goto (tgt := 189) hx dX8_countLevel_147 (by decide) ?_
              refine r_goto (tgt := 89) hx dX8_countLevel_189 (by decide) ?_
              refine WX.sub (lv' := [(0, .ref (x_ad x 0 7 0)), (1, .ref (x_ad x 1 a1 0)), (3, .int l3), (4, .int l4), (5, .int l5), (8, .int 0)]) ?_ [2, 3, 4, 5, 6, 0] rfl
              exact ih h_a1 h
set_option maxRecDepth 100000 in
set_option maxHeartbeats 4000000 in
theorem t_X8_countLevel_84 {n : Nat} {K11 : St → Nat → Int32 → Int32 → Int32 → Int32 → Option (St × Int32)} {x : XC} (hx : CX x cX8_countLevel 10 RX8) (hR : x_R x = rm_X8_countLevel) (hKS : ∀ k ∈ KM, k ∈ x_K x) {out : St × Int32} (hE : EI x cX8_countLevel out) (hK11 : ∀ {S : St} {a1 : Nat} {l3 : Int32} {l4 : Int32} {l5 : Int32} {l6 : Int32} (_ : (1, a1, 0) ∈ KM), K11 S a1 l3 l4 l5 l6 = some out → WX x 10 0 0 S 11 [(0, .ref (x_ad x 0 7 0)), (1, .ref (x_ad x 1 a1 0)), (3, .int l3), (4, .int l4), (5, .int l5), (6, .int l6)] []) {S : St} {a1 : Nat} {l3 : Int32} {l4 : Int32} {s0 : Int32} (h_a1 : (1, a1, 0) ∈ KM) (h : j_X8_countLevel_84 n K11 S a1 l3 l4 s0 = some out) : WX x 10 0 0 S 84 [(0, .ref (x_ad x 0 7 0)), (1, .ref (x_ad x 1 a1 0)), (3, .int l3), (4, .int l4)] [.int s0] := by
  unfold j_X8_countLevel_84 at h
  refine r_istore (lv' := [(5, .int s0), (0, .ref (x_ad x 0 7 0)), (1, .ref (x_ad x 1 a1 0)), (3, .int l3), (4, .int l4)]) hx dX8_countLevel_84 (by decide) rfl ?_
  refine r_iconst (v := 1) hx dX8_countLevel_86 (by decide) ?_
  refine r_istore (lv' := [(8, .int 1), (5, .int s0), (0, .ref (x_ad x 0 7 0)), (1, .ref (x_ad x 1 a1 0)), (3, .int l3), (4, .int l4)]) hx dX8_countLevel_87 (by decide) rfl ?_
  refine WX.sub (lv' := [(0, .ref (x_ad x 0 7 0)), (1, .ref (x_ad x 1 a1 0)), (3, .int l3), (4, .int l4), (5, .int s0), (8, .int 1)]) ?_ [2, 3, 4, 5, 1, 0] rfl
  exact t_X8_countLevel_89 hx hR hKS hE hK11 h_a1 h
set_option maxRecDepth 100000 in
set_option maxHeartbeats 4000000 in
theorem t_X8_countLevel_11 {n : Nat} {x : XC} (hx : CX x cX8_countLevel 10 RX8) (hR : x_R x = rm_X8_countLevel) (hKS : ∀ k ∈ KM, k ∈ x_K x) {out : St × Int32} (hE : EI x cX8_countLevel out) : ∀ {m : Nat} {S : St} {a1 : Nat} {l3 : Int32} {l4 : Int32} {l5 : Int32} {l6 : Int32} (h_a1 : (1, a1, 0) ∈ KM) (h : l_X8_countLevel_11 n m S a1 l3 l4 l5 l6 = some out), WX x 10 0 0 S 11 [(0, .ref (x_ad x 0 7 0)), (1, .ref (x_ad x 1 a1 0)), (3, .int l3), (4, .int l4), (5, .int l5), (6, .int l6)] [] := by
  intro m
  induction m with
  | zero => intro S a1 l3 l4 l5 l6 h_a1 h; cases h
  | succ m ih =>
    intro S a1 l3 l4 l5 l6 h_a1 h
    unfold l_X8_countLevel_11 at h
    refine r_iload (k0 := 5) hx dX8_countLevel_11 rfl ?_
    refine r_if_eq (tgt := 212) hx dX8_countLevel_13 (by decide) (fun c1 => ?_) (fun c1 => ?_)
    · have h := ite_t h c1
      refine r_aload_n (k0 := 0) hx dX8_countLevel_212 rfl rfl ?_
      refine r_iload_n (k0 := 2) hx dX8_countLevel_213 rfl rfl ?_
      obtain ⟨S2, e3, h⟩ := pS_some h
      refine p_387 hx (k_0_7 hKS) wf_X8_273 dX8_countLevel_214 e3 ?_
      refine r_iload (k0 := 4) hx dX8_countLevel_217 rfl ?_
      exact r_iret hE h dX8_countLevel_219
    · have h := ite_f h c1
      refine r_aload_n (k0 := 1) hx dX8_countLevel_16 rfl rfl ?_
      refine r_iload_n (k0 := 2) hx dX8_countLevel_17 rfl rfl ?_
      obtain ⟨v4, e5, i6, h⟩ := gI_some h
      refine r_iald hx (hKS _ h_a1) rfl i6 e5 dX8_countLevel_18 ?_
      refine r_istore (lv' := [(7, .int v4), (0, .ref (x_ad x 0 7 0)), (1, .ref (x_ad x 1 a1 0)), (3, .int l3), (4, .int l4), (5, .int l5), (6, .int l6)]) hx dX8_countLevel_19 (by decide) rfl ?_
      obtain ⟨v7, e8, h⟩ := bV_some h
      refine r_iinc (k := 3) (v := v7) (lv' := [(3, .int v7), (7, .int v4), (0, .ref (x_ad x 0 7 0)), (1, .ref (x_ad x 1 a1 0)), (4, .int l4), (5, .int l5), (6, .int l6)]) hx dX8_countLevel_21 rfl (by rw [e8]; rfl) (by decide) rfl ?_
      refine r_iload (k0 := 1) hx dX8_countLevel_24 rfl ?_
      refine r_iconst (v := 1) hx dX8_countLevel_26 (by decide) ?_
      refine r_icmp_eq (tgt := 42) hx dX8_countLevel_27 (by decide) (fun c9 => ?_) (fun c9 => ?_)
      · have h := ite_t h c9
        refine WX.sub (lv' := [(0, .ref (x_ad x 0 7 0)), (1, .ref (x_ad x 1 a1 0)), (3, .int v7), (4, .int l4), (5, .int l5), (6, .int l6), (7, .int v4)]) ?_ [2, 3, 0, 4, 5, 6, 1] rfl
        exact t_X8_countLevel_42 hx hR hKS hE ih h_a1 h
      · have h := ite_f h c9
        refine r_iload (k0 := 1) hx dX8_countLevel_30 rfl ?_
        refine r_iconst (v := 2) hx dX8_countLevel_32 (by decide) ?_
        refine r_icmp_eq (tgt := 42) hx dX8_countLevel_33 (by decide) (fun c10 => ?_) (fun c10 => ?_)
        · have h := ite_t h c10
          refine WX.sub (lv' := [(0, .ref (x_ad x 0 7 0)), (1, .ref (x_ad x 1 a1 0)), (3, .int v7), (4, .int l4), (5, .int l5), (6, .int l6), (7, .int v4)]) ?_ [2, 3, 0, 4, 5, 6, 1] rfl
          exact t_X8_countLevel_42 hx hR hKS hE ih h_a1 h
        · have h := ite_f h c10
          refine r_iload (k0 := 1) hx dX8_countLevel_36 rfl ?_
          refine r_iconst (v := 3) hx dX8_countLevel_38 (by decide) ?_
          refine r_icmp_ne (tgt := 65) hx dX8_countLevel_39 (by decide) (fun c11 => ?_) (fun c11 => ?_)
          · have h := ite_f h c11
            refine r_iload (k0 := 1) hx dX8_countLevel_65 rfl ?_
            refine r_if_ne (tgt := 74) hx dX8_countLevel_67 (by decide) (fun c12 => ?_) (fun c12 => ?_)
            · have h := ite_f h c12
              refine r_aload_n (k0 := 2) hx dX8_countLevel_74 rfl rfl ?_
              refine r_iconst (v := 4) hx dX8_countLevel_75 (by decide) ?_
              refine r_iload (k0 := 1) hx dX8_countLevel_76 rfl ?_
              refine r_iconst (v := 4) hx dX8_countLevel_78 (by decide) ?_
              refine r_isub hx dX8_countLevel_79 ?_
              refine r_iconst (v := -1) hx dX8_countLevel_80 (by decide) ?_
              obtain ⟨S13, v15, c14, h⟩ := bI_some h
              refine r_Vi (ci := 7) (As := [.int 4, .int (v4 - 4), .int (-1)]) (rest := []) hx (C_X8_numberOfLevel (c := x_y x) hKS c14) (k_0_7 hKS) rfl wl_X8_127 wi_X8_numberOfLevel we_X8_numberOfLevel wn_X8 wc_X8_numberOfLevel dy_X8_numberOfLevel rfl (by rw [hR]; decide +kernel) rfl (Nat.le_of_ble_eq_true rfl) dX8_countLevel_81 ?_
              refine WX.sub (lv' := [(0, .ref (x_ad x 0 7 0)), (1, .ref (x_ad x 1 a1 0)), (3, .int v7), (4, .int l4)]) ?_ [2, 3, 0, 4] rfl
              exact t_X8_countLevel_84 hx hR hKS hE ih h_a1 h
            · have h := ite_t h c12
              refine r_iconst (v := 0) hx dX8_countLevel_70 (by decide) ?_
              refine r_goto (tgt := 84) hx dX8_countLevel_71 (by decide) ?_
              refine WX.sub (lv' := [(0, .ref (x_ad x 0 7 0)), (1, .ref (x_ad x 1 a1 0)), (3, .int v7), (4, .int l4)]) ?_ [2, 3, 0, 4] rfl
              exact t_X8_countLevel_84 hx hR hKS hE ih h_a1 h
          · have h := ite_t h c11
            refine WX.sub (lv' := [(0, .ref (x_ad x 0 7 0)), (1, .ref (x_ad x 1 a1 0)), (3, .int v7), (4, .int l4), (5, .int l5), (6, .int l6), (7, .int v4)]) ?_ [2, 3, 0, 4, 5, 6, 1] rfl
            exact t_X8_countLevel_42 hx hR hKS hE ih h_a1 h
set_option maxRecDepth 100000 in
set_option maxHeartbeats 4000000 in
theorem t_X8_countLevel_0 {n : Nat} {x : XC} (hx : CX x cX8_countLevel 10 RX8) (hR : x_R x = rm_X8_countLevel) (hKS : ∀ k ∈ KM, k ∈ x_K x) {out : St × Int32} (hE : EI x cX8_countLevel out) {S : St} {a1 : Nat} {a2 : Int32} (h_a1 : (1, a1, 0) ∈ KM) (h : f_X8_countLevel n S a1 a2 = some out) : WX x 10 0 0 S 0 [(0, .ref (x_ad x 0 7 0)), (1, .ref (x_ad x 1 a1 0)), (2, .int a2)] [] := by
  unfold f_X8_countLevel at h
  refine r_iload_n (k0 := 2) hx dX8_countLevel_0 rfl rfl ?_
  refine r_istore_n (lv' := [(3, .int a2), (0, .ref (x_ad x 0 7 0)), (1, .ref (x_ad x 1 a1 0)), (2, .int a2)]) hx dX8_countLevel_1 rfl (by decide) rfl ?_
  refine r_iconst (v := 0) hx dX8_countLevel_2 (by decide) ?_
  refine r_istore (lv' := [(4, .int 0), (3, .int a2), (0, .ref (x_ad x 0 7 0)), (1, .ref (x_ad x 1 a1 0)), (2, .int a2)]) hx dX8_countLevel_3 (by decide) rfl ?_
  refine r_iconst (v := -1) hx dX8_countLevel_5 (by decide) ?_
  refine r_istore (lv' := [(5, .int (-1)), (4, .int 0), (3, .int a2), (0, .ref (x_ad x 0 7 0)), (1, .ref (x_ad x 1 a1 0)), (2, .int a2)]) hx dX8_countLevel_6 (by decide) rfl ?_
  refine r_iconst (v := 1) hx dX8_countLevel_8 (by decide) ?_
  refine r_istore (lv' := [(6, .int 1), (5, .int (-1)), (4, .int 0), (3, .int a2), (0, .ref (x_ad x 0 7 0)), (1, .ref (x_ad x 1 a1 0)), (2, .int a2)]) hx dX8_countLevel_9 (by decide) rfl ?_
  refine WX.sub (lv' := [(0, .ref (x_ad x 0 7 0)), (1, .ref (x_ad x 1 a1 0)), (3, .int a2), (4, .int 0), (5, .int (-1)), (6, .int 1)]) ?_ [4, 5, 3, 2, 1, 0] rfl
  exact t_X8_countLevel_11 hx hR hKS hE h_a1 h
set_option maxHeartbeats 4000000 in
theorem C_X8_countLevel {n : Nat} {c : YC} (hKS : ∀ k ∈ KM, k ∈ c.2.2.2.2) {S : St} {a1 : Nat} {a2 : Int32} {out : St × Int32} (h_a1 : (1, a1, 0) ∈ KM) (h : f_X8_countLevel n S a1 a2 = some out) : MI c yX8_countLevel cX8_countLevel 10 (some .int) rm_X8_countLevel S [.ref (c.2.2.1 0 7 0), .ref (c.2.2.1 1 a1 0), .int a2] out := mk_I (own := RX8) (by decide +kernel) rfl (Nat.le_of_ble_eq_true rfl) (fun x hx hR hy hE => by subst hy; exact t_X8_countLevel_0 hx hR hKS hE h_a1 h)
def j_X8_countSingle_51 (n : Nat) (S : St) (l3 : Int32) : Option (St × Int32) :=
  if 0 ≤ l3 then
    bI (f_X8_numberOfTerm n S 0 l3 (-1) (-1)) fun S2 v4 =>
    some (S2, v4)
  else
    some (S, (-1))
def j_X8_countSingle_37 (n : Nat) (S : St) (a1 : Nat) (l2 : Int32) (s0 : Int32) : Option (St × Int32) :=
  bI (f_X8_countLevel n S a1 s0) fun S1 v3 =>
  if v3 < 0 then
    j_X8_countSingle_51 n S1 v3
  else
    gI S1 a1 0 l2 (ln a1) fun v5 =>
    if v5 = 0 then
      j_X8_countSingle_51 n S1 v3
    else
      bI (f_X8_countLevel n S1 a1 (S1.1 387 0)) fun S9 v11 =>
      if 0 ≤ v11 then
        gI S9 a1 0 (l2 + 1) (ln a1) fun v13 =>
        bI (f_X8_numberOfTerm n S9 2 v13 v3 v11) fun S16 v18 =>
        some (S16, v18)
      else
        some (S9, (-1))
def f_X8_countSingle (n : Nat) (S : St) (a1 : Nat) (a2 : Int32) : Option (St × Int32) :=
  gI S a1 0 a2 (ln a1) fun v1 =>
  if v1 = 1 then
    gI S a1 0 (a2 + 1) (ln a1) fun v9 =>
    bI (f_X8_numberOfTerm n S 1 v9 (-1) (-1)) fun S12 v14 =>
    some (S12, v14)
  else
    gI S a1 0 a2 (ln a1) fun v5 =>
    if v5 = 0 then
      j_X8_countSingle_37 n S a1 a2 (a2 + 1)
    else
      j_X8_countSingle_37 n S a1 a2 (a2 + 2)
set_option maxRecDepth 100000 in
set_option maxHeartbeats 4000000 in
theorem t_X8_countSingle_51 {n : Nat} {x : XC} (hx : CX x cX8_countSingle 5 RX8) (hR : x_R x = rm_X8_countSingle) (hKS : ∀ k ∈ KM, k ∈ x_K x) {out : St × Int32} (hE : EI x cX8_countSingle out) {S : St} {l3 : Int32} (h : j_X8_countSingle_51 n S l3 = some out) : WX x 5 0 0 S 51 [(0, .ref (x_ad x 0 7 0)), (3, .int l3)] [] := by
  unfold j_X8_countSingle_51 at h
  refine r_iload_n (k0 := 1) hx dX8_countSingle_51 rfl rfl ?_
  refine r_if_ge (tgt := 59) hx dX8_countSingle_52 (by decide) (fun c1 => ?_) (fun c1 => ?_)
  · have h := ite_t h c1
    refine r_aload_n (k0 := 0) hx dX8_countSingle_59 rfl rfl ?_
    refine r_iconst (v := 0) hx dX8_countSingle_60 (by decide) ?_
    refine r_iload_n (k0 := 1) hx dX8_countSingle_61 rfl rfl ?_
    refine r_iconst (v := -1) hx dX8_countSingle_62 (by decide) ?_
    refine r_iconst (v := -1) hx dX8_countSingle_63 (by decide) ?_
    obtain ⟨S2, v4, c3, h⟩ := bI_some h
    refine r_Vi (ci := 7) (As := [.int 0, .int l3, .int (-1), .int (-1)]) (rest := []) hx (C_X8_numberOfTerm (c := x_y x) hKS c3) (k_0_7 hKS) rfl wl_X8_131 wi_X8_numberOfTerm we_X8_numberOfTerm wn_X8 wc_X8_numberOfTerm dy_X8_numberOfTerm rfl (by rw [hR]; decide +kernel) rfl (Nat.le_of_ble_eq_true rfl) dX8_countSingle_64 ?_
    exact r_iret hE h dX8_countSingle_67
  · have h := ite_f h c1
    refine r_iconst (v := -1) hx dX8_countSingle_55 (by decide) ?_
    refine r_goto (tgt := 67) hx dX8_countSingle_56 (by decide) ?_
    exact r_iret hE h dX8_countSingle_67
set_option maxRecDepth 100000 in
set_option maxHeartbeats 4000000 in
theorem t_X8_countSingle_37 {n : Nat} {x : XC} (hx : CX x cX8_countSingle 5 RX8) (hR : x_R x = rm_X8_countSingle) (hKS : ∀ k ∈ KM, k ∈ x_K x) {out : St × Int32} (hE : EI x cX8_countSingle out) {S : St} {a1 : Nat} {l2 : Int32} {s0 : Int32} (h_a1 : (1, a1, 0) ∈ KM) (h : j_X8_countSingle_37 n S a1 l2 s0 = some out) : WX x 5 0 0 S 37 [(0, .ref (x_ad x 0 7 0)), (1, .ref (x_ad x 1 a1 0)), (2, .int l2)] [.int s0, .ref (x_ad x 1 a1 0), .ref (x_ad x 0 7 0)] := by
  unfold j_X8_countSingle_37 at h
  obtain ⟨S1, v3, c2, h⟩ := bI_some h
  refine r_Vi (ci := 7) (As := [.ref (x_ad x 1 a1 0), .int s0]) (rest := []) hx (C_X8_countLevel (c := x_y x) hKS h_a1 c2) (k_0_7 hKS) rfl wl_X8_279 wi_X8_countLevel we_X8_countLevel wn_X8 wc_X8_countLevel dy_X8_countLevel rfl (by rw [hR]; decide +kernel) rfl (Nat.le_of_ble_eq_true rfl) dX8_countSingle_37 ?_
  refine r_istore_n (lv' := [(3, .int v3), (0, .ref (x_ad x 0 7 0)), (1, .ref (x_ad x 1 a1 0)), (2, .int l2)]) hx dX8_countSingle_40 rfl (by decide) rfl ?_
  refine r_iload_n (k0 := 0) hx dX8_countSingle_41 rfl rfl ?_
  refine r_if_lt (tgt := 51) hx dX8_countSingle_42 (by decide) (fun c4 => ?_) (fun c4 => ?_)
  · have h := ite_t h c4
    refine WX.sub (lv' := [(0, .ref (x_ad x 0 7 0)), (3, .int v3)]) ?_ [1, 0] rfl
    exact t_X8_countSingle_51 hx hR hKS hE h
  · have h := ite_f h c4
    refine r_aload_n (k0 := 2) hx dX8_countSingle_45 rfl rfl ?_
    refine r_iload_n (k0 := 3) hx dX8_countSingle_46 rfl rfl ?_
    obtain ⟨v5, e6, i7, h⟩ := gI_some h
    refine r_iald hx (hKS _ h_a1) rfl i7 e6 dX8_countSingle_47 ?_
    refine r_if_ne (tgt := 68) hx dX8_countSingle_48 (by decide) (fun c8 => ?_) (fun c8 => ?_)
    · have h := ite_f h c8
      refine r_aload_n (k0 := 1) hx dX8_countSingle_68 rfl rfl ?_
      refine r_aload_n (k0 := 2) hx dX8_countSingle_69 rfl rfl ?_
      refine r_aload_n (k0 := 1) hx dX8_countSingle_70 rfl rfl ?_
      refine g_387 hx (k_0_7 hKS) wf_X8_273 dX8_countSingle_71 ?_
      obtain ⟨S9, v11, c10, h⟩ := bI_some h
      refine r_Vi (ci := 7) (As := [.ref (x_ad x 1 a1 0), .int (S1.1 387 0)]) (rest := []) hx (C_X8_countLevel (c := x_y x) hKS h_a1 c10) (k_0_7 hKS) rfl wl_X8_279 wi_X8_countLevel we_X8_countLevel wn_X8 wc_X8_countLevel dy_X8_countLevel rfl (by rw [hR]; decide +kernel) rfl (Nat.le_of_ble_eq_true rfl) dX8_countSingle_74 ?_
      refine r_istore (lv' := [(4, .int v11), (3, .int v3), (0, .ref (x_ad x 0 7 0)), (1, .ref (x_ad x 1 a1 0)), (2, .int l2)]) hx dX8_countSingle_77 (by decide) rfl ?_
      refine r_iload (k0 := 0) hx dX8_countSingle_79 rfl ?_
      refine r_if_ge (tgt := 88) hx dX8_countSingle_81 (by decide) (fun c12 => ?_) (fun c12 => ?_)
      · have h := ite_t h c12
        refine r_aload_n (k0 := 2) hx dX8_countSingle_88 rfl rfl ?_
        refine r_iconst (v := 2) hx dX8_countSingle_89 (by decide) ?_
        refine r_aload_n (k0 := 3) hx dX8_countSingle_90 rfl rfl ?_
        refine r_iload_n (k0 := 4) hx dX8_countSingle_91 rfl rfl ?_
        refine r_iconst (v := 1) hx dX8_countSingle_92 (by decide) ?_
        refine r_iadd hx dX8_countSingle_93 ?_
        obtain ⟨v13, e14, i15, h⟩ := gI_some h
        refine r_iald hx (hKS _ h_a1) rfl i15 e14 dX8_countSingle_94 ?_
        refine r_iload_n (k0 := 1) hx dX8_countSingle_95 rfl rfl ?_
        refine r_iload (k0 := 0) hx dX8_countSingle_96 rfl ?_
        obtain ⟨S16, v18, c17, h⟩ := bI_some h
        refine r_Vi (ci := 7) (As := [.int 2, .int v13, .int v3, .int v11]) (rest := []) hx (C_X8_numberOfTerm (c := x_y x) hKS c17) (k_0_7 hKS) rfl wl_X8_131 wi_X8_numberOfTerm we_X8_numberOfTerm wn_X8 wc_X8_numberOfTerm dy_X8_numberOfTerm rfl (by rw [hR]; decide +kernel) rfl (Nat.le_of_ble_eq_true rfl) dX8_countSingle_98 ?_
        exact r_iret hE h dX8_countSingle_101
      · have h := ite_f h c12
        refine r_iconst (v := -1) hx dX8_countSingle_84 (by decide) ?_
        refine r_goto (tgt := 101) hx dX8_countSingle_85 (by decide) ?_
        exact r_iret hE h dX8_countSingle_101
    · have h := ite_t h c8
      refine WX.sub (lv' := [(0, .ref (x_ad x 0 7 0)), (3, .int v3)]) ?_ [1, 0] rfl
      exact t_X8_countSingle_51 hx hR hKS hE h
set_option maxRecDepth 100000 in
set_option maxHeartbeats 4000000 in
theorem t_X8_countSingle_0 {n : Nat} {x : XC} (hx : CX x cX8_countSingle 5 RX8) (hR : x_R x = rm_X8_countSingle) (hKS : ∀ k ∈ KM, k ∈ x_K x) {out : St × Int32} (hE : EI x cX8_countSingle out) {S : St} {a1 : Nat} {a2 : Int32} (h_a1 : (1, a1, 0) ∈ KM) (h : f_X8_countSingle n S a1 a2 = some out) : WX x 5 0 0 S 0 [(0, .ref (x_ad x 0 7 0)), (1, .ref (x_ad x 1 a1 0)), (2, .int a2)] [] := by
  unfold f_X8_countSingle at h
  refine r_aload_n (k0 := 1) hx dX8_countSingle_0 rfl rfl ?_
  refine r_iload_n (k0 := 2) hx dX8_countSingle_1 rfl rfl ?_
  obtain ⟨v1, e2, i3, h⟩ := gI_some h
  refine r_iald hx (hKS _ h_a1) rfl i3 e2 dX8_countSingle_2 ?_
  refine r_iconst (v := 1) hx dX8_countSingle_3 (by decide) ?_
  refine r_icmp_ne (tgt := 20) hx dX8_countSingle_4 (by decide) (fun c4 => ?_) (fun c4 => ?_)
  · have h := ite_f h c4
    refine r_aload_n (k0 := 0) hx dX8_countSingle_20 rfl rfl ?_
    refine r_aload_n (k0 := 1) hx dX8_countSingle_21 rfl rfl ?_
    refine r_aload_n (k0 := 1) hx dX8_countSingle_22 rfl rfl ?_
    refine r_iload_n (k0 := 2) hx dX8_countSingle_23 rfl rfl ?_
    obtain ⟨v5, e6, i7, h⟩ := gI_some h
    refine r_iald hx (hKS _ h_a1) rfl i7 e6 dX8_countSingle_24 ?_
    refine r_if_ne (tgt := 34) hx dX8_countSingle_25 (by decide) (fun c8 => ?_) (fun c8 => ?_)
    · have h := ite_f h c8
      refine r_iload_n (k0 := 2) hx dX8_countSingle_34 rfl rfl ?_
      refine r_iconst (v := 2) hx dX8_countSingle_35 (by decide) ?_
      refine r_iadd hx dX8_countSingle_36 ?_
      exact t_X8_countSingle_37 hx hR hKS hE h_a1 h
    · have h := ite_t h c8
      refine r_iload_n (k0 := 2) hx dX8_countSingle_28 rfl rfl ?_
      refine r_iconst (v := 1) hx dX8_countSingle_29 (by decide) ?_
      refine r_iadd hx dX8_countSingle_30 ?_
      refine r_goto (tgt := 37) hx dX8_countSingle_31 (by decide) ?_
      exact t_X8_countSingle_37 hx hR hKS hE h_a1 h
  · have h := ite_t h c4
    refine r_aload_n (k0 := 0) hx dX8_countSingle_7 rfl rfl ?_
    refine r_iconst (v := 1) hx dX8_countSingle_8 (by decide) ?_
    refine r_aload_n (k0 := 1) hx dX8_countSingle_9 rfl rfl ?_
    refine r_iload_n (k0 := 2) hx dX8_countSingle_10 rfl rfl ?_
    refine r_iconst (v := 1) hx dX8_countSingle_11 (by decide) ?_
    refine r_iadd hx dX8_countSingle_12 ?_
    obtain ⟨v9, e10, i11, h⟩ := gI_some h
    refine r_iald hx (hKS _ h_a1) rfl i11 e10 dX8_countSingle_13 ?_
    refine r_iconst (v := -1) hx dX8_countSingle_14 (by decide) ?_
    refine r_iconst (v := -1) hx dX8_countSingle_15 (by decide) ?_
    obtain ⟨S12, v14, c13, h⟩ := bI_some h
    refine r_Vi (ci := 7) (As := [.int 1, .int v9, .int (-1), .int (-1)]) (rest := []) hx (C_X8_numberOfTerm (c := x_y x) hKS c13) (k_0_7 hKS) rfl wl_X8_131 wi_X8_numberOfTerm we_X8_numberOfTerm wn_X8 wc_X8_numberOfTerm dy_X8_numberOfTerm rfl (by rw [hR]; decide +kernel) rfl (Nat.le_of_ble_eq_true rfl) dX8_countSingle_16 ?_
    exact r_iret hE h dX8_countSingle_19
set_option maxHeartbeats 4000000 in
theorem C_X8_countSingle {n : Nat} {c : YC} (hKS : ∀ k ∈ KM, k ∈ c.2.2.2.2) {S : St} {a1 : Nat} {a2 : Int32} {out : St × Int32} (h_a1 : (1, a1, 0) ∈ KM) (h : f_X8_countSingle n S a1 a2 = some out) : MI c yX8_countSingle cX8_countSingle 5 (some .int) rm_X8_countSingle S [.ref (c.2.2.1 0 7 0), .ref (c.2.2.1 1 a1 0), .int a2] out := mk_I (own := RX8) (by decide +kernel) rfl (Nat.le_of_ble_eq_true rfl) (fun x hx hR hy hE => by subst hy; exact t_X8_countSingle_0 hx hR hKS hE h_a1 h)
def j_X8_countTerm_208 (n : Nat) (K11 : St → Nat → Int32 → Int32 → Int32 → Int32 → Option (St × Int32)) (K70 : St → Nat → Int32 → Int32 → Int32 → Int32 → Option (St × Int32)) (S : St) (a1 : Nat) (l3 : Int32) (l4 : Int32) (l8 : Int32) (s0 : Int32) (s1 : Int32) (s2 : Int32) (s3 : Int32) : Option (St × Int32) :=
  bI (f_X8_numberOfTerm n S s3 s2 s1 s0) fun S1 v3 =>
  bV (l4 + (-1)) fun v4 =>
  K70 S1 a1 l3 v4 v3 l8
def j_X8_countTerm_146 (n : Nat) (K11 : St → Nat → Int32 → Int32 → Int32 → Int32 → Option (St × Int32)) (K70 : St → Nat → Int32 → Int32 → Int32 → Int32 → Option (St × Int32)) (S : St) (a1 : Nat) (l3 : Int32) (l4 : Int32) (l5 : Int32) (l9 : Int32) (s0 : Int32) : Option (St × Int32) :=
  if s0 = 0 then
    K70 S a1 l3 l4 l5 s0
  else
    gI S 384 0 l9 300 fun v2 =>
    gI S 386 0 (3 * l9) 900 fun v5 =>
    gI S 386 0 ((3 * l9) + 1) 900 fun v8 =>
    gI S 384 0 l9 300 fun v11 =>
    if v11 = 6 then
      gI S 386 0 ((3 * l9) + 2) 900 fun v15 =>
      j_X8_countTerm_208 n K11 K70 S a1 l3 l4 s0 v15 v8 v5 v2
    else
      j_X8_countTerm_208 n K11 K70 S a1 l3 l4 s0 (-1) v8 v5 v2
def j_X8_countTerm_234 (n : Nat) (K11 : St → Nat → Int32 → Int32 → Int32 → Int32 → Option (St × Int32)) (S : St) (a1 : Nat) (l3 : Int32) (l4 : Int32) (l5 : Int32) (s0 : Int32) : Option (St × Int32) :=
  K11 S a1 l3 l4 l5 s0
def j_X8_countTerm_233 (n : Nat) (K11 : St → Nat → Int32 → Int32 → Int32 → Int32 → Option (St × Int32)) (S : St) (a1 : Nat) (l3 : Int32) (l4 : Int32) (l5 : Int32) : Option (St × Int32) :=
  j_X8_countTerm_234 n K11 S a1 l3 l4 l5 0
def j_X8_countTerm_219 (n : Nat) (K11 : St → Nat → Int32 → Int32 → Int32 → Int32 → Option (St × Int32)) (S : St) (a1 : Nat) (l3 : Int32) (l4 : Int32) (l5 : Int32) (l8 : Int32) : Option (St × Int32) :=
  if l5 < 0 then
    j_X8_countTerm_233 n K11 S a1 l3 l4 l5
  else
    if l8 = 0 then
      j_X8_countTerm_234 n K11 S a1 l3 l4 l5 1
    else
      j_X8_countTerm_233 n K11 S a1 l3 l4 l5
def l_X8_countTerm_70 (n : Nat) (K11 : St → Nat → Int32 → Int32 → Int32 → Int32 → Option (St × Int32)) : Nat → St → Nat → Int32 → Int32 → Int32 → Int32 → Option (St × Int32)
  | 0, _, _, _, _, _, _ => none
  | m + 1, S, a1, l3, l4, l5, l8 =>
    if l8 = 0 then
      j_X8_countTerm_219 n K11 S a1 l3 l4 l5 l8
    else
      if l4 ≤ 0 then
        j_X8_countTerm_219 n K11 S a1 l3 l4 l5 l8
      else
        if l5 < 0 then
          j_X8_countTerm_219 n K11 S a1 l3 l4 l5 l8
        else
          bV (l4 - 1) fun v4 =>
          gI S 385 0 v4 300 fun v6 =>
          pI S 386 0 ((3 * v4) + v6) 900 l5 fun S9 =>
          gI S9 385 0 v4 300 fun v12 =>
          pI S9 385 0 v4 300 (v12 + 1) fun S15 =>
          gI S15 385 0 v4 300 fun v18 =>
          gI S15 384 0 v4 300 fun v21 =>
          bI (f_X8_partsOf n S15 v21) fun S24 v26 =>
          if v18 = v26 then
            j_X8_countTerm_146 n K11 (fun S a1 l3 l4 l5 l8 => l_X8_countTerm_70 n K11 m S a1 l3 l4 l5 l8) S24 a1 l3 l4 l5 v4 1
          else
            j_X8_countTerm_146 n K11 (fun S a1 l3 l4 l5 l8 => l_X8_countTerm_70 n K11 m S a1 l3 l4 l5 l8) S24 a1 l3 l4 l5 v4 0
def l_X8_countTerm_11 (n : Nat) : Nat → St → Nat → Int32 → Int32 → Int32 → Int32 → Option (St × Int32)
  | 0, _, _, _, _, _, _ => none
  | m + 1, S, a1, l3, l4, l5, l6 =>
    if l6 = 0 then
      some (S, l5)
    else
      gI S a1 0 l3 (ln a1) fun v2 =>
      if v2 < 3 then
        bI (f_X8_countSingle n S a1 l3) fun S6 v8 =>
        bI (f_X8_behindToken n S6 a1 l3) fun S9 v11 =>
        l_X8_countTerm_70 n (fun S a1 l3 l4 l5 l6 => l_X8_countTerm_11 n m S a1 l3 l4 l5 l6) n S9 a1 v11 l4 v8 1
      else
        pI S 384 0 l4 300 v2 fun S12 =>
        pI S12 385 0 l4 300 0 fun S15 =>
        bV (l4 + 1) fun v18 =>
        bV (l3 + 1) fun v20 =>
        l_X8_countTerm_11 n m S15 a1 v20 v18 l5 l6
def f_X8_countTerm (n : Nat) (S : St) (a1 : Nat) (a2 : Int32) : Option (St × Int32) :=
  l_X8_countTerm_11 n n S a1 a2 0 (-1) 1
set_option maxRecDepth 100000 in
set_option maxHeartbeats 4000000 in
theorem t_X8_countTerm_208 {n : Nat} {K11 : St → Nat → Int32 → Int32 → Int32 → Int32 → Option (St × Int32)} {K70 : St → Nat → Int32 → Int32 → Int32 → Int32 → Option (St × Int32)} {x : XC} (hx : CX x cX8_countTerm 10 RX8) (hR : x_R x = rm_X8_countTerm) (hKS : ∀ k ∈ KM, k ∈ x_K x) {out : St × Int32} (hE : EI x cX8_countTerm out) (hK11 : ∀ {S : St} {a1 : Nat} {l3 : Int32} {l4 : Int32} {l5 : Int32} {l6 : Int32} (_ : (1, a1, 0) ∈ KM), K11 S a1 l3 l4 l5 l6 = some out → WX x 10 0 0 S 11 [(0, .ref (x_ad x 0 7 0)), (1, .ref (x_ad x 1 a1 0)), (3, .int l3), (4, .int l4), (5, .int l5), (6, .int l6)] []) (hK70 : ∀ {S : St} {a1 : Nat} {l3 : Int32} {l4 : Int32} {l5 : Int32} {l8 : Int32} (_ : (1, a1, 0) ∈ KM), K70 S a1 l3 l4 l5 l8 = some out → WX x 10 0 0 S 70 [(0, .ref (x_ad x 0 7 0)), (1, .ref (x_ad x 1 a1 0)), (3, .int l3), (4, .int l4), (5, .int l5), (8, .int l8)] []) {S : St} {a1 : Nat} {l3 : Int32} {l4 : Int32} {l8 : Int32} {s0 : Int32} {s1 : Int32} {s2 : Int32} {s3 : Int32} (h_a1 : (1, a1, 0) ∈ KM) (h : j_X8_countTerm_208 n K11 K70 S a1 l3 l4 l8 s0 s1 s2 s3 = some out) : WX x 10 0 0 S 208 [(0, .ref (x_ad x 0 7 0)), (1, .ref (x_ad x 1 a1 0)), (3, .int l3), (4, .int l4), (8, .int l8)] [.int s0, .int s1, .int s2, .int s3, .ref (x_ad x 0 7 0)] := by
  unfold j_X8_countTerm_208 at h
  obtain ⟨S1, v3, c2, h⟩ := bI_some h
  refine r_Vi (ci := 7) (As := [.int s3, .int s2, .int s1, .int s0]) (rest := []) hx (C_X8_numberOfTerm (c := x_y x) hKS c2) (k_0_7 hKS) rfl wl_X8_131 wi_X8_numberOfTerm we_X8_numberOfTerm wn_X8 wc_X8_numberOfTerm dy_X8_numberOfTerm rfl (by rw [hR]; decide +kernel) rfl (Nat.le_of_ble_eq_true rfl) dX8_countTerm_208 ?_
  refine r_istore (lv' := [(5, .int v3), (0, .ref (x_ad x 0 7 0)), (1, .ref (x_ad x 1 a1 0)), (3, .int l3), (4, .int l4), (8, .int l8)]) hx dX8_countTerm_211 (by decide) rfl ?_
  obtain ⟨v4, e5, h⟩ := bV_some h
  refine r_iinc (k := 4) (v := v4) (lv' := [(4, .int v4), (5, .int v3), (0, .ref (x_ad x 0 7 0)), (1, .ref (x_ad x 1 a1 0)), (3, .int l3), (8, .int l8)]) hx dX8_countTerm_213 rfl (by rw [e5]; rfl) (by decide) rfl ?_
  refine r_goto (tgt := 70) hx dX8_countTerm_216 (by decide) ?_
  refine WX.sub (lv' := [(0, .ref (x_ad x 0 7 0)), (1, .ref (x_ad x 1 a1 0)), (3, .int l3), (4, .int v4), (5, .int v3), (8, .int l8)]) ?_ [2, 3, 4, 0, 1, 5] rfl
  exact hK70 h_a1 h
set_option maxRecDepth 100000 in
set_option maxHeartbeats 4000000 in
theorem t_X8_countTerm_146 {n : Nat} {K11 : St → Nat → Int32 → Int32 → Int32 → Int32 → Option (St × Int32)} {K70 : St → Nat → Int32 → Int32 → Int32 → Int32 → Option (St × Int32)} {x : XC} (hx : CX x cX8_countTerm 10 RX8) (hR : x_R x = rm_X8_countTerm) (hKS : ∀ k ∈ KM, k ∈ x_K x) {out : St × Int32} (hE : EI x cX8_countTerm out) (hK11 : ∀ {S : St} {a1 : Nat} {l3 : Int32} {l4 : Int32} {l5 : Int32} {l6 : Int32} (_ : (1, a1, 0) ∈ KM), K11 S a1 l3 l4 l5 l6 = some out → WX x 10 0 0 S 11 [(0, .ref (x_ad x 0 7 0)), (1, .ref (x_ad x 1 a1 0)), (3, .int l3), (4, .int l4), (5, .int l5), (6, .int l6)] []) (hK70 : ∀ {S : St} {a1 : Nat} {l3 : Int32} {l4 : Int32} {l5 : Int32} {l8 : Int32} (_ : (1, a1, 0) ∈ KM), K70 S a1 l3 l4 l5 l8 = some out → WX x 10 0 0 S 70 [(0, .ref (x_ad x 0 7 0)), (1, .ref (x_ad x 1 a1 0)), (3, .int l3), (4, .int l4), (5, .int l5), (8, .int l8)] []) {S : St} {a1 : Nat} {l3 : Int32} {l4 : Int32} {l5 : Int32} {l9 : Int32} {s0 : Int32} (h_a1 : (1, a1, 0) ∈ KM) (h : j_X8_countTerm_146 n K11 K70 S a1 l3 l4 l5 l9 s0 = some out) : WX x 10 0 0 S 146 [(0, .ref (x_ad x 0 7 0)), (1, .ref (x_ad x 1 a1 0)), (3, .int l3), (4, .int l4), (5, .int l5), (9, .int l9)] [.int s0] := by
  unfold j_X8_countTerm_146 at h
  refine r_istore (lv' := [(8, .int s0), (0, .ref (x_ad x 0 7 0)), (1, .ref (x_ad x 1 a1 0)), (3, .int l3), (4, .int l4), (5, .int l5), (9, .int l9)]) hx dX8_countTerm_146 (by decide) rfl ?_
  refine r_iload (k0 := 0) hx dX8_countTerm_148 rfl ?_
  refine r_if_eq (tgt := 216) hx dX8_countTerm_150 (by decide) (fun c1 => ?_) (fun c1 => ?_)
  · have h := ite_t h c1
    refine r_goto (tgt := 70) hx dX8_countTerm_216 (by decide) ?_
    refine WX.sub (lv' := [(0, .ref (x_ad x 0 7 0)), (1, .ref (x_ad x 1 a1 0)), (3, .int l3), (4, .int l4), (5, .int l5), (8, .int s0)]) ?_ [1, 2, 3, 4, 5, 0] rfl
    exact hK70 h_a1 h
  · have h := ite_f h c1
    refine r_aload_n (k0 := 1) hx dX8_countTerm_153 rfl rfl ?_
    refine r_aload_n (k0 := 1) hx dX8_countTerm_154 rfl rfl ?_
    refine g_384 hx (k_0_7 hKS) wf_X8_88 dX8_countTerm_155 ?_
    refine r_iload (k0 := 6) hx dX8_countTerm_158 rfl ?_
    obtain ⟨v2, e3, i4, h⟩ := gI_some h
    refine r_iald hx (k_1_384 hKS) rfl i4 e3 dX8_countTerm_160 ?_
    refine r_aload_n (k0 := 1) hx dX8_countTerm_161 rfl rfl ?_
    refine g_386 hx (k_0_7 hKS) wf_X8_94 dX8_countTerm_162 ?_
    refine r_iconst (v := 3) hx dX8_countTerm_165 (by decide) ?_
    refine r_iload (k0 := 6) hx dX8_countTerm_166 rfl ?_
    refine r_imul hx dX8_countTerm_168 ?_
    obtain ⟨v5, e6, i7, h⟩ := gI_some h
    refine r_iald hx (k_1_386 hKS) rfl i7 e6 dX8_countTerm_169 ?_
    refine r_aload_n (k0 := 1) hx dX8_countTerm_170 rfl rfl ?_
    refine g_386 hx (k_0_7 hKS) wf_X8_94 dX8_countTerm_171 ?_
    refine r_iconst (v := 3) hx dX8_countTerm_174 (by decide) ?_
    refine r_iload (k0 := 6) hx dX8_countTerm_175 rfl ?_
    refine r_imul hx dX8_countTerm_177 ?_
    refine r_iconst (v := 1) hx dX8_countTerm_178 (by decide) ?_
    refine r_iadd hx dX8_countTerm_179 ?_
    obtain ⟨v8, e9, i10, h⟩ := gI_some h
    refine r_iald hx (k_1_386 hKS) rfl i10 e9 dX8_countTerm_180 ?_
    refine r_aload_n (k0 := 1) hx dX8_countTerm_181 rfl rfl ?_
    refine g_384 hx (k_0_7 hKS) wf_X8_88 dX8_countTerm_182 ?_
    refine r_iload (k0 := 6) hx dX8_countTerm_185 rfl ?_
    obtain ⟨v11, e12, i13, h⟩ := gI_some h
    refine r_iald hx (k_1_384 hKS) rfl i13 e12 dX8_countTerm_187 ?_
    refine r_bipush (v := 6) hx dX8_countTerm_188 (by decide) ?_
    refine r_icmp_ne (tgt := 207) hx dX8_countTerm_190 (by decide) (fun c14 => ?_) (fun c14 => ?_)
    · have h := ite_f h c14
      refine r_iconst (v := -1) hx dX8_countTerm_207 (by decide) ?_
      refine WX.sub (lv' := [(0, .ref (x_ad x 0 7 0)), (1, .ref (x_ad x 1 a1 0)), (3, .int l3), (4, .int l4), (8, .int s0)]) ?_ [1, 2, 3, 4, 0] rfl
      exact t_X8_countTerm_208 hx hR hKS hE hK11 hK70 h_a1 h
    · have h := ite_t h c14
      refine r_aload_n (k0 := 1) hx dX8_countTerm_193 rfl rfl ?_
      refine g_386 hx (k_0_7 hKS) wf_X8_94 dX8_countTerm_194 ?_
      refine r_iconst (v := 3) hx dX8_countTerm_197 (by decide) ?_
      refine r_iload (k0 := 6) hx dX8_countTerm_198 rfl ?_
      refine r_imul hx dX8_countTerm_200 ?_
      refine r_iconst (v := 2) hx dX8_countTerm_201 (by decide) ?_
      refine r_iadd hx dX8_countTerm_202 ?_
      obtain ⟨v15, e16, i17, h⟩ := gI_some h
      refine r_iald hx (k_1_386 hKS) rfl i17 e16 dX8_countTerm_203 ?_
      refine r_goto (tgt := 208) hx dX8_countTerm_204 (by decide) ?_
      refine WX.sub (lv' := [(0, .ref (x_ad x 0 7 0)), (1, .ref (x_ad x 1 a1 0)), (3, .int l3), (4, .int l4), (8, .int s0)]) ?_ [1, 2, 3, 4, 0] rfl
      exact t_X8_countTerm_208 hx hR hKS hE hK11 hK70 h_a1 h
set_option maxRecDepth 100000 in
set_option maxHeartbeats 4000000 in
theorem t_X8_countTerm_234 {n : Nat} {K11 : St → Nat → Int32 → Int32 → Int32 → Int32 → Option (St × Int32)} {x : XC} (hx : CX x cX8_countTerm 10 RX8) (hR : x_R x = rm_X8_countTerm) (hKS : ∀ k ∈ KM, k ∈ x_K x) {out : St × Int32} (hE : EI x cX8_countTerm out) (hK11 : ∀ {S : St} {a1 : Nat} {l3 : Int32} {l4 : Int32} {l5 : Int32} {l6 : Int32} (_ : (1, a1, 0) ∈ KM), K11 S a1 l3 l4 l5 l6 = some out → WX x 10 0 0 S 11 [(0, .ref (x_ad x 0 7 0)), (1, .ref (x_ad x 1 a1 0)), (3, .int l3), (4, .int l4), (5, .int l5), (6, .int l6)] []) {S : St} {a1 : Nat} {l3 : Int32} {l4 : Int32} {l5 : Int32} {s0 : Int32} (h_a1 : (1, a1, 0) ∈ KM) (h : j_X8_countTerm_234 n K11 S a1 l3 l4 l5 s0 = some out) : WX x 10 0 0 S 234 [(0, .ref (x_ad x 0 7 0)), (1, .ref (x_ad x 1 a1 0)), (3, .int l3), (4, .int l4), (5, .int l5)] [.int s0] := by
  unfold j_X8_countTerm_234 at h
  refine r_istore (lv' := [(6, .int s0), (0, .ref (x_ad x 0 7 0)), (1, .ref (x_ad x 1 a1 0)), (3, .int l3), (4, .int l4), (5, .int l5)]) hx dX8_countTerm_234 (by decide) rfl ?_
  refine r_goto (tgt := 11) hx dX8_countTerm_236 (by decide) ?_
  refine WX.sub (lv' := [(0, .ref (x_ad x 0 7 0)), (1, .ref (x_ad x 1 a1 0)), (3, .int l3), (4, .int l4), (5, .int l5), (6, .int s0)]) ?_ [1, 2, 3, 4, 5, 0] rfl
  exact hK11 h_a1 h
set_option maxRecDepth 100000 in
set_option maxHeartbeats 4000000 in
theorem t_X8_countTerm_233 {n : Nat} {K11 : St → Nat → Int32 → Int32 → Int32 → Int32 → Option (St × Int32)} {x : XC} (hx : CX x cX8_countTerm 10 RX8) (hR : x_R x = rm_X8_countTerm) (hKS : ∀ k ∈ KM, k ∈ x_K x) {out : St × Int32} (hE : EI x cX8_countTerm out) (hK11 : ∀ {S : St} {a1 : Nat} {l3 : Int32} {l4 : Int32} {l5 : Int32} {l6 : Int32} (_ : (1, a1, 0) ∈ KM), K11 S a1 l3 l4 l5 l6 = some out → WX x 10 0 0 S 11 [(0, .ref (x_ad x 0 7 0)), (1, .ref (x_ad x 1 a1 0)), (3, .int l3), (4, .int l4), (5, .int l5), (6, .int l6)] []) {S : St} {a1 : Nat} {l3 : Int32} {l4 : Int32} {l5 : Int32} (h_a1 : (1, a1, 0) ∈ KM) (h : j_X8_countTerm_233 n K11 S a1 l3 l4 l5 = some out) : WX x 10 0 0 S 233 [(0, .ref (x_ad x 0 7 0)), (1, .ref (x_ad x 1 a1 0)), (3, .int l3), (4, .int l4), (5, .int l5)] [] := by
  unfold j_X8_countTerm_233 at h
  refine r_iconst (v := 0) hx dX8_countTerm_233 (by decide) ?_
  exact t_X8_countTerm_234 hx hR hKS hE hK11 h_a1 h
set_option maxRecDepth 100000 in
set_option maxHeartbeats 4000000 in
theorem t_X8_countTerm_219 {n : Nat} {K11 : St → Nat → Int32 → Int32 → Int32 → Int32 → Option (St × Int32)} {x : XC} (hx : CX x cX8_countTerm 10 RX8) (hR : x_R x = rm_X8_countTerm) (hKS : ∀ k ∈ KM, k ∈ x_K x) {out : St × Int32} (hE : EI x cX8_countTerm out) (hK11 : ∀ {S : St} {a1 : Nat} {l3 : Int32} {l4 : Int32} {l5 : Int32} {l6 : Int32} (_ : (1, a1, 0) ∈ KM), K11 S a1 l3 l4 l5 l6 = some out → WX x 10 0 0 S 11 [(0, .ref (x_ad x 0 7 0)), (1, .ref (x_ad x 1 a1 0)), (3, .int l3), (4, .int l4), (5, .int l5), (6, .int l6)] []) {S : St} {a1 : Nat} {l3 : Int32} {l4 : Int32} {l5 : Int32} {l8 : Int32} (h_a1 : (1, a1, 0) ∈ KM) (h : j_X8_countTerm_219 n K11 S a1 l3 l4 l5 l8 = some out) : WX x 10 0 0 S 219 [(0, .ref (x_ad x 0 7 0)), (1, .ref (x_ad x 1 a1 0)), (3, .int l3), (4, .int l4), (5, .int l5), (8, .int l8)] [] := by
  unfold j_X8_countTerm_219 at h
  refine r_iload (k0 := 4) hx dX8_countTerm_219 rfl ?_
  refine r_if_lt (tgt := 233) hx dX8_countTerm_221 (by decide) (fun c1 => ?_) (fun c1 => ?_)
  · have h := ite_t h c1
    refine WX.sub (lv' := [(0, .ref (x_ad x 0 7 0)), (1, .ref (x_ad x 1 a1 0)), (3, .int l3), (4, .int l4), (5, .int l5)]) ?_ [0, 1, 2, 3, 4] rfl
    exact t_X8_countTerm_233 hx hR hKS hE hK11 h_a1 h
  · have h := ite_f h c1
    refine r_iload (k0 := 5) hx dX8_countTerm_224 rfl ?_
    refine r_if_ne (tgt := 233) hx dX8_countTerm_226 (by decide) (fun c2 => ?_) (fun c2 => ?_)
    · have h := ite_f h c2
      refine WX.sub (lv' := [(0, .ref (x_ad x 0 7 0)), (1, .ref (x_ad x 1 a1 0)), (3, .int l3), (4, .int l4), (5, .int l5)]) ?_ [0, 1, 2, 3, 4] rfl
      exact t_X8_countTerm_233 hx hR hKS hE hK11 h_a1 h
    · have h := ite_t h c2
      refine r_iconst (v := 1) hx dX8_countTerm_229 (by decide) ?_
      refine r_goto (tgt := 234) hx dX8_countTerm_230 (by decide) ?_
      refine WX.sub (lv' := [(0, .ref (x_ad x 0 7 0)), (1, .ref (x_ad x 1 a1 0)), (3, .int l3), (4, .int l4), (5, .int l5)]) ?_ [0, 1, 2, 3, 4] rfl
      exact t_X8_countTerm_234 hx hR hKS hE hK11 h_a1 h
set_option maxRecDepth 100000 in
set_option maxHeartbeats 4000000 in
theorem t_X8_countTerm_70 {n : Nat} {K11 : St → Nat → Int32 → Int32 → Int32 → Int32 → Option (St × Int32)} {x : XC} (hx : CX x cX8_countTerm 10 RX8) (hR : x_R x = rm_X8_countTerm) (hKS : ∀ k ∈ KM, k ∈ x_K x) {out : St × Int32} (hE : EI x cX8_countTerm out) (hK11 : ∀ {S : St} {a1 : Nat} {l3 : Int32} {l4 : Int32} {l5 : Int32} {l6 : Int32} (_ : (1, a1, 0) ∈ KM), K11 S a1 l3 l4 l5 l6 = some out → WX x 10 0 0 S 11 [(0, .ref (x_ad x 0 7 0)), (1, .ref (x_ad x 1 a1 0)), (3, .int l3), (4, .int l4), (5, .int l5), (6, .int l6)] []) : ∀ {m : Nat} {S : St} {a1 : Nat} {l3 : Int32} {l4 : Int32} {l5 : Int32} {l8 : Int32} (h_a1 : (1, a1, 0) ∈ KM) (h : l_X8_countTerm_70 n K11 m S a1 l3 l4 l5 l8 = some out), WX x 10 0 0 S 70 [(0, .ref (x_ad x 0 7 0)), (1, .ref (x_ad x 1 a1 0)), (3, .int l3), (4, .int l4), (5, .int l5), (8, .int l8)] [] := by
  intro m
  induction m with
  | zero => intro S a1 l3 l4 l5 l8 h_a1 h; cases h
  | succ m ih =>
    intro S a1 l3 l4 l5 l8 h_a1 h
    unfold l_X8_countTerm_70 at h
    refine r_iload (k0 := 5) hx dX8_countTerm_70 rfl ?_
    refine r_if_eq (tgt := 219) hx dX8_countTerm_72 (by decide) (fun c1 => ?_) (fun c1 => ?_)
    · have h := ite_t h c1
      exact t_X8_countTerm_219 hx hR hKS hE hK11 h_a1 h
    · have h := ite_f h c1
      refine r_iload (k0 := 3) hx dX8_countTerm_75 rfl ?_
      refine r_if_le (tgt := 219) hx dX8_countTerm_77 (by decide) (fun c2 => ?_) (fun c2 => ?_)
      · have h := ite_t h c2
        exact t_X8_countTerm_219 hx hR hKS hE hK11 h_a1 h
      · have h := ite_f h c2
        refine r_iload (k0 := 4) hx dX8_countTerm_80 rfl ?_
        refine r_if_lt (tgt := 219) hx dX8_countTerm_82 (by decide) (fun c3 => ?_) (fun c3 => ?_)
        · have h := ite_t h c3
          exact t_X8_countTerm_219 hx hR hKS hE hK11 h_a1 h
        · have h := ite_f h c3
          refine r_iload (k0 := 3) hx dX8_countTerm_85 rfl ?_
          refine r_iconst (v := 1) hx dX8_countTerm_87 (by decide) ?_
          refine r_isub hx dX8_countTerm_88 ?_
          obtain ⟨v4, e5, h⟩ := bV_some h
          rw [← e5]
          refine r_istore (lv' := [(9, .int v4), (0, .ref (x_ad x 0 7 0)), (1, .ref (x_ad x 1 a1 0)), (3, .int l3), (4, .int l4), (5, .int l5), (8, .int l8)]) hx dX8_countTerm_89 (by decide) rfl ?_
          refine r_aload_n (k0 := 1) hx dX8_countTerm_91 rfl rfl ?_
          refine g_386 hx (k_0_7 hKS) wf_X8_94 dX8_countTerm_92 ?_
          refine r_iconst (v := 3) hx dX8_countTerm_95 (by decide) ?_
          refine r_iload (k0 := 0) hx dX8_countTerm_96 rfl ?_
          refine r_imul hx dX8_countTerm_98 ?_
          refine r_aload_n (k0 := 1) hx dX8_countTerm_99 rfl rfl ?_
          refine g_385 hx (k_0_7 hKS) wf_X8_91 dX8_countTerm_100 ?_
          refine r_iload (k0 := 0) hx dX8_countTerm_103 rfl ?_
          obtain ⟨v6, e7, i8, h⟩ := gI_some h
          refine r_iald hx (k_1_385 hKS) rfl i8 e7 dX8_countTerm_105 ?_
          refine r_iadd hx dX8_countTerm_106 ?_
          refine r_iload (k0 := 5) hx dX8_countTerm_107 rfl ?_
          obtain ⟨S9, e10, i11, h⟩ := pI_some h
          refine r_iast hx (k_1_386 hKS) rfl i11 e10 dX8_countTerm_109 ?_
          refine r_aload_n (k0 := 1) hx dX8_countTerm_110 rfl rfl ?_
          refine g_385 hx (k_0_7 hKS) wf_X8_91 dX8_countTerm_111 ?_
          refine r_iload (k0 := 0) hx dX8_countTerm_114 rfl ?_
          refine r_dup2 hx dX8_countTerm_116 rfl rfl ?_
          obtain ⟨v12, e13, i14, h⟩ := gI_some h
          refine r_iald hx (k_1_385 hKS) rfl i14 e13 dX8_countTerm_117 ?_
          refine r_iconst (v := 1) hx dX8_countTerm_118 (by decide) ?_
          refine r_iadd hx dX8_countTerm_119 ?_
          obtain ⟨S15, e16, i17, h⟩ := pI_some h
          refine r_iast hx (k_1_385 hKS) rfl i17 e16 dX8_countTerm_120 ?_
          refine r_aload_n (k0 := 1) hx dX8_countTerm_121 rfl rfl ?_
          refine g_385 hx (k_0_7 hKS) wf_X8_91 dX8_countTerm_122 ?_
          refine r_iload (k0 := 0) hx dX8_countTerm_125 rfl ?_
          obtain ⟨v18, e19, i20, h⟩ := gI_some h
          refine r_iald hx (k_1_385 hKS) rfl i20 e19 dX8_countTerm_127 ?_
          refine r_aload_n (k0 := 1) hx dX8_countTerm_128 rfl rfl ?_
          refine g_384 hx (k_0_7 hKS) wf_X8_88 dX8_countTerm_129 ?_
          refine r_iload (k0 := 0) hx dX8_countTerm_132 rfl ?_
          obtain ⟨v21, e22, i23, h⟩ := gI_some h
          refine r_iald hx (k_1_384 hKS) rfl i23 e22 dX8_countTerm_134 ?_
          obtain ⟨S24, v26, c25, h⟩ := bI_some h
          refine r_Si (As := [.int v21]) (rest := [.int v18]) hx (C_X8_partsOf (c := x_y x) hKS c25) wl_X8_148 wt_X8_partsOf wn_X8 wc_X8_partsOf dy_X8_partsOf rfl (by rw [hR]; decide +kernel) rfl (Nat.le_of_ble_eq_true rfl) dX8_countTerm_135 ?_
          refine r_icmp_ne (tgt := 145) hx dX8_countTerm_138 (by decide) (fun c27 => ?_) (fun c27 => ?_)
          · have h := ite_f h c27
            refine r_iconst (v := 0) hx dX8_countTerm_145 (by decide) ?_
            refine WX.sub (lv' := [(0, .ref (x_ad x 0 7 0)), (1, .ref (x_ad x 1 a1 0)), (3, .int l3), (4, .int l4), (5, .int l5), (9, .int v4)]) ?_ [1, 2, 3, 4, 5, 0] rfl
            exact t_X8_countTerm_146 hx hR hKS hE hK11 ih h_a1 h
          · have h := ite_t h c27
            refine r_iconst (v := 1) hx dX8_countTerm_141 (by decide) ?_
            refine r_goto (tgt := 146) hx dX8_countTerm_142 (by decide) ?_
            refine WX.sub (lv' := [(0, .ref (x_ad x 0 7 0)), (1, .ref (x_ad x 1 a1 0)), (3, .int l3), (4, .int l4), (5, .int l5), (9, .int v4)]) ?_ [1, 2, 3, 4, 5, 0] rfl
            exact t_X8_countTerm_146 hx hR hKS hE hK11 ih h_a1 h
set_option maxRecDepth 100000 in
set_option maxHeartbeats 4000000 in
theorem t_X8_countTerm_11 {n : Nat} {x : XC} (hx : CX x cX8_countTerm 10 RX8) (hR : x_R x = rm_X8_countTerm) (hKS : ∀ k ∈ KM, k ∈ x_K x) {out : St × Int32} (hE : EI x cX8_countTerm out) : ∀ {m : Nat} {S : St} {a1 : Nat} {l3 : Int32} {l4 : Int32} {l5 : Int32} {l6 : Int32} (h_a1 : (1, a1, 0) ∈ KM) (h : l_X8_countTerm_11 n m S a1 l3 l4 l5 l6 = some out), WX x 10 0 0 S 11 [(0, .ref (x_ad x 0 7 0)), (1, .ref (x_ad x 1 a1 0)), (3, .int l3), (4, .int l4), (5, .int l5), (6, .int l6)] [] := by
  intro m
  induction m with
  | zero => intro S a1 l3 l4 l5 l6 h_a1 h; cases h
  | succ m ih =>
    intro S a1 l3 l4 l5 l6 h_a1 h
    unfold l_X8_countTerm_11 at h
    refine r_iload (k0 := 5) hx dX8_countTerm_11 rfl ?_
    refine r_if_eq (tgt := 239) hx dX8_countTerm_13 (by decide) (fun c1 => ?_) (fun c1 => ?_)
    · have h := ite_t h c1
      refine r_iload (k0 := 4) hx dX8_countTerm_239 rfl ?_
      exact r_iret hE h dX8_countTerm_241
    · have h := ite_f h c1
      refine r_aload_n (k0 := 1) hx dX8_countTerm_16 rfl rfl ?_
      refine r_iload_n (k0 := 2) hx dX8_countTerm_17 rfl rfl ?_
      obtain ⟨v2, e3, i4, h⟩ := gI_some h
      refine r_iald hx (hKS _ h_a1) rfl i4 e3 dX8_countTerm_18 ?_
      refine r_istore (lv' := [(7, .int v2), (0, .ref (x_ad x 0 7 0)), (1, .ref (x_ad x 1 a1 0)), (3, .int l3), (4, .int l4), (5, .int l5), (6, .int l6)]) hx dX8_countTerm_19 (by decide) rfl ?_
      refine r_iload (k0 := 0) hx dX8_countTerm_21 rfl ?_
      refine r_iconst (v := 3) hx dX8_countTerm_23 (by decide) ?_
      refine r_icmp_lt (tgt := 53) hx dX8_countTerm_24 (by decide) (fun c5 => ?_) (fun c5 => ?_)
      · have h := ite_t h c5
        refine r_aload_n (k0 := 1) hx dX8_countTerm_53 rfl rfl ?_
        refine r_aload_n (k0 := 2) hx dX8_countTerm_54 rfl rfl ?_
        refine r_iload_n (k0 := 3) hx dX8_countTerm_55 rfl rfl ?_
        obtain ⟨S6, v8, c7, h⟩ := bI_some h
        refine r_Vi (ci := 7) (As := [.ref (x_ad x 1 a1 0), .int l3]) (rest := []) hx (C_X8_countSingle (c := x_y x) hKS h_a1 c7) (k_0_7 hKS) rfl wl_X8_276 wi_X8_countSingle we_X8_countSingle wn_X8 wc_X8_countSingle dy_X8_countSingle rfl (by rw [hR]; decide +kernel) rfl (Nat.le_of_ble_eq_true rfl) dX8_countTerm_56 ?_
        refine r_istore (lv' := [(5, .int v8), (7, .int v2), (0, .ref (x_ad x 0 7 0)), (1, .ref (x_ad x 1 a1 0)), (3, .int l3), (4, .int l4), (6, .int l6)]) hx dX8_countTerm_59 (by decide) rfl ?_
        refine r_aload_n (k0 := 3) hx dX8_countTerm_61 rfl rfl ?_
        refine r_iload_n (k0 := 4) hx dX8_countTerm_62 rfl rfl ?_
        obtain ⟨S9, v11, c10, h⟩ := bI_some h
        refine r_Si (As := [.ref (x_ad x 1 a1 0), .int l3]) (rest := []) hx (C_X8_behindToken (c := x_y x) hKS h_a1 c10) wl_X8_152 wt_X8_behindToken wn_X8 wc_X8_behindToken dy_X8_behindToken rfl (by rw [hR]; decide +kernel) rfl (Nat.le_of_ble_eq_true rfl) dX8_countTerm_63 ?_
        refine r_istore_n (lv' := [(3, .int v11), (5, .int v8), (7, .int v2), (0, .ref (x_ad x 0 7 0)), (1, .ref (x_ad x 1 a1 0)), (4, .int l4), (6, .int l6)]) hx dX8_countTerm_66 rfl (by decide) rfl ?_
        refine r_iconst (v := 1) hx dX8_countTerm_67 (by decide) ?_
        refine r_istore (lv' := [(8, .int 1), (3, .int v11), (5, .int v8), (7, .int v2), (0, .ref (x_ad x 0 7 0)), (1, .ref (x_ad x 1 a1 0)), (4, .int l4), (6, .int l6)]) hx dX8_countTerm_68 (by decide) rfl ?_
        refine WX.sub (lv' := [(0, .ref (x_ad x 0 7 0)), (1, .ref (x_ad x 1 a1 0)), (3, .int v11), (4, .int l4), (5, .int v8), (8, .int 1)]) ?_ [4, 5, 1, 6, 2, 0] rfl
        exact t_X8_countTerm_70 hx hR hKS hE ih h_a1 h
      · have h := ite_f h c5
        refine r_aload_n (k0 := 1) hx dX8_countTerm_27 rfl rfl ?_
        refine g_384 hx (k_0_7 hKS) wf_X8_88 dX8_countTerm_28 ?_
        refine r_iload (k0 := 4) hx dX8_countTerm_31 rfl ?_
        refine r_iload (k0 := 0) hx dX8_countTerm_33 rfl ?_
        obtain ⟨S12, e13, i14, h⟩ := pI_some h
        refine r_iast hx (k_1_384 hKS) rfl i14 e13 dX8_countTerm_35 ?_
        refine r_aload_n (k0 := 1) hx dX8_countTerm_36 rfl rfl ?_
        refine g_385 hx (k_0_7 hKS) wf_X8_91 dX8_countTerm_37 ?_
        refine r_iload (k0 := 4) hx dX8_countTerm_40 rfl ?_
        refine r_iconst (v := 0) hx dX8_countTerm_42 (by decide) ?_
        obtain ⟨S15, e16, i17, h⟩ := pI_some h
        refine r_iast hx (k_1_385 hKS) rfl i17 e16 dX8_countTerm_43 ?_
        obtain ⟨v18, e19, h⟩ := bV_some h
        refine r_iinc (k := 4) (v := v18) (lv' := [(4, .int v18), (7, .int v2), (0, .ref (x_ad x 0 7 0)), (1, .ref (x_ad x 1 a1 0)), (3, .int l3), (5, .int l5), (6, .int l6)]) hx dX8_countTerm_44 rfl (by rw [e19]; rfl) (by decide) rfl ?_
        obtain ⟨v20, e21, h⟩ := bV_some h
        refine r_iinc (k := 4) (v := v20) (lv' := [(3, .int v20), (4, .int v18), (7, .int v2), (0, .ref (x_ad x 0 7 0)), (1, .ref (x_ad x 1 a1 0)), (5, .int l5), (6, .int l6)]) hx dX8_countTerm_47 rfl (by rw [e21]; rfl) (by decide) rfl ?_
        refine r_goto (tgt := 11) hx dX8_countTerm_50 (by decide) ?_
        refine WX.sub (lv' := [(0, .ref (x_ad x 0 7 0)), (1, .ref (x_ad x 1 a1 0)), (3, .int v20), (4, .int v18), (5, .int l5), (6, .int l6)]) ?_ [3, 4, 0, 1, 5, 6] rfl
        exact ih h_a1 h
set_option maxRecDepth 100000 in
set_option maxHeartbeats 4000000 in
theorem t_X8_countTerm_0 {n : Nat} {x : XC} (hx : CX x cX8_countTerm 10 RX8) (hR : x_R x = rm_X8_countTerm) (hKS : ∀ k ∈ KM, k ∈ x_K x) {out : St × Int32} (hE : EI x cX8_countTerm out) {S : St} {a1 : Nat} {a2 : Int32} (h_a1 : (1, a1, 0) ∈ KM) (h : f_X8_countTerm n S a1 a2 = some out) : WX x 10 0 0 S 0 [(0, .ref (x_ad x 0 7 0)), (1, .ref (x_ad x 1 a1 0)), (2, .int a2)] [] := by
  unfold f_X8_countTerm at h
  refine r_iload_n (k0 := 2) hx dX8_countTerm_0 rfl rfl ?_
  refine r_istore_n (lv' := [(3, .int a2), (0, .ref (x_ad x 0 7 0)), (1, .ref (x_ad x 1 a1 0)), (2, .int a2)]) hx dX8_countTerm_1 rfl (by decide) rfl ?_
  refine r_iconst (v := 0) hx dX8_countTerm_2 (by decide) ?_
  refine r_istore (lv' := [(4, .int 0), (3, .int a2), (0, .ref (x_ad x 0 7 0)), (1, .ref (x_ad x 1 a1 0)), (2, .int a2)]) hx dX8_countTerm_3 (by decide) rfl ?_
  refine r_iconst (v := -1) hx dX8_countTerm_5 (by decide) ?_
  refine r_istore (lv' := [(5, .int (-1)), (4, .int 0), (3, .int a2), (0, .ref (x_ad x 0 7 0)), (1, .ref (x_ad x 1 a1 0)), (2, .int a2)]) hx dX8_countTerm_6 (by decide) rfl ?_
  refine r_iconst (v := 1) hx dX8_countTerm_8 (by decide) ?_
  refine r_istore (lv' := [(6, .int 1), (5, .int (-1)), (4, .int 0), (3, .int a2), (0, .ref (x_ad x 0 7 0)), (1, .ref (x_ad x 1 a1 0)), (2, .int a2)]) hx dX8_countTerm_9 (by decide) rfl ?_
  refine WX.sub (lv' := [(0, .ref (x_ad x 0 7 0)), (1, .ref (x_ad x 1 a1 0)), (3, .int a2), (4, .int 0), (5, .int (-1)), (6, .int 1)]) ?_ [4, 5, 3, 2, 1, 0] rfl
  exact t_X8_countTerm_11 hx hR hKS hE h_a1 h
set_option maxHeartbeats 4000000 in
theorem C_X8_countTerm {n : Nat} {c : YC} (hKS : ∀ k ∈ KM, k ∈ c.2.2.2.2) {S : St} {a1 : Nat} {a2 : Int32} {out : St × Int32} (h_a1 : (1, a1, 0) ∈ KM) (h : f_X8_countTerm n S a1 a2 = some out) : MI c yX8_countTerm cX8_countTerm 10 (some .int) rm_X8_countTerm S [.ref (c.2.2.1 0 7 0), .ref (c.2.2.1 1 a1 0), .int a2] out := mk_I (own := RX8) (by decide +kernel) rfl (Nat.le_of_ble_eq_true rfl) (fun x hx hR hy hE => by subst hy; exact t_X8_countTerm_0 hx hR hKS hE h_a1 h)
def f_X8_answer (n : Nat) (S : St) (a1 : Nat) (a2 : Int32) : Option (St × Int32) :=
  bV (S.1 355 0) fun v1 =>
  bV (S.1 362 0) fun v3 =>
  pS S 379 0 0 fun S5 =>
  bI (f_X8_countTerm n S5 a1 a2) fun S7 v9 =>
  pS S7 379 0 1 fun S10 =>
  if 0 ≤ v9 then
    some (S10, v9)
  else
    pS S10 355 0 v1 fun S13 =>
    pS S13 362 0 v3 fun S15 =>
    pS S15 350 0 2 fun S17 =>
    some (S17, 0)
set_option maxRecDepth 100000 in
set_option maxHeartbeats 4000000 in
theorem t_X8_answer_0 {n : Nat} {x : XC} (hx : CX x cX8_answer 6 RX8) (hR : x_R x = rm_X8_answer) (hKS : ∀ k ∈ KM, k ∈ x_K x) {out : St × Int32} (hE : EI x cX8_answer out) {S : St} {a1 : Nat} {a2 : Int32} (h_a1 : (1, a1, 0) ∈ KM) (h : f_X8_answer n S a1 a2 = some out) : WX x 6 0 0 S 0 [(0, .ref (x_ad x 0 7 0)), (1, .ref (x_ad x 1 a1 0)), (2, .int a2)] [] := by
  unfold f_X8_answer at h
  refine r_aload_n (k0 := 0) hx dX8_answer_0 rfl rfl ?_
  refine g_355 hx (k_0_7 hKS) wf_X8_22 dX8_answer_1 ?_
  obtain ⟨v1, e2, h⟩ := bV_some h
  rw [← e2]
  refine r_istore_n (lv' := [(3, .int v1), (0, .ref (x_ad x 0 7 0)), (1, .ref (x_ad x 1 a1 0)), (2, .int a2)]) hx dX8_answer_4 rfl (by decide) rfl ?_
  refine r_aload_n (k0 := 1) hx dX8_answer_5 rfl rfl ?_
  refine g_362 hx (k_0_7 hKS) wf_X8_109 dX8_answer_6 ?_
  obtain ⟨v3, e4, h⟩ := bV_some h
  rw [← e4]
  refine r_istore (lv' := [(4, .int v3), (3, .int v1), (0, .ref (x_ad x 0 7 0)), (1, .ref (x_ad x 1 a1 0)), (2, .int a2)]) hx dX8_answer_9 (by decide) rfl ?_
  refine r_aload_n (k0 := 2) hx dX8_answer_11 rfl rfl ?_
  refine r_iconst (v := 0) hx dX8_answer_12 (by decide) ?_
  obtain ⟨S5, e6, h⟩ := pS_some h
  refine p_379 hx (k_0_7 hKS) wf_X8_78 (by decide) dX8_answer_13 e6 ?_
  refine r_aload_n (k0 := 2) hx dX8_answer_16 rfl rfl ?_
  refine r_aload_n (k0 := 3) hx dX8_answer_17 rfl rfl ?_
  refine r_iload_n (k0 := 4) hx dX8_answer_18 rfl rfl ?_
  obtain ⟨S7, v9, c8, h⟩ := bI_some h
  refine r_Vi (ci := 7) (As := [.ref (x_ad x 1 a1 0), .int a2]) (rest := []) hx (C_X8_countTerm (c := x_y x) hKS h_a1 c8) (k_0_7 hKS) rfl wl_X8_282 wi_X8_countTerm we_X8_countTerm wn_X8 wc_X8_countTerm dy_X8_countTerm rfl (by rw [hR]; decide +kernel) rfl (Nat.le_of_ble_eq_true rfl) dX8_answer_19 ?_
  refine r_istore (lv' := [(5, .int v9), (4, .int v3), (3, .int v1), (0, .ref (x_ad x 0 7 0)), (1, .ref (x_ad x 1 a1 0)), (2, .int a2)]) hx dX8_answer_22 (by decide) rfl ?_
  refine r_aload_n (k0 := 3) hx dX8_answer_24 rfl rfl ?_
  refine r_iconst (v := 1) hx dX8_answer_25 (by decide) ?_
  obtain ⟨S10, e11, h⟩ := pS_some h
  refine p_379 hx (k_0_7 hKS) wf_X8_78 (by decide) dX8_answer_26 e11 ?_
  refine r_iload (k0 := 0) hx dX8_answer_29 rfl ?_
  refine r_if_ge (tgt := 52) hx dX8_answer_31 (by decide) (fun c12 => ?_) (fun c12 => ?_)
  · have h := ite_t h c12
    refine r_iload (k0 := 0) hx dX8_answer_52 rfl ?_
    exact r_iret hE h dX8_answer_54
  · have h := ite_f h c12
    refine r_aload_n (k0 := 3) hx dX8_answer_34 rfl rfl ?_
    refine r_iload_n (k0 := 2) hx dX8_answer_35 rfl rfl ?_
    obtain ⟨S13, e14, h⟩ := pS_some h
    refine p_355 hx (k_0_7 hKS) wf_X8_22 dX8_answer_36 e14 ?_
    refine r_aload_n (k0 := 3) hx dX8_answer_39 rfl rfl ?_
    refine r_iload (k0 := 1) hx dX8_answer_40 rfl ?_
    obtain ⟨S15, e16, h⟩ := pS_some h
    refine p_362 hx (k_0_7 hKS) wf_X8_109 dX8_answer_42 e16 ?_
    refine r_aload_n (k0 := 3) hx dX8_answer_45 rfl rfl ?_
    refine r_iconst (v := 2) hx dX8_answer_46 (by decide) ?_
    obtain ⟨S17, e18, h⟩ := pS_some h
    refine p_350 hx (k_0_7 hKS) wf_X8_106 dX8_answer_47 e18 ?_
    refine r_iconst (v := 0) hx dX8_answer_50 (by decide) ?_
    exact r_iret hE h dX8_answer_51
set_option maxHeartbeats 4000000 in
theorem C_X8_answer {n : Nat} {c : YC} (hKS : ∀ k ∈ KM, k ∈ c.2.2.2.2) {S : St} {a1 : Nat} {a2 : Int32} {out : St × Int32} (h_a1 : (1, a1, 0) ∈ KM) (h : f_X8_answer n S a1 a2 = some out) : MI c yX8_answer cX8_answer 6 (some .int) rm_X8_answer S [.ref (c.2.2.1 0 7 0), .ref (c.2.2.1 1 a1 0), .int a2] out := mk_I (own := RX8) (by decide +kernel) rfl (Nat.le_of_ble_eq_true rfl) (fun x hx hR hy hE => by subst hy; exact t_X8_answer_0 hx hR hKS hE h_a1 h)
def f_X8_begin (n : Nat) (S : St) (a1 : Int32) : Option (St) :=
  bI (f_X8_layTerm n S a1 367 0) fun S1 v3 =>
  pS S1 383 0 0 fun S4 =>
  pS S4 375 0 0 fun S6 =>
  some S6
set_option maxRecDepth 100000 in
set_option maxHeartbeats 4000000 in
theorem t_X8_begin_0 {n : Nat} {x : XC} (hx : CX x cX8_begin 3 RX8) (hR : x_R x = rm_X8_begin) (hKS : ∀ k ∈ KM, k ∈ x_K x) {out : St} (hE : EV x cX8_begin out) {S : St} {a1 : Int32} (h : f_X8_begin n S a1 = some out) : WX x 3 0 0 S 0 [(0, .ref (x_ad x 0 7 0)), (1, .int a1)] [] := by
  unfold f_X8_begin at h
  refine r_aload_n (k0 := 0) hx dX8_begin_0 rfl rfl ?_
  refine r_iload_n (k0 := 1) hx dX8_begin_1 rfl rfl ?_
  refine r_aload_n (k0 := 0) hx dX8_begin_2 rfl rfl ?_
  refine g_367 hx (k_0_7 hKS) wf_X8_53 dX8_begin_3 ?_
  refine r_iconst (v := 0) hx dX8_begin_6 (by decide) ?_
  obtain ⟨S1, v3, c2, h⟩ := bI_some h
  refine r_Vi (ci := 7) (As := [.int a1, .ref (x_ad x 1 367 0), .int 0]) (rest := []) hx (C_X8_layTerm (c := x_y x) hKS km_367 c2) (k_0_7 hKS) rfl wl_X8_176 wi_X8_layTerm we_X8_layTerm wn_X8 wc_X8_layTerm dy_X8_layTerm rfl (by rw [hR]; decide +kernel) rfl (Nat.le_of_ble_eq_true rfl) dX8_begin_7 ?_
  refine r_istore_n (lv' := [(2, .int v3), (0, .ref (x_ad x 0 7 0)), (1, .int a1)]) hx dX8_begin_10 rfl (by decide) rfl ?_
  refine r_aload_n (k0 := 1) hx dX8_begin_11 rfl rfl ?_
  refine r_iconst (v := 0) hx dX8_begin_12 (by decide) ?_
  obtain ⟨S4, e5, h⟩ := pS_some h
  refine p_383 hx (k_0_7 hKS) wf_X8_261 dX8_begin_13 e5 ?_
  refine r_aload_n (k0 := 1) hx dX8_begin_16 rfl rfl ?_
  refine r_iconst (v := 0) hx dX8_begin_17 (by decide) ?_
  obtain ⟨S6, e7, h⟩ := pS_some h
  refine p_375 hx (k_0_7 hKS) wf_X8_228 dX8_begin_18 e7 ?_
  exact r_vret hE h dX8_begin_21
set_option maxHeartbeats 4000000 in
theorem C_X8_begin {n : Nat} {c : YC} (hKS : ∀ k ∈ KM, k ∈ c.2.2.2.2) {S : St} {a1 : Int32} {out : St} (h : f_X8_begin n S a1 = some out) : MV c yX8_begin cX8_begin 3 none rm_X8_begin S [.ref (c.2.2.1 0 7 0), .int a1] out := mk_V (own := RX8) (by decide +kernel) rfl (Nat.le_of_ble_eq_true rfl) (fun x hx hR hy hE => by subst hy; exact t_X8_begin_0 hx hR hKS hE h)
def j_X8_hasBelow_90 (n : Nat) (K5 : St → Nat → Int32 → Int32 → Int32 → Int32 → Option (St × Int32)) (K64 : St → Nat → Int32 → Int32 → Int32 → Int32 → Int32 → Int32 → Option (St × Int32)) (S : St) (a1 : Nat) (l1 : Int32) (l2 : Int32) (l4 : Int32) (l6 : Int32) (l7 : Int32) (s0 : Int32) : Option (St × Int32) :=
  bV (l7 + 1) fun v1 =>
  K64 S a1 l1 l2 s0 l4 l6 v1
def j_X8_hasBelow_89 (n : Nat) (K5 : St → Nat → Int32 → Int32 → Int32 → Int32 → Option (St × Int32)) (K64 : St → Nat → Int32 → Int32 → Int32 → Int32 → Int32 → Int32 → Option (St × Int32)) (S : St) (a1 : Nat) (l1 : Int32) (l2 : Int32) (l4 : Int32) (l6 : Int32) (l7 : Int32) : Option (St × Int32) :=
  j_X8_hasBelow_90 n K5 K64 S a1 l1 l2 l4 l6 l7 0
def l_X8_hasBelow_64 (n : Nat) (K5 : St → Nat → Int32 → Int32 → Int32 → Int32 → Option (St × Int32)) : Nat → St → Nat → Int32 → Int32 → Int32 → Int32 → Int32 → Int32 → Option (St × Int32)
  | 0, _, _, _, _, _, _, _, _ => none
  | m + 1, S, a1, l1, l2, l3, l4, l6, l7 =>
    if l6 ≤ l7 then
      bI (f_X8_behindToken n S a1 l4) fun S2 v4 =>
      K5 S2 a1 l1 l2 l3 v4
    else
      if l3 = 0 then
        j_X8_hasBelow_89 n K5 (fun S a1 l1 l2 l3 l4 l6 l7 => l_X8_hasBelow_64 n K5 m S a1 l1 l2 l3 l4 l6 l7) S a1 l1 l2 l4 l6 l7
      else
        gI S a1 0 l7 (ln a1) fun v6 =>
        if (4 + l2) ≤ v6 then
          j_X8_hasBelow_89 n K5 (fun S a1 l1 l2 l3 l4 l6 l7 => l_X8_hasBelow_64 n K5 m S a1 l1 l2 l3 l4 l6 l7) S a1 l1 l2 l4 l6 l7
        else
          j_X8_hasBelow_90 n K5 (fun S a1 l1 l2 l3 l4 l6 l7 => l_X8_hasBelow_64 n K5 m S a1 l1 l2 l3 l4 l6 l7) S a1 l1 l2 l4 l6 l7 1
def j_X8_hasBelow_58 (n : Nat) (K5 : St → Nat → Int32 → Int32 → Int32 → Int32 → Option (St × Int32)) (S : St) (a1 : Nat) (l1 : Int32) (l2 : Int32) (l3 : Int32) (l4 : Int32) (l5 : Int32) (s0 : Int32) : Option (St × Int32) :=
  l_X8_hasBelow_64 n K5 n S a1 l1 l2 l3 l4 s0 l5
def j_X8_hasBelow_41 (n : Nat) (K5 : St → Nat → Int32 → Int32 → Int32 → Int32 → Option (St × Int32)) (S : St) (a1 : Nat) (l1 : Int32) (l2 : Int32) (l3 : Int32) (l4 : Int32) (s0 : Int32) : Option (St × Int32) :=
  if s0 ≤ 0 then
    j_X8_hasBelow_58 n K5 S a1 l1 l2 l3 l4 s0 0
  else
    bI (f_X8_behindToken n S a1 l4) fun S2 v4 =>
    j_X8_hasBelow_58 n K5 S2 a1 l1 l2 l3 l4 s0 v4
def l_X8_hasBelow_5 (n : Nat) : Nat → St → Nat → Int32 → Int32 → Int32 → Int32 → Option (St × Int32)
  | 0, _, _, _, _, _, _ => none
  | m + 1, S, a1, l1, l2, l3, l4 =>
    if l1 ≤ l4 then
      some (S, l3)
    else
      gI S a1 0 l4 (ln a1) fun v2 =>
      if v2 = 0 then
        j_X8_hasBelow_41 n (fun S a1 l1 l2 l3 l4 => l_X8_hasBelow_5 n m S a1 l1 l2 l3 l4) S a1 l1 l2 l3 l4 (l4 + 1)
      else
        gI S a1 0 l4 (ln a1) fun v6 =>
        if v6 = 2 then
          j_X8_hasBelow_41 n (fun S a1 l1 l2 l3 l4 => l_X8_hasBelow_5 n m S a1 l1 l2 l3 l4) S a1 l1 l2 l3 l4 (l4 + 2)
        else
          j_X8_hasBelow_41 n (fun S a1 l1 l2 l3 l4 => l_X8_hasBelow_5 n m S a1 l1 l2 l3 l4) S a1 l1 l2 l3 l4 0
def g_X8_hasBelow (n : Nat) (S : St) (a1 : Nat) (a2 : Int32) (a3 : Int32) : Option (St × Int32) :=
  l_X8_hasBelow_5 n n S a1 a2 a3 1 0
set_option maxRecDepth 100000 in
set_option maxHeartbeats 4000000 in
theorem t_X8_hasBelow_90 {n : Nat} {K5 : St → Nat → Int32 → Int32 → Int32 → Int32 → Option (St × Int32)} {K64 : St → Nat → Int32 → Int32 → Int32 → Int32 → Int32 → Int32 → Option (St × Int32)} {x : XC} (hx : CX x cX8_hasBelow 8 RX8) (hR : x_R x = rm_X8_hasBelow) (hKS : ∀ k ∈ KM, k ∈ x_K x) {out : St × Int32} (hE : EI x cX8_hasBelow out) (hK5 : ∀ {S : St} {a1 : Nat} {l1 : Int32} {l2 : Int32} {l3 : Int32} {l4 : Int32} (_ : (1, a1, 0) ∈ KM), K5 S a1 l1 l2 l3 l4 = some out → WX x 8 0 0 S 5 [(0, .ref (x_ad x 1 a1 0)), (1, .int l1), (2, .int l2), (3, .int l3), (4, .int l4)] []) (hK64 : ∀ {S : St} {a1 : Nat} {l1 : Int32} {l2 : Int32} {l3 : Int32} {l4 : Int32} {l6 : Int32} {l7 : Int32} (_ : (1, a1, 0) ∈ KM), K64 S a1 l1 l2 l3 l4 l6 l7 = some out → WX x 8 0 0 S 64 [(0, .ref (x_ad x 1 a1 0)), (1, .int l1), (2, .int l2), (3, .int l3), (4, .int l4), (6, .int l6), (7, .int l7)] []) {S : St} {a1 : Nat} {l1 : Int32} {l2 : Int32} {l4 : Int32} {l6 : Int32} {l7 : Int32} {s0 : Int32} (h_a1 : (1, a1, 0) ∈ KM) (h : j_X8_hasBelow_90 n K5 K64 S a1 l1 l2 l4 l6 l7 s0 = some out) : WX x 8 0 0 S 90 [(0, .ref (x_ad x 1 a1 0)), (1, .int l1), (2, .int l2), (4, .int l4), (6, .int l6), (7, .int l7)] [.int s0] := by
  unfold j_X8_hasBelow_90 at h
  refine r_istore_n (lv' := [(3, .int s0), (0, .ref (x_ad x 1 a1 0)), (1, .int l1), (2, .int l2), (4, .int l4), (6, .int l6), (7, .int l7)]) hx dX8_hasBelow_90 rfl (by decide) rfl ?_
  obtain ⟨v1, e2, h⟩ := bV_some h
  refine r_iinc (k := 6) (v := v1) (lv' := [(7, .int v1), (3, .int s0), (0, .ref (x_ad x 1 a1 0)), (1, .int l1), (2, .int l2), (4, .int l4), (6, .int l6)]) hx dX8_hasBelow_91 rfl (by rw [e2]; rfl) (by decide) rfl ?_
  refine r_goto (tgt := 64) hx dX8_hasBelow_94 (by decide) ?_
  refine WX.sub (lv' := [(0, .ref (x_ad x 1 a1 0)), (1, .int l1), (2, .int l2), (3, .int s0), (4, .int l4), (6, .int l6), (7, .int v1)]) ?_ [2, 3, 4, 1, 5, 6, 0] rfl
  exact hK64 h_a1 h
set_option maxRecDepth 100000 in
set_option maxHeartbeats 4000000 in
theorem t_X8_hasBelow_89 {n : Nat} {K5 : St → Nat → Int32 → Int32 → Int32 → Int32 → Option (St × Int32)} {K64 : St → Nat → Int32 → Int32 → Int32 → Int32 → Int32 → Int32 → Option (St × Int32)} {x : XC} (hx : CX x cX8_hasBelow 8 RX8) (hR : x_R x = rm_X8_hasBelow) (hKS : ∀ k ∈ KM, k ∈ x_K x) {out : St × Int32} (hE : EI x cX8_hasBelow out) (hK5 : ∀ {S : St} {a1 : Nat} {l1 : Int32} {l2 : Int32} {l3 : Int32} {l4 : Int32} (_ : (1, a1, 0) ∈ KM), K5 S a1 l1 l2 l3 l4 = some out → WX x 8 0 0 S 5 [(0, .ref (x_ad x 1 a1 0)), (1, .int l1), (2, .int l2), (3, .int l3), (4, .int l4)] []) (hK64 : ∀ {S : St} {a1 : Nat} {l1 : Int32} {l2 : Int32} {l3 : Int32} {l4 : Int32} {l6 : Int32} {l7 : Int32} (_ : (1, a1, 0) ∈ KM), K64 S a1 l1 l2 l3 l4 l6 l7 = some out → WX x 8 0 0 S 64 [(0, .ref (x_ad x 1 a1 0)), (1, .int l1), (2, .int l2), (3, .int l3), (4, .int l4), (6, .int l6), (7, .int l7)] []) {S : St} {a1 : Nat} {l1 : Int32} {l2 : Int32} {l4 : Int32} {l6 : Int32} {l7 : Int32} (h_a1 : (1, a1, 0) ∈ KM) (h : j_X8_hasBelow_89 n K5 K64 S a1 l1 l2 l4 l6 l7 = some out) : WX x 8 0 0 S 89 [(0, .ref (x_ad x 1 a1 0)), (1, .int l1), (2, .int l2), (4, .int l4), (6, .int l6), (7, .int l7)] [] := by
  unfold j_X8_hasBelow_89 at h
  refine r_iconst (v := 0) hx dX8_hasBelow_89 (by decide) ?_
  exact t_X8_hasBelow_90 hx hR hKS hE hK5 hK64 h_a1 h
set_option maxRecDepth 100000 in
set_option maxHeartbeats 4000000 in
theorem t_X8_hasBelow_64 {n : Nat} {K5 : St → Nat → Int32 → Int32 → Int32 → Int32 → Option (St × Int32)} {x : XC} (hx : CX x cX8_hasBelow 8 RX8) (hR : x_R x = rm_X8_hasBelow) (hKS : ∀ k ∈ KM, k ∈ x_K x) {out : St × Int32} (hE : EI x cX8_hasBelow out) (hK5 : ∀ {S : St} {a1 : Nat} {l1 : Int32} {l2 : Int32} {l3 : Int32} {l4 : Int32} (_ : (1, a1, 0) ∈ KM), K5 S a1 l1 l2 l3 l4 = some out → WX x 8 0 0 S 5 [(0, .ref (x_ad x 1 a1 0)), (1, .int l1), (2, .int l2), (3, .int l3), (4, .int l4)] []) : ∀ {m : Nat} {S : St} {a1 : Nat} {l1 : Int32} {l2 : Int32} {l3 : Int32} {l4 : Int32} {l6 : Int32} {l7 : Int32} (h_a1 : (1, a1, 0) ∈ KM) (h : l_X8_hasBelow_64 n K5 m S a1 l1 l2 l3 l4 l6 l7 = some out), WX x 8 0 0 S 64 [(0, .ref (x_ad x 1 a1 0)), (1, .int l1), (2, .int l2), (3, .int l3), (4, .int l4), (6, .int l6), (7, .int l7)] [] := by
  intro m
  induction m with
  | zero => intro S a1 l1 l2 l3 l4 l6 l7 h_a1 h; cases h
  | succ m ih =>
    intro S a1 l1 l2 l3 l4 l6 l7 h_a1 h
    unfold l_X8_hasBelow_64 at h
    refine r_iload (k0 := 6) hx dX8_hasBelow_64 rfl ?_
    refine r_iload (k0 := 5) hx dX8_hasBelow_66 rfl ?_
    refine r_icmp_ge (tgt := 97) hx dX8_hasBelow_68 (by decide) (fun c1 => ?_) (fun c1 => ?_)
    · have h := ite_t h c1
      refine r_aload_n (k0 := 0) hx dX8_hasBelow_97 rfl rfl ?_
      refine r_iload (k0 := 4) hx dX8_hasBelow_98 rfl ?_
      obtain ⟨S2, v4, c3, h⟩ := bI_some h
      refine r_Si (As := [.ref (x_ad x 1 a1 0), .int l4]) (rest := []) hx (C_X8_behindToken (c := x_y x) hKS h_a1 c3) wl_X8_152 wt_X8_behindToken wn_X8 wc_X8_behindToken dy_X8_behindToken rfl (by rw [hR]; decide +kernel) rfl (Nat.le_of_ble_eq_true rfl) dX8_hasBelow_100 ?_
      refine r_istore (lv' := [(4, .int v4), (0, .ref (x_ad x 1 a1 0)), (1, .int l1), (2, .int l2), (3, .int l3), (6, .int l6), (7, .int l7)]) hx dX8_hasBelow_103 (by decide) rfl ?_
      refine r_goto (tgt := 5) hx dX8_hasBelow_105 (by decide) ?_
      refine WX.sub (lv' := [(0, .ref (x_ad x 1 a1 0)), (1, .int l1), (2, .int l2), (3, .int l3), (4, .int v4)]) ?_ [1, 2, 3, 4, 0] rfl
      exact hK5 h_a1 h
    · have h := ite_f h c1
      refine r_iload_n (k0 := 3) hx dX8_hasBelow_71 rfl rfl ?_
      refine r_if_eq (tgt := 89) hx dX8_hasBelow_72 (by decide) (fun c5 => ?_) (fun c5 => ?_)
      · have h := ite_t h c5
        refine WX.sub (lv' := [(0, .ref (x_ad x 1 a1 0)), (1, .int l1), (2, .int l2), (4, .int l4), (6, .int l6), (7, .int l7)]) ?_ [0, 1, 2, 4, 5, 6] rfl
        exact t_X8_hasBelow_89 hx hR hKS hE hK5 ih h_a1 h
      · have h := ite_f h c5
        refine r_aload_n (k0 := 0) hx dX8_hasBelow_75 rfl rfl ?_
        refine r_iload (k0 := 6) hx dX8_hasBelow_76 rfl ?_
        obtain ⟨v6, e7, i8, h⟩ := gI_some h
        refine r_iald hx (hKS _ h_a1) rfl i8 e7 dX8_hasBelow_78 ?_
        refine r_iconst (v := 4) hx dX8_hasBelow_79 (by decide) ?_
        refine r_iload_n (k0 := 2) hx dX8_hasBelow_80 rfl rfl ?_
        refine r_iadd hx dX8_hasBelow_81 ?_
        refine r_icmp_ge (tgt := 89) hx dX8_hasBelow_82 (by decide) (fun c9 => ?_) (fun c9 => ?_)
        · have h := ite_t h c9
          refine WX.sub (lv' := [(0, .ref (x_ad x 1 a1 0)), (1, .int l1), (2, .int l2), (4, .int l4), (6, .int l6), (7, .int l7)]) ?_ [0, 1, 2, 4, 5, 6] rfl
          exact t_X8_hasBelow_89 hx hR hKS hE hK5 ih h_a1 h
        · have h := ite_f h c9
          refine r_iconst (v := 1) hx dX8_hasBelow_85 (by decide) ?_
          refine r_goto (tgt := 90) hx dX8_hasBelow_86 (by decide) ?_
          refine WX.sub (lv' := [(0, .ref (x_ad x 1 a1 0)), (1, .int l1), (2, .int l2), (4, .int l4), (6, .int l6), (7, .int l7)]) ?_ [0, 1, 2, 4, 5, 6] rfl
          exact t_X8_hasBelow_90 hx hR hKS hE hK5 ih h_a1 h
set_option maxRecDepth 100000 in
set_option maxHeartbeats 4000000 in
theorem t_X8_hasBelow_58 {n : Nat} {K5 : St → Nat → Int32 → Int32 → Int32 → Int32 → Option (St × Int32)} {x : XC} (hx : CX x cX8_hasBelow 8 RX8) (hR : x_R x = rm_X8_hasBelow) (hKS : ∀ k ∈ KM, k ∈ x_K x) {out : St × Int32} (hE : EI x cX8_hasBelow out) (hK5 : ∀ {S : St} {a1 : Nat} {l1 : Int32} {l2 : Int32} {l3 : Int32} {l4 : Int32} (_ : (1, a1, 0) ∈ KM), K5 S a1 l1 l2 l3 l4 = some out → WX x 8 0 0 S 5 [(0, .ref (x_ad x 1 a1 0)), (1, .int l1), (2, .int l2), (3, .int l3), (4, .int l4)] []) {S : St} {a1 : Nat} {l1 : Int32} {l2 : Int32} {l3 : Int32} {l4 : Int32} {l5 : Int32} {s0 : Int32} (h_a1 : (1, a1, 0) ∈ KM) (h : j_X8_hasBelow_58 n K5 S a1 l1 l2 l3 l4 l5 s0 = some out) : WX x 8 0 0 S 58 [(0, .ref (x_ad x 1 a1 0)), (1, .int l1), (2, .int l2), (3, .int l3), (4, .int l4), (5, .int l5)] [.int s0] := by
  unfold j_X8_hasBelow_58 at h
  refine r_istore (lv' := [(6, .int s0), (0, .ref (x_ad x 1 a1 0)), (1, .int l1), (2, .int l2), (3, .int l3), (4, .int l4), (5, .int l5)]) hx dX8_hasBelow_58 (by decide) rfl ?_
  refine r_iload (k0 := 6) hx dX8_hasBelow_60 rfl ?_
  refine r_istore (lv' := [(7, .int l5), (6, .int s0), (0, .ref (x_ad x 1 a1 0)), (1, .int l1), (2, .int l2), (3, .int l3), (4, .int l4), (5, .int l5)]) hx dX8_hasBelow_62 (by decide) rfl ?_
  refine WX.sub (lv' := [(0, .ref (x_ad x 1 a1 0)), (1, .int l1), (2, .int l2), (3, .int l3), (4, .int l4), (6, .int s0), (7, .int l5)]) ?_ [2, 3, 4, 5, 6, 1, 0] rfl
  exact t_X8_hasBelow_64 hx hR hKS hE hK5 h_a1 h
set_option maxRecDepth 100000 in
set_option maxHeartbeats 4000000 in
theorem t_X8_hasBelow_41 {n : Nat} {K5 : St → Nat → Int32 → Int32 → Int32 → Int32 → Option (St × Int32)} {x : XC} (hx : CX x cX8_hasBelow 8 RX8) (hR : x_R x = rm_X8_hasBelow) (hKS : ∀ k ∈ KM, k ∈ x_K x) {out : St × Int32} (hE : EI x cX8_hasBelow out) (hK5 : ∀ {S : St} {a1 : Nat} {l1 : Int32} {l2 : Int32} {l3 : Int32} {l4 : Int32} (_ : (1, a1, 0) ∈ KM), K5 S a1 l1 l2 l3 l4 = some out → WX x 8 0 0 S 5 [(0, .ref (x_ad x 1 a1 0)), (1, .int l1), (2, .int l2), (3, .int l3), (4, .int l4)] []) {S : St} {a1 : Nat} {l1 : Int32} {l2 : Int32} {l3 : Int32} {l4 : Int32} {s0 : Int32} (h_a1 : (1, a1, 0) ∈ KM) (h : j_X8_hasBelow_41 n K5 S a1 l1 l2 l3 l4 s0 = some out) : WX x 8 0 0 S 41 [(0, .ref (x_ad x 1 a1 0)), (1, .int l1), (2, .int l2), (3, .int l3), (4, .int l4)] [.int s0] := by
  unfold j_X8_hasBelow_41 at h
  refine r_istore (lv' := [(5, .int s0), (0, .ref (x_ad x 1 a1 0)), (1, .int l1), (2, .int l2), (3, .int l3), (4, .int l4)]) hx dX8_hasBelow_41 (by decide) rfl ?_
  refine r_iload (k0 := 0) hx dX8_hasBelow_43 rfl ?_
  refine r_if_le (tgt := 57) hx dX8_hasBelow_45 (by decide) (fun c1 => ?_) (fun c1 => ?_)
  · have h := ite_t h c1
    refine r_iconst (v := 0) hx dX8_hasBelow_57 (by decide) ?_
    refine WX.sub (lv' := [(0, .ref (x_ad x 1 a1 0)), (1, .int l1), (2, .int l2), (3, .int l3), (4, .int l4), (5, .int s0)]) ?_ [1, 2, 3, 4, 5, 0] rfl
    exact t_X8_hasBelow_58 hx hR hKS hE hK5 h_a1 h
  · have h := ite_f h c1
    refine r_aload_n (k0 := 1) hx dX8_hasBelow_48 rfl rfl ?_
    refine r_iload (k0 := 5) hx dX8_hasBelow_49 rfl ?_
    obtain ⟨S2, v4, c3, h⟩ := bI_some h
    refine r_Si (As := [.ref (x_ad x 1 a1 0), .int l4]) (rest := []) hx (C_X8_behindToken (c := x_y x) hKS h_a1 c3) wl_X8_152 wt_X8_behindToken wn_X8 wc_X8_behindToken dy_X8_behindToken rfl (by rw [hR]; decide +kernel) rfl (Nat.le_of_ble_eq_true rfl) dX8_hasBelow_51 ?_
    refine r_goto (tgt := 58) hx dX8_hasBelow_54 (by decide) ?_
    refine WX.sub (lv' := [(0, .ref (x_ad x 1 a1 0)), (1, .int l1), (2, .int l2), (3, .int l3), (4, .int l4), (5, .int s0)]) ?_ [1, 2, 3, 4, 5, 0] rfl
    exact t_X8_hasBelow_58 hx hR hKS hE hK5 h_a1 h
set_option maxRecDepth 100000 in
set_option maxHeartbeats 4000000 in
theorem t_X8_hasBelow_5 {n : Nat} {x : XC} (hx : CX x cX8_hasBelow 8 RX8) (hR : x_R x = rm_X8_hasBelow) (hKS : ∀ k ∈ KM, k ∈ x_K x) {out : St × Int32} (hE : EI x cX8_hasBelow out) : ∀ {m : Nat} {S : St} {a1 : Nat} {l1 : Int32} {l2 : Int32} {l3 : Int32} {l4 : Int32} (h_a1 : (1, a1, 0) ∈ KM) (h : l_X8_hasBelow_5 n m S a1 l1 l2 l3 l4 = some out), WX x 8 0 0 S 5 [(0, .ref (x_ad x 1 a1 0)), (1, .int l1), (2, .int l2), (3, .int l3), (4, .int l4)] [] := by
  intro m
  induction m with
  | zero => intro S a1 l1 l2 l3 l4 h_a1 h; cases h
  | succ m ih =>
    intro S a1 l1 l2 l3 l4 h_a1 h
    unfold l_X8_hasBelow_5 at h
    refine r_iload (k0 := 4) hx dX8_hasBelow_5 rfl ?_
    refine r_iload_n (k0 := 1) hx dX8_hasBelow_7 rfl rfl ?_
    refine r_icmp_ge (tgt := 108) hx dX8_hasBelow_8 (by decide) (fun c1 => ?_) (fun c1 => ?_)
    · have h := ite_t h c1
      refine r_iload_n (k0 := 3) hx dX8_hasBelow_108 rfl rfl ?_
      exact r_iret hE h dX8_hasBelow_109
    · have h := ite_f h c1
      refine r_aload_n (k0 := 0) hx dX8_hasBelow_11 rfl rfl ?_
      refine r_iload (k0 := 4) hx dX8_hasBelow_12 rfl ?_
      obtain ⟨v2, e3, i4, h⟩ := gI_some h
      refine r_iald hx (hKS _ h_a1) rfl i4 e3 dX8_hasBelow_14 ?_
      refine r_if_ne (tgt := 25) hx dX8_hasBelow_15 (by decide) (fun c5 => ?_) (fun c5 => ?_)
      · have h := ite_f h c5
        refine r_aload_n (k0 := 0) hx dX8_hasBelow_25 rfl rfl ?_
        refine r_iload (k0 := 4) hx dX8_hasBelow_26 rfl ?_
        obtain ⟨v6, e7, i8, h⟩ := gI_some h
        refine r_iald hx (hKS _ h_a1) rfl i8 e7 dX8_hasBelow_28 ?_
        refine r_iconst (v := 2) hx dX8_hasBelow_29 (by decide) ?_
        refine r_icmp_ne (tgt := 40) hx dX8_hasBelow_30 (by decide) (fun c9 => ?_) (fun c9 => ?_)
        · have h := ite_f h c9
          refine r_iconst (v := 0) hx dX8_hasBelow_40 (by decide) ?_
          exact t_X8_hasBelow_41 hx hR hKS hE ih h_a1 h
        · have h := ite_t h c9
          refine r_iload (k0 := 4) hx dX8_hasBelow_33 rfl ?_
          refine r_iconst (v := 2) hx dX8_hasBelow_35 (by decide) ?_
          refine r_iadd hx dX8_hasBelow_36 ?_
          refine r_goto (tgt := 41) hx dX8_hasBelow_37 (by decide) ?_
          exact t_X8_hasBelow_41 hx hR hKS hE ih h_a1 h
      · have h := ite_t h c5
        refine r_iload (k0 := 4) hx dX8_hasBelow_18 rfl ?_
        refine r_iconst (v := 1) hx dX8_hasBelow_20 (by decide) ?_
        refine r_iadd hx dX8_hasBelow_21 ?_
        refine r_goto (tgt := 41) hx dX8_hasBelow_22 (by decide) ?_
        exact t_X8_hasBelow_41 hx hR hKS hE ih h_a1 h
set_option maxRecDepth 100000 in
set_option maxHeartbeats 4000000 in
theorem t_X8_hasBelow_0 {n : Nat} {x : XC} (hx : CX x cX8_hasBelow 8 RX8) (hR : x_R x = rm_X8_hasBelow) (hKS : ∀ k ∈ KM, k ∈ x_K x) {out : St × Int32} (hE : EI x cX8_hasBelow out) {S : St} {a1 : Nat} {a2 : Int32} {a3 : Int32} (h_a1 : (1, a1, 0) ∈ KM) (h : g_X8_hasBelow n S a1 a2 a3 = some out) : WX x 8 0 0 S 0 [(0, .ref (x_ad x 1 a1 0)), (1, .int a2), (2, .int a3)] [] := by
  unfold g_X8_hasBelow at h
  refine r_iconst (v := 1) hx dX8_hasBelow_0 (by decide) ?_
  refine r_istore_n (lv' := [(3, .int 1), (0, .ref (x_ad x 1 a1 0)), (1, .int a2), (2, .int a3)]) hx dX8_hasBelow_1 rfl (by decide) rfl ?_
  refine r_iconst (v := 0) hx dX8_hasBelow_2 (by decide) ?_
  refine r_istore (lv' := [(4, .int 0), (3, .int 1), (0, .ref (x_ad x 1 a1 0)), (1, .int a2), (2, .int a3)]) hx dX8_hasBelow_3 (by decide) rfl ?_
  refine WX.sub (lv' := [(0, .ref (x_ad x 1 a1 0)), (1, .int a2), (2, .int a3), (3, .int 1), (4, .int 0)]) ?_ [2, 3, 4, 1, 0] rfl
  exact t_X8_hasBelow_5 hx hR hKS hE h_a1 h
def f_X8_hasBelow (n : Nat) (S : St) (a1 : Nat) (a2 : Int32) (a3 : Int32) : Option (St × Int32) := zW (g_X8_hasBelow n S a1 a2 a3)
set_option maxHeartbeats 4000000 in
theorem C_X8_hasBelow {n : Nat} {c : YC} (hKS : ∀ k ∈ KM, k ∈ c.2.2.2.2) {S : St} {a1 : Nat} {a2 : Int32} {a3 : Int32} {out : St × Int32} (h_a1 : (1, a1, 0) ∈ KM) (h : f_X8_hasBelow n S a1 a2 a3 = some out) : MI c yX8_hasBelow cX8_hasBelow 8 (some .boolean) rm_X8_hasBelow S [.ref (c.2.2.1 1 a1 0), .int a2, .int a3] out := mk_Z (own := RX8) (by decide +kernel) rfl (Nat.le_of_ble_eq_true rfl) (zW_some h).2 (fun x hx hR hy hE => by subst hy; exact t_X8_hasBelow_0 hx hR hKS hE h_a1 (zW_some h).1)
def j_X8_reasonOf_128 (n : Nat) (S : St) (l2 : Int32) (s0 : Int32) : Option (St × Int32) :=
  if s0 ≤ 0 then
    bI (f_X8_layTerm n S l2 368 0) fun S2 v4 =>
    pS S2 372 0 v4 fun S5 =>
    bI (f_X8_normalize n S5) fun S7 v9 =>
    if 0 ≤ v9 then
      bI (f_X8_isSame n S7 371 0 368 0) fun S11 v13 =>
      if v13 = 0 then
        some (S11, 7)
      else
        some (S11, 0)
    else
      some (S7, 5)
  else
    some (S, s0)
def j_X8_reasonOf_69 (n : Nat) (S : St) (l2 : Int32) (l3 : Int32) (l5 : Int32) : Option (St × Int32) :=
  if l5 = 0 then
    some (S, 8)
  else
    bU (f_X8_begin n S l2) fun S2 =>
    bI (f_X8_ofSort n (k_X8_typeOf n 101) S2 0) fun S4 v6 =>
    if 0 < v6 then
      some (S4, v6)
    else
      if 0 ≤ l3 then
        bU (f_X8_begin n S4 l3) fun S9 =>
        bI (k_X8_typeOf n 101 S9 0) fun S11 v13 =>
        if v13 = 0 then
          bI (f_X8_normalAt n S11 0) fun S15 v17 =>
          j_X8_reasonOf_128 n S15 l2 v17
        else
          j_X8_reasonOf_128 n S11 l2 v13
      else
        some (S4, v6)
def j_X8_reasonOf_67 (n : Nat) (S : St) (l2 : Int32) (l3 : Int32) (s0 : Int32) : Option (St × Int32) :=
  j_X8_reasonOf_69 n S l2 l3 s0
def j_X8_reasonOf_66 (n : Nat) (S : St) (l2 : Int32) (l3 : Int32) : Option (St × Int32) :=
  j_X8_reasonOf_67 n S l2 l3 0
def f_X8_reasonOf (n : Nat) (S : St) (a1 : Int32) (a2 : Int32) (a3 : Int32) : Option (St × Int32) :=
  bI (f_X8_layTerm n S a2 367 0) fun S1 v3 =>
  bI (f_X8_hasBelow n S1 367 v3 a1) fun S4 v6 =>
  if a3 < 0 then
    j_X8_reasonOf_69 n S4 a2 a3 v6
  else
    bI (f_X8_layTerm n S4 a3 370 0) fun S8 v10 =>
    pS S8 374 0 v10 fun S11 =>
    if v6 = 0 then
      j_X8_reasonOf_66 n S11 a2 a3
    else
      bI (f_X8_hasBelow n S11 370 (S11.1 374 0) a1) fun S14 v16 =>
      if v16 = 0 then
        j_X8_reasonOf_66 n S14 a2 a3
      else
        j_X8_reasonOf_67 n S14 a2 a3 1
set_option maxRecDepth 100000 in
set_option maxHeartbeats 4000000 in
theorem t_X8_reasonOf_128 {n : Nat} {x : XC} (hx : CX x cX8_reasonOf 7 RX8) (hR : x_R x = rm_X8_reasonOf) (hKS : ∀ k ∈ KM, k ∈ x_K x) {out : St × Int32} (hE : EI x cX8_reasonOf out) {S : St} {l2 : Int32} {s0 : Int32} (h : j_X8_reasonOf_128 n S l2 s0 = some out) : WX x 7 0 0 S 128 [(0, .ref (x_ad x 0 7 0)), (2, .int l2)] [.int s0] := by
  unfold j_X8_reasonOf_128 at h
  refine r_istore (lv' := [(6, .int s0), (0, .ref (x_ad x 0 7 0)), (2, .int l2)]) hx dX8_reasonOf_128 (by decide) rfl ?_
  refine r_iload (k0 := 0) hx dX8_reasonOf_130 rfl ?_
  refine r_if_le (tgt := 138) hx dX8_reasonOf_132 (by decide) (fun c1 => ?_) (fun c1 => ?_)
  · have h := ite_t h c1
    refine r_aload_n (k0 := 1) hx dX8_reasonOf_138 rfl rfl ?_
    refine r_aload_n (k0 := 1) hx dX8_reasonOf_139 rfl rfl ?_
    refine r_iload_n (k0 := 2) hx dX8_reasonOf_140 rfl rfl ?_
    refine r_aload_n (k0 := 1) hx dX8_reasonOf_141 rfl rfl ?_
    refine g_368 hx (k_0_7 hKS) wf_X8_56 dX8_reasonOf_142 ?_
    refine r_iconst (v := 0) hx dX8_reasonOf_145 (by decide) ?_
    obtain ⟨S2, v4, c3, h⟩ := bI_some h
    refine r_Vi (ci := 7) (As := [.int l2, .ref (x_ad x 1 368 0), .int 0]) (rest := [.ref (x_ad x 0 7 0)]) hx (C_X8_layTerm (c := x_y x) hKS km_368 c3) (k_0_7 hKS) rfl wl_X8_176 wi_X8_layTerm we_X8_layTerm wn_X8 wc_X8_layTerm dy_X8_layTerm rfl (by rw [hR]; decide +kernel) rfl (Nat.le_of_ble_eq_true rfl) dX8_reasonOf_146 ?_
    obtain ⟨S5, e6, h⟩ := pS_some h
    refine p_372 hx (k_0_7 hKS) wf_X8_186 dX8_reasonOf_149 e6 ?_
    refine r_aload_n (k0 := 1) hx dX8_reasonOf_152 rfl rfl ?_
    obtain ⟨S7, v9, c8, h⟩ := bI_some h
    refine r_Vi (ci := 7) (As := []) (rest := []) hx (C_X8_normalize (c := x_y x) hKS c8) (k_0_7 hKS) rfl wl_X8_237 wi_X8_normalize we_X8_normalize wn_X8 wc_X8_normalize dy_X8_normalize rfl (by rw [hR]; decide +kernel) rfl (Nat.le_of_ble_eq_true rfl) dX8_reasonOf_153 ?_
    refine r_if_ge (tgt := 161) hx dX8_reasonOf_156 (by decide) (fun c10 => ?_) (fun c10 => ?_)
    · have h := ite_t h c10
      refine r_aload_n (k0 := 1) hx dX8_reasonOf_161 rfl rfl ?_
      refine r_aload_n (k0 := 1) hx dX8_reasonOf_162 rfl rfl ?_
      refine g_371 hx (k_0_7 hKS) wf_X8_66 dX8_reasonOf_163 ?_
      refine r_iconst (v := 0) hx dX8_reasonOf_166 (by decide) ?_
      refine r_aload_n (k0 := 1) hx dX8_reasonOf_167 rfl rfl ?_
      refine g_368 hx (k_0_7 hKS) wf_X8_56 dX8_reasonOf_168 ?_
      refine r_iconst (v := 0) hx dX8_reasonOf_171 (by decide) ?_
      obtain ⟨S11, v13, c12, h⟩ := bI_some h
      refine r_Vi (ci := 7) (As := [.ref (x_ad x 1 371 0), .int 0, .ref (x_ad x 1 368 0), .int 0]) (rest := []) hx (C_X8_isSame (c := x_y x) hKS km_371 km_368 c12) (k_0_7 hKS) rfl wl_X8_270 wi_X8_isSame we_X8_isSame wn_X8 wc_X8_isSame dy_X8_isSame rfl (by rw [hR]; decide +kernel) rfl (Nat.le_of_ble_eq_true rfl) dX8_reasonOf_172 ?_
      refine r_if_eq (tgt := 182) hx dX8_reasonOf_175 (by decide) (fun c14 => ?_) (fun c14 => ?_)
      · have h := ite_t h c14
        refine r_bipush (v := 7) hx dX8_reasonOf_182 (by decide) ?_
        exact r_iret hE h dX8_reasonOf_184
      · have h := ite_f h c14
        refine r_iconst (v := 0) hx dX8_reasonOf_178 (by decide) ?_
        refine r_goto (tgt := 184) hx dX8_reasonOf_179 (by decide) ?_
        exact r_iret hE h dX8_reasonOf_184
    · have h := ite_f h c10
      refine r_iconst (v := 5) hx dX8_reasonOf_159 (by decide) ?_
      exact r_iret hE h dX8_reasonOf_160
  · have h := ite_f h c1
    refine r_iload (k0 := 0) hx dX8_reasonOf_135 rfl ?_
    exact r_iret hE h dX8_reasonOf_137
set_option maxRecDepth 100000 in
set_option maxHeartbeats 4000000 in
theorem t_X8_reasonOf_69 {n : Nat} {x : XC} (hx : CX x cX8_reasonOf 7 RX8) (hR : x_R x = rm_X8_reasonOf) (hKS : ∀ k ∈ KM, k ∈ x_K x) {out : St × Int32} (hE : EI x cX8_reasonOf out) {S : St} {l2 : Int32} {l3 : Int32} {l5 : Int32} (h : j_X8_reasonOf_69 n S l2 l3 l5 = some out) : WX x 7 0 0 S 69 [(0, .ref (x_ad x 0 7 0)), (2, .int l2), (3, .int l3), (5, .int l5)] [] := by
  unfold j_X8_reasonOf_69 at h
  refine r_iload (k0 := 3) hx dX8_reasonOf_69 rfl ?_
  refine r_if_ne (tgt := 77) hx dX8_reasonOf_71 (by decide) (fun c1 => ?_) (fun c1 => ?_)
  · have h := ite_f h c1
    refine r_aload_n (k0 := 0) hx dX8_reasonOf_77 rfl rfl ?_
    refine r_iload_n (k0 := 1) hx dX8_reasonOf_78 rfl rfl ?_
    obtain ⟨S2, c3, h⟩ := bU_some h
    refine r_Vv (ci := 7) (As := [.int l2]) (rest := []) hx (C_X8_begin (c := x_y x) hKS c3) (k_0_7 hKS) rfl wl_X8_285 wi_X8_begin we_X8_begin wn_X8 wc_X8_begin dy_X8_begin rfl (by rw [hR]; decide +kernel) rfl (Nat.le_of_ble_eq_true rfl) dX8_reasonOf_79 ?_
    refine r_aload_n (k0 := 0) hx dX8_reasonOf_82 rfl rfl ?_
    refine r_iconst (v := 0) hx dX8_reasonOf_83 (by decide) ?_
    obtain ⟨S4, v6, c5, h⟩ := bI_some h
    refine r_Vi (ci := 7) (As := [.int 0]) (rest := []) hx (C_X8_ofSort (c := x_y x) hKS (fun h => D_X8_typeOf (c := x_y x) hKS (d := 101) h) c5) (k_0_7 hKS) rfl wl_X8_267 wi_X8_ofSort we_X8_ofSort wn_X8 wc_X8_ofSort dy_X8_ofSort rfl (by rw [hR]; decide +kernel) rfl (Nat.le_of_ble_eq_true rfl) dX8_reasonOf_84 ?_
    refine r_istore (lv' := [(6, .int v6), (0, .ref (x_ad x 0 7 0)), (2, .int l2), (3, .int l3), (5, .int l5)]) hx dX8_reasonOf_87 (by decide) rfl ?_
    refine r_iload (k0 := 0) hx dX8_reasonOf_89 rfl ?_
    refine r_if_gt (tgt := 98) hx dX8_reasonOf_91 (by decide) (fun c7 => ?_) (fun c7 => ?_)
    · have h := ite_t h c7
      refine r_iload (k0 := 0) hx dX8_reasonOf_98 rfl ?_
      exact r_iret hE h dX8_reasonOf_100
    · have h := ite_f h c7
      refine r_iload_n (k0 := 3) hx dX8_reasonOf_94 rfl rfl ?_
      refine r_if_ge (tgt := 101) hx dX8_reasonOf_95 (by decide) (fun c8 => ?_) (fun c8 => ?_)
      · have h := ite_t h c8
        refine r_aload_n (k0 := 1) hx dX8_reasonOf_101 rfl rfl ?_
        refine r_iload_n (k0 := 3) hx dX8_reasonOf_102 rfl rfl ?_
        obtain ⟨S9, c10, h⟩ := bU_some h
        refine r_Vv (ci := 7) (As := [.int l3]) (rest := []) hx (C_X8_begin (c := x_y x) hKS c10) (k_0_7 hKS) rfl wl_X8_285 wi_X8_begin we_X8_begin wn_X8 wc_X8_begin dy_X8_begin rfl (by rw [hR]; decide +kernel) rfl (Nat.le_of_ble_eq_true rfl) dX8_reasonOf_103 ?_
        refine r_aload_n (k0 := 1) hx dX8_reasonOf_106 rfl rfl ?_
        refine r_iconst (v := 0) hx dX8_reasonOf_107 (by decide) ?_
        obtain ⟨S11, v13, c12, h⟩ := bI_some h
        refine r_Vi (ci := 7) (As := [.int 0]) (rest := []) hx (D_X8_typeOf (c := x_y x) hKS c12) (k_0_7 hKS) rfl wl_X8_240 wi_X8_typeOf we_X8_typeOf wn_X8 wc_X8_typeOf dy_X8_typeOf rfl (by rw [hR]; decide +kernel) rfl (Nat.le_of_ble_eq_true rfl) dX8_reasonOf_108 ?_
        refine r_istore (lv' := [(6, .int v13), (0, .ref (x_ad x 0 7 0)), (2, .int l2), (3, .int l3), (5, .int l5)]) hx dX8_reasonOf_111 (by decide) rfl ?_
        refine r_iload (k0 := 0) hx dX8_reasonOf_113 rfl ?_
        refine r_if_ne (tgt := 126) hx dX8_reasonOf_115 (by decide) (fun c14 => ?_) (fun c14 => ?_)
        · have h := ite_f h c14
          refine r_iload (k0 := 0) hx dX8_reasonOf_126 rfl ?_
          refine WX.sub (lv' := [(0, .ref (x_ad x 0 7 0)), (2, .int l2)]) ?_ [1, 2] rfl
          exact t_X8_reasonOf_128 hx hR hKS hE h
        · have h := ite_t h c14
          refine r_aload_n (k0 := 1) hx dX8_reasonOf_118 rfl rfl ?_
          refine r_iconst (v := 0) hx dX8_reasonOf_119 (by decide) ?_
          obtain ⟨S15, v17, c16, h⟩ := bI_some h
          refine r_Vi (ci := 7) (As := [.int 0]) (rest := []) hx (C_X8_normalAt (c := x_y x) hKS c16) (k_0_7 hKS) rfl wl_X8_243 wi_X8_normalAt we_X8_normalAt wn_X8 wc_X8_normalAt dy_X8_normalAt rfl (by rw [hR]; decide +kernel) rfl (Nat.le_of_ble_eq_true rfl) dX8_reasonOf_120 ?_
          refine r_goto (tgt := 128) hx dX8_reasonOf_123 (by decide) ?_
          refine WX.sub (lv' := [(0, .ref (x_ad x 0 7 0)), (2, .int l2)]) ?_ [1, 2] rfl
          exact t_X8_reasonOf_128 hx hR hKS hE h
      · have h := ite_f h c8
        refine r_iload (k0 := 0) hx dX8_reasonOf_98 rfl ?_
        exact r_iret hE h dX8_reasonOf_100
  · have h := ite_t h c1
    refine r_bipush (v := 8) hx dX8_reasonOf_74 (by decide) ?_
    exact r_iret hE h dX8_reasonOf_76
set_option maxRecDepth 100000 in
set_option maxHeartbeats 4000000 in
theorem t_X8_reasonOf_67 {n : Nat} {x : XC} (hx : CX x cX8_reasonOf 7 RX8) (hR : x_R x = rm_X8_reasonOf) (hKS : ∀ k ∈ KM, k ∈ x_K x) {out : St × Int32} (hE : EI x cX8_reasonOf out) {S : St} {l2 : Int32} {l3 : Int32} {s0 : Int32} (h : j_X8_reasonOf_67 n S l2 l3 s0 = some out) : WX x 7 0 0 S 67 [(0, .ref (x_ad x 0 7 0)), (2, .int l2), (3, .int l3)] [.int s0] := by
  unfold j_X8_reasonOf_67 at h
  refine r_istore (lv' := [(5, .int s0), (0, .ref (x_ad x 0 7 0)), (2, .int l2), (3, .int l3)]) hx dX8_reasonOf_67 (by decide) rfl ?_
  refine WX.sub (lv' := [(0, .ref (x_ad x 0 7 0)), (2, .int l2), (3, .int l3), (5, .int s0)]) ?_ [1, 2, 3, 0] rfl
  exact t_X8_reasonOf_69 hx hR hKS hE h
set_option maxRecDepth 100000 in
set_option maxHeartbeats 4000000 in
theorem t_X8_reasonOf_66 {n : Nat} {x : XC} (hx : CX x cX8_reasonOf 7 RX8) (hR : x_R x = rm_X8_reasonOf) (hKS : ∀ k ∈ KM, k ∈ x_K x) {out : St × Int32} (hE : EI x cX8_reasonOf out) {S : St} {l2 : Int32} {l3 : Int32} (h : j_X8_reasonOf_66 n S l2 l3 = some out) : WX x 7 0 0 S 66 [(0, .ref (x_ad x 0 7 0)), (2, .int l2), (3, .int l3)] [] := by
  unfold j_X8_reasonOf_66 at h
  refine r_iconst (v := 0) hx dX8_reasonOf_66 (by decide) ?_
  exact t_X8_reasonOf_67 hx hR hKS hE h
set_option maxRecDepth 100000 in
set_option maxHeartbeats 4000000 in
theorem t_X8_reasonOf_0 {n : Nat} {x : XC} (hx : CX x cX8_reasonOf 7 RX8) (hR : x_R x = rm_X8_reasonOf) (hKS : ∀ k ∈ KM, k ∈ x_K x) {out : St × Int32} (hE : EI x cX8_reasonOf out) {S : St} {a1 : Int32} {a2 : Int32} {a3 : Int32} (h : f_X8_reasonOf n S a1 a2 a3 = some out) : WX x 7 0 0 S 0 [(0, .ref (x_ad x 0 7 0)), (1, .int a1), (2, .int a2), (3, .int a3)] [] := by
  unfold f_X8_reasonOf at h
  refine r_aload_n (k0 := 0) hx dX8_reasonOf_0 rfl rfl ?_
  refine r_iload_n (k0 := 2) hx dX8_reasonOf_1 rfl rfl ?_
  refine r_aload_n (k0 := 0) hx dX8_reasonOf_2 rfl rfl ?_
  refine g_367 hx (k_0_7 hKS) wf_X8_53 dX8_reasonOf_3 ?_
  refine r_iconst (v := 0) hx dX8_reasonOf_6 (by decide) ?_
  obtain ⟨S1, v3, c2, h⟩ := bI_some h
  refine r_Vi (ci := 7) (As := [.int a2, .ref (x_ad x 1 367 0), .int 0]) (rest := []) hx (C_X8_layTerm (c := x_y x) hKS km_367 c2) (k_0_7 hKS) rfl wl_X8_176 wi_X8_layTerm we_X8_layTerm wn_X8 wc_X8_layTerm dy_X8_layTerm rfl (by rw [hR]; decide +kernel) rfl (Nat.le_of_ble_eq_true rfl) dX8_reasonOf_7 ?_
  refine r_istore (lv' := [(4, .int v3), (0, .ref (x_ad x 0 7 0)), (1, .int a1), (2, .int a2), (3, .int a3)]) hx dX8_reasonOf_10 (by decide) rfl ?_
  refine r_aload_n (k0 := 1) hx dX8_reasonOf_12 rfl rfl ?_
  refine g_367 hx (k_0_7 hKS) wf_X8_53 dX8_reasonOf_13 ?_
  refine r_iload (k0 := 0) hx dX8_reasonOf_16 rfl ?_
  refine r_iload_n (k0 := 2) hx dX8_reasonOf_18 rfl rfl ?_
  obtain ⟨S4, v6, c5, h⟩ := bI_some h
  refine r_Si (As := [.ref (x_ad x 1 367 0), .int v3, .int a1]) (rest := []) hx (C_X8_hasBelow (c := x_y x) hKS km_367 c5) wl_X8_291 wt_X8_hasBelow wn_X8 wc_X8_hasBelow dy_X8_hasBelow rfl (by rw [hR]; decide +kernel) rfl (Nat.le_of_ble_eq_true rfl) dX8_reasonOf_19 ?_
  refine r_istore (lv' := [(5, .int v6), (4, .int v3), (0, .ref (x_ad x 0 7 0)), (1, .int a1), (2, .int a2), (3, .int a3)]) hx dX8_reasonOf_22 (by decide) rfl ?_
  refine r_iload_n (k0 := 5) hx dX8_reasonOf_24 rfl rfl ?_
  refine r_if_lt (tgt := 69) hx dX8_reasonOf_25 (by decide) (fun c7 => ?_) (fun c7 => ?_)
  · have h := ite_t h c7
    refine WX.sub (lv' := [(0, .ref (x_ad x 0 7 0)), (2, .int a2), (3, .int a3), (5, .int v6)]) ?_ [2, 4, 5, 0] rfl
    exact t_X8_reasonOf_69 hx hR hKS hE h
  · have h := ite_f h c7
    refine r_aload_n (k0 := 2) hx dX8_reasonOf_28 rfl rfl ?_
    refine r_aload_n (k0 := 2) hx dX8_reasonOf_29 rfl rfl ?_
    refine r_iload_n (k0 := 5) hx dX8_reasonOf_30 rfl rfl ?_
    refine r_aload_n (k0 := 2) hx dX8_reasonOf_31 rfl rfl ?_
    refine g_370 hx (k_0_7 hKS) wf_X8_62 dX8_reasonOf_32 ?_
    refine r_iconst (v := 0) hx dX8_reasonOf_35 (by decide) ?_
    obtain ⟨S8, v10, c9, h⟩ := bI_some h
    refine r_Vi (ci := 7) (As := [.int a3, .ref (x_ad x 1 370 0), .int 0]) (rest := [.ref (x_ad x 0 7 0)]) hx (C_X8_layTerm (c := x_y x) hKS km_370 c9) (k_0_7 hKS) rfl wl_X8_176 wi_X8_layTerm we_X8_layTerm wn_X8 wc_X8_layTerm dy_X8_layTerm rfl (by rw [hR]; decide +kernel) rfl (Nat.le_of_ble_eq_true rfl) dX8_reasonOf_36 ?_
    obtain ⟨S11, e12, h⟩ := pS_some h
    refine p_374 hx (k_0_7 hKS) wf_X8_179 dX8_reasonOf_39 e12 ?_
    refine r_iload (k0 := 0) hx dX8_reasonOf_42 rfl ?_
    refine r_if_eq (tgt := 66) hx dX8_reasonOf_44 (by decide) (fun c13 => ?_) (fun c13 => ?_)
    · have h := ite_t h c13
      refine WX.sub (lv' := [(0, .ref (x_ad x 0 7 0)), (2, .int a2), (3, .int a3)]) ?_ [2, 4, 5] rfl
      exact t_X8_reasonOf_66 hx hR hKS hE h
    · have h := ite_f h c13
      refine r_aload_n (k0 := 2) hx dX8_reasonOf_47 rfl rfl ?_
      refine g_370 hx (k_0_7 hKS) wf_X8_62 dX8_reasonOf_48 ?_
      refine r_aload_n (k0 := 2) hx dX8_reasonOf_51 rfl rfl ?_
      refine g_374 hx (k_0_7 hKS) wf_X8_179 dX8_reasonOf_52 ?_
      refine r_iload_n (k0 := 3) hx dX8_reasonOf_55 rfl rfl ?_
      obtain ⟨S14, v16, c15, h⟩ := bI_some h
      refine r_Si (As := [.ref (x_ad x 1 370 0), .int (S11.1 374 0), .int a1]) (rest := []) hx (C_X8_hasBelow (c := x_y x) hKS km_370 c15) wl_X8_291 wt_X8_hasBelow wn_X8 wc_X8_hasBelow dy_X8_hasBelow rfl (by rw [hR]; decide +kernel) rfl (Nat.le_of_ble_eq_true rfl) dX8_reasonOf_56 ?_
      refine r_if_eq (tgt := 66) hx dX8_reasonOf_59 (by decide) (fun c17 => ?_) (fun c17 => ?_)
      · have h := ite_t h c17
        refine WX.sub (lv' := [(0, .ref (x_ad x 0 7 0)), (2, .int a2), (3, .int a3)]) ?_ [2, 4, 5] rfl
        exact t_X8_reasonOf_66 hx hR hKS hE h
      · have h := ite_f h c17
        refine r_iconst (v := 1) hx dX8_reasonOf_62 (by decide) ?_
        refine r_goto (tgt := 67) hx dX8_reasonOf_63 (by decide) ?_
        refine WX.sub (lv' := [(0, .ref (x_ad x 0 7 0)), (2, .int a2), (3, .int a3)]) ?_ [2, 4, 5] rfl
        exact t_X8_reasonOf_67 hx hR hKS hE h
set_option maxHeartbeats 4000000 in
theorem C_X8_reasonOf {n : Nat} {c : YC} (hKS : ∀ k ∈ KM, k ∈ c.2.2.2.2) {S : St} {a1 : Int32} {a2 : Int32} {a3 : Int32} {out : St × Int32} (h : f_X8_reasonOf n S a1 a2 a3 = some out) : MI c yX8_reasonOf cX8_reasonOf 7 (some .int) rm_X8_reasonOf S [.ref (c.2.2.1 0 7 0), .int a1, .int a2, .int a3] out := mk_I (own := RX8) (by decide +kernel) rfl (Nat.le_of_ble_eq_true rfl) (fun x hx hR hy hE => by subst hy; exact t_X8_reasonOf_0 hx hR hKS hE h)
