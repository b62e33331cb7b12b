theorem dX6_needSort_0 : decode cX6_needSort 0 = .ok (.iload_n 1, 1) := by decide +kernel
theorem dX6_needSort_1 : decode cX6_needSort 1 = .ok (.bipush (-6), 2) := by decide +kernel
theorem dX6_needSort_3 : decode cX6_needSort 3 = .ok (.if_icmp .ne 5, 3) := by decide +kernel
theorem dX6_needSort_6 : decode cX6_needSort 6 = .ok (.iconst 5, 1) := by decide +kernel
theorem dX6_needSort_7 : decode cX6_needSort 7 = .ok (.ireturn, 1) := by decide +kernel
theorem dX6_needSort_8 : decode cX6_needSort 8 = .ok (.aload_n 2, 1) := by decide +kernel
theorem dX6_needSort_9 : decode cX6_needSort 9 = .ok (.iconst 0, 1) := by decide +kernel
theorem dX6_needSort_10 : decode cX6_needSort 10 = .ok (.invokevirtual 45, 3) := by decide +kernel
theorem dX6_needSort_13 : decode cX6_needSort 13 = .ok (.ifCond .ne 7, 3) := by decide +kernel
theorem dX6_needSort_16 : decode cX6_needSort 16 = .ok (.iconst 0, 1) := by decide +kernel
theorem dX6_needSort_17 : decode cX6_needSort 17 = .ok (.goto 4, 3) := by decide +kernel
theorem dX6_needSort_20 : decode cX6_needSort 20 = .ok (.iconst 4, 1) := by decide +kernel
theorem dX6_needSort_21 : decode cX6_needSort 21 = .ok (.ireturn, 1) := by decide +kernel
theorem dy_X6_needSort : DY yX6_needSort 2 := by decide +kernel
theorem dX6_putSort_0 : decode cX6_putSort 0 = .ok (.lload_n 1, 1) := by decide +kernel
theorem dX6_putSort_1 : decode cX6_putSort 1 = .ok (.ldc2_w 98, 3) := by decide +kernel
theorem dX6_putSort_4 : decode cX6_putSort 4 = .ok (.lcmp, 1) := by decide +kernel
theorem dX6_putSort_5 : decode cX6_putSort 5 = .ok (.ifCond .ne 5, 3) := by decide +kernel
theorem dX6_putSort_8 : decode cX6_putSort 8 = .ok (.iconst 5, 1) := by decide +kernel
theorem dX6_putSort_9 : decode cX6_putSort 9 = .ok (.ireturn, 1) := by decide +kernel
theorem dX6_putSort_10 : decode cX6_putSort 10 = .ok (.aload_n 3, 1) := by decide +kernel
theorem dX6_putSort_11 : decode cX6_putSort 11 = .ok (.lload_n 1, 1) := by decide +kernel
theorem dX6_putSort_12 : decode cX6_putSort 12 = .ok (.invokevirtual 100, 3) := by decide +kernel
theorem dX6_putSort_15 : decode cX6_putSort 15 = .ok (.iconst 0, 1) := by decide +kernel
theorem dX6_putSort_16 : decode cX6_putSort 16 = .ok (.ireturn, 1) := by decide +kernel
theorem dy_X6_putSort : DY yX6_putSort 2 := by decide +kernel
theorem dX6_putBinderType_0 : decode cX6_putBinderType 0 = .ok (.iload_n 1, 1) := by decide +kernel
theorem dX6_putBinderType_1 : decode cX6_putBinderType 1 = .ok (.ifCond .lt 8, 3) := by decide +kernel
theorem dX6_putBinderType_4 : decode cX6_putBinderType 4 = .ok (.iload_n 1, 1) := by decide +kernel
theorem dX6_putBinderType_5 : decode cX6_putBinderType 5 = .ok (.iload_n 2, 1) := by decide +kernel
theorem dX6_putBinderType_6 : decode cX6_putBinderType 6 = .ok (.if_icmp .lt 5, 3) := by decide +kernel
theorem dX6_putBinderType_9 : decode cX6_putBinderType 9 = .ok (.iconst 1, 1) := by decide +kernel
theorem dX6_putBinderType_10 : decode cX6_putBinderType 10 = .ok (.ireturn, 1) := by decide +kernel
theorem dX6_putBinderType_11 : decode cX6_putBinderType 11 = .ok (.aload_n 0, 1) := by decide +kernel
theorem dX6_putBinderType_12 : decode cX6_putBinderType 12 = .ok (.getfield 15, 3) := by decide +kernel
theorem dX6_putBinderType_15 : decode cX6_putBinderType 15 = .ok (.aload_n 0, 1) := by decide +kernel
theorem dX6_putBinderType_16 : decode cX6_putBinderType 16 = .ok (.getfield 38, 3) := by decide +kernel
theorem dX6_putBinderType_19 : decode cX6_putBinderType 19 = .ok (.iload_n 2, 1) := by decide +kernel
theorem dX6_putBinderType_20 : decode cX6_putBinderType 20 = .ok (.iconst 1, 1) := by decide +kernel
theorem dX6_putBinderType_21 : decode cX6_putBinderType 21 = .ok (.isub, 1) := by decide +kernel
theorem dX6_putBinderType_22 : decode cX6_putBinderType 22 = .ok (.iload_n 1, 1) := by decide +kernel
theorem dX6_putBinderType_23 : decode cX6_putBinderType 23 = .ok (.isub, 1) := by decide +kernel
theorem dX6_putBinderType_24 : decode cX6_putBinderType 24 = .ok (.iaload, 1) := by decide +kernel
theorem dX6_putBinderType_25 : decode cX6_putBinderType 25 = .ok (.aload_n 3, 1) := by decide +kernel
theorem dX6_putBinderType_26 : decode cX6_putBinderType 26 = .ok (.invokevirtual 104, 3) := by decide +kernel
theorem dX6_putBinderType_29 : decode cX6_putBinderType 29 = .ok (.aload_n 3, 1) := by decide +kernel
theorem dX6_putBinderType_30 : decode cX6_putBinderType 30 = .ok (.iload_n 1, 1) := by decide +kernel
theorem dX6_putBinderType_31 : decode cX6_putBinderType 31 = .ok (.iconst 1, 1) := by decide +kernel
theorem dX6_putBinderType_32 : decode cX6_putBinderType 32 = .ok (.iadd, 1) := by decide +kernel
theorem dX6_putBinderType_33 : decode cX6_putBinderType 33 = .ok (.invokevirtual 108, 3) := by decide +kernel
theorem dX6_putBinderType_36 : decode cX6_putBinderType 36 = .ok (.iconst 0, 1) := by decide +kernel
theorem dX6_putBinderType_37 : decode cX6_putBinderType 37 = .ok (.ireturn, 1) := by decide +kernel
theorem dy_X6_putBinderType : DY yX6_putBinderType 3 := by decide +kernel
theorem dX6_putNameType_0 : decode cX6_putNameType 0 = .ok (.aload_n 0, 1) := by decide +kernel
theorem dX6_putNameType_1 : decode cX6_putNameType 1 = .ok (.getfield 15, 3) := by decide +kernel
theorem dX6_putNameType_4 : decode cX6_putNameType 4 = .ok (.aload_n 0, 1) := by decide +kernel
theorem dX6_putNameType_5 : decode cX6_putNameType 5 = .ok (.getfield 19, 3) := by decide +kernel
theorem dX6_putNameType_8 : decode cX6_putNameType 8 = .ok (.aload_n 0, 1) := by decide +kernel
theorem dX6_putNameType_9 : decode cX6_putNameType 9 = .ok (.getfield 15, 3) := by decide +kernel
theorem dX6_putNameType_12 : decode cX6_putNameType 12 = .ok (.getfield 58, 3) := by decide +kernel
theorem dX6_putNameType_15 : decode cX6_putNameType 15 = .ok (.iload_n 1, 1) := by decide +kernel
theorem dX6_putNameType_16 : decode cX6_putNameType 16 = .ok (.iaload, 1) := by decide +kernel
theorem dX6_putNameType_17 : decode cX6_putNameType 17 = .ok (.invokevirtual 112, 3) := by decide +kernel
theorem dX6_putNameType_20 : decode cX6_putNameType 20 = .ok (.aload_n 2, 1) := by decide +kernel
theorem dX6_putNameType_21 : decode cX6_putNameType 21 = .ok (.invokevirtual 104, 3) := by decide +kernel
theorem dX6_putNameType_24 : decode cX6_putNameType 24 = .ok (.aload_n 0, 1) := by decide +kernel
theorem dX6_putNameType_25 : decode cX6_putNameType 25 = .ok (.getfield 9, 3) := by decide +kernel
theorem dX6_putNameType_28 : decode cX6_putNameType 28 = .ok (.aload_n 0, 1) := by decide +kernel
theorem dX6_putNameType_29 : decode cX6_putNameType 29 = .ok (.getfield 15, 3) := by decide +kernel
theorem dX6_putNameType_32 : decode cX6_putNameType 32 = .ok (.getfield 117, 3) := by decide +kernel
theorem dX6_putNameType_35 : decode cX6_putNameType 35 = .ok (.iload_n 1, 1) := by decide +kernel
theorem dX6_putNameType_36 : decode cX6_putNameType 36 = .ok (.iaload, 1) := by decide +kernel
theorem dX6_putNameType_37 : decode cX6_putNameType 37 = .ok (.invokevirtual 61, 3) := by decide +kernel
theorem dX6_putNameType_40 : decode cX6_putNameType 40 = .ok (.lstore_n 3, 1) := by decide +kernel
theorem dX6_putNameType_41 : decode cX6_putNameType 41 = .ok (.aload_n 0, 1) := by decide +kernel
theorem dX6_putNameType_42 : decode cX6_putNameType 42 = .ok (.getfield 9, 3) := by decide +kernel
theorem dX6_putNameType_45 : decode cX6_putNameType 45 = .ok (.aload_n 0, 1) := by decide +kernel
theorem dX6_putNameType_46 : decode cX6_putNameType 46 = .ok (.getfield 15, 3) := by decide +kernel
theorem dX6_putNameType_49 : decode cX6_putNameType 49 = .ok (.getfield 120, 3) := by decide +kernel
theorem dX6_putNameType_52 : decode cX6_putNameType 52 = .ok (.iload_n 1, 1) := by decide +kernel
theorem dX6_putNameType_53 : decode cX6_putNameType 53 = .ok (.iaload, 1) := by decide +kernel
theorem dX6_putNameType_54 : decode cX6_putNameType 54 = .ok (.invokevirtual 61, 3) := by decide +kernel
theorem dX6_putNameType_57 : decode cX6_putNameType 57 = .ok (.lstore 5, 2) := by decide +kernel
theorem dX6_putNameType_59 : decode cX6_putNameType 59 = .ok (.aload_n 2, 1) := by decide +kernel
theorem dX6_putNameType_60 : decode cX6_putNameType 60 = .ok (.lload_n 3, 1) := by decide +kernel
theorem dX6_putNameType_61 : decode cX6_putNameType 61 = .ok (.lload 5, 2) := by decide +kernel
theorem dX6_putNameType_63 : decode cX6_putNameType 63 = .ok (.invokevirtual 123, 3) := by decide +kernel
theorem dX6_putNameType_66 : decode cX6_putNameType 66 = .ok (.ifCond .eq 7, 3) := by decide +kernel
theorem dX6_putNameType_69 : decode cX6_putNameType 69 = .ok (.iconst 0, 1) := by decide +kernel
theorem dX6_putNameType_70 : decode cX6_putNameType 70 = .ok (.goto 4, 3) := by decide +kernel
theorem dX6_putNameType_73 : decode cX6_putNameType 73 = .ok (.iconst 5, 1) := by decide +kernel
theorem dX6_putNameType_74 : decode cX6_putNameType 74 = .ok (.ireturn, 1) := by decide +kernel
theorem dy_X6_putNameType : DY yX6_putNameType 2 := by decide +kernel
theorem dX6_findOfPi_0 : decode cX6_findOfPi 0 = .ok (.aload_n 0, 1) := by decide +kernel
theorem dX6_findOfPi_1 : decode cX6_findOfPi 1 = .ok (.getfield 29, 3) := by decide +kernel
theorem dX6_findOfPi_4 : decode cX6_findOfPi 4 = .ok (.iload_n 3, 1) := by decide +kernel
theorem dX6_findOfPi_5 : decode cX6_findOfPi 5 = .ok (.iconst 1, 1) := by decide +kernel
theorem dX6_findOfPi_6 : decode cX6_findOfPi 6 = .ok (.iadd, 1) := by decide +kernel
theorem dX6_findOfPi_7 : decode cX6_findOfPi 7 = .ok (.aaload, 1) := by decide +kernel
theorem dX6_findOfPi_8 : decode cX6_findOfPi 8 = .ok (.astore 4, 2) := by decide +kernel
theorem dX6_findOfPi_10 : decode cX6_findOfPi 10 = .ok (.aload_n 0, 1) := by decide +kernel
theorem dX6_findOfPi_11 : decode cX6_findOfPi 11 = .ok (.aload_n 0, 1) := by decide +kernel
theorem dX6_findOfPi_12 : decode cX6_findOfPi 12 = .ok (.getfield 15, 3) := by decide +kernel
theorem dX6_findOfPi_15 : decode cX6_findOfPi 15 = .ok (.getfield 58, 3) := by decide +kernel
theorem dX6_findOfPi_18 : decode cX6_findOfPi 18 = .ok (.iload_n 1, 1) := by decide +kernel
theorem dX6_findOfPi_19 : decode cX6_findOfPi 19 = .ok (.iaload, 1) := by decide +kernel
theorem dX6_findOfPi_20 : decode cX6_findOfPi 20 = .ok (.iload_n 2, 1) := by decide +kernel
theorem dX6_findOfPi_21 : decode cX6_findOfPi 21 = .ok (.iload_n 3, 1) := by decide +kernel
theorem dX6_findOfPi_22 : decode cX6_findOfPi 22 = .ok (.iconst 1, 1) := by decide +kernel
theorem dX6_findOfPi_23 : decode cX6_findOfPi 23 = .ok (.iadd, 1) := by decide +kernel
theorem dX6_findOfPi_24 : decode cX6_findOfPi 24 = .ok (.invokevirtual 127, 3) := by decide +kernel
theorem dX6_findOfPi_27 : decode cX6_findOfPi 27 = .ok (.istore 5, 2) := by decide +kernel
theorem dX6_findOfPi_29 : decode cX6_findOfPi 29 = .ok (.iload 5, 2) := by decide +kernel
theorem dX6_findOfPi_31 : decode cX6_findOfPi 31 = .ok (.ifCond .ne 20, 3) := by decide +kernel
theorem dX6_findOfPi_34 : decode cX6_findOfPi 34 = .ok (.aload_n 0, 1) := by decide +kernel
theorem dX6_findOfPi_35 : decode cX6_findOfPi 35 = .ok (.aload_n 0, 1) := by decide +kernel
theorem dX6_findOfPi_36 : decode cX6_findOfPi 36 = .ok (.getfield 23, 3) := by decide +kernel
theorem dX6_findOfPi_39 : decode cX6_findOfPi 39 = .ok (.aload 4, 2) := by decide +kernel
theorem dX6_findOfPi_41 : decode cX6_findOfPi 41 = .ok (.invokevirtual 130, 3) := by decide +kernel
theorem dX6_findOfPi_44 : decode cX6_findOfPi 44 = .ok (.aload 4, 2) := by decide +kernel
theorem dX6_findOfPi_46 : decode cX6_findOfPi 46 = .ok (.invokevirtual 136, 3) := by decide +kernel
theorem dX6_findOfPi_49 : decode cX6_findOfPi 49 = .ok (.istore 5, 2) := by decide +kernel
theorem dX6_findOfPi_51 : decode cX6_findOfPi 51 = .ok (.iload 5, 2) := by decide +kernel
theorem dX6_findOfPi_53 : decode cX6_findOfPi 53 = .ok (.ifCond .eq 6, 3) := by decide +kernel
theorem dX6_findOfPi_56 : decode cX6_findOfPi 56 = .ok (.iload 5, 2) := by decide +kernel
theorem dX6_findOfPi_58 : decode cX6_findOfPi 58 = .ok (.ireturn, 1) := by decide +kernel
theorem dX6_findOfPi_59 : decode cX6_findOfPi 59 = .ok (.aload 4, 2) := by decide +kernel
theorem dX6_findOfPi_61 : decode cX6_findOfPi 61 = .ok (.getfield 139, 3) := by decide +kernel
theorem dX6_findOfPi_64 : decode cX6_findOfPi 64 = .ok (.iconst 0, 1) := by decide +kernel
theorem dX6_findOfPi_65 : decode cX6_findOfPi 65 = .ok (.laload, 1) := by decide +kernel
theorem dX6_findOfPi_66 : decode cX6_findOfPi 66 = .ok (.lstore 6, 2) := by decide +kernel
theorem dX6_findOfPi_68 : decode cX6_findOfPi 68 = .ok (.aload_n 0, 1) := by decide +kernel
theorem dX6_findOfPi_69 : decode cX6_findOfPi 69 = .ok (.getfield 38, 3) := by decide +kernel
theorem dX6_findOfPi_72 : decode cX6_findOfPi 72 = .ok (.iload_n 2, 1) := by decide +kernel
theorem dX6_findOfPi_73 : decode cX6_findOfPi 73 = .ok (.aload_n 0, 1) := by decide +kernel
theorem dX6_findOfPi_74 : decode cX6_findOfPi 74 = .ok (.getfield 15, 3) := by decide +kernel
theorem dX6_findOfPi_77 : decode cX6_findOfPi 77 = .ok (.getfield 58, 3) := by decide +kernel
theorem dX6_findOfPi_80 : decode cX6_findOfPi 80 = .ok (.iload_n 1, 1) := by decide +kernel
theorem dX6_findOfPi_81 : decode cX6_findOfPi 81 = .ok (.iaload, 1) := by decide +kernel
theorem dX6_findOfPi_82 : decode cX6_findOfPi 82 = .ok (.iastore, 1) := by decide +kernel
theorem dX6_findOfPi_83 : decode cX6_findOfPi 83 = .ok (.aload_n 0, 1) := by decide +kernel
theorem dX6_findOfPi_84 : decode cX6_findOfPi 84 = .ok (.aload_n 0, 1) := by decide +kernel
theorem dX6_findOfPi_85 : decode cX6_findOfPi 85 = .ok (.getfield 15, 3) := by decide +kernel
theorem dX6_findOfPi_88 : decode cX6_findOfPi 88 = .ok (.getfield 117, 3) := by decide +kernel
theorem dX6_findOfPi_91 : decode cX6_findOfPi 91 = .ok (.iload_n 1, 1) := by decide +kernel
theorem dX6_findOfPi_92 : decode cX6_findOfPi 92 = .ok (.iaload, 1) := by decide +kernel
theorem dX6_findOfPi_93 : decode cX6_findOfPi 93 = .ok (.iload_n 2, 1) := by decide +kernel
theorem dX6_findOfPi_94 : decode cX6_findOfPi 94 = .ok (.iconst 1, 1) := by decide +kernel
theorem dX6_findOfPi_95 : decode cX6_findOfPi 95 = .ok (.iadd, 1) := by decide +kernel
theorem dX6_findOfPi_96 : decode cX6_findOfPi 96 = .ok (.iload_n 3, 1) := by decide +kernel
theorem dX6_findOfPi_97 : decode cX6_findOfPi 97 = .ok (.iconst 1, 1) := by decide +kernel
theorem dX6_findOfPi_98 : decode cX6_findOfPi 98 = .ok (.iadd, 1) := by decide +kernel
theorem dX6_findOfPi_99 : decode cX6_findOfPi 99 = .ok (.invokevirtual 127, 3) := by decide +kernel
theorem dX6_findOfPi_102 : decode cX6_findOfPi 102 = .ok (.istore 5, 2) := by decide +kernel
theorem dX6_findOfPi_104 : decode cX6_findOfPi 104 = .ok (.iload 5, 2) := by decide +kernel
theorem dX6_findOfPi_106 : decode cX6_findOfPi 106 = .ok (.ifCond .ne 20, 3) := by decide +kernel
theorem dX6_findOfPi_109 : decode cX6_findOfPi 109 = .ok (.aload_n 0, 1) := by decide +kernel
theorem dX6_findOfPi_110 : decode cX6_findOfPi 110 = .ok (.aload_n 0, 1) := by decide +kernel
theorem dX6_findOfPi_111 : decode cX6_findOfPi 111 = .ok (.getfield 23, 3) := by decide +kernel
theorem dX6_findOfPi_114 : decode cX6_findOfPi 114 = .ok (.aload 4, 2) := by decide +kernel
theorem dX6_findOfPi_116 : decode cX6_findOfPi 116 = .ok (.invokevirtual 130, 3) := by decide +kernel
theorem dX6_findOfPi_119 : decode cX6_findOfPi 119 = .ok (.aload 4, 2) := by decide +kernel
theorem dX6_findOfPi_121 : decode cX6_findOfPi 121 = .ok (.invokevirtual 136, 3) := by decide +kernel
theorem dX6_findOfPi_124 : decode cX6_findOfPi 124 = .ok (.istore 5, 2) := by decide +kernel
theorem dX6_findOfPi_126 : decode cX6_findOfPi 126 = .ok (.iload 5, 2) := by decide +kernel
theorem dX6_findOfPi_128 : decode cX6_findOfPi 128 = .ok (.ifCond .ne 29, 3) := by decide +kernel
theorem dX6_findOfPi_131 : decode cX6_findOfPi 131 = .ok (.aload_n 0, 1) := by decide +kernel
theorem dX6_findOfPi_132 : decode cX6_findOfPi 132 = .ok (.iconst 3, 1) := by decide +kernel
theorem dX6_findOfPi_133 : decode cX6_findOfPi 133 = .ok (.lload 6, 2) := by decide +kernel
theorem dX6_findOfPi_135 : decode cX6_findOfPi 135 = .ok (.aload 4, 2) := by decide +kernel
theorem dX6_findOfPi_137 : decode cX6_findOfPi 137 = .ok (.getfield 139, 3) := by decide +kernel
theorem dX6_findOfPi_140 : decode cX6_findOfPi 140 = .ok (.iconst 0, 1) := by decide +kernel
theorem dX6_findOfPi_141 : decode cX6_findOfPi 141 = .ok (.laload, 1) := by decide +kernel
theorem dX6_findOfPi_142 : decode cX6_findOfPi 142 = .ok (.invokestatic 143, 3) := by decide +kernel
theorem dX6_findOfPi_145 : decode cX6_findOfPi 145 = .ok (.aload_n 0, 1) := by decide +kernel
theorem dX6_findOfPi_146 : decode cX6_findOfPi 146 = .ok (.getfield 29, 3) := by decide +kernel
theorem dX6_findOfPi_149 : decode cX6_findOfPi 149 = .ok (.iload_n 3, 1) := by decide +kernel
theorem dX6_findOfPi_150 : decode cX6_findOfPi 150 = .ok (.aaload, 1) := by decide +kernel
theorem dX6_findOfPi_151 : decode cX6_findOfPi 151 = .ok (.invokevirtual 73, 3) := by decide +kernel
theorem dX6_findOfPi_154 : decode cX6_findOfPi 154 = .ok (.goto 5, 3) := by decide +kernel
theorem dX6_findOfPi_157 : decode cX6_findOfPi 157 = .ok (.iload 5, 2) := by decide +kernel
theorem dX6_findOfPi_159 : decode cX6_findOfPi 159 = .ok (.ireturn, 1) := by decide +kernel
theorem dy_X6_findOfPi : DY yX6_findOfPi 3 := by decide +kernel
theorem dX6_findOfLambda_0 : decode cX6_findOfLambda 0 = .ok (.aload_n 0, 1) := by decide +kernel
theorem dX6_findOfLambda_1 : decode cX6_findOfLambda 1 = .ok (.getfield 29, 3) := by decide +kernel
theorem dX6_findOfLambda_4 : decode cX6_findOfLambda 4 = .ok (.iload_n 3, 1) := by decide +kernel
theorem dX6_findOfLambda_5 : decode cX6_findOfLambda 5 = .ok (.aaload, 1) := by decide +kernel
theorem dX6_findOfLambda_6 : decode cX6_findOfLambda 6 = .ok (.astore 4, 2) := by decide +kernel
theorem dX6_findOfLambda_8 : decode cX6_findOfLambda 8 = .ok (.aload_n 0, 1) := by decide +kernel
theorem dX6_findOfLambda_9 : decode cX6_findOfLambda 9 = .ok (.getfield 29, 3) := by decide +kernel
theorem dX6_findOfLambda_12 : decode cX6_findOfLambda 12 = .ok (.iload_n 3, 1) := by decide +kernel
theorem dX6_findOfLambda_13 : decode cX6_findOfLambda 13 = .ok (.iconst 1, 1) := by decide +kernel
theorem dX6_findOfLambda_14 : decode cX6_findOfLambda 14 = .ok (.iadd, 1) := by decide +kernel
theorem dX6_findOfLambda_15 : decode cX6_findOfLambda 15 = .ok (.aaload, 1) := by decide +kernel
theorem dX6_findOfLambda_16 : decode cX6_findOfLambda 16 = .ok (.astore 5, 2) := by decide +kernel
theorem dX6_findOfLambda_18 : decode cX6_findOfLambda 18 = .ok (.aload_n 0, 1) := by decide +kernel
theorem dX6_findOfLambda_19 : decode cX6_findOfLambda 19 = .ok (.aload_n 0, 1) := by decide +kernel
theorem dX6_findOfLambda_20 : decode cX6_findOfLambda 20 = .ok (.getfield 15, 3) := by decide +kernel
theorem dX6_findOfLambda_23 : decode cX6_findOfLambda 23 = .ok (.getfield 58, 3) := by decide +kernel
theorem dX6_findOfLambda_26 : decode cX6_findOfLambda 26 = .ok (.iload_n 1, 1) := by decide +kernel
theorem dX6_findOfLambda_27 : decode cX6_findOfLambda 27 = .ok (.iaload, 1) := by decide +kernel
theorem dX6_findOfLambda_28 : decode cX6_findOfLambda 28 = .ok (.iload_n 2, 1) := by decide +kernel
theorem dX6_findOfLambda_29 : decode cX6_findOfLambda 29 = .ok (.iload_n 3, 1) := by decide +kernel
theorem dX6_findOfLambda_30 : decode cX6_findOfLambda 30 = .ok (.iconst 1, 1) := by decide +kernel
theorem dX6_findOfLambda_31 : decode cX6_findOfLambda 31 = .ok (.iadd, 1) := by decide +kernel
theorem dX6_findOfLambda_32 : decode cX6_findOfLambda 32 = .ok (.invokevirtual 127, 3) := by decide +kernel
theorem dX6_findOfLambda_35 : decode cX6_findOfLambda 35 = .ok (.istore 6, 2) := by decide +kernel
theorem dX6_findOfLambda_37 : decode cX6_findOfLambda 37 = .ok (.iload 6, 2) := by decide +kernel
theorem dX6_findOfLambda_39 : decode cX6_findOfLambda 39 = .ok (.ifCond .ne 20, 3) := by decide +kernel
theorem dX6_findOfLambda_42 : decode cX6_findOfLambda 42 = .ok (.aload_n 0, 1) := by decide +kernel
theorem dX6_findOfLambda_43 : decode cX6_findOfLambda 43 = .ok (.aload_n 0, 1) := by decide +kernel
theorem dX6_findOfLambda_44 : decode cX6_findOfLambda 44 = .ok (.getfield 23, 3) := by decide +kernel
theorem dX6_findOfLambda_47 : decode cX6_findOfLambda 47 = .ok (.aload 5, 2) := by decide +kernel
theorem dX6_findOfLambda_49 : decode cX6_findOfLambda 49 = .ok (.invokevirtual 130, 3) := by decide +kernel
theorem dX6_findOfLambda_52 : decode cX6_findOfLambda 52 = .ok (.aload 5, 2) := by decide +kernel
theorem dX6_findOfLambda_54 : decode cX6_findOfLambda 54 = .ok (.invokevirtual 136, 3) := by decide +kernel
theorem dX6_findOfLambda_57 : decode cX6_findOfLambda 57 = .ok (.istore 6, 2) := by decide +kernel
theorem dX6_findOfLambda_59 : decode cX6_findOfLambda 59 = .ok (.iload 6, 2) := by decide +kernel
theorem dX6_findOfLambda_61 : decode cX6_findOfLambda 61 = .ok (.ifCond .eq 6, 3) := by decide +kernel
theorem dX6_findOfLambda_64 : decode cX6_findOfLambda 64 = .ok (.iload 6, 2) := by decide +kernel
theorem dX6_findOfLambda_66 : decode cX6_findOfLambda 66 = .ok (.ireturn, 1) := by decide +kernel
theorem dX6_findOfLambda_67 : decode cX6_findOfLambda 67 = .ok (.aload_n 0, 1) := by decide +kernel
theorem dX6_findOfLambda_68 : decode cX6_findOfLambda 68 = .ok (.getfield 38, 3) := by decide +kernel
theorem dX6_findOfLambda_71 : decode cX6_findOfLambda 71 = .ok (.iload_n 2, 1) := by decide +kernel
theorem dX6_findOfLambda_72 : decode cX6_findOfLambda 72 = .ok (.aload_n 0, 1) := by decide +kernel
theorem dX6_findOfLambda_73 : decode cX6_findOfLambda 73 = .ok (.getfield 15, 3) := by decide +kernel
theorem dX6_findOfLambda_76 : decode cX6_findOfLambda 76 = .ok (.getfield 58, 3) := by decide +kernel
theorem dX6_findOfLambda_79 : decode cX6_findOfLambda 79 = .ok (.iload_n 1, 1) := by decide +kernel
theorem dX6_findOfLambda_80 : decode cX6_findOfLambda 80 = .ok (.iaload, 1) := by decide +kernel
theorem dX6_findOfLambda_81 : decode cX6_findOfLambda 81 = .ok (.iastore, 1) := by decide +kernel
theorem dX6_findOfLambda_82 : decode cX6_findOfLambda 82 = .ok (.aload_n 0, 1) := by decide +kernel
theorem dX6_findOfLambda_83 : decode cX6_findOfLambda 83 = .ok (.aload_n 0, 1) := by decide +kernel
theorem dX6_findOfLambda_84 : decode cX6_findOfLambda 84 = .ok (.getfield 15, 3) := by decide +kernel
theorem dX6_findOfLambda_87 : decode cX6_findOfLambda 87 = .ok (.getfield 117, 3) := by decide +kernel
theorem dX6_findOfLambda_90 : decode cX6_findOfLambda 90 = .ok (.iload_n 1, 1) := by decide +kernel
theorem dX6_findOfLambda_91 : decode cX6_findOfLambda 91 = .ok (.iaload, 1) := by decide +kernel
theorem dX6_findOfLambda_92 : decode cX6_findOfLambda 92 = .ok (.iload_n 2, 1) := by decide +kernel
theorem dX6_findOfLambda_93 : decode cX6_findOfLambda 93 = .ok (.iconst 1, 1) := by decide +kernel
theorem dX6_findOfLambda_94 : decode cX6_findOfLambda 94 = .ok (.iadd, 1) := by decide +kernel
theorem dX6_findOfLambda_95 : decode cX6_findOfLambda 95 = .ok (.iload_n 3, 1) := by decide +kernel
theorem dX6_findOfLambda_96 : decode cX6_findOfLambda 96 = .ok (.iconst 1, 1) := by decide +kernel
theorem dX6_findOfLambda_97 : decode cX6_findOfLambda 97 = .ok (.iadd, 1) := by decide +kernel
theorem dX6_findOfLambda_98 : decode cX6_findOfLambda 98 = .ok (.invokevirtual 127, 3) := by decide +kernel
theorem dX6_findOfLambda_101 : decode cX6_findOfLambda 101 = .ok (.istore 6, 2) := by decide +kernel
theorem dX6_findOfLambda_103 : decode cX6_findOfLambda 103 = .ok (.iload 6, 2) := by decide +kernel
theorem dX6_findOfLambda_105 : decode cX6_findOfLambda 105 = .ok (.ifCond .eq 6, 3) := by decide +kernel
theorem dX6_findOfLambda_108 : decode cX6_findOfLambda 108 = .ok (.iload 6, 2) := by decide +kernel
theorem dX6_findOfLambda_110 : decode cX6_findOfLambda 110 = .ok (.ireturn, 1) := by decide +kernel
theorem dX6_findOfLambda_111 : decode cX6_findOfLambda 111 = .ok (.aload_n 0, 1) := by decide +kernel
theorem dX6_findOfLambda_112 : decode cX6_findOfLambda 112 = .ok (.getfield 15, 3) := by decide +kernel
theorem dX6_findOfLambda_115 : decode cX6_findOfLambda 115 = .ok (.aload_n 0, 1) := by decide +kernel
theorem dX6_findOfLambda_116 : decode cX6_findOfLambda 116 = .ok (.getfield 15, 3) := by decide +kernel
theorem dX6_findOfLambda_119 : decode cX6_findOfLambda 119 = .ok (.getfield 58, 3) := by decide +kernel
theorem dX6_findOfLambda_122 : decode cX6_findOfLambda 122 = .ok (.iload_n 1, 1) := by decide +kernel
theorem dX6_findOfLambda_123 : decode cX6_findOfLambda 123 = .ok (.iaload, 1) := by decide +kernel
theorem dX6_findOfLambda_124 : decode cX6_findOfLambda 124 = .ok (.aload_n 0, 1) := by decide +kernel
theorem dX6_findOfLambda_125 : decode cX6_findOfLambda 125 = .ok (.getfield 42, 3) := by decide +kernel
theorem dX6_findOfLambda_128 : decode cX6_findOfLambda 128 = .ok (.invokevirtual 104, 3) := by decide +kernel
theorem dX6_findOfLambda_131 : decode cX6_findOfLambda 131 = .ok (.iconst 1, 1) := by decide +kernel
theorem dX6_findOfLambda_132 : decode cX6_findOfLambda 132 = .ok (.aload_n 0, 1) := by decide +kernel
theorem dX6_findOfLambda_133 : decode cX6_findOfLambda 133 = .ok (.getfield 42, 3) := by decide +kernel
theorem dX6_findOfLambda_136 : decode cX6_findOfLambda 136 = .ok (.getfield 147, 3) := by decide +kernel
theorem dX6_findOfLambda_139 : decode cX6_findOfLambda 139 = .ok (.iadd, 1) := by decide +kernel
theorem dX6_findOfLambda_140 : decode cX6_findOfLambda 140 = .ok (.aload 5, 2) := by decide +kernel
theorem dX6_findOfLambda_142 : decode cX6_findOfLambda 142 = .ok (.getfield 147, 3) := by decide +kernel
theorem dX6_findOfLambda_145 : decode cX6_findOfLambda 145 = .ok (.iadd, 1) := by decide +kernel
theorem dX6_findOfLambda_146 : decode cX6_findOfLambda 146 = .ok (.sipush 200, 3) := by decide +kernel
theorem dX6_findOfLambda_149 : decode cX6_findOfLambda 149 = .ok (.if_icmp .le 5, 3) := by decide +kernel
theorem dX6_findOfLambda_152 : decode cX6_findOfLambda 152 = .ok (.iconst 5, 1) := by decide +kernel
theorem dX6_findOfLambda_153 : decode cX6_findOfLambda 153 = .ok (.ireturn, 1) := by decide +kernel
theorem dX6_findOfLambda_154 : decode cX6_findOfLambda 154 = .ok (.aload 4, 2) := by decide +kernel
theorem dX6_findOfLambda_156 : decode cX6_findOfLambda 156 = .ok (.iconst 0, 1) := by decide +kernel
theorem dX6_findOfLambda_157 : decode cX6_findOfLambda 157 = .ok (.putfield 147, 3) := by decide +kernel
theorem dX6_findOfLambda_160 : decode cX6_findOfLambda 160 = .ok (.aload 4, 2) := by decide +kernel
theorem dX6_findOfLambda_162 : decode cX6_findOfLambda 162 = .ok (.iconst 3, 1) := by decide +kernel
theorem dX6_findOfLambda_163 : decode cX6_findOfLambda 163 = .ok (.iconst 0, 1) := by decide +kernel
theorem dX6_findOfLambda_164 : decode cX6_findOfLambda 164 = .ok (.iconst 0, 1) := by decide +kernel
theorem dX6_findOfLambda_165 : decode cX6_findOfLambda 165 = .ok (.lconst 0, 1) := by decide +kernel
theorem dX6_findOfLambda_166 : decode cX6_findOfLambda 166 = .ok (.lconst 0, 1) := by decide +kernel
theorem dX6_findOfLambda_167 : decode cX6_findOfLambda 167 = .ok (.invokevirtual 151, 3) := by decide +kernel
theorem dX6_findOfLambda_170 : decode cX6_findOfLambda 170 = .ok (.aload 4, 2) := by decide +kernel
theorem dX6_findOfLambda_172 : decode cX6_findOfLambda 172 = .ok (.aload_n 0, 1) := by decide +kernel
theorem dX6_findOfLambda_173 : decode cX6_findOfLambda 173 = .ok (.getfield 42, 3) := by decide +kernel
theorem dX6_findOfLambda_176 : decode cX6_findOfLambda 176 = .ok (.iconst 0, 1) := by decide +kernel
theorem dX6_findOfLambda_177 : decode cX6_findOfLambda 177 = .ok (.invokevirtual 155, 3) := by decide +kernel
theorem dX6_findOfLambda_180 : decode cX6_findOfLambda 180 = .ok (.aload 4, 2) := by decide +kernel
theorem dX6_findOfLambda_182 : decode cX6_findOfLambda 182 = .ok (.aload 5, 2) := by decide +kernel
theorem dX6_findOfLambda_184 : decode cX6_findOfLambda 184 = .ok (.iconst 1, 1) := by decide +kernel
theorem dX6_findOfLambda_185 : decode cX6_findOfLambda 185 = .ok (.invokevirtual 155, 3) := by decide +kernel
theorem dX6_findOfLambda_188 : decode cX6_findOfLambda 188 = .ok (.iconst 0, 1) := by decide +kernel
theorem dX6_findOfLambda_189 : decode cX6_findOfLambda 189 = .ok (.ireturn, 1) := by decide +kernel
theorem dy_X6_findOfLambda : DY yX6_findOfLambda 3 := by decide +kernel
theorem dX6_findOfApply_0 : decode cX6_findOfApply 0 = .ok (.aload_n 0, 1) := by decide +kernel
theorem dX6_findOfApply_1 : decode cX6_findOfApply 1 = .ok (.getfield 29, 3) := by decide +kernel
theorem dX6_findOfApply_4 : decode cX6_findOfApply 4 = .ok (.iload_n 3, 1) := by decide +kernel
theorem dX6_findOfApply_5 : decode cX6_findOfApply 5 = .ok (.aaload, 1) := by decide +kernel
theorem dX6_findOfApply_6 : decode cX6_findOfApply 6 = .ok (.astore 4, 2) := by decide +kernel
theorem dX6_findOfApply_8 : decode cX6_findOfApply 8 = .ok (.aload_n 0, 1) := by decide +kernel
theorem dX6_findOfApply_9 : decode cX6_findOfApply 9 = .ok (.getfield 29, 3) := by decide +kernel
theorem dX6_findOfApply_12 : decode cX6_findOfApply 12 = .ok (.iload_n 3, 1) := by decide +kernel
theorem dX6_findOfApply_13 : decode cX6_findOfApply 13 = .ok (.iconst 1, 1) := by decide +kernel
theorem dX6_findOfApply_14 : decode cX6_findOfApply 14 = .ok (.iadd, 1) := by decide +kernel
theorem dX6_findOfApply_15 : decode cX6_findOfApply 15 = .ok (.aaload, 1) := by decide +kernel
theorem dX6_findOfApply_16 : decode cX6_findOfApply 16 = .ok (.astore 5, 2) := by decide +kernel
theorem dX6_findOfApply_18 : decode cX6_findOfApply 18 = .ok (.aload_n 0, 1) := by decide +kernel
theorem dX6_findOfApply_19 : decode cX6_findOfApply 19 = .ok (.aload_n 0, 1) := by decide +kernel
theorem dX6_findOfApply_20 : decode cX6_findOfApply 20 = .ok (.getfield 15, 3) := by decide +kernel
theorem dX6_findOfApply_23 : decode cX6_findOfApply 23 = .ok (.getfield 58, 3) := by decide +kernel
theorem dX6_findOfApply_26 : decode cX6_findOfApply 26 = .ok (.iload_n 1, 1) := by decide +kernel
theorem dX6_findOfApply_27 : decode cX6_findOfApply 27 = .ok (.iaload, 1) := by decide +kernel
theorem dX6_findOfApply_28 : decode cX6_findOfApply 28 = .ok (.iload_n 2, 1) := by decide +kernel
theorem dX6_findOfApply_29 : decode cX6_findOfApply 29 = .ok (.iload_n 3, 1) := by decide +kernel
theorem dX6_findOfApply_30 : decode cX6_findOfApply 30 = .ok (.iconst 1, 1) := by decide +kernel
theorem dX6_findOfApply_31 : decode cX6_findOfApply 31 = .ok (.iadd, 1) := by decide +kernel
theorem dX6_findOfApply_32 : decode cX6_findOfApply 32 = .ok (.invokevirtual 127, 3) := by decide +kernel
theorem dX6_findOfApply_35 : decode cX6_findOfApply 35 = .ok (.istore 6, 2) := by decide +kernel
theorem dX6_findOfApply_37 : decode cX6_findOfApply 37 = .ok (.iload 6, 2) := by decide +kernel
theorem dX6_findOfApply_39 : decode cX6_findOfApply 39 = .ok (.ifCond .eq 6, 3) := by decide +kernel
theorem dX6_findOfApply_42 : decode cX6_findOfApply 42 = .ok (.iload 6, 2) := by decide +kernel
theorem dX6_findOfApply_44 : decode cX6_findOfApply 44 = .ok (.ireturn, 1) := by decide +kernel
theorem dX6_findOfApply_45 : decode cX6_findOfApply 45 = .ok (.aload_n 0, 1) := by decide +kernel
theorem dX6_findOfApply_46 : decode cX6_findOfApply 46 = .ok (.getfield 23, 3) := by decide +kernel
theorem dX6_findOfApply_49 : decode cX6_findOfApply 49 = .ok (.aload 5, 2) := by decide +kernel
theorem dX6_findOfApply_51 : decode cX6_findOfApply 51 = .ok (.invokevirtual 130, 3) := by decide +kernel
theorem dX6_findOfApply_54 : decode cX6_findOfApply 54 = .ok (.bipush (-6), 2) := by decide +kernel
theorem dX6_findOfApply_56 : decode cX6_findOfApply 56 = .ok (.if_icmp .ne 5, 3) := by decide +kernel
theorem dX6_findOfApply_59 : decode cX6_findOfApply 59 = .ok (.iconst 5, 1) := by decide +kernel
theorem dX6_findOfApply_60 : decode cX6_findOfApply 60 = .ok (.ireturn, 1) := by decide +kernel
theorem dX6_findOfApply_61 : decode cX6_findOfApply 61 = .ok (.aload 5, 2) := by decide +kernel
theorem dX6_findOfApply_63 : decode cX6_findOfApply 63 = .ok (.iconst 0, 1) := by decide +kernel
theorem dX6_findOfApply_64 : decode cX6_findOfApply 64 = .ok (.invokevirtual 45, 3) := by decide +kernel
theorem dX6_findOfApply_67 : decode cX6_findOfApply 67 = .ok (.iconst 3, 1) := by decide +kernel
theorem dX6_findOfApply_68 : decode cX6_findOfApply 68 = .ok (.if_icmp .eq 5, 3) := by decide +kernel
theorem dX6_findOfApply_71 : decode cX6_findOfApply 71 = .ok (.iconst 2, 1) := by decide +kernel
theorem dX6_findOfApply_72 : decode cX6_findOfApply 72 = .ok (.ireturn, 1) := by decide +kernel
theorem dX6_findOfApply_73 : decode cX6_findOfApply 73 = .ok (.aload 4, 2) := by decide +kernel
theorem dX6_findOfApply_75 : decode cX6_findOfApply 75 = .ok (.aload 5, 2) := by decide +kernel
theorem dX6_findOfApply_77 : decode cX6_findOfApply 77 = .ok (.iconst 0, 1) := by decide +kernel
theorem dX6_findOfApply_78 : decode cX6_findOfApply 78 = .ok (.aload 5, 2) := by decide +kernel
theorem dX6_findOfApply_80 : decode cX6_findOfApply 80 = .ok (.getfield 147, 3) := by decide +kernel
theorem dX6_findOfApply_83 : decode cX6_findOfApply 83 = .ok (.invokevirtual 159, 3) := by decide +kernel
theorem dX6_findOfApply_86 : decode cX6_findOfApply 86 = .ok (.aload_n 0, 1) := by decide +kernel
theorem dX6_findOfApply_87 : decode cX6_findOfApply 87 = .ok (.aload_n 0, 1) := by decide +kernel
theorem dX6_findOfApply_88 : decode cX6_findOfApply 88 = .ok (.getfield 15, 3) := by decide +kernel
theorem dX6_findOfApply_91 : decode cX6_findOfApply 91 = .ok (.getfield 117, 3) := by decide +kernel
theorem dX6_findOfApply_94 : decode cX6_findOfApply 94 = .ok (.iload_n 1, 1) := by decide +kernel
theorem dX6_findOfApply_95 : decode cX6_findOfApply 95 = .ok (.iaload, 1) := by decide +kernel
theorem dX6_findOfApply_96 : decode cX6_findOfApply 96 = .ok (.iload_n 2, 1) := by decide +kernel
theorem dX6_findOfApply_97 : decode cX6_findOfApply 97 = .ok (.iload_n 3, 1) := by decide +kernel
theorem dX6_findOfApply_98 : decode cX6_findOfApply 98 = .ok (.iconst 1, 1) := by decide +kernel
theorem dX6_findOfApply_99 : decode cX6_findOfApply 99 = .ok (.iadd, 1) := by decide +kernel
theorem dX6_findOfApply_100 : decode cX6_findOfApply 100 = .ok (.invokevirtual 127, 3) := by decide +kernel
theorem dX6_findOfApply_103 : decode cX6_findOfApply 103 = .ok (.istore 6, 2) := by decide +kernel
theorem dX6_findOfApply_105 : decode cX6_findOfApply 105 = .ok (.iload 6, 2) := by decide +kernel
theorem dX6_findOfApply_107 : decode cX6_findOfApply 107 = .ok (.ifCond .eq 6, 3) := by decide +kernel
theorem dX6_findOfApply_110 : decode cX6_findOfApply 110 = .ok (.iload 6, 2) := by decide +kernel
theorem dX6_findOfApply_112 : decode cX6_findOfApply 112 = .ok (.ireturn, 1) := by decide +kernel
theorem dX6_findOfApply_113 : decode cX6_findOfApply 113 = .ok (.aload_n 0, 1) := by decide +kernel
theorem dX6_findOfApply_114 : decode cX6_findOfApply 114 = .ok (.getfield 23, 3) := by decide +kernel
theorem dX6_findOfApply_117 : decode cX6_findOfApply 117 = .ok (.aload 5, 2) := by decide +kernel
theorem dX6_findOfApply_119 : decode cX6_findOfApply 119 = .ok (.invokevirtual 130, 3) := by decide +kernel
theorem dX6_findOfApply_122 : decode cX6_findOfApply 122 = .ok (.bipush (-6), 2) := by decide +kernel
theorem dX6_findOfApply_124 : decode cX6_findOfApply 124 = .ok (.if_icmp .ne 5, 3) := by decide +kernel
theorem dX6_findOfApply_127 : decode cX6_findOfApply 127 = .ok (.iconst 5, 1) := by decide +kernel
theorem dX6_findOfApply_128 : decode cX6_findOfApply 128 = .ok (.ireturn, 1) := by decide +kernel
theorem dX6_findOfApply_129 : decode cX6_findOfApply 129 = .ok (.aload 4, 2) := by decide +kernel
theorem dX6_findOfApply_131 : decode cX6_findOfApply 131 = .ok (.iconst 1, 1) := by decide +kernel
theorem dX6_findOfApply_132 : decode cX6_findOfApply 132 = .ok (.invokevirtual 163, 3) := by decide +kernel
theorem dX6_findOfApply_135 : decode cX6_findOfApply 135 = .ok (.istore 7, 2) := by decide +kernel
theorem dX6_findOfApply_137 : decode cX6_findOfApply 137 = .ok (.aload 4, 2) := by decide +kernel
theorem dX6_findOfApply_139 : decode cX6_findOfApply 139 = .ok (.iconst 1, 1) := by decide +kernel
theorem dX6_findOfApply_140 : decode cX6_findOfApply 140 = .ok (.iload 7, 2) := by decide +kernel
theorem dX6_findOfApply_142 : decode cX6_findOfApply 142 = .ok (.aload 5, 2) := by decide +kernel
theorem dX6_findOfApply_144 : decode cX6_findOfApply 144 = .ok (.aload_n 0, 1) := by decide +kernel
theorem dX6_findOfApply_145 : decode cX6_findOfApply 145 = .ok (.getfield 9, 3) := by decide +kernel
theorem dX6_findOfApply_148 : decode cX6_findOfApply 148 = .ok (.invokevirtual 166, 3) := by decide +kernel
theorem dX6_findOfApply_151 : decode cX6_findOfApply 151 = .ok (.ifCond .ne 5, 3) := by decide +kernel
theorem dX6_findOfApply_154 : decode cX6_findOfApply 154 = .ok (.iconst 3, 1) := by decide +kernel
theorem dX6_findOfApply_155 : decode cX6_findOfApply 155 = .ok (.ireturn, 1) := by decide +kernel
theorem dX6_findOfApply_156 : decode cX6_findOfApply 156 = .ok (.aload 5, 2) := by decide +kernel
theorem dX6_findOfApply_158 : decode cX6_findOfApply 158 = .ok (.aload 4, 2) := by decide +kernel
theorem dX6_findOfApply_160 : decode cX6_findOfApply 160 = .ok (.iload 7, 2) := by decide +kernel
theorem dX6_findOfApply_162 : decode cX6_findOfApply 162 = .ok (.aload 4, 2) := by decide +kernel
theorem dX6_findOfApply_164 : decode cX6_findOfApply 164 = .ok (.getfield 147, 3) := by decide +kernel
theorem dX6_findOfApply_167 : decode cX6_findOfApply 167 = .ok (.invokevirtual 159, 3) := by decide +kernel
theorem dX6_findOfApply_170 : decode cX6_findOfApply 170 = .ok (.aload_n 0, 1) := by decide +kernel
theorem dX6_findOfApply_171 : decode cX6_findOfApply 171 = .ok (.getfield 15, 3) := by decide +kernel
theorem dX6_findOfApply_174 : decode cX6_findOfApply 174 = .ok (.aload_n 0, 1) := by decide +kernel
theorem dX6_findOfApply_175 : decode cX6_findOfApply 175 = .ok (.getfield 15, 3) := by decide +kernel
theorem dX6_findOfApply_178 : decode cX6_findOfApply 178 = .ok (.getfield 117, 3) := by decide +kernel
theorem dX6_findOfApply_181 : decode cX6_findOfApply 181 = .ok (.iload_n 1, 1) := by decide +kernel
theorem dX6_findOfApply_182 : decode cX6_findOfApply 182 = .ok (.iaload, 1) := by decide +kernel
theorem dX6_findOfApply_183 : decode cX6_findOfApply 183 = .ok (.aload_n 0, 1) := by decide +kernel
theorem dX6_findOfApply_184 : decode cX6_findOfApply 184 = .ok (.getfield 42, 3) := by decide +kernel
theorem dX6_findOfApply_187 : decode cX6_findOfApply 187 = .ok (.invokevirtual 104, 3) := by decide +kernel
theorem dX6_findOfApply_190 : decode cX6_findOfApply 190 = .ok (.aload 4, 2) := by decide +kernel
theorem dX6_findOfApply_192 : decode cX6_findOfApply 192 = .ok (.aload 5, 2) := by decide +kernel
theorem dX6_findOfApply_194 : decode cX6_findOfApply 194 = .ok (.aload_n 0, 1) := by decide +kernel
theorem dX6_findOfApply_195 : decode cX6_findOfApply 195 = .ok (.getfield 42, 3) := by decide +kernel
theorem dX6_findOfApply_198 : decode cX6_findOfApply 198 = .ok (.invokevirtual 170, 3) := by decide +kernel
theorem dX6_findOfApply_201 : decode cX6_findOfApply 201 = .ok (.ifCond .eq 7, 3) := by decide +kernel
theorem dX6_findOfApply_204 : decode cX6_findOfApply 204 = .ok (.iconst 0, 1) := by decide +kernel
theorem dX6_findOfApply_205 : decode cX6_findOfApply 205 = .ok (.goto 4, 3) := by decide +kernel
theorem dX6_findOfApply_208 : decode cX6_findOfApply 208 = .ok (.iconst 5, 1) := by decide +kernel
theorem dX6_findOfApply_209 : decode cX6_findOfApply 209 = .ok (.ireturn, 1) := by decide +kernel
theorem dy_X6_findOfApply : DY yX6_findOfApply 3 := by decide +kernel
theorem dX6_findOfLet_0 : decode cX6_findOfLet 0 = .ok (.aload_n 0, 1) := by decide +kernel
theorem dX6_findOfLet_1 : decode cX6_findOfLet 1 = .ok (.getfield 29, 3) := by decide +kernel
theorem dX6_findOfLet_4 : decode cX6_findOfLet 4 = .ok (.iload_n 3, 1) := by decide +kernel
theorem dX6_findOfLet_5 : decode cX6_findOfLet 5 = .ok (.aaload, 1) := by decide +kernel
theorem dX6_findOfLet_6 : decode cX6_findOfLet 6 = .ok (.astore 4, 2) := by decide +kernel
theorem dX6_findOfLet_8 : decode cX6_findOfLet 8 = .ok (.aload_n 0, 1) := by decide +kernel
theorem dX6_findOfLet_9 : decode cX6_findOfLet 9 = .ok (.getfield 29, 3) := by decide +kernel
theorem dX6_findOfLet_12 : decode cX6_findOfLet 12 = .ok (.iload_n 3, 1) := by decide +kernel
theorem dX6_findOfLet_13 : decode cX6_findOfLet 13 = .ok (.iconst 1, 1) := by decide +kernel
theorem dX6_findOfLet_14 : decode cX6_findOfLet 14 = .ok (.iadd, 1) := by decide +kernel
theorem dX6_findOfLet_15 : decode cX6_findOfLet 15 = .ok (.aaload, 1) := by decide +kernel
theorem dX6_findOfLet_16 : decode cX6_findOfLet 16 = .ok (.astore 5, 2) := by decide +kernel
theorem dX6_findOfLet_18 : decode cX6_findOfLet 18 = .ok (.aload_n 0, 1) := by decide +kernel
theorem dX6_findOfLet_19 : decode cX6_findOfLet 19 = .ok (.aload_n 0, 1) := by decide +kernel
theorem dX6_findOfLet_20 : decode cX6_findOfLet 20 = .ok (.getfield 15, 3) := by decide +kernel
theorem dX6_findOfLet_23 : decode cX6_findOfLet 23 = .ok (.getfield 58, 3) := by decide +kernel
theorem dX6_findOfLet_26 : decode cX6_findOfLet 26 = .ok (.iload_n 1, 1) := by decide +kernel
theorem dX6_findOfLet_27 : decode cX6_findOfLet 27 = .ok (.iaload, 1) := by decide +kernel
theorem dX6_findOfLet_28 : decode cX6_findOfLet 28 = .ok (.iload_n 2, 1) := by decide +kernel
theorem dX6_findOfLet_29 : decode cX6_findOfLet 29 = .ok (.iload_n 3, 1) := by decide +kernel
theorem dX6_findOfLet_30 : decode cX6_findOfLet 30 = .ok (.iconst 1, 1) := by decide +kernel
theorem dX6_findOfLet_31 : decode cX6_findOfLet 31 = .ok (.iadd, 1) := by decide +kernel
theorem dX6_findOfLet_32 : decode cX6_findOfLet 32 = .ok (.invokevirtual 127, 3) := by decide +kernel
theorem dX6_findOfLet_35 : decode cX6_findOfLet 35 = .ok (.istore 6, 2) := by decide +kernel
theorem dX6_findOfLet_37 : decode cX6_findOfLet 37 = .ok (.iload 6, 2) := by decide +kernel
theorem dX6_findOfLet_39 : decode cX6_findOfLet 39 = .ok (.ifCond .ne 20, 3) := by decide +kernel
theorem dX6_findOfLet_42 : decode cX6_findOfLet 42 = .ok (.aload_n 0, 1) := by decide +kernel
theorem dX6_findOfLet_43 : decode cX6_findOfLet 43 = .ok (.aload_n 0, 1) := by decide +kernel
theorem dX6_findOfLet_44 : decode cX6_findOfLet 44 = .ok (.getfield 23, 3) := by decide +kernel
theorem dX6_findOfLet_47 : decode cX6_findOfLet 47 = .ok (.aload 5, 2) := by decide +kernel
theorem dX6_findOfLet_49 : decode cX6_findOfLet 49 = .ok (.invokevirtual 130, 3) := by decide +kernel
theorem dX6_findOfLet_52 : decode cX6_findOfLet 52 = .ok (.aload 5, 2) := by decide +kernel
theorem dX6_findOfLet_54 : decode cX6_findOfLet 54 = .ok (.invokevirtual 136, 3) := by decide +kernel
theorem dX6_findOfLet_57 : decode cX6_findOfLet 57 = .ok (.istore 6, 2) := by decide +kernel
theorem dX6_findOfLet_59 : decode cX6_findOfLet 59 = .ok (.iload 6, 2) := by decide +kernel
theorem dX6_findOfLet_61 : decode cX6_findOfLet 61 = .ok (.ifCond .ne 22, 3) := by decide +kernel
theorem dX6_findOfLet_64 : decode cX6_findOfLet 64 = .ok (.aload_n 0, 1) := by decide +kernel
theorem dX6_findOfLet_65 : decode cX6_findOfLet 65 = .ok (.aload_n 0, 1) := by decide +kernel
theorem dX6_findOfLet_66 : decode cX6_findOfLet 66 = .ok (.getfield 15, 3) := by decide +kernel
theorem dX6_findOfLet_69 : decode cX6_findOfLet 69 = .ok (.getfield 117, 3) := by decide +kernel
theorem dX6_findOfLet_72 : decode cX6_findOfLet 72 = .ok (.iload_n 1, 1) := by decide +kernel
theorem dX6_findOfLet_73 : decode cX6_findOfLet 73 = .ok (.iaload, 1) := by decide +kernel
theorem dX6_findOfLet_74 : decode cX6_findOfLet 74 = .ok (.iload_n 2, 1) := by decide +kernel
theorem dX6_findOfLet_75 : decode cX6_findOfLet 75 = .ok (.iload_n 3, 1) := by decide +kernel
theorem dX6_findOfLet_76 : decode cX6_findOfLet 76 = .ok (.iconst 1, 1) := by decide +kernel
theorem dX6_findOfLet_77 : decode cX6_findOfLet 77 = .ok (.iadd, 1) := by decide +kernel
theorem dX6_findOfLet_78 : decode cX6_findOfLet 78 = .ok (.invokevirtual 127, 3) := by decide +kernel
theorem dX6_findOfLet_81 : decode cX6_findOfLet 81 = .ok (.istore 6, 2) := by decide +kernel
theorem dX6_findOfLet_83 : decode cX6_findOfLet 83 = .ok (.iload 6, 2) := by decide +kernel
theorem dX6_findOfLet_85 : decode cX6_findOfLet 85 = .ok (.ifCond .eq 6, 3) := by decide +kernel
theorem dX6_findOfLet_88 : decode cX6_findOfLet 88 = .ok (.iload 6, 2) := by decide +kernel
theorem dX6_findOfLet_90 : decode cX6_findOfLet 90 = .ok (.ireturn, 1) := by decide +kernel
theorem dX6_findOfLet_91 : decode cX6_findOfLet 91 = .ok (.aload_n 0, 1) := by decide +kernel
theorem dX6_findOfLet_92 : decode cX6_findOfLet 92 = .ok (.getfield 15, 3) := by decide +kernel
theorem dX6_findOfLet_95 : decode cX6_findOfLet 95 = .ok (.aload_n 0, 1) := by decide +kernel
theorem dX6_findOfLet_96 : decode cX6_findOfLet 96 = .ok (.getfield 15, 3) := by decide +kernel
theorem dX6_findOfLet_99 : decode cX6_findOfLet 99 = .ok (.getfield 58, 3) := by decide +kernel
theorem dX6_findOfLet_102 : decode cX6_findOfLet 102 = .ok (.iload_n 1, 1) := by decide +kernel
theorem dX6_findOfLet_103 : decode cX6_findOfLet 103 = .ok (.iaload, 1) := by decide +kernel
theorem dX6_findOfLet_104 : decode cX6_findOfLet 104 = .ok (.aload 4, 2) := by decide +kernel
theorem dX6_findOfLet_106 : decode cX6_findOfLet 106 = .ok (.invokevirtual 104, 3) := by decide +kernel
theorem dX6_findOfLet_109 : decode cX6_findOfLet 109 = .ok (.aload_n 0, 1) := by decide +kernel
theorem dX6_findOfLet_110 : decode cX6_findOfLet 110 = .ok (.getfield 23, 3) := by decide +kernel
theorem dX6_findOfLet_113 : decode cX6_findOfLet 113 = .ok (.aload 5, 2) := by decide +kernel
theorem dX6_findOfLet_115 : decode cX6_findOfLet 115 = .ok (.invokevirtual 130, 3) := by decide +kernel
theorem dX6_findOfLet_118 : decode cX6_findOfLet 118 = .ok (.bipush (-6), 2) := by decide +kernel
theorem dX6_findOfLet_120 : decode cX6_findOfLet 120 = .ok (.if_icmp .eq 17, 3) := by decide +kernel
theorem dX6_findOfLet_123 : decode cX6_findOfLet 123 = .ok (.aload_n 0, 1) := by decide +kernel
theorem dX6_findOfLet_124 : decode cX6_findOfLet 124 = .ok (.getfield 23, 3) := by decide +kernel
theorem dX6_findOfLet_127 : decode cX6_findOfLet 127 = .ok (.aload 4, 2) := by decide +kernel
theorem dX6_findOfLet_129 : decode cX6_findOfLet 129 = .ok (.invokevirtual 130, 3) := by decide +kernel
theorem dX6_findOfLet_132 : decode cX6_findOfLet 132 = .ok (.bipush (-6), 2) := by decide +kernel
theorem dX6_findOfLet_134 : decode cX6_findOfLet 134 = .ok (.if_icmp .ne 5, 3) := by decide +kernel
theorem dX6_findOfLet_137 : decode cX6_findOfLet 137 = .ok (.iconst 5, 1) := by decide +kernel
theorem dX6_findOfLet_138 : decode cX6_findOfLet 138 = .ok (.ireturn, 1) := by decide +kernel
theorem dX6_findOfLet_139 : decode cX6_findOfLet 139 = .ok (.aload 4, 2) := by decide +kernel
theorem dX6_findOfLet_141 : decode cX6_findOfLet 141 = .ok (.iconst 0, 1) := by decide +kernel
theorem dX6_findOfLet_142 : decode cX6_findOfLet 142 = .ok (.aload 4, 2) := by decide +kernel
theorem dX6_findOfLet_144 : decode cX6_findOfLet 144 = .ok (.getfield 147, 3) := by decide +kernel
theorem dX6_findOfLet_147 : decode cX6_findOfLet 147 = .ok (.aload 5, 2) := by decide +kernel
theorem dX6_findOfLet_149 : decode cX6_findOfLet 149 = .ok (.aload_n 0, 1) := by decide +kernel
theorem dX6_findOfLet_150 : decode cX6_findOfLet 150 = .ok (.getfield 9, 3) := by decide +kernel
theorem dX6_findOfLet_153 : decode cX6_findOfLet 153 = .ok (.invokevirtual 166, 3) := by decide +kernel
theorem dX6_findOfLet_156 : decode cX6_findOfLet 156 = .ok (.ifCond .ne 6, 3) := by decide +kernel
theorem dX6_findOfLet_159 : decode cX6_findOfLet 159 = .ok (.bipush 6, 2) := by decide +kernel
theorem dX6_findOfLet_161 : decode cX6_findOfLet 161 = .ok (.ireturn, 1) := by decide +kernel
theorem dX6_findOfLet_162 : decode cX6_findOfLet 162 = .ok (.aload_n 0, 1) := by decide +kernel
theorem dX6_findOfLet_163 : decode cX6_findOfLet 163 = .ok (.getfield 38, 3) := by decide +kernel
theorem dX6_findOfLet_166 : decode cX6_findOfLet 166 = .ok (.iload_n 2, 1) := by decide +kernel
theorem dX6_findOfLet_167 : decode cX6_findOfLet 167 = .ok (.aload_n 0, 1) := by decide +kernel
theorem dX6_findOfLet_168 : decode cX6_findOfLet 168 = .ok (.getfield 15, 3) := by decide +kernel
theorem dX6_findOfLet_171 : decode cX6_findOfLet 171 = .ok (.getfield 58, 3) := by decide +kernel
theorem dX6_findOfLet_174 : decode cX6_findOfLet 174 = .ok (.iload_n 1, 1) := by decide +kernel
theorem dX6_findOfLet_175 : decode cX6_findOfLet 175 = .ok (.iaload, 1) := by decide +kernel
theorem dX6_findOfLet_176 : decode cX6_findOfLet 176 = .ok (.iastore, 1) := by decide +kernel
theorem dX6_findOfLet_177 : decode cX6_findOfLet 177 = .ok (.aload_n 0, 1) := by decide +kernel
theorem dX6_findOfLet_178 : decode cX6_findOfLet 178 = .ok (.aload_n 0, 1) := by decide +kernel
theorem dX6_findOfLet_179 : decode cX6_findOfLet 179 = .ok (.getfield 15, 3) := by decide +kernel
theorem dX6_findOfLet_182 : decode cX6_findOfLet 182 = .ok (.getfield 120, 3) := by decide +kernel
theorem dX6_findOfLet_185 : decode cX6_findOfLet 185 = .ok (.iload_n 1, 1) := by decide +kernel
theorem dX6_findOfLet_186 : decode cX6_findOfLet 186 = .ok (.iaload, 1) := by decide +kernel
theorem dX6_findOfLet_187 : decode cX6_findOfLet 187 = .ok (.iload_n 2, 1) := by decide +kernel
theorem dX6_findOfLet_188 : decode cX6_findOfLet 188 = .ok (.iconst 1, 1) := by decide +kernel
theorem dX6_findOfLet_189 : decode cX6_findOfLet 189 = .ok (.iadd, 1) := by decide +kernel
theorem dX6_findOfLet_190 : decode cX6_findOfLet 190 = .ok (.iload_n 3, 1) := by decide +kernel
theorem dX6_findOfLet_191 : decode cX6_findOfLet 191 = .ok (.iconst 1, 1) := by decide +kernel
theorem dX6_findOfLet_192 : decode cX6_findOfLet 192 = .ok (.iadd, 1) := by decide +kernel
theorem dX6_findOfLet_193 : decode cX6_findOfLet 193 = .ok (.invokevirtual 127, 3) := by decide +kernel
theorem dX6_findOfLet_196 : decode cX6_findOfLet 196 = .ok (.istore 6, 2) := by decide +kernel
theorem dX6_findOfLet_198 : decode cX6_findOfLet 198 = .ok (.iload 6, 2) := by decide +kernel
theorem dX6_findOfLet_200 : decode cX6_findOfLet 200 = .ok (.ifCond .eq 6, 3) := by decide +kernel
theorem dX6_findOfLet_203 : decode cX6_findOfLet 203 = .ok (.iload 6, 2) := by decide +kernel
theorem dX6_findOfLet_205 : decode cX6_findOfLet 205 = .ok (.ireturn, 1) := by decide +kernel
theorem dX6_findOfLet_206 : decode cX6_findOfLet 206 = .ok (.aload_n 0, 1) := by decide +kernel
theorem dX6_findOfLet_207 : decode cX6_findOfLet 207 = .ok (.getfield 15, 3) := by decide +kernel
theorem dX6_findOfLet_210 : decode cX6_findOfLet 210 = .ok (.aload_n 0, 1) := by decide +kernel
theorem dX6_findOfLet_211 : decode cX6_findOfLet 211 = .ok (.getfield 15, 3) := by decide +kernel
theorem dX6_findOfLet_214 : decode cX6_findOfLet 214 = .ok (.getfield 117, 3) := by decide +kernel
theorem dX6_findOfLet_217 : decode cX6_findOfLet 217 = .ok (.iload_n 1, 1) := by decide +kernel
theorem dX6_findOfLet_218 : decode cX6_findOfLet 218 = .ok (.iaload, 1) := by decide +kernel
theorem dX6_findOfLet_219 : decode cX6_findOfLet 219 = .ok (.aload_n 0, 1) := by decide +kernel
theorem dX6_findOfLet_220 : decode cX6_findOfLet 220 = .ok (.getfield 42, 3) := by decide +kernel
theorem dX6_findOfLet_223 : decode cX6_findOfLet 223 = .ok (.invokevirtual 104, 3) := by decide +kernel
theorem dX6_findOfLet_226 : decode cX6_findOfLet 226 = .ok (.aload 4, 2) := by decide +kernel
theorem dX6_findOfLet_228 : decode cX6_findOfLet 228 = .ok (.aload 5, 2) := by decide +kernel
theorem dX6_findOfLet_230 : decode cX6_findOfLet 230 = .ok (.aload_n 0, 1) := by decide +kernel
theorem dX6_findOfLet_231 : decode cX6_findOfLet 231 = .ok (.getfield 42, 3) := by decide +kernel
theorem dX6_findOfLet_234 : decode cX6_findOfLet 234 = .ok (.invokevirtual 170, 3) := by decide +kernel
theorem dX6_findOfLet_237 : decode cX6_findOfLet 237 = .ok (.ifCond .eq 7, 3) := by decide +kernel
theorem dX6_findOfLet_240 : decode cX6_findOfLet 240 = .ok (.iconst 0, 1) := by decide +kernel
theorem dX6_findOfLet_241 : decode cX6_findOfLet 241 = .ok (.goto 4, 3) := by decide +kernel
theorem dX6_findOfLet_244 : decode cX6_findOfLet 244 = .ok (.iconst 5, 1) := by decide +kernel
theorem dX6_findOfLet_245 : decode cX6_findOfLet 245 = .ok (.ireturn, 1) := by decide +kernel
theorem dy_X6_findOfLet : DY yX6_findOfLet 3 := by decide +kernel
theorem dX6_find_0 : decode cX6_find 0 = .ok (.aload_n 0, 1) := by decide +kernel
theorem dX6_find_1 : decode cX6_find 1 = .ok (.getfield 15, 3) := by decide +kernel
theorem dX6_find_4 : decode cX6_find 4 = .ok (.iload_n 1, 1) := by decide +kernel
theorem dX6_find_5 : decode cX6_find 5 = .ok (.invokevirtual 49, 3) := by decide +kernel
theorem dX6_find_8 : decode cX6_find 8 = .ok (.ifCond .eq 23, 3) := by decide +kernel
theorem dX6_find_11 : decode cX6_find 11 = .ok (.iload_n 2, 1) := by decide +kernel
theorem dX6_find_12 : decode cX6_find 12 = .ok (.ifCond .lt 19, 3) := by decide +kernel
theorem dX6_find_15 : decode cX6_find 15 = .ok (.iload_n 2, 1) := by decide +kernel
theorem dX6_find_16 : decode cX6_find 16 = .ok (.bipush 100, 2) := by decide +kernel
theorem dX6_find_18 : decode cX6_find 18 = .ok (.if_icmp .ge 13, 3) := by decide +kernel
theorem dX6_find_21 : decode cX6_find 21 = .ok (.iload_n 3, 1) := by decide +kernel
theorem dX6_find_22 : decode cX6_find 22 = .ok (.ifCond .lt 9, 3) := by decide +kernel
theorem dX6_find_25 : decode cX6_find 25 = .ok (.iload_n 3, 1) := by decide +kernel
theorem dX6_find_26 : decode cX6_find 26 = .ok (.bipush 100, 2) := by decide +kernel
theorem dX6_find_28 : decode cX6_find 28 = .ok (.if_icmp .lt 5, 3) := by decide +kernel
theorem dX6_find_31 : decode cX6_find 31 = .ok (.iconst 5, 1) := by decide +kernel
theorem dX6_find_32 : decode cX6_find 32 = .ok (.ireturn, 1) := by decide +kernel
theorem dX6_find_33 : decode cX6_find 33 = .ok (.aload_n 0, 1) := by decide +kernel
theorem dX6_find_34 : decode cX6_find 34 = .ok (.getfield 15, 3) := by decide +kernel
theorem dX6_find_37 : decode cX6_find 37 = .ok (.getfield 55, 3) := by decide +kernel
theorem dX6_find_40 : decode cX6_find 40 = .ok (.iload_n 1, 1) := by decide +kernel
theorem dX6_find_41 : decode cX6_find 41 = .ok (.iaload, 1) := by decide +kernel
theorem dX6_find_42 : decode cX6_find 42 = .ok (.tableswitch 125 0 5 #[38, 68, 89, 101, 109, 117], 38) := by decide +kernel
theorem dX6_find_80 : decode cX6_find 80 = .ok (.aload_n 0, 1) := by decide +kernel
theorem dX6_find_81 : decode cX6_find 81 = .ok (.aload_n 0, 1) := by decide +kernel
theorem dX6_find_82 : decode cX6_find 82 = .ok (.getfield 9, 3) := by decide +kernel
theorem dX6_find_85 : decode cX6_find 85 = .ok (.aload_n 0, 1) := by decide +kernel
theorem dX6_find_86 : decode cX6_find 86 = .ok (.getfield 15, 3) := by decide +kernel
theorem dX6_find_89 : decode cX6_find 89 = .ok (.getfield 58, 3) := by decide +kernel
theorem dX6_find_92 : decode cX6_find 92 = .ok (.iload_n 1, 1) := by decide +kernel
theorem dX6_find_93 : decode cX6_find 93 = .ok (.iaload, 1) := by decide +kernel
theorem dX6_find_94 : decode cX6_find 94 = .ok (.invokevirtual 61, 3) := by decide +kernel
theorem dX6_find_97 : decode cX6_find 97 = .ok (.invokestatic 67, 3) := by decide +kernel
theorem dX6_find_100 : decode cX6_find 100 = .ok (.aload_n 0, 1) := by decide +kernel
theorem dX6_find_101 : decode cX6_find 101 = .ok (.getfield 29, 3) := by decide +kernel
theorem dX6_find_104 : decode cX6_find 104 = .ok (.iload_n 3, 1) := by decide +kernel
theorem dX6_find_105 : decode cX6_find 105 = .ok (.aaload, 1) := by decide +kernel
theorem dX6_find_106 : decode cX6_find 106 = .ok (.invokevirtual 73, 3) := by decide +kernel
theorem dX6_find_109 : decode cX6_find 109 = .ok (.ireturn, 1) := by decide +kernel
theorem dX6_find_110 : decode cX6_find 110 = .ok (.aload_n 0, 1) := by decide +kernel
theorem dX6_find_111 : decode cX6_find 111 = .ok (.aload_n 0, 1) := by decide +kernel
theorem dX6_find_112 : decode cX6_find 112 = .ok (.getfield 15, 3) := by decide +kernel
theorem dX6_find_115 : decode cX6_find 115 = .ok (.getfield 58, 3) := by decide +kernel
theorem dX6_find_118 : decode cX6_find 118 = .ok (.iload_n 1, 1) := by decide +kernel
theorem dX6_find_119 : decode cX6_find 119 = .ok (.iaload, 1) := by decide +kernel
theorem dX6_find_120 : decode cX6_find 120 = .ok (.iload_n 2, 1) := by decide +kernel
theorem dX6_find_121 : decode cX6_find 121 = .ok (.aload_n 0, 1) := by decide +kernel
theorem dX6_find_122 : decode cX6_find 122 = .ok (.getfield 29, 3) := by decide +kernel
theorem dX6_find_125 : decode cX6_find 125 = .ok (.iload_n 3, 1) := by decide +kernel
theorem dX6_find_126 : decode cX6_find 126 = .ok (.aaload, 1) := by decide +kernel
theorem dX6_find_127 : decode cX6_find 127 = .ok (.invokevirtual 77, 3) := by decide +kernel
theorem dX6_find_130 : decode cX6_find 130 = .ok (.ireturn, 1) := by decide +kernel
theorem dX6_find_131 : decode cX6_find 131 = .ok (.aload_n 0, 1) := by decide +kernel
theorem dX6_find_132 : decode cX6_find 132 = .ok (.iload_n 1, 1) := by decide +kernel
theorem dX6_find_133 : decode cX6_find 133 = .ok (.aload_n 0, 1) := by decide +kernel
theorem dX6_find_134 : decode cX6_find 134 = .ok (.getfield 29, 3) := by decide +kernel
theorem dX6_find_137 : decode cX6_find 137 = .ok (.iload_n 3, 1) := by decide +kernel
theorem dX6_find_138 : decode cX6_find 138 = .ok (.aaload, 1) := by decide +kernel
theorem dX6_find_139 : decode cX6_find 139 = .ok (.invokevirtual 81, 3) := by decide +kernel
theorem dX6_find_142 : decode cX6_find 142 = .ok (.ireturn, 1) := by decide +kernel
theorem dX6_find_143 : decode cX6_find 143 = .ok (.aload_n 0, 1) := by decide +kernel
theorem dX6_find_144 : decode cX6_find 144 = .ok (.iload_n 1, 1) := by decide +kernel
theorem dX6_find_145 : decode cX6_find 145 = .ok (.iload_n 2, 1) := by decide +kernel
theorem dX6_find_146 : decode cX6_find 146 = .ok (.iload_n 3, 1) := by decide +kernel
theorem dX6_find_147 : decode cX6_find 147 = .ok (.invokevirtual 85, 3) := by decide +kernel
theorem dX6_find_150 : decode cX6_find 150 = .ok (.ireturn, 1) := by decide +kernel
theorem dX6_find_151 : decode cX6_find 151 = .ok (.aload_n 0, 1) := by decide +kernel
theorem dX6_find_152 : decode cX6_find 152 = .ok (.iload_n 1, 1) := by decide +kernel
theorem dX6_find_153 : decode cX6_find 153 = .ok (.iload_n 2, 1) := by decide +kernel
theorem dX6_find_154 : decode cX6_find 154 = .ok (.iload_n 3, 1) := by decide +kernel
theorem dX6_find_155 : decode cX6_find 155 = .ok (.invokevirtual 89, 3) := by decide +kernel
theorem dX6_find_158 : decode cX6_find 158 = .ok (.ireturn, 1) := by decide +kernel
theorem dX6_find_159 : decode cX6_find 159 = .ok (.aload_n 0, 1) := by decide +kernel
theorem dX6_find_160 : decode cX6_find 160 = .ok (.iload_n 1, 1) := by decide +kernel
theorem dX6_find_161 : decode cX6_find 161 = .ok (.iload_n 2, 1) := by decide +kernel
theorem dX6_find_162 : decode cX6_find 162 = .ok (.iload_n 3, 1) := by decide +kernel
theorem dX6_find_163 : decode cX6_find 163 = .ok (.invokevirtual 92, 3) := by decide +kernel
theorem dX6_find_166 : decode cX6_find 166 = .ok (.ireturn, 1) := by decide +kernel
theorem dX6_find_167 : decode cX6_find 167 = .ok (.aload_n 0, 1) := by decide +kernel
theorem dX6_find_168 : decode cX6_find 168 = .ok (.iload_n 1, 1) := by decide +kernel
theorem dX6_find_169 : decode cX6_find 169 = .ok (.iload_n 2, 1) := by decide +kernel
theorem dX6_find_170 : decode cX6_find 170 = .ok (.iload_n 3, 1) := by decide +kernel
theorem dX6_find_171 : decode cX6_find 171 = .ok (.invokevirtual 95, 3) := by decide +kernel
theorem dX6_find_174 : decode cX6_find 174 = .ok (.ireturn, 1) := by decide +kernel
theorem dy_X6_find : DY yX6_find 3 := by decide +kernel
abbrev rm_X6_needSort : Room := { frames := 1, cells := 0, slots := 0, locals := 21 }
abbrev rm_X6_putSort : Room := { frames := 2, cells := 0, slots := 0, locals := 49 }
abbrev rm_X6_putBinderType : Room := { frames := 2, cells := 0, slots := 0, locals := 52 }
abbrev rm_X6_putNameType : Room := { frames := 2, cells := 0, slots := 0, locals := 59 }
abbrev rm_X6_findOfPi (d : Nat) : Room := { frames := 4 * d + 8, cells := 0, slots := 0, locals := 160 * d + 299 }
abbrev rm_X6_findOfLambda (d : Nat) : Room := { frames := 4 * d + 8, cells := 0, slots := 0, locals := 160 * d + 299 }
abbrev rm_X6_findOfApply (d : Nat) : Room := { frames := 4 * d + 8, cells := 0, slots := 0, locals := 160 * d + 299 }
abbrev rm_X6_findOfLet (d : Nat) : Room := { frames := 4 * d + 8, cells := 0, slots := 0, locals := 160 * d + 299 }
abbrev rm_X6_find (d : Nat) : Room := { frames := 4 * d + 7, cells := 0, slots := 0, locals := 160 * d + 259 }
theorem ry_X6_findOfPi_X0_ofTwo {d : Nat} : RY (rm_X6_findOfPi d) rm_X0_ofTwo 6 0 0 := ⟨⟨by show 2 + 1 ≤ 4 * d + 8; omega, by show 8 + (6 + 11) + (44) ≤ 160 * d + 299; omega⟩, rfl, rfl, Nat.zero_le _, Nat.zero_le _⟩
theorem ry_X6_findOfPi_X3_reduce {d : Nat} : RY (rm_X6_findOfPi d) rm_X3_reduce 5 0 0 := ⟨⟨by show 4 + 1 ≤ 4 * d + 8; omega, by show 8 + (5 + 11) + (175) ≤ 160 * d + 299; omega⟩, rfl, rfl, Nat.zero_le _, Nat.zero_le _⟩
theorem ry_X6_findOfPi_X6_find {d : Nat} : RY (rm_X6_findOfPi d) (rm_X6_find d) 4 0 0 := ⟨⟨by show 4 * d + 7 + 1 ≤ 4 * d + 8; omega, by show 8 + (4 + 11) + (160 * d + 259) ≤ 160 * d + 299; omega⟩, rfl, rfl, Nat.zero_le _, Nat.zero_le _⟩
theorem ry_X6_findOfPi_X6_needSort {d : Nat} : RY (rm_X6_findOfPi d) rm_X6_needSort 3 0 0 := ⟨⟨by show 1 + 1 ≤ 4 * d + 8; omega, by show 8 + (3 + 11) + (21) ≤ 160 * d + 299; omega⟩, rfl, rfl, Nat.zero_le _, Nat.zero_le _⟩
theorem ry_X6_findOfPi_X6_putSort {d : Nat} : RY (rm_X6_findOfPi d) rm_X6_putSort 4 0 0 := ⟨⟨by show 2 + 1 ≤ 4 * d + 8; omega, by show 8 + (4 + 11) + (49) ≤ 160 * d + 299; omega⟩, rfl, rfl, Nat.zero_le _, Nat.zero_le _⟩
theorem ry_X6_findOfLambda_X3_reduce {d : Nat} : RY (rm_X6_findOfLambda d) rm_X3_reduce 5 0 0 := ⟨⟨by show 4 + 1 ≤ 4 * d + 8; omega, by show 8 + (5 + 11) + (175) ≤ 160 * d + 299; omega⟩, rfl, rfl, Nat.zero_le _, Nat.zero_le _⟩
theorem ry_X6_findOfLambda_X4_add {d : Nat} : RY (rm_X6_findOfLambda d) rm_X4_add 8 0 0 := ⟨⟨by show 0 + 1 ≤ 4 * d + 8; omega, by show 8 + (8 + 11) + (0) ≤ 160 * d + 299; omega⟩, rfl, rfl, Nat.zero_le _, Nat.zero_le _⟩
theorem ry_X6_findOfLambda_X4_append {d : Nat} : RY (rm_X6_findOfLambda d) rm_X4_append 4 0 0 := ⟨⟨by show 1 + 1 ≤ 4 * d + 8; omega, by show 8 + (4 + 11) + (25) ≤ 160 * d + 299; omega⟩, rfl, rfl, Nat.zero_le _, Nat.zero_le _⟩
theorem ry_X6_findOfLambda_X5_spread {d : Nat} : RY (rm_X6_findOfLambda d) rm_X5_spread 6 0 0 := ⟨⟨by show 1 + 1 ≤ 4 * d + 8; omega, by show 8 + (6 + 11) + (27) ≤ 160 * d + 299; omega⟩, rfl, rfl, Nat.zero_le _, Nat.zero_le _⟩
theorem ry_X6_findOfLambda_X6_find {d : Nat} : RY (rm_X6_findOfLambda d) (rm_X6_find d) 4 0 0 := ⟨⟨by show 4 * d + 7 + 1 ≤ 4 * d + 8; omega, by show 8 + (4 + 11) + (160 * d + 259) ≤ 160 * d + 299; omega⟩, rfl, rfl, Nat.zero_le _, Nat.zero_le _⟩
theorem ry_X6_findOfLambda_X6_needSort {d : Nat} : RY (rm_X6_findOfLambda d) rm_X6_needSort 3 0 0 := ⟨⟨by show 1 + 1 ≤ 4 * d + 8; omega, by show 8 + (3 + 11) + (21) ≤ 160 * d + 299; omega⟩, rfl, rfl, Nat.zero_le _, Nat.zero_le _⟩
theorem ry_X6_findOfApply_X3_reduce {d : Nat} : RY (rm_X6_findOfApply d) rm_X3_reduce 5 0 0 := ⟨⟨by show 4 + 1 ≤ 4 * d + 8; omega, by show 8 + (5 + 11) + (175) ≤ 160 * d + 299; omega⟩, rfl, rfl, Nat.zero_le _, Nat.zero_le _⟩
theorem ry_X6_findOfApply_X4_endOf {d : Nat} : RY (rm_X6_findOfApply d) rm_X4_endOf 4 0 0 := ⟨⟨by show 1 + 1 ≤ 4 * d + 8; omega, by show 8 + (4 + 11) + (30) ≤ 160 * d + 299; omega⟩, rfl, rfl, Nat.zero_le _, Nat.zero_le _⟩
theorem ry_X6_findOfApply_X4_fillWith {d : Nat} : RY (rm_X6_findOfApply d) rm_X4_fillWith 6 0 0 := ⟨⟨by show 1 + 1 ≤ 4 * d + 8; omega, by show 8 + (6 + 11) + (25) ≤ 160 * d + 299; omega⟩, rfl, rfl, Nat.zero_le _, Nat.zero_le _⟩
theorem ry_X6_findOfApply_X4_kindAt {d : Nat} : RY (rm_X6_findOfApply d) rm_X4_kindAt 2 0 0 := ⟨⟨by show 0 + 1 ≤ 4 * d + 8; omega, by show 8 + (2 + 11) + (0) ≤ 160 * d + 299; omega⟩, rfl, rfl, Nat.zero_le _, Nat.zero_le _⟩
theorem ry_X6_findOfApply_X4_matches {d : Nat} : RY (rm_X6_findOfApply d) rm_X4_matches 6 0 0 := ⟨⟨by show 4 + 1 ≤ 4 * d + 8; omega, by show 8 + (6 + 11) + (120) ≤ 160 * d + 299; omega⟩, rfl, rfl, Nat.zero_le _, Nat.zero_le _⟩
theorem ry_X6_findOfApply_X4_takePart {d : Nat} : RY (rm_X6_findOfApply d) rm_X4_takePart 6 0 0 := ⟨⟨by show 1 + 1 ≤ 4 * d + 8; omega, by show 8 + (6 + 11) + (25) ≤ 160 * d + 299; omega⟩, rfl, rfl, Nat.zero_le _, Nat.zero_le _⟩
theorem ry_X6_findOfApply_X5_spread {d : Nat} : RY (rm_X6_findOfApply d) rm_X5_spread 6 0 0 := ⟨⟨by show 1 + 1 ≤ 4 * d + 8; omega, by show 8 + (6 + 11) + (27) ≤ 160 * d + 299; omega⟩, rfl, rfl, Nat.zero_le _, Nat.zero_le _⟩
theorem ry_X6_findOfApply_X6_find {d : Nat} : RY (rm_X6_findOfApply d) (rm_X6_find d) 4 0 0 := ⟨⟨by show 4 * d + 7 + 1 ≤ 4 * d + 8; omega, by show 8 + (4 + 11) + (160 * d + 259) ≤ 160 * d + 299; omega⟩, rfl, rfl, Nat.zero_le _, Nat.zero_le _⟩
theorem ry_X6_findOfLet_X3_reduce {d : Nat} : RY (rm_X6_findOfLet d) rm_X3_reduce 5 0 0 := ⟨⟨by show 4 + 1 ≤ 4 * d + 8; omega, by show 8 + (5 + 11) + (175) ≤ 160 * d + 299; omega⟩, rfl, rfl, Nat.zero_le _, Nat.zero_le _⟩
theorem ry_X6_findOfLet_X4_fillWith {d : Nat} : RY (rm_X6_findOfLet d) rm_X4_fillWith 6 0 0 := ⟨⟨by show 1 + 1 ≤ 4 * d + 8; omega, by show 8 + (6 + 11) + (25) ≤ 160 * d + 299; omega⟩, rfl, rfl, Nat.zero_le _, Nat.zero_le _⟩
theorem ry_X6_findOfLet_X4_matches {d : Nat} : RY (rm_X6_findOfLet d) rm_X4_matches 6 0 0 := ⟨⟨by show 4 + 1 ≤ 4 * d + 8; omega, by show 8 + (6 + 11) + (120) ≤ 160 * d + 299; omega⟩, rfl, rfl, Nat.zero_le _, Nat.zero_le _⟩
theorem ry_X6_findOfLet_X5_spread {d : Nat} : RY (rm_X6_findOfLet d) rm_X5_spread 6 0 0 := ⟨⟨by show 1 + 1 ≤ 4 * d + 8; omega, by show 8 + (6 + 11) + (27) ≤ 160 * d + 299; omega⟩, rfl, rfl, Nat.zero_le _, Nat.zero_le _⟩
theorem ry_X6_findOfLet_X6_find {d : Nat} : RY (rm_X6_findOfLet d) (rm_X6_find d) 4 0 0 := ⟨⟨by show 4 * d + 7 + 1 ≤ 4 * d + 8; omega, by show 8 + (4 + 11) + (160 * d + 259) ≤ 160 * d + 299; omega⟩, rfl, rfl, Nat.zero_le _, Nat.zero_le _⟩
theorem ry_X6_findOfLet_X6_needSort {d : Nat} : RY (rm_X6_findOfLet d) rm_X6_needSort 3 0 0 := ⟨⟨by show 1 + 1 ≤ 4 * d + 8; omega, by show 8 + (3 + 11) + (21) ≤ 160 * d + 299; omega⟩, rfl, rfl, Nat.zero_le _, Nat.zero_le _⟩
theorem ry_X6_find_X0_ofUp {d : Nat} : RY (rm_X6_find (d + 1)) rm_X0_ofUp 2 0 0 := ⟨⟨by show 2 + 1 ≤ 4 * (d + 1) + 7; omega, by show 8 + (2 + 11) + (44) ≤ 160 * (d + 1) + 259; omega⟩, rfl, rfl, Nat.zero_le _, Nat.zero_le _⟩
theorem ry_X6_find_X1_codeOf {d : Nat} : RY (rm_X6_find (d + 1)) rm_X1_codeOf 2 0 0 := ⟨⟨by show 0 + 1 ≤ 4 * (d + 1) + 7; omega, by show 8 + (2 + 11) + (0) ≤ 160 * (d + 1) + 259; omega⟩, rfl, rfl, Nat.zero_le _, Nat.zero_le _⟩
theorem ry_X6_find_X5_has {d : Nat} : RY (rm_X6_find (d + 1)) rm_X5_has 2 0 0 := ⟨⟨by show 0 + 1 ≤ 4 * (d + 1) + 7; omega, by show 8 + (2 + 11) + (0) ≤ 160 * (d + 1) + 259; omega⟩, rfl, rfl, Nat.zero_le _, Nat.zero_le _⟩
theorem ry_X6_find_X6_findOfApply {d : Nat} : RY (rm_X6_find (d + 1)) (rm_X6_findOfApply d) 8 0 0 := ⟨⟨by show 4 * d + 8 + 1 ≤ 4 * (d + 1) + 7; omega, by show 8 + (8 + 11) + (160 * d + 299) ≤ 160 * (d + 1) + 259; omega⟩, rfl, rfl, Nat.zero_le _, Nat.zero_le _⟩
theorem ry_X6_find_X6_findOfLambda {d : Nat} : RY (rm_X6_find (d + 1)) (rm_X6_findOfLambda d) 7 0 0 := ⟨⟨by show 4 * d + 8 + 1 ≤ 4 * (d + 1) + 7; omega, by show 8 + (7 + 11) + (160 * d + 299) ≤ 160 * (d + 1) + 259; omega⟩, rfl, rfl, Nat.zero_le _, Nat.zero_le _⟩
theorem ry_X6_find_X6_findOfLet {d : Nat} : RY (rm_X6_find (d + 1)) (rm_X6_findOfLet d) 7 0 0 := ⟨⟨by show 4 * d + 8 + 1 ≤ 4 * (d + 1) + 7; omega, by show 8 + (7 + 11) + (160 * d + 299) ≤ 160 * (d + 1) + 259; omega⟩, rfl, rfl, Nat.zero_le _, Nat.zero_le _⟩
theorem ry_X6_find_X6_findOfPi {d : Nat} : RY (rm_X6_find (d + 1)) (rm_X6_findOfPi d) 8 0 0 := ⟨⟨by show 4 * d + 8 + 1 ≤ 4 * (d + 1) + 7; omega, by show 8 + (8 + 11) + (160 * d + 299) ≤ 160 * (d + 1) + 259; omega⟩, rfl, rfl, Nat.zero_le _, Nat.zero_le _⟩
theorem ry_X6_find_X6_putBinderType {d : Nat} : RY (rm_X6_find (d + 1)) rm_X6_putBinderType 4 0 0 := ⟨⟨by show 2 + 1 ≤ 4 * (d + 1) + 7; omega, by show 8 + (4 + 11) + (52) ≤ 160 * (d + 1) + 259; omega⟩, rfl, rfl, Nat.zero_le _, Nat.zero_le _⟩
theorem ry_X6_find_X6_putNameType {d : Nat} : RY (rm_X6_find (d + 1)) rm_X6_putNameType 7 0 0 := ⟨⟨by show 2 + 1 ≤ 4 * (d + 1) + 7; omega, by show 8 + (7 + 11) + (59) ≤ 160 * (d + 1) + 259; omega⟩, rfl, rfl, Nat.zero_le _, Nat.zero_le _⟩
theorem ry_X6_find_X6_putSort {d : Nat} : RY (rm_X6_find (d + 1)) rm_X6_putSort 4 0 0 := ⟨⟨by show 2 + 1 ≤ 4 * (d + 1) + 7; omega, by show 8 + (4 + 11) + (49) ≤ 160 * (d + 1) + 259; omega⟩, rfl, rfl, Nat.zero_le _, Nat.zero_le _⟩
def f_X6_needSort (n : Nat) (S : St) (a1 : Int32) (a2 : Nat) : Option (St × Int32) :=
  if a1 = (-6) then
    some (S, 5)
  else
    bI (f_X4_kindAt n S a2 0) fun S2 v4 =>
    if v4 = 0 then
      some (S2, 0)
    else
      some (S2, 4)
set_option maxRecDepth 100000 in
set_option maxHeartbeats 4000000 in
theorem t_X6_needSort_0 {n : Nat} {x : XC} (hx : CX x cX6_needSort 3 RX6) (hR : x_R x = rm_X6_needSort) (hKS : ∀ k ∈ KK, k ∈ x_K x) {out : St × Int32} (hE : EI x cX6_needSort out) {S : St} {a1 : Int32} {a2 : Nat} (h_a2 : a2 < 107) (h : f_X6_needSort n S a1 a2 = some out) : WX x 3 0 0 S 0 [(0, .ref (x_ad x 0 5 0)), (1, .int a1), (2, .ref (x_ad x 0 3 a2))] [] := by
  unfold f_X6_needSort at h
  refine r_iload_n (k0 := 1) hx dX6_needSort_0 rfl rfl ?_
  refine r_bipush (v := -6) hx dX6_needSort_1 (by decide) ?_
  refine r_icmp_ne (tgt := 8) hx dX6_needSort_3 (by decide) (fun c1 => ?_) (fun c1 => ?_)
  · have h := ite_f h c1
    refine r_aload_n (k0 := 2) hx dX6_needSort_8 rfl rfl ?_
    refine r_iconst (v := 0) hx dX6_needSort_9 (by decide) ?_
    obtain ⟨S2, v4, c3, h⟩ := bI_some h
    refine r_Vi (ci := 3) (As := [.int 0]) (rest := []) hx (C_X4_kindAt (c := x_y x) hKS h_a2 c3) (kr_0 hKS h_a2) rfl wl_X6_45 wi_X4_kindAt we_X4_kindAt wn_X4 wc_X4_kindAt dy_X4_kindAt rfl (by rw [hR]; decide +kernel) rfl (Nat.le_of_ble_eq_true rfl) dX6_needSort_10 ?_
    refine r_if_ne (tgt := 20) hx dX6_needSort_13 (by decide) (fun c5 => ?_) (fun c5 => ?_)
    · have h := ite_f h c5
      refine r_iconst (v := 4) hx dX6_needSort_20 (by decide) ?_
      exact r_iret hE h dX6_needSort_21
    · have h := ite_t h c5
      refine r_iconst (v := 0) hx dX6_needSort_16 (by decide) ?_
      refine r_goto (tgt := 21) hx dX6_needSort_17 (by decide) ?_
      exact r_iret hE h dX6_needSort_21
  · have h := ite_t h c1
    refine r_iconst (v := 5) hx dX6_needSort_6 (by decide) ?_
    exact r_iret hE h dX6_needSort_7
set_option maxHeartbeats 4000000 in
theorem C_X6_needSort {n : Nat} {c : YC} (hKS : ∀ k ∈ KK, k ∈ c.2.2.2.2) {S : St} {a1 : Int32} {a2 : Nat} {out : St × Int32} (h_a2 : a2 < 107) (h : f_X6_needSort n S a1 a2 = some out) : MI c yX6_needSort cX6_needSort 3 (some .int) rm_X6_needSort S [.ref (c.2.2.1 0 5 0), .int a1, .ref (c.2.2.1 0 3 a2)] out := mk_I (own := RX6) (by decide +kernel) rfl (Nat.le_of_ble_eq_true rfl) (fun x hx hR hy hE => by subst hy; exact t_X6_needSort_0 hx hR hKS hE h_a2 h)
def f_X6_putSort (n : Nat) (S : St) (a1 : Int64) (a2 : Nat) : Option (St × Int32) :=
  if (lg_cmp a1 (-1)) = 0 then
    some (S, 5)
  else
    bU (f_X4_beSort n S a2 a1) fun S2 =>
    some (S2, 0)
set_option maxRecDepth 100000 in
set_option maxHeartbeats 4000000 in
theorem t_X6_putSort_0 {n : Nat} {x : XC} (hx : CX x cX6_putSort 4 RX6) (hR : x_R x = rm_X6_putSort) (hKS : ∀ k ∈ KK, k ∈ x_K x) {out : St × Int32} (hE : EI x cX6_putSort out) {S : St} {a1 : Int64} {a2 : Nat} (h_a2 : a2 < 107) (h : f_X6_putSort n S a1 a2 = some out) : WX x 4 0 0 S 0 [(0, .ref (x_ad x 0 5 0)), (1, .long a1), (3, .ref (x_ad x 0 3 a2))] [] := by
  unfold f_X6_putSort at h
  refine r_lload_n (k0 := 1) hx dX6_putSort_0 rfl rfl ?_
  refine r_ldc2 (v := -1) hx dX6_putSort_1 wk_X6_98 ?_
  refine r_lcmp hx dX6_putSort_4 ?_
  refine r_if_ne (tgt := 10) hx dX6_putSort_5 (by decide) (fun c1 => ?_) (fun c1 => ?_)
  · have h := ite_f h c1
    refine r_aload_n (k0 := 2) hx dX6_putSort_10 rfl rfl ?_
    refine r_lload_n (k0 := 1) hx dX6_putSort_11 rfl rfl ?_
    obtain ⟨S2, c3, h⟩ := bU_some h
    refine r_Vv (ci := 3) (As := [.long a1]) (rest := []) hx (C_X4_beSort (c := x_y x) hKS h_a2 c3) (kr_0 hKS h_a2) rfl wl_X6_100 wi_X4_beSort we_X4_beSort wn_X4 wc_X4_beSort dy_X4_beSort rfl (by rw [hR]; decide +kernel) rfl (Nat.le_of_ble_eq_true rfl) dX6_putSort_12 ?_
    refine r_iconst (v := 0) hx dX6_putSort_15 (by decide) ?_
    exact r_iret hE h dX6_putSort_16
  · have h := ite_t h c1
    refine r_iconst (v := 5) hx dX6_putSort_8 (by decide) ?_
    exact r_iret hE h dX6_putSort_9
set_option maxHeartbeats 4000000 in
theorem C_X6_putSort {n : Nat} {c : YC} (hKS : ∀ k ∈ KK, k ∈ c.2.2.2.2) {S : St} {a1 : Int64} {a2 : Nat} {out : St × Int32} (h_a2 : a2 < 107) (h : f_X6_putSort n S a1 a2 = some out) : MI c yX6_putSort cX6_putSort 4 (some .int) rm_X6_putSort S [.ref (c.2.2.1 0 5 0), .long a1, .ref (c.2.2.1 0 3 a2)] out := mk_I (own := RX6) (by decide +kernel) rfl (Nat.le_of_ble_eq_true rfl) (fun x hx hR hy hE => by subst hy; exact t_X6_putSort_0 hx hR hKS hE h_a2 h)
def f_X6_putBinderType (n : Nat) (S : St) (a1 : Int32) (a2 : Int32) (a3 : Nat) : Option (St × Int32) :=
  if a1 < 0 then
    some (S, 1)
  else
    if a1 < a2 then
      gI S 256 0 ((a2 - 1) - a1) 101 fun v3 =>
      bU (f_X5_spread n S v3 a3) fun S6 =>
      bU (f_X4_raise n S6 a3 (a1 + 1)) fun S8 =>
      some (S8, 0)
    else
      some (S, 1)
set_option maxRecDepth 100000 in
set_option maxHeartbeats 4000000 in
theorem t_X6_putBinderType_0 {n : Nat} {x : XC} (hx : CX x cX6_putBinderType 4 RX6) (hR : x_R x = rm_X6_putBinderType) (hKS : ∀ k ∈ KK, k ∈ x_K x) {out : St × Int32} (hE : EI x cX6_putBinderType out) {S : St} {a1 : Int32} {a2 : Int32} {a3 : Nat} (h_a3 : a3 < 107) (h : f_X6_putBinderType n S a1 a2 a3 = some out) : WX x 4 0 0 S 0 [(0, .ref (x_ad x 0 5 0)), (1, .int a1), (2, .int a2), (3, .ref (x_ad x 0 3 a3))] [] := by
  unfold f_X6_putBinderType at h
  refine r_iload_n (k0 := 1) hx dX6_putBinderType_0 rfl rfl ?_
  refine r_if_lt (tgt := 9) hx dX6_putBinderType_1 (by decide) (fun c1 => ?_) (fun c1 => ?_)
  · have h := ite_t h c1
    refine r_iconst (v := 1) hx dX6_putBinderType_9 (by decide) ?_
    exact r_iret hE h dX6_putBinderType_10
  · have h := ite_f h c1
    refine r_iload_n (k0 := 1) hx dX6_putBinderType_4 rfl rfl ?_
    refine r_iload_n (k0 := 2) hx dX6_putBinderType_5 rfl rfl ?_
    refine r_icmp_lt (tgt := 11) hx dX6_putBinderType_6 (by decide) (fun c2 => ?_) (fun c2 => ?_)
    · have h := ite_t h c2
      refine r_aload_n (k0 := 0) hx dX6_putBinderType_11 rfl rfl ?_
      refine g_251 hx (k_0_5 hKS) wf_X6_15 dX6_putBinderType_12 ?_
      refine r_aload_n (k0 := 0) hx dX6_putBinderType_15 rfl rfl ?_
      refine g_256 hx (k_0_5 hKS) wf_X6_38 dX6_putBinderType_16 ?_
      refine r_iload_n (k0 := 2) hx dX6_putBinderType_19 rfl rfl ?_
      refine r_iconst (v := 1) hx dX6_putBinderType_20 (by decide) ?_
      refine r_isub hx dX6_putBinderType_21 ?_
      refine r_iload_n (k0 := 1) hx dX6_putBinderType_22 rfl rfl ?_
      refine r_isub hx dX6_putBinderType_23 ?_
      obtain ⟨v3, e4, i5, h⟩ := gI_some h
      refine r_iald hx (k_1_256 hKS) rfl i5 e4 dX6_putBinderType_24 ?_
      refine r_aload_n (k0 := 3) hx dX6_putBinderType_25 rfl rfl ?_
      obtain ⟨S6, c7, h⟩ := bU_some h
      refine r_Vv (ci := 4) (As := [.int v3, .ref (x_ad x 0 3 a3)]) (rest := []) hx (C_X5_spread (c := x_y x) hKS h_a3 c7) (k_0_4 hKS) rfl wl_X6_104 wi_X5_spread we_X5_spread wn_X5 wc_X5_spread dy_X5_spread rfl (by rw [hR]; decide +kernel) rfl (Nat.le_of_ble_eq_true rfl) dX6_putBinderType_26 ?_
      refine r_aload_n (k0 := 3) hx dX6_putBinderType_29 rfl rfl ?_
      refine r_iload_n (k0 := 1) hx dX6_putBinderType_30 rfl rfl ?_
      refine r_iconst (v := 1) hx dX6_putBinderType_31 (by decide) ?_
      refine r_iadd hx dX6_putBinderType_32 ?_
      obtain ⟨S8, c9, h⟩ := bU_some h
      refine r_Vv (ci := 3) (As := [.int (a1 + 1)]) (rest := []) hx (C_X4_raise (c := x_y x) hKS h_a3 c9) (kr_0 hKS h_a3) rfl wl_X6_108 wi_X4_raise we_X4_raise wn_X4 wc_X4_raise dy_X4_raise rfl (by rw [hR]; decide +kernel) rfl (Nat.le_of_ble_eq_true rfl) dX6_putBinderType_33 ?_
      refine r_iconst (v := 0) hx dX6_putBinderType_36 (by decide) ?_
      exact r_iret hE h dX6_putBinderType_37
    · have h := ite_f h c2
      refine r_iconst (v := 1) hx dX6_putBinderType_9 (by decide) ?_
      exact r_iret hE h dX6_putBinderType_10
set_option maxHeartbeats 4000000 in
theorem C_X6_putBinderType {n : Nat} {c : YC} (hKS : ∀ k ∈ KK, k ∈ c.2.2.2.2) {S : St} {a1 : Int32} {a2 : Int32} {a3 : Nat} {out : St × Int32} (h_a3 : a3 < 107) (h : f_X6_putBinderType n S a1 a2 a3 = some out) : MI c yX6_putBinderType cX6_putBinderType 4 (some .int) rm_X6_putBinderType S [.ref (c.2.2.1 0 5 0), .int a1, .int a2, .ref (c.2.2.1 0 3 a3)] out := mk_I (own := RX6) (by decide +kernel) rfl (Nat.le_of_ble_eq_true rfl) (fun x hx hR hy hE => by subst hy; exact t_X6_putBinderType_0 hx hR hKS hE h_a3 h)
def f_X6_putNameType (n : Nat) (S : St) (a1 : Int32) (a2 : Nat) : Option (St × Int32) :=
  gI S 202 0 a1 1500 fun v1 =>
  bI (f_X2_typeOf n S v1) fun S4 v6 =>
  bU (f_X5_spread n S4 v6 a2) fun S7 =>
  gI S7 203 0 a1 1500 fun v9 =>
  bL (f_X1_codeOf n S7 v9) fun S12 v14 =>
  gI S12 204 0 a1 1500 fun v15 =>
  bL (f_X1_codeOf n S12 v15) fun S18 v20 =>
  bI (f_X4_giveLevels n S18 a2 v14 v20) fun S21 v23 =>
  if v23 = 0 then
    some (S21, 5)
  else
    some (S21, 0)
set_option maxRecDepth 100000 in
set_option maxHeartbeats 4000000 in
theorem t_X6_putNameType_0 {n : Nat} {x : XC} (hx : CX x cX6_putNameType 7 RX6) (hR : x_R x = rm_X6_putNameType) (hKS : ∀ k ∈ KK, k ∈ x_K x) {out : St × Int32} (hE : EI x cX6_putNameType out) {S : St} {a1 : Int32} {a2 : Nat} (h_a2 : a2 < 107) (h : f_X6_putNameType n S a1 a2 = some out) : WX x 7 0 0 S 0 [(0, .ref (x_ad x 0 5 0)), (1, .int a1), (2, .ref (x_ad x 0 3 a2))] [] := by
  unfold f_X6_putNameType at h
  refine r_aload_n (k0 := 0) hx dX6_putNameType_0 rfl rfl ?_
  refine g_251 hx (k_0_5 hKS) wf_X6_15 dX6_putNameType_1 ?_
  refine r_aload_n (k0 := 0) hx dX6_putNameType_4 rfl rfl ?_
  refine g_252 hx (k_0_5 hKS) wf_X6_19 dX6_putNameType_5 ?_
  refine r_aload_n (k0 := 0) hx dX6_putNameType_8 rfl rfl ?_
  refine g_251 hx (k_0_5 hKS) wf_X6_15 dX6_putNameType_9 ?_
  refine g_202 hx (k_0_4 hKS) wf_X6_58 dX6_putNameType_12 ?_
  refine r_iload_n (k0 := 1) hx dX6_putNameType_15 rfl rfl ?_
  obtain ⟨v1, e2, i3, h⟩ := gI_some h
  refine r_iald hx (k_1_202 hKS) rfl i3 e2 dX6_putNameType_16 ?_
  obtain ⟨S4, v6, c5, h⟩ := bI_some h
  refine r_Vi (ci := 1) (As := [.int v1]) (rest := [.ref (x_ad x 0 4 0)]) hx (C_X2_typeOf (c := x_y x) hKS c5) (k_0_1 hKS) rfl wl_X6_112 wi_X2_typeOf we_X2_typeOf wn_X2 wc_X2_typeOf dy_X2_typeOf rfl (by rw [hR]; decide +kernel) rfl (Nat.le_of_ble_eq_true rfl) dX6_putNameType_17 ?_
  refine r_aload_n (k0 := 2) hx dX6_putNameType_20 rfl rfl ?_
  obtain ⟨S7, c8, h⟩ := bU_some h
  refine r_Vv (ci := 4) (As := [.int v6, .ref (x_ad x 0 3 a2)]) (rest := []) hx (C_X5_spread (c := x_y x) hKS h_a2 c8) (k_0_4 hKS) rfl wl_X6_104 wi_X5_spread we_X5_spread wn_X5 wc_X5_spread dy_X5_spread rfl (by rw [hR]; decide +kernel) rfl (Nat.le_of_ble_eq_true rfl) dX6_putNameType_21 ?_
  refine r_aload_n (k0 := 0) hx dX6_putNameType_24 rfl rfl ?_
  refine g_250 hx (k_0_5 hKS) wf_X6_9 dX6_putNameType_25 ?_
  refine r_aload_n (k0 := 0) hx dX6_putNameType_28 rfl rfl ?_
  refine g_251 hx (k_0_5 hKS) wf_X6_15 dX6_putNameType_29 ?_
  refine g_203 hx (k_0_4 hKS) wf_X6_117 dX6_putNameType_32 ?_
  refine r_iload_n (k0 := 1) hx dX6_putNameType_35 rfl rfl ?_
  obtain ⟨v9, e10, i11, h⟩ := gI_some h
  refine r_iald hx (k_1_203 hKS) rfl i11 e10 dX6_putNameType_36 ?_
  obtain ⟨S12, v14, c13, h⟩ := bL_some h
  refine r_Vl (ci := 0) (As := [.int v9]) (rest := []) hx (C_X1_codeOf (c := x_y x) hKS c13) (k_0_0 hKS) rfl wl_X6_61 wi_X1_codeOf we_X1_codeOf wn_X1 wc_X1_codeOf dy_X1_codeOf rfl (by rw [hR]; decide +kernel) rfl (Nat.le_of_ble_eq_true rfl) dX6_putNameType_37 ?_
  refine r_lstore_n (lv' := [(3, .long v14), (0, .ref (x_ad x 0 5 0)), (1, .int a1), (2, .ref (x_ad x 0 3 a2))]) hx dX6_putNameType_40 rfl (by decide) rfl ?_
  refine r_aload_n (k0 := 1) hx dX6_putNameType_41 rfl rfl ?_
  refine g_250 hx (k_0_5 hKS) wf_X6_9 dX6_putNameType_42 ?_
  refine r_aload_n (k0 := 1) hx dX6_putNameType_45 rfl rfl ?_
  refine g_251 hx (k_0_5 hKS) wf_X6_15 dX6_putNameType_46 ?_
  refine g_204 hx (k_0_4 hKS) wf_X6_120 dX6_putNameType_49 ?_
  refine r_iload_n (k0 := 2) hx dX6_putNameType_52 rfl rfl ?_
  obtain ⟨v15, e16, i17, h⟩ := gI_some h
  refine r_iald hx (k_1_204 hKS) rfl i17 e16 dX6_putNameType_53 ?_
  obtain ⟨S18, v20, c19, h⟩ := bL_some h
  refine r_Vl (ci := 0) (As := [.int v15]) (rest := []) hx (C_X1_codeOf (c := x_y x) hKS c19) (k_0_0 hKS) rfl wl_X6_61 wi_X1_codeOf we_X1_codeOf wn_X1 wc_X1_codeOf dy_X1_codeOf rfl (by rw [hR]; decide +kernel) rfl (Nat.le_of_ble_eq_true rfl) dX6_putNameType_54 ?_
  refine r_lstore (lv' := [(5, .long v20), (3, .long v14), (0, .ref (x_ad x 0 5 0)), (1, .int a1), (2, .ref (x_ad x 0 3 a2))]) hx dX6_putNameType_57 (by decide) rfl ?_
  refine r_aload_n (k0 := 4) hx dX6_putNameType_59 rfl rfl ?_
  refine r_lload_n (k0 := 1) hx dX6_putNameType_60 rfl rfl ?_
  refine r_lload (k0 := 0) hx dX6_putNameType_61 rfl ?_
  obtain ⟨S21, v23, c22, h⟩ := bI_some h
  refine r_Vi (ci := 3) (As := [.long v14, .long v20]) (rest := []) hx (C_X4_giveLevels (c := x_y x) hKS h_a2 c22) (kr_0 hKS h_a2) rfl wl_X6_123 wi_X4_giveLevels we_X4_giveLevels wn_X4 wc_X4_giveLevels dy_X4_giveLevels rfl (by rw [hR]; decide +kernel) rfl (Nat.le_of_ble_eq_true rfl) dX6_putNameType_63 ?_
  refine r_if_eq (tgt := 73) hx dX6_putNameType_66 (by decide) (fun c24 => ?_) (fun c24 => ?_)
  · have h := ite_t h c24
    refine r_iconst (v := 5) hx dX6_putNameType_73 (by decide) ?_
    exact r_iret hE h dX6_putNameType_74
  · have h := ite_f h c24
    refine r_iconst (v := 0) hx dX6_putNameType_69 (by decide) ?_
    refine r_goto (tgt := 74) hx dX6_putNameType_70 (by decide) ?_
    exact r_iret hE h dX6_putNameType_74
set_option maxHeartbeats 4000000 in
theorem C_X6_putNameType {n : Nat} {c : YC} (hKS : ∀ k ∈ KK, k ∈ c.2.2.2.2) {S : St} {a1 : Int32} {a2 : Nat} {out : St × Int32} (h_a2 : a2 < 107) (h : f_X6_putNameType n S a1 a2 = some out) : MI c yX6_putNameType cX6_putNameType 7 (some .int) rm_X6_putNameType S [.ref (c.2.2.1 0 5 0), .int a1, .ref (c.2.2.1 0 3 a2)] out := mk_I (own := RX6) (by decide +kernel) rfl (Nat.le_of_ble_eq_true rfl) (fun x hx hR hy hE => by subst hy; exact t_X6_putNameType_0 hx hR hKS hE h_a2 h)
def j_X6_findOfPi_126 (n : Nat) (F : St → Int32 → Int32 → Int32 → Option (St × Int32)) (S : St) (l3 : Int32) (r_l4 : Nat) (l5 : Int32) (l6 : Int64) : Option (St × Int32) :=
  if l5 = 0 then
    gL S 154 r_l4 0 200 fun v2 =>
    bL (f_X0_ofTwo n S 3 l6 v2) fun S5 v7 =>
    gR l3 fun r8 =>
    bI (f_X6_putSort n S5 v7 r8) fun S11 v13 =>
    some (S11, v13)
  else
    some (S, l5)
def j_X6_findOfPi_51 (n : Nat) (F : St → Int32 → Int32 → Int32 → Option (St × Int32)) (S : St) (l1 : Int32) (l2 : Int32) (l3 : Int32) (r_l4 : Nat) (l5 : Int32) : Option (St × Int32) :=
  if l5 = 0 then
    gL S 154 r_l4 0 200 fun v2 =>
    gI S 202 0 l1 1500 fun v5 =>
    pI S 256 0 l2 101 v5 fun S8 =>
    gI S8 203 0 l1 1500 fun v11 =>
    bI (F S8 v11 (l2 + 1) (l3 + 1)) fun S14 v16 =>
    if v16 = 0 then
      bI (f_X3_reduce n S14 r_l4) fun S18 v20 =>
      bI (f_X6_needSort n S18 v20 r_l4) fun S21 v23 =>
      j_X6_findOfPi_126 n F S21 l3 r_l4 v23 v2
    else
      j_X6_findOfPi_126 n F S14 l3 r_l4 v16 v2
  else
    some (S, l5)
def f_X6_findOfPi (n : Nat) (F : St → Int32 → Int32 → Int32 → Option (St × Int32)) (S : St) (a1 : Int32) (a2 : Int32) (a3 : Int32) : Option (St × Int32) :=
  gR (a3 + 1) fun r1 =>
  gI S 202 0 a1 1500 fun v4 =>
  bI (F S v4 a2 (a3 + 1)) fun S7 v9 =>
  if v9 = 0 then
    bI (f_X3_reduce n S7 r1) fun S11 v13 =>
    bI (f_X6_needSort n S11 v13 r1) fun S14 v16 =>
    j_X6_findOfPi_51 n F S14 a1 a2 a3 r1 v16
  else
    j_X6_findOfPi_51 n F S7 a1 a2 a3 r1 v9
set_option maxRecDepth 100000 in
set_option maxHeartbeats 4000000 in
theorem t_X6_findOfPi_126 {n : Nat} {d : Nat} {F : St → Int32 → Int32 → Int32 → Option (St × Int32)} {x : XC} (hx : CX x cX6_findOfPi 8 RX6) (hR : x_R x = (rm_X6_findOfPi d)) (hKS : ∀ k ∈ KK, k ∈ x_K x) {out : St × Int32} (hE : EI x cX6_findOfPi out) (hF : ∀ {S : St} {a1 : Int32} {a2 : Int32} {a3 : Int32} {out : St × Int32}, F S a1 a2 a3 = some out → MI (x_y x) yX6_find cX6_find 4 (some .int) (rm_X6_find d) S [.ref (x_ad x 0 5 0), .int a1, .int a2, .int a3] out) {S : St} {l3 : Int32} {r_l4 : Nat} {l5 : Int32} {l6 : Int64} (h_r_l4 : r_l4 < 107) (h : j_X6_findOfPi_126 n F S l3 r_l4 l5 l6 = some out) : WX x 8 0 0 S 126 [(0, .ref (x_ad x 0 5 0)), (3, .int l3), (4, .ref (x_ad x 0 3 r_l4)), (5, .int l5), (6, .long l6)] [] := by
  unfold j_X6_findOfPi_126 at h
  refine r_iload (k0 := 3) hx dX6_findOfPi_126 rfl ?_
  refine r_if_ne (tgt := 157) hx dX6_findOfPi_128 (by decide) (fun c1 => ?_) (fun c1 => ?_)
  · have h := ite_f h c1
    refine r_iload (k0 := 3) hx dX6_findOfPi_157 rfl ?_
    exact r_iret hE h dX6_findOfPi_159
  · have h := ite_t h c1
    refine r_aload_n (k0 := 0) hx dX6_findOfPi_131 rfl rfl ?_
    refine r_iconst (v := 3) hx dX6_findOfPi_132 (by decide) ?_
    refine r_lload (k0 := 4) hx dX6_findOfPi_133 rfl ?_
    refine r_aload (k0 := 2) hx dX6_findOfPi_135 rfl ?_
    refine g_154 hx (kr_0 hKS h_r_l4) wf_X6_139 dX6_findOfPi_137 ?_
    refine r_iconst (v := 0) hx dX6_findOfPi_140 (by decide) ?_
    obtain ⟨v2, e3, i4, h⟩ := gL_some h
    refine r_lald hx (kr_154 hKS h_r_l4) rfl i4 e3 dX6_findOfPi_141 ?_
    obtain ⟨S5, v7, c6, h⟩ := bL_some h
    refine r_Sl (As := [.int 3, .long l6, .long v2]) (rest := [.ref (x_ad x 0 5 0)]) hx (C_X0_ofTwo (c := x_y x) hKS c6) wl_X6_143 wt_X0_ofTwo wn_X0 wc_X0_ofTwo dy_X0_ofTwo rfl (by rw [hR]; exact ry_X6_findOfPi_X0_ofTwo) rfl (Nat.le_of_ble_eq_true rfl) dX6_findOfPi_142 ?_
    refine r_aload_n (k0 := 0) hx dX6_findOfPi_145 rfl rfl ?_
    refine g_255 hx (k_0_5 hKS) wf_X6_29 dX6_findOfPi_146 ?_
    refine r_iload_n (k0 := 1) hx dX6_findOfPi_149 rfl rfl ?_
    obtain ⟨r8, e9, i10, h_r8, h⟩ := gR_some h
    refine r_aald hx (k_3_255 hKS) rfl i10 e9 dX6_findOfPi_150 ?_
    obtain ⟨S11, v13, c12, h⟩ := bI_some h
    refine r_Vi (ci := 5) (As := [.long v7, .ref (x_ad x 0 3 r8)]) (rest := []) hx (C_X6_putSort (c := x_y x) hKS h_r8 c12) (k_0_5 hKS) rfl wl_X6_73 wi_X6_putSort we_X6_putSort wn_X6 wc_X6_putSort dy_X6_putSort rfl (by rw [hR]; exact ry_X6_findOfPi_X6_putSort) rfl (Nat.le_of_ble_eq_true rfl) dX6_findOfPi_151 ?_
    refine r_goto (tgt := 159) hx dX6_findOfPi_154 (by decide) ?_
    exact r_iret hE h dX6_findOfPi_159
set_option maxRecDepth 100000 in
set_option maxHeartbeats 4000000 in
theorem t_X6_findOfPi_51 {n : Nat} {d : Nat} {F : St → Int32 → Int32 → Int32 → Option (St × Int32)} {x : XC} (hx : CX x cX6_findOfPi 8 RX6) (hR : x_R x = (rm_X6_findOfPi d)) (hKS : ∀ k ∈ KK, k ∈ x_K x) {out : St × Int32} (hE : EI x cX6_findOfPi out) (hF : ∀ {S : St} {a1 : Int32} {a2 : Int32} {a3 : Int32} {out : St × Int32}, F S a1 a2 a3 = some out → MI (x_y x) yX6_find cX6_find 4 (some .int) (rm_X6_find d) S [.ref (x_ad x 0 5 0), .int a1, .int a2, .int a3] out) {S : St} {l1 : Int32} {l2 : Int32} {l3 : Int32} {r_l4 : Nat} {l5 : Int32} (h_r_l4 : r_l4 < 107) (h : j_X6_findOfPi_51 n F S l1 l2 l3 r_l4 l5 = some out) : WX x 8 0 0 S 51 [(0, .ref (x_ad x 0 5 0)), (1, .int l1), (2, .int l2), (3, .int l3), (4, .ref (x_ad x 0 3 r_l4)), (5, .int l5)] [] := by
  unfold j_X6_findOfPi_51 at h
  refine r_iload (k0 := 5) hx dX6_findOfPi_51 rfl ?_
  refine r_if_eq (tgt := 59) hx dX6_findOfPi_53 (by decide) (fun c1 => ?_) (fun c1 => ?_)
  · have h := ite_t h c1
    refine r_aload (k0 := 4) hx dX6_findOfPi_59 rfl ?_
    refine g_154 hx (kr_0 hKS h_r_l4) wf_X6_139 dX6_findOfPi_61 ?_
    refine r_iconst (v := 0) hx dX6_findOfPi_64 (by decide) ?_
    obtain ⟨v2, e3, i4, h⟩ := gL_some h
    refine r_lald hx (kr_154 hKS h_r_l4) rfl i4 e3 dX6_findOfPi_65 ?_
    refine r_lstore (lv' := [(6, .long v2), (0, .ref (x_ad x 0 5 0)), (1, .int l1), (2, .int l2), (3, .int l3), (4, .ref (x_ad x 0 3 r_l4)), (5, .int l5)]) hx dX6_findOfPi_66 (by decide) rfl ?_
    refine r_aload_n (k0 := 1) hx dX6_findOfPi_68 rfl rfl ?_
    refine g_256 hx (k_0_5 hKS) wf_X6_38 dX6_findOfPi_69 ?_
    refine r_iload_n (k0 := 3) hx dX6_findOfPi_72 rfl rfl ?_
    refine r_aload_n (k0 := 1) hx dX6_findOfPi_73 rfl rfl ?_
    refine g_251 hx (k_0_5 hKS) wf_X6_15 dX6_findOfPi_74 ?_
    refine g_202 hx (k_0_4 hKS) wf_X6_58 dX6_findOfPi_77 ?_
    refine r_iload_n (k0 := 2) hx dX6_findOfPi_80 rfl rfl ?_
    obtain ⟨v5, e6, i7, h⟩ := gI_some h
    refine r_iald hx (k_1_202 hKS) rfl i7 e6 dX6_findOfPi_81 ?_
    obtain ⟨S8, e9, i10, h⟩ := pI_some h
    refine r_iast hx (k_1_256 hKS) rfl i10 e9 dX6_findOfPi_82 ?_
    refine r_aload_n (k0 := 1) hx dX6_findOfPi_83 rfl rfl ?_
    refine r_aload_n (k0 := 1) hx dX6_findOfPi_84 rfl rfl ?_
    refine g_251 hx (k_0_5 hKS) wf_X6_15 dX6_findOfPi_85 ?_
    refine g_203 hx (k_0_4 hKS) wf_X6_117 dX6_findOfPi_88 ?_
    refine r_iload_n (k0 := 2) hx dX6_findOfPi_91 rfl rfl ?_
    obtain ⟨v11, e12, i13, h⟩ := gI_some h
    refine r_iald hx (k_1_203 hKS) rfl i13 e12 dX6_findOfPi_92 ?_
    refine r_iload_n (k0 := 3) hx dX6_findOfPi_93 rfl rfl ?_
    refine r_iconst (v := 1) hx dX6_findOfPi_94 (by decide) ?_
    refine r_iadd hx dX6_findOfPi_95 ?_
    refine r_iload_n (k0 := 4) hx dX6_findOfPi_96 rfl rfl ?_
    refine r_iconst (v := 1) hx dX6_findOfPi_97 (by decide) ?_
    refine r_iadd hx dX6_findOfPi_98 ?_
    obtain ⟨S14, v16, c15, h⟩ := bI_some h
    refine r_Vi (ci := 5) (As := [.int v11, .int (l2 + 1), .int (l3 + 1)]) (rest := []) hx (hF c15) (k_0_5 hKS) rfl wl_X6_127 wi_X6_find we_X6_find wn_X6 wc_X6_find dy_X6_find rfl (by rw [hR]; exact ry_X6_findOfPi_X6_find) rfl (Nat.le_of_ble_eq_true rfl) dX6_findOfPi_99 ?_
    refine r_istore (lv' := [(5, .int v16), (6, .long v2), (0, .ref (x_ad x 0 5 0)), (1, .int l1), (2, .int l2), (3, .int l3), (4, .ref (x_ad x 0 3 r_l4))]) hx dX6_findOfPi_102 (by decide) rfl ?_
    refine r_iload (k0 := 0) hx dX6_findOfPi_104 rfl ?_
    refine r_if_ne (tgt := 126) hx dX6_findOfPi_106 (by decide) (fun c17 => ?_) (fun c17 => ?_)
    · have h := ite_f h c17
      refine WX.sub (lv' := [(0, .ref (x_ad x 0 5 0)), (3, .int l3), (4, .ref (x_ad x 0 3 r_l4)), (5, .int v16), (6, .long v2)]) ?_ [2, 5, 6, 0, 1] rfl
      exact t_X6_findOfPi_126 hx hR hKS hE hF h_r_l4 h
    · have h := ite_t h c17
      refine r_aload_n (k0 := 2) hx dX6_findOfPi_109 rfl rfl ?_
      refine r_aload_n (k0 := 2) hx dX6_findOfPi_110 rfl rfl ?_
      refine g_253 hx (k_0_5 hKS) wf_X6_23 dX6_findOfPi_111 ?_
      refine r_aload (k0 := 6) hx dX6_findOfPi_114 rfl ?_
      obtain ⟨S18, v20, c19, h⟩ := bI_some h
      refine r_Vi (ci := 2) (As := [.ref (x_ad x 0 3 r_l4)]) (rest := [.ref (x_ad x 0 5 0)]) hx (C_X3_reduce (c := x_y x) hKS h_r_l4 c19) (k_0_2 hKS) rfl wl_X6_130 wi_X3_reduce we_X3_reduce wn_X3 wc_X3_reduce dy_X3_reduce rfl (by rw [hR]; exact ry_X6_findOfPi_X3_reduce) rfl (Nat.le_of_ble_eq_true rfl) dX6_findOfPi_116 ?_
      refine r_aload (k0 := 6) hx dX6_findOfPi_119 rfl ?_
      obtain ⟨S21, v23, c22, h⟩ := bI_some h
      refine r_Vi (ci := 5) (As := [.int v20, .ref (x_ad x 0 3 r_l4)]) (rest := []) hx (C_X6_needSort (c := x_y x) hKS h_r_l4 c22) (k_0_5 hKS) rfl wl_X6_136 wi_X6_needSort we_X6_needSort wn_X6 wc_X6_needSort dy_X6_needSort rfl (by rw [hR]; exact ry_X6_findOfPi_X6_needSort) rfl (Nat.le_of_ble_eq_true rfl) dX6_findOfPi_121 ?_
      refine r_istore (lv' := [(5, .int v23), (6, .long v2), (0, .ref (x_ad x 0 5 0)), (1, .int l1), (2, .int l2), (3, .int l3), (4, .ref (x_ad x 0 3 r_l4))]) hx dX6_findOfPi_124 (by decide) rfl ?_
      refine WX.sub (lv' := [(0, .ref (x_ad x 0 5 0)), (3, .int l3), (4, .ref (x_ad x 0 3 r_l4)), (5, .int v23), (6, .long v2)]) ?_ [2, 5, 6, 0, 1] rfl
      exact t_X6_findOfPi_126 hx hR hKS hE hF h_r_l4 h
  · have h := ite_f h c1
    refine r_iload (k0 := 5) hx dX6_findOfPi_56 rfl ?_
    exact r_iret hE h dX6_findOfPi_58
set_option maxRecDepth 100000 in
set_option maxHeartbeats 4000000 in
theorem t_X6_findOfPi_0 {n : Nat} {d : Nat} {F : St → Int32 → Int32 → Int32 → Option (St × Int32)} {x : XC} (hx : CX x cX6_findOfPi 8 RX6) (hR : x_R x = (rm_X6_findOfPi d)) (hKS : ∀ k ∈ KK, k ∈ x_K x) {out : St × Int32} (hE : EI x cX6_findOfPi out) (hF : ∀ {S : St} {a1 : Int32} {a2 : Int32} {a3 : Int32} {out : St × Int32}, F S a1 a2 a3 = some out → MI (x_y x) yX6_find cX6_find 4 (some .int) (rm_X6_find d) S [.ref (x_ad x 0 5 0), .int a1, .int a2, .int a3] out) {S : St} {a1 : Int32} {a2 : Int32} {a3 : Int32} (h : f_X6_findOfPi n F S a1 a2 a3 = some out) : WX x 8 0 0 S 0 [(0, .ref (x_ad x 0 5 0)), (1, .int a1), (2, .int a2), (3, .int a3)] [] := by
  unfold f_X6_findOfPi at h
  refine r_aload_n (k0 := 0) hx dX6_findOfPi_0 rfl rfl ?_
  refine g_255 hx (k_0_5 hKS) wf_X6_29 dX6_findOfPi_1 ?_
  refine r_iload_n (k0 := 3) hx dX6_findOfPi_4 rfl rfl ?_
  refine r_iconst (v := 1) hx dX6_findOfPi_5 (by decide) ?_
  refine r_iadd hx dX6_findOfPi_6 ?_
  obtain ⟨r1, e2, i3, h_r1, h⟩ := gR_some h
  refine r_aald hx (k_3_255 hKS) rfl i3 e2 dX6_findOfPi_7 ?_
  refine r_astore (lv' := [(4, .ref (x_ad x 0 3 r1)), (0, .ref (x_ad x 0 5 0)), (1, .int a1), (2, .int a2), (3, .int a3)]) hx dX6_findOfPi_8 (by decide) rfl ?_
  refine r_aload_n (k0 := 1) hx dX6_findOfPi_10 rfl rfl ?_
  refine r_aload_n (k0 := 1) hx dX6_findOfPi_11 rfl rfl ?_
  refine g_251 hx (k_0_5 hKS) wf_X6_15 dX6_findOfPi_12 ?_
  refine g_202 hx (k_0_4 hKS) wf_X6_58 dX6_findOfPi_15 ?_
  refine r_iload_n (k0 := 2) hx dX6_findOfPi_18 rfl rfl ?_
  obtain ⟨v4, e5, i6, h⟩ := gI_some h
  refine r_iald hx (k_1_202 hKS) rfl i6 e5 dX6_findOfPi_19 ?_
  refine r_iload_n (k0 := 3) hx dX6_findOfPi_20 rfl rfl ?_
  refine r_iload_n (k0 := 4) hx dX6_findOfPi_21 rfl rfl ?_
  refine r_iconst (v := 1) hx dX6_findOfPi_22 (by decide) ?_
  refine r_iadd hx dX6_findOfPi_23 ?_
  obtain ⟨S7, v9, c8, h⟩ := bI_some h
  refine r_Vi (ci := 5) (As := [.int v4, .int a2, .int (a3 + 1)]) (rest := []) hx (hF c8) (k_0_5 hKS) rfl wl_X6_127 wi_X6_find we_X6_find wn_X6 wc_X6_find dy_X6_find rfl (by rw [hR]; exact ry_X6_findOfPi_X6_find) rfl (Nat.le_of_ble_eq_true rfl) dX6_findOfPi_24 ?_
  refine r_istore (lv' := [(5, .int v9), (4, .ref (x_ad x 0 3 r1)), (0, .ref (x_ad x 0 5 0)), (1, .int a1), (2, .int a2), (3, .int a3)]) hx dX6_findOfPi_27 (by decide) rfl ?_
  refine r_iload (k0 := 0) hx dX6_findOfPi_29 rfl ?_
  refine r_if_ne (tgt := 51) hx dX6_findOfPi_31 (by decide) (fun c10 => ?_) (fun c10 => ?_)
  · have h := ite_f h c10
    refine WX.sub (lv' := [(0, .ref (x_ad x 0 5 0)), (1, .int a1), (2, .int a2), (3, .int a3), (4, .ref (x_ad x 0 3 r1)), (5, .int v9)]) ?_ [2, 3, 4, 5, 1, 0] rfl
    exact t_X6_findOfPi_51 hx hR hKS hE hF h_r1 h
  · have h := ite_t h c10
    refine r_aload_n (k0 := 2) hx dX6_findOfPi_34 rfl rfl ?_
    refine r_aload_n (k0 := 2) hx dX6_findOfPi_35 rfl rfl ?_
    refine g_253 hx (k_0_5 hKS) wf_X6_23 dX6_findOfPi_36 ?_
    refine r_aload (k0 := 1) hx dX6_findOfPi_39 rfl ?_
    obtain ⟨S11, v13, c12, h⟩ := bI_some h
    refine r_Vi (ci := 2) (As := [.ref (x_ad x 0 3 r1)]) (rest := [.ref (x_ad x 0 5 0)]) hx (C_X3_reduce (c := x_y x) hKS h_r1 c12) (k_0_2 hKS) rfl wl_X6_130 wi_X3_reduce we_X3_reduce wn_X3 wc_X3_reduce dy_X3_reduce rfl (by rw [hR]; exact ry_X6_findOfPi_X3_reduce) rfl (Nat.le_of_ble_eq_true rfl) dX6_findOfPi_41 ?_
    refine r_aload (k0 := 1) hx dX6_findOfPi_44 rfl ?_
    obtain ⟨S14, v16, c15, h⟩ := bI_some h
    refine r_Vi (ci := 5) (As := [.int v13, .ref (x_ad x 0 3 r1)]) (rest := []) hx (C_X6_needSort (c := x_y x) hKS h_r1 c15) (k_0_5 hKS) rfl wl_X6_136 wi_X6_needSort we_X6_needSort wn_X6 wc_X6_needSort dy_X6_needSort rfl (by rw [hR]; exact ry_X6_findOfPi_X6_needSort) rfl (Nat.le_of_ble_eq_true rfl) dX6_findOfPi_46 ?_
    refine r_istore (lv' := [(5, .int v16), (4, .ref (x_ad x 0 3 r1)), (0, .ref (x_ad x 0 5 0)), (1, .int a1), (2, .int a2), (3, .int a3)]) hx dX6_findOfPi_49 (by decide) rfl ?_
    refine WX.sub (lv' := [(0, .ref (x_ad x 0 5 0)), (1, .int a1), (2, .int a2), (3, .int a3), (4, .ref (x_ad x 0 3 r1)), (5, .int v16)]) ?_ [2, 3, 4, 5, 1, 0] rfl
    exact t_X6_findOfPi_51 hx hR hKS hE hF h_r1 h
set_option maxHeartbeats 4000000 in
theorem C_X6_findOfPi {n d : Nat} {F : St → Int32 → Int32 → Int32 → Option (St × Int32)} {c : YC} (hKS : ∀ k ∈ KK, k ∈ c.2.2.2.2) (hF : ∀ {S : St} {a1 : Int32} {a2 : Int32} {a3 : Int32} {out : St × Int32}, F S a1 a2 a3 = some out → MI (c) yX6_find cX6_find 4 (some .int) (rm_X6_find d) S [.ref ((c).2.2.1 0 5 0), .int a1, .int a2, .int a3] out) {S : St} {a1 : Int32} {a2 : Int32} {a3 : Int32} {out : St × Int32} (h : f_X6_findOfPi n F S a1 a2 a3 = some out) : MI c yX6_findOfPi cX6_findOfPi 8 (some .int) (rm_X6_findOfPi d) S [.ref (c.2.2.1 0 5 0), .int a1, .int a2, .int a3] out := mk_I (own := RX6) (by decide +kernel) rfl (Nat.le_of_ble_eq_true rfl) (fun x hx hR hy hE => by subst hy; exact t_X6_findOfPi_0 hx hR hKS hE hF h)
def j_X6_findOfLambda_59 (n : Nat) (F : St → Int32 → Int32 → Int32 → Option (St × Int32)) (S : St) (l1 : Int32) (l2 : Int32) (l3 : Int32) (r_l4 : Nat) (r_l5 : Nat) (l6 : Int32) : Option (St × Int32) :=
  if l6 = 0 then
    gI S 202 0 l1 1500 fun v2 =>
    pI S 256 0 l2 101 v2 fun S5 =>
    gI S5 203 0 l1 1500 fun v8 =>
    bI (F S5 v8 (l2 + 1) (l3 + 1)) fun S11 v13 =>
    if v13 = 0 then
      gI S11 202 0 l1 1500 fun v15 =>
      bU (f_X5_spread n S11 v15 5) fun S18 =>
      if ((1 + (S18.1 150 5)) + (S18.1 150 r_l5)) ≤ 200 then
        pS S18 150 r_l4 0 fun S21 =>
        bU (f_X4_add n S21 r_l4 3 0 0 0 0) fun S23 =>
        bU (f_X4_append n S23 r_l4 5 0) fun S25 =>
        bU (f_X4_append n S25 r_l4 r_l5 1) fun S27 =>
        some (S27, 0)
      else
        some (S18, 5)
    else
      some (S11, v13)
  else
    some (S, l6)
def f_X6_findOfLambda (n : Nat) (F : St → Int32 → Int32 → Int32 → Option (St × Int32)) (S : St) (a1 : Int32) (a2 : Int32) (a3 : Int32) : Option (St × Int32) :=
  gR a3 fun r1 =>
  gR (a3 + 1) fun r4 =>
  gI S 202 0 a1 1500 fun v7 =>
  bI (F S v7 a2 (a3 + 1)) fun S10 v12 =>
  if v12 = 0 then
    bI (f_X3_reduce n S10 r4) fun S14 v16 =>
    bI (f_X6_needSort n S14 v16 r4) fun S17 v19 =>
    j_X6_findOfLambda_59 n F S17 a1 a2 a3 r1 r4 v19
  else
    j_X6_findOfLambda_59 n F S10 a1 a2 a3 r1 r4 v12
set_option maxRecDepth 100000 in
set_option maxHeartbeats 4000000 in
theorem t_X6_findOfLambda_59 {n : Nat} {d : Nat} {F : St → Int32 → Int32 → Int32 → Option (St × Int32)} {x : XC} (hx : CX x cX6_findOfLambda 7 RX6) (hR : x_R x = (rm_X6_findOfLambda d)) (hKS : ∀ k ∈ KK, k ∈ x_K x) {out : St × Int32} (hE : EI x cX6_findOfLambda out) (hF : ∀ {S : St} {a1 : Int32} {a2 : Int32} {a3 : Int32} {out : St × Int32}, F S a1 a2 a3 = some out → MI (x_y x) yX6_find cX6_find 4 (some .int) (rm_X6_find d) S [.ref (x_ad x 0 5 0), .int a1, .int a2, .int a3] out) {S : St} {l1 : Int32} {l2 : Int32} {l3 : Int32} {r_l4 : Nat} {r_l5 : Nat} {l6 : Int32} (h_r_l4 : r_l4 < 107) (h_r_l5 : r_l5 < 107) (h : j_X6_findOfLambda_59 n F S l1 l2 l3 r_l4 r_l5 l6 = some out) : WX x 7 0 0 S 59 [(0, .ref (x_ad x 0 5 0)), (1, .int l1), (2, .int l2), (3, .int l3), (4, .ref (x_ad x 0 3 r_l4)), (5, .ref (x_ad x 0 3 r_l5)), (6, .int l6)] [] := by
  unfold j_X6_findOfLambda_59 at h
  refine r_iload (k0 := 6) hx dX6_findOfLambda_59 rfl ?_
  refine r_if_eq (tgt := 67) hx dX6_findOfLambda_61 (by decide) (fun c1 => ?_) (fun c1 => ?_)
  · have h := ite_t h c1
    refine r_aload_n (k0 := 0) hx dX6_findOfLambda_67 rfl rfl ?_
    refine g_256 hx (k_0_5 hKS) wf_X6_38 dX6_findOfLambda_68 ?_
    refine r_iload_n (k0 := 2) hx dX6_findOfLambda_71 rfl rfl ?_
    refine r_aload_n (k0 := 0) hx dX6_findOfLambda_72 rfl rfl ?_
    refine g_251 hx (k_0_5 hKS) wf_X6_15 dX6_findOfLambda_73 ?_
    refine g_202 hx (k_0_4 hKS) wf_X6_58 dX6_findOfLambda_76 ?_
    refine r_iload_n (k0 := 1) hx dX6_findOfLambda_79 rfl rfl ?_
    obtain ⟨v2, e3, i4, h⟩ := gI_some h
    refine r_iald hx (k_1_202 hKS) rfl i4 e3 dX6_findOfLambda_80 ?_
    obtain ⟨S5, e6, i7, h⟩ := pI_some h
    refine r_iast hx (k_1_256 hKS) rfl i7 e6 dX6_findOfLambda_81 ?_
    refine r_aload_n (k0 := 0) hx dX6_findOfLambda_82 rfl rfl ?_
    refine r_aload_n (k0 := 0) hx dX6_findOfLambda_83 rfl rfl ?_
    refine g_251 hx (k_0_5 hKS) wf_X6_15 dX6_findOfLambda_84 ?_
    refine g_203 hx (k_0_4 hKS) wf_X6_117 dX6_findOfLambda_87 ?_
    refine r_iload_n (k0 := 1) hx dX6_findOfLambda_90 rfl rfl ?_
    obtain ⟨v8, e9, i10, h⟩ := gI_some h
    refine r_iald hx (k_1_203 hKS) rfl i10 e9 dX6_findOfLambda_91 ?_
    refine r_iload_n (k0 := 2) hx dX6_findOfLambda_92 rfl rfl ?_
    refine r_iconst (v := 1) hx dX6_findOfLambda_93 (by decide) ?_
    refine r_iadd hx dX6_findOfLambda_94 ?_
    refine r_iload_n (k0 := 3) hx dX6_findOfLambda_95 rfl rfl ?_
    refine r_iconst (v := 1) hx dX6_findOfLambda_96 (by decide) ?_
    refine r_iadd hx dX6_findOfLambda_97 ?_
    obtain ⟨S11, v13, c12, h⟩ := bI_some h
    refine r_Vi (ci := 5) (As := [.int v8, .int (l2 + 1), .int (l3 + 1)]) (rest := []) hx (hF c12) (k_0_5 hKS) rfl wl_X6_127 wi_X6_find we_X6_find wn_X6 wc_X6_find dy_X6_find rfl (by rw [hR]; exact ry_X6_findOfLambda_X6_find) rfl (Nat.le_of_ble_eq_true rfl) dX6_findOfLambda_98 ?_
    refine r_istore (lv' := [(6, .int v13), (0, .ref (x_ad x 0 5 0)), (1, .int l1), (2, .int l2), (3, .int l3), (4, .ref (x_ad x 0 3 r_l4)), (5, .ref (x_ad x 0 3 r_l5))]) hx dX6_findOfLambda_101 (by decide) rfl ?_
    refine r_iload (k0 := 0) hx dX6_findOfLambda_103 rfl ?_
    refine r_if_eq (tgt := 111) hx dX6_findOfLambda_105 (by decide) (fun c14 => ?_) (fun c14 => ?_)
    · have h := ite_t h c14
      refine r_aload_n (k0 := 1) hx dX6_findOfLambda_111 rfl rfl ?_
      refine g_251 hx (k_0_5 hKS) wf_X6_15 dX6_findOfLambda_112 ?_
      refine r_aload_n (k0 := 1) hx dX6_findOfLambda_115 rfl rfl ?_
      refine g_251 hx (k_0_5 hKS) wf_X6_15 dX6_findOfLambda_116 ?_
      refine g_202 hx (k_0_4 hKS) wf_X6_58 dX6_findOfLambda_119 ?_
      refine r_iload_n (k0 := 2) hx dX6_findOfLambda_122 rfl rfl ?_
      obtain ⟨v15, e16, i17, h⟩ := gI_some h
      refine r_iald hx (k_1_202 hKS) rfl i17 e16 dX6_findOfLambda_123 ?_
      refine r_aload_n (k0 := 1) hx dX6_findOfLambda_124 rfl rfl ?_
      refine g_257 hx (k_0_5 hKS) wf_X6_42 dX6_findOfLambda_125 ?_
      obtain ⟨S18, c19, h⟩ := bU_some h
      refine r_Vv (ci := 4) (As := [.int v15, .ref (x_ad x 0 3 5)]) (rest := []) hx (C_X5_spread (c := x_y x) hKS (by decide) c19) (k_0_4 hKS) rfl wl_X6_104 wi_X5_spread we_X5_spread wn_X5 wc_X5_spread dy_X5_spread rfl (by rw [hR]; exact ry_X6_findOfLambda_X5_spread) rfl (Nat.le_of_ble_eq_true rfl) dX6_findOfLambda_128 ?_
      refine r_iconst (v := 1) hx dX6_findOfLambda_131 (by decide) ?_
      refine r_aload_n (k0 := 1) hx dX6_findOfLambda_132 rfl rfl ?_
      refine g_257 hx (k_0_5 hKS) wf_X6_42 dX6_findOfLambda_133 ?_
      refine g_150 hx (kr_0 hKS (by decide)) wf_X6_147 dX6_findOfLambda_136 ?_
      refine r_iadd hx dX6_findOfLambda_139 ?_
      refine r_aload (k0 := 6) hx dX6_findOfLambda_140 rfl ?_
      refine g_150 hx (kr_0 hKS h_r_l5) wf_X6_147 dX6_findOfLambda_142 ?_
      refine r_iadd hx dX6_findOfLambda_145 ?_
      refine r_sipush (v := 200) hx dX6_findOfLambda_146 (by decide) ?_
      refine r_icmp_le (tgt := 154) hx dX6_findOfLambda_149 (by decide) (fun c20 => ?_) (fun c20 => ?_)
      · have h := ite_t h c20
        refine r_aload (k0 := 5) hx dX6_findOfLambda_154 rfl ?_
        refine r_iconst (v := 0) hx dX6_findOfLambda_156 (by decide) ?_
        obtain ⟨S21, e22, h⟩ := pS_some h
        refine p_150 hx (kr_0 hKS h_r_l4) wf_X6_147 dX6_findOfLambda_157 e22 ?_
        refine r_aload (k0 := 5) hx dX6_findOfLambda_160 rfl ?_
        refine r_iconst (v := 3) hx dX6_findOfLambda_162 (by decide) ?_
        refine r_iconst (v := 0) hx dX6_findOfLambda_163 (by decide) ?_
        refine r_iconst (v := 0) hx dX6_findOfLambda_164 (by decide) ?_
        refine r_lconst (v := 0) hx dX6_findOfLambda_165 (by decide) ?_
        refine r_lconst (v := 0) hx dX6_findOfLambda_166 (by decide) ?_
        obtain ⟨S23, c24, h⟩ := bU_some h
        refine r_Vv (ci := 3) (As := [.int 3, .int 0, .int 0, .long 0, .long 0]) (rest := []) hx (C_X4_add (c := x_y x) hKS h_r_l4 c24) (kr_0 hKS h_r_l4) rfl wl_X6_151 wi_X4_add we_X4_add wn_X4 wc_X4_add dy_X4_add rfl (by rw [hR]; exact ry_X6_findOfLambda_X4_add) rfl (Nat.le_of_ble_eq_true rfl) dX6_findOfLambda_167 ?_
        refine r_aload (k0 := 5) hx dX6_findOfLambda_170 rfl ?_
        refine r_aload_n (k0 := 1) hx dX6_findOfLambda_172 rfl rfl ?_
        refine g_257 hx (k_0_5 hKS) wf_X6_42 dX6_findOfLambda_173 ?_
        refine r_iconst (v := 0) hx dX6_findOfLambda_176 (by decide) ?_
        obtain ⟨S25, c26, h⟩ := bU_some h
        refine r_Vv (ci := 3) (As := [.ref (x_ad x 0 3 5), .int 0]) (rest := []) hx (C_X4_append (c := x_y x) hKS h_r_l4 (by decide) c26) (kr_0 hKS h_r_l4) rfl wl_X6_155 wi_X4_append we_X4_append wn_X4 wc_X4_append dy_X4_append rfl (by rw [hR]; exact ry_X6_findOfLambda_X4_append) rfl (Nat.le_of_ble_eq_true rfl) dX6_findOfLambda_177 ?_
        refine r_aload (k0 := 5) hx dX6_findOfLambda_180 rfl ?_
        refine r_aload (k0 := 6) hx dX6_findOfLambda_182 rfl ?_
        refine r_iconst (v := 1) hx dX6_findOfLambda_184 (by decide) ?_
        obtain ⟨S27, c28, h⟩ := bU_some h
        refine r_Vv (ci := 3) (As := [.ref (x_ad x 0 3 r_l5), .int 1]) (rest := []) hx (C_X4_append (c := x_y x) hKS h_r_l4 h_r_l5 c28) (kr_0 hKS h_r_l4) rfl wl_X6_155 wi_X4_append we_X4_append wn_X4 wc_X4_append dy_X4_append rfl (by rw [hR]; exact ry_X6_findOfLambda_X4_append) rfl (Nat.le_of_ble_eq_true rfl) dX6_findOfLambda_185 ?_
        refine r_iconst (v := 0) hx dX6_findOfLambda_188 (by decide) ?_
        exact r_iret hE h dX6_findOfLambda_189
      · have h := ite_f h c20
        refine r_iconst (v := 5) hx dX6_findOfLambda_152 (by decide) ?_
        exact r_iret hE h dX6_findOfLambda_153
    · have h := ite_f h c14
      refine r_iload (k0 := 0) hx dX6_findOfLambda_108 rfl ?_
      exact r_iret hE h dX6_findOfLambda_110
  · have h := ite_f h c1
    refine r_iload (k0 := 6) hx dX6_findOfLambda_64 rfl ?_
    exact r_iret hE h dX6_findOfLambda_66
set_option maxRecDepth 100000 in
set_option maxHeartbeats 4000000 in
theorem t_X6_findOfLambda_0 {n : Nat} {d : Nat} {F : St → Int32 → Int32 → Int32 → Option (St × Int32)} {x : XC} (hx : CX x cX6_findOfLambda 7 RX6) (hR : x_R x = (rm_X6_findOfLambda d)) (hKS : ∀ k ∈ KK, k ∈ x_K x) {out : St × Int32} (hE : EI x cX6_findOfLambda out) (hF : ∀ {S : St} {a1 : Int32} {a2 : Int32} {a3 : Int32} {out : St × Int32}, F S a1 a2 a3 = some out → MI (x_y x) yX6_find cX6_find 4 (some .int) (rm_X6_find d) S [.ref (x_ad x 0 5 0), .int a1, .int a2, .int a3] out) {S : St} {a1 : Int32} {a2 : Int32} {a3 : Int32} (h : f_X6_findOfLambda n F S a1 a2 a3 = some out) : WX x 7 0 0 S 0 [(0, .ref (x_ad x 0 5 0)), (1, .int a1), (2, .int a2), (3, .int a3)] [] := by
  unfold f_X6_findOfLambda at h
  refine r_aload_n (k0 := 0) hx dX6_findOfLambda_0 rfl rfl ?_
  refine g_255 hx (k_0_5 hKS) wf_X6_29 dX6_findOfLambda_1 ?_
  refine r_iload_n (k0 := 3) hx dX6_findOfLambda_4 rfl rfl ?_
  obtain ⟨r1, e2, i3, h_r1, h⟩ := gR_some h
  refine r_aald hx (k_3_255 hKS) rfl i3 e2 dX6_findOfLambda_5 ?_
  refine r_astore (lv' := [(4, .ref (x_ad x 0 3 r1)), (0, .ref (x_ad x 0 5 0)), (1, .int a1), (2, .int a2), (3, .int a3)]) hx dX6_findOfLambda_6 (by decide) rfl ?_
  refine r_aload_n (k0 := 1) hx dX6_findOfLambda_8 rfl rfl ?_
  refine g_255 hx (k_0_5 hKS) wf_X6_29 dX6_findOfLambda_9 ?_
  refine r_iload_n (k0 := 4) hx dX6_findOfLambda_12 rfl rfl ?_
  refine r_iconst (v := 1) hx dX6_findOfLambda_13 (by decide) ?_
  refine r_iadd hx dX6_findOfLambda_14 ?_
  obtain ⟨r4, e5, i6, h_r4, h⟩ := gR_some h
  refine r_aald hx (k_3_255 hKS) rfl i6 e5 dX6_findOfLambda_15 ?_
  refine r_astore (lv' := [(5, .ref (x_ad x 0 3 r4)), (4, .ref (x_ad x 0 3 r1)), (0, .ref (x_ad x 0 5 0)), (1, .int a1), (2, .int a2), (3, .int a3)]) hx dX6_findOfLambda_16 (by decide) rfl ?_
  refine r_aload_n (k0 := 2) hx dX6_findOfLambda_18 rfl rfl ?_
  refine r_aload_n (k0 := 2) hx dX6_findOfLambda_19 rfl rfl ?_
  refine g_251 hx (k_0_5 hKS) wf_X6_15 dX6_findOfLambda_20 ?_
  refine g_202 hx (k_0_4 hKS) wf_X6_58 dX6_findOfLambda_23 ?_
  refine r_iload_n (k0 := 3) hx dX6_findOfLambda_26 rfl rfl ?_
  obtain ⟨v7, e8, i9, h⟩ := gI_some h
  refine r_iald hx (k_1_202 hKS) rfl i9 e8 dX6_findOfLambda_27 ?_
  refine r_iload_n (k0 := 4) hx dX6_findOfLambda_28 rfl rfl ?_
  refine r_iload_n (k0 := 5) hx dX6_findOfLambda_29 rfl rfl ?_
  refine r_iconst (v := 1) hx dX6_findOfLambda_30 (by decide) ?_
  refine r_iadd hx dX6_findOfLambda_31 ?_
  obtain ⟨S10, v12, c11, h⟩ := bI_some h
  refine r_Vi (ci := 5) (As := [.int v7, .int a2, .int (a3 + 1)]) (rest := []) hx (hF c11) (k_0_5 hKS) rfl wl_X6_127 wi_X6_find we_X6_find wn_X6 wc_X6_find dy_X6_find rfl (by rw [hR]; exact ry_X6_findOfLambda_X6_find) rfl (Nat.le_of_ble_eq_true rfl) dX6_findOfLambda_32 ?_
  refine r_istore (lv' := [(6, .int v12), (5, .ref (x_ad x 0 3 r4)), (4, .ref (x_ad x 0 3 r1)), (0, .ref (x_ad x 0 5 0)), (1, .int a1), (2, .int a2), (3, .int a3)]) hx dX6_findOfLambda_35 (by decide) rfl ?_
  refine r_iload (k0 := 0) hx dX6_findOfLambda_37 rfl ?_
  refine r_if_ne (tgt := 59) hx dX6_findOfLambda_39 (by decide) (fun c13 => ?_) (fun c13 => ?_)
  · have h := ite_f h c13
    refine WX.sub (lv' := [(0, .ref (x_ad x 0 5 0)), (1, .int a1), (2, .int a2), (3, .int a3), (4, .ref (x_ad x 0 3 r1)), (5, .ref (x_ad x 0 3 r4)), (6, .int v12)]) ?_ [3, 4, 5, 6, 2, 1, 0] rfl
    exact t_X6_findOfLambda_59 hx hR hKS hE hF h_r1 h_r4 h
  · have h := ite_t h c13
    refine r_aload_n (k0 := 3) hx dX6_findOfLambda_42 rfl rfl ?_
    refine r_aload_n (k0 := 3) hx dX6_findOfLambda_43 rfl rfl ?_
    refine g_253 hx (k_0_5 hKS) wf_X6_23 dX6_findOfLambda_44 ?_
    refine r_aload (k0 := 1) hx dX6_findOfLambda_47 rfl ?_
    obtain ⟨S14, v16, c15, h⟩ := bI_some h
    refine r_Vi (ci := 2) (As := [.ref (x_ad x 0 3 r4)]) (rest := [.ref (x_ad x 0 5 0)]) hx (C_X3_reduce (c := x_y x) hKS h_r4 c15) (k_0_2 hKS) rfl wl_X6_130 wi_X3_reduce we_X3_reduce wn_X3 wc_X3_reduce dy_X3_reduce rfl (by rw [hR]; exact ry_X6_findOfLambda_X3_reduce) rfl (Nat.le_of_ble_eq_true rfl) dX6_findOfLambda_49 ?_
    refine r_aload (k0 := 1) hx dX6_findOfLambda_52 rfl ?_
    obtain ⟨S17, v19, c18, h⟩ := bI_some h
    refine r_Vi (ci := 5) (As := [.int v16, .ref (x_ad x 0 3 r4)]) (rest := []) hx (C_X6_needSort (c := x_y x) hKS h_r4 c18) (k_0_5 hKS) rfl wl_X6_136 wi_X6_needSort we_X6_needSort wn_X6 wc_X6_needSort dy_X6_needSort rfl (by rw [hR]; exact ry_X6_findOfLambda_X6_needSort) rfl (Nat.le_of_ble_eq_true rfl) dX6_findOfLambda_54 ?_
    refine r_istore (lv' := [(6, .int v19), (5, .ref (x_ad x 0 3 r4)), (4, .ref (x_ad x 0 3 r1)), (0, .ref (x_ad x 0 5 0)), (1, .int a1), (2, .int a2), (3, .int a3)]) hx dX6_findOfLambda_57 (by decide) rfl ?_
    refine WX.sub (lv' := [(0, .ref (x_ad x 0 5 0)), (1, .int a1), (2, .int a2), (3, .int a3), (4, .ref (x_ad x 0 3 r1)), (5, .ref (x_ad x 0 3 r4)), (6, .int v19)]) ?_ [3, 4, 5, 6, 2, 1, 0] rfl
    exact t_X6_findOfLambda_59 hx hR hKS hE hF h_r1 h_r4 h
set_option maxHeartbeats 4000000 in
theorem C_X6_findOfLambda {n d : Nat} {F : St → Int32 → Int32 → Int32 → Option (St × Int32)} {c : YC} (hKS : ∀ k ∈ KK, k ∈ c.2.2.2.2) (hF : ∀ {S : St} {a1 : Int32} {a2 : Int32} {a3 : Int32} {out : St × Int32}, F S a1 a2 a3 = some out → MI (c) yX6_find cX6_find 4 (some .int) (rm_X6_find d) S [.ref ((c).2.2.1 0 5 0), .int a1, .int a2, .int a3] out) {S : St} {a1 : Int32} {a2 : Int32} {a3 : Int32} {out : St × Int32} (h : f_X6_findOfLambda n F S a1 a2 a3 = some out) : MI c yX6_findOfLambda cX6_findOfLambda 7 (some .int) (rm_X6_findOfLambda d) S [.ref (c.2.2.1 0 5 0), .int a1, .int a2, .int a3] out := mk_I (own := RX6) (by decide +kernel) rfl (Nat.le_of_ble_eq_true rfl) (fun x hx hR hy hE => by subst hy; exact t_X6_findOfLambda_0 hx hR hKS hE hF h)
def f_X6_findOfApply (n : Nat) (F : St → Int32 → Int32 → Int32 → Option (St × Int32)) (S : St) (a1 : Int32) (a2 : Int32) (a3 : Int32) : Option (St × Int32) :=
  gR a3 fun r1 =>
  gR (a3 + 1) fun r4 =>
  gI S 202 0 a1 1500 fun v7 =>
  bI (F S v7 a2 (a3 + 1)) fun S10 v12 =>
  if v12 = 0 then
    bI (f_X3_reduce n S10 r4) fun S14 v16 =>
    if v16 = (-6) then
      some (S14, 5)
    else
      bI (f_X4_kindAt n S14 r4 0) fun S18 v20 =>
      if v20 = 3 then
        bU (f_X4_takePart n S18 r1 r4 0 (S18.1 150 r4)) fun S22 =>
        gI S22 203 0 a1 1500 fun v24 =>
        bI (F S22 v24 a2 (a3 + 1)) fun S27 v29 =>
        if v29 = 0 then
          bI (f_X3_reduce n S27 r4) fun S31 v33 =>
          if v33 = (-6) then
            some (S31, 5)
          else
            bI (f_X4_endOf n S31 r1 1) fun S35 v37 =>
            bI (f_X4_matches n S35 r1 1 v37 r4) fun S38 v40 =>
            if v40 = 0 then
              some (S38, 3)
            else
              bU (f_X4_takePart n S38 r4 r1 v37 (S38.1 150 r1)) fun S42 =>
              gI S42 203 0 a1 1500 fun v44 =>
              bU (f_X5_spread n S42 v44 5) fun S47 =>
              bI (f_X4_fillWith n S47 r1 r4 5) fun S49 v51 =>
              if v51 = 0 then
                some (S49, 5)
              else
                some (S49, 0)
        else
          some (S27, v29)
      else
        some (S18, 2)
  else
    some (S10, v12)
set_option maxRecDepth 100000 in
set_option maxHeartbeats 4000000 in
theorem t_X6_findOfApply_0 {n : Nat} {d : Nat} {F : St → Int32 → Int32 → Int32 → Option (St × Int32)} {x : XC} (hx : CX x cX6_findOfApply 8 RX6) (hR : x_R x = (rm_X6_findOfApply d)) (hKS : ∀ k ∈ KK, k ∈ x_K x) {out : St × Int32} (hE : EI x cX6_findOfApply out) (hF : ∀ {S : St} {a1 : Int32} {a2 : Int32} {a3 : Int32} {out : St × Int32}, F S a1 a2 a3 = some out → MI (x_y x) yX6_find cX6_find 4 (some .int) (rm_X6_find d) S [.ref (x_ad x 0 5 0), .int a1, .int a2, .int a3] out) {S : St} {a1 : Int32} {a2 : Int32} {a3 : Int32} (h : f_X6_findOfApply n F S a1 a2 a3 = some out) : WX x 8 0 0 S 0 [(0, .ref (x_ad x 0 5 0)), (1, .int a1), (2, .int a2), (3, .int a3)] [] := by
  unfold f_X6_findOfApply at h
  refine r_aload_n (k0 := 0) hx dX6_findOfApply_0 rfl rfl ?_
  refine g_255 hx (k_0_5 hKS) wf_X6_29 dX6_findOfApply_1 ?_
  refine r_iload_n (k0 := 3) hx dX6_findOfApply_4 rfl rfl ?_
  obtain ⟨r1, e2, i3, h_r1, h⟩ := gR_some h
  refine r_aald hx (k_3_255 hKS) rfl i3 e2 dX6_findOfApply_5 ?_
  refine r_astore (lv' := [(4, .ref (x_ad x 0 3 r1)), (0, .ref (x_ad x 0 5 0)), (1, .int a1), (2, .int a2), (3, .int a3)]) hx dX6_findOfApply_6 (by decide) rfl ?_
  refine r_aload_n (k0 := 1) hx dX6_findOfApply_8 rfl rfl ?_
  refine g_255 hx (k_0_5 hKS) wf_X6_29 dX6_findOfApply_9 ?_
  refine r_iload_n (k0 := 4) hx dX6_findOfApply_12 rfl rfl ?_
  refine r_iconst (v := 1) hx dX6_findOfApply_13 (by decide) ?_
  refine r_iadd hx dX6_findOfApply_14 ?_
  obtain ⟨r4, e5, i6, h_r4, h⟩ := gR_some h
  refine r_aald hx (k_3_255 hKS) rfl i6 e5 dX6_findOfApply_15 ?_
  refine r_astore (lv' := [(5, .ref (x_ad x 0 3 r4)), (4, .ref (x_ad x 0 3 r1)), (0, .ref (x_ad x 0 5 0)), (1, .int a1), (2, .int a2), (3, .int a3)]) hx dX6_findOfApply_16 (by decide) rfl ?_
  refine r_aload_n (k0 := 2) hx dX6_findOfApply_18 rfl rfl ?_
  refine r_aload_n (k0 := 2) hx dX6_findOfApply_19 rfl rfl ?_
  refine g_251 hx (k_0_5 hKS) wf_X6_15 dX6_findOfApply_20 ?_
  refine g_202 hx (k_0_4 hKS) wf_X6_58 dX6_findOfApply_23 ?_
  refine r_iload_n (k0 := 3) hx dX6_findOfApply_26 rfl rfl ?_
  obtain ⟨v7, e8, i9, h⟩ := gI_some h
  refine r_iald hx (k_1_202 hKS) rfl i9 e8 dX6_findOfApply_27 ?_
  refine r_iload_n (k0 := 4) hx dX6_findOfApply_28 rfl rfl ?_
  refine r_iload_n (k0 := 5) hx dX6_findOfApply_29 rfl rfl ?_
  refine r_iconst (v := 1) hx dX6_findOfApply_30 (by decide) ?_
  refine r_iadd hx dX6_findOfApply_31 ?_
  obtain ⟨S10, v12, c11, h⟩ := bI_some h
  refine r_Vi (ci := 5) (As := [.int v7, .int a2, .int (a3 + 1)]) (rest := []) hx (hF c11) (k_0_5 hKS) rfl wl_X6_127 wi_X6_find we_X6_find wn_X6 wc_X6_find dy_X6_find rfl (by rw [hR]; exact ry_X6_findOfApply_X6_find) rfl (Nat.le_of_ble_eq_true rfl) dX6_findOfApply_32 ?_
  refine r_istore (lv' := [(6, .int v12), (5, .ref (x_ad x 0 3 r4)), (4, .ref (x_ad x 0 3 r1)), (0, .ref (x_ad x 0 5 0)), (1, .int a1), (2, .int a2), (3, .int a3)]) hx dX6_findOfApply_35 (by decide) rfl ?_
  refine r_iload (k0 := 0) hx dX6_findOfApply_37 rfl ?_
  refine r_if_eq (tgt := 45) hx dX6_findOfApply_39 (by decide) (fun c13 => ?_) (fun c13 => ?_)
  · have h := ite_t h c13
    refine r_aload_n (k0 := 3) hx dX6_findOfApply_45 rfl rfl ?_
    refine g_253 hx (k_0_5 hKS) wf_X6_23 dX6_findOfApply_46 ?_
    refine r_aload (k0 := 1) hx dX6_findOfApply_49 rfl ?_
    obtain ⟨S14, v16, c15, h⟩ := bI_some h
    refine r_Vi (ci := 2) (As := [.ref (x_ad x 0 3 r4)]) (rest := []) hx (C_X3_reduce (c := x_y x) hKS h_r4 c15) (k_0_2 hKS) rfl wl_X6_130 wi_X3_reduce we_X3_reduce wn_X3 wc_X3_reduce dy_X3_reduce rfl (by rw [hR]; exact ry_X6_findOfApply_X3_reduce) rfl (Nat.le_of_ble_eq_true rfl) dX6_findOfApply_51 ?_
    refine r_bipush (v := -6) hx dX6_findOfApply_54 (by decide) ?_
    refine r_icmp_ne (tgt := 61) hx dX6_findOfApply_56 (by decide) (fun c17 => ?_) (fun c17 => ?_)
    · have h := ite_f h c17
      refine r_aload (k0 := 1) hx dX6_findOfApply_61 rfl ?_
      refine r_iconst (v := 0) hx dX6_findOfApply_63 (by decide) ?_
      obtain ⟨S18, v20, c19, h⟩ := bI_some h
      refine r_Vi (ci := 3) (As := [.int 0]) (rest := []) hx (C_X4_kindAt (c := x_y x) hKS h_r4 c19) (kr_0 hKS h_r4) rfl wl_X6_45 wi_X4_kindAt we_X4_kindAt wn_X4 wc_X4_kindAt dy_X4_kindAt rfl (by rw [hR]; exact ry_X6_findOfApply_X4_kindAt) rfl (Nat.le_of_ble_eq_true rfl) dX6_findOfApply_64 ?_
      refine r_iconst (v := 3) hx dX6_findOfApply_67 (by decide) ?_
      refine r_icmp_eq (tgt := 73) hx dX6_findOfApply_68 (by decide) (fun c21 => ?_) (fun c21 => ?_)
      · have h := ite_t h c21
        refine r_aload (k0 := 2) hx dX6_findOfApply_73 rfl ?_
        refine r_aload (k0 := 1) hx dX6_findOfApply_75 rfl ?_
        refine r_iconst (v := 0) hx dX6_findOfApply_77 (by decide) ?_
        refine r_aload (k0 := 1) hx dX6_findOfApply_78 rfl ?_
        refine g_150 hx (kr_0 hKS h_r4) wf_X6_147 dX6_findOfApply_80 ?_
        obtain ⟨S22, c23, h⟩ := bU_some h
        refine r_Vv (ci := 3) (As := [.ref (x_ad x 0 3 r4), .int 0, .int (S18.1 150 r4)]) (rest := []) hx (C_X4_takePart (c := x_y x) hKS h_r1 h_r4 c23) (kr_0 hKS h_r1) rfl wl_X6_159 wi_X4_takePart we_X4_takePart wn_X4 wc_X4_takePart dy_X4_takePart rfl (by rw [hR]; exact ry_X6_findOfApply_X4_takePart) rfl (Nat.le_of_ble_eq_true rfl) dX6_findOfApply_83 ?_
        refine r_aload_n (k0 := 3) hx dX6_findOfApply_86 rfl rfl ?_
        refine r_aload_n (k0 := 3) hx dX6_findOfApply_87 rfl rfl ?_
        refine g_251 hx (k_0_5 hKS) wf_X6_15 dX6_findOfApply_88 ?_
        refine g_203 hx (k_0_4 hKS) wf_X6_117 dX6_findOfApply_91 ?_
        refine r_iload_n (k0 := 4) hx dX6_findOfApply_94 rfl rfl ?_
        obtain ⟨v24, e25, i26, h⟩ := gI_some h
        refine r_iald hx (k_1_203 hKS) rfl i26 e25 dX6_findOfApply_95 ?_
        refine r_iload_n (k0 := 5) hx dX6_findOfApply_96 rfl rfl ?_
        refine r_iload_n (k0 := 6) hx dX6_findOfApply_97 rfl rfl ?_
        refine r_iconst (v := 1) hx dX6_findOfApply_98 (by decide) ?_
        refine r_iadd hx dX6_findOfApply_99 ?_
        obtain ⟨S27, v29, c28, h⟩ := bI_some h
        refine r_Vi (ci := 5) (As := [.int v24, .int a2, .int (a3 + 1)]) (rest := []) hx (hF c28) (k_0_5 hKS) rfl wl_X6_127 wi_X6_find we_X6_find wn_X6 wc_X6_find dy_X6_find rfl (by rw [hR]; exact ry_X6_findOfApply_X6_find) rfl (Nat.le_of_ble_eq_true rfl) dX6_findOfApply_100 ?_
        refine r_istore (lv' := [(6, .int v29), (5, .ref (x_ad x 0 3 r4)), (4, .ref (x_ad x 0 3 r1)), (0, .ref (x_ad x 0 5 0)), (1, .int a1), (2, .int a2), (3, .int a3)]) hx dX6_findOfApply_103 (by decide) rfl ?_
        refine r_iload (k0 := 0) hx dX6_findOfApply_105 rfl ?_
        refine r_if_eq (tgt := 113) hx dX6_findOfApply_107 (by decide) (fun c30 => ?_) (fun c30 => ?_)
        · have h := ite_t h c30
          refine r_aload_n (k0 := 3) hx dX6_findOfApply_113 rfl rfl ?_
          refine g_253 hx (k_0_5 hKS) wf_X6_23 dX6_findOfApply_114 ?_
          refine r_aload (k0 := 1) hx dX6_findOfApply_117 rfl ?_
          obtain ⟨S31, v33, c32, h⟩ := bI_some h
          refine r_Vi (ci := 2) (As := [.ref (x_ad x 0 3 r4)]) (rest := []) hx (C_X3_reduce (c := x_y x) hKS h_r4 c32) (k_0_2 hKS) rfl wl_X6_130 wi_X3_reduce we_X3_reduce wn_X3 wc_X3_reduce dy_X3_reduce rfl (by rw [hR]; exact ry_X6_findOfApply_X3_reduce) rfl (Nat.le_of_ble_eq_true rfl) dX6_findOfApply_119 ?_
          refine r_bipush (v := -6) hx dX6_findOfApply_122 (by decide) ?_
          refine r_icmp_ne (tgt := 129) hx dX6_findOfApply_124 (by decide) (fun c34 => ?_) (fun c34 => ?_)
          · have h := ite_f h c34
            refine r_aload (k0 := 2) hx dX6_findOfApply_129 rfl ?_
            refine r_iconst (v := 1) hx dX6_findOfApply_131 (by decide) ?_
            obtain ⟨S35, v37, c36, h⟩ := bI_some h
            refine r_Vi (ci := 3) (As := [.int 1]) (rest := []) hx (C_X4_endOf (c := x_y x) hKS h_r1 c36) (kr_0 hKS h_r1) rfl wl_X6_163 wi_X4_endOf we_X4_endOf wn_X4 wc_X4_endOf dy_X4_endOf rfl (by rw [hR]; exact ry_X6_findOfApply_X4_endOf) rfl (Nat.le_of_ble_eq_true rfl) dX6_findOfApply_132 ?_
            refine r_istore (lv' := [(7, .int v37), (6, .int v29), (5, .ref (x_ad x 0 3 r4)), (4, .ref (x_ad x 0 3 r1)), (0, .ref (x_ad x 0 5 0)), (1, .int a1), (2, .int a2), (3, .int a3)]) hx dX6_findOfApply_135 (by decide) rfl ?_
            refine r_aload (k0 := 3) hx dX6_findOfApply_137 rfl ?_
            refine r_iconst (v := 1) hx dX6_findOfApply_139 (by decide) ?_
            refine r_iload (k0 := 0) hx dX6_findOfApply_140 rfl ?_
            refine r_aload (k0 := 2) hx dX6_findOfApply_142 rfl ?_
            refine r_aload_n (k0 := 4) hx dX6_findOfApply_144 rfl rfl ?_
            refine g_250 hx (k_0_5 hKS) wf_X6_9 dX6_findOfApply_145 ?_
            obtain ⟨S38, v40, c39, h⟩ := bI_some h
            refine r_Vi (ci := 3) (As := [.int 1, .int v37, .ref (x_ad x 0 3 r4), .ref (x_ad x 0 0 0)]) (rest := []) hx (C_X4_matches (c := x_y x) hKS h_r1 h_r4 c39) (kr_0 hKS h_r1) rfl wl_X6_166 wi_X4_matches we_X4_matches wn_X4 wc_X4_matches dy_X4_matches rfl (by rw [hR]; exact ry_X6_findOfApply_X4_matches) rfl (Nat.le_of_ble_eq_true rfl) dX6_findOfApply_148 ?_
            refine r_if_ne (tgt := 156) hx dX6_findOfApply_151 (by decide) (fun c41 => ?_) (fun c41 => ?_)
            · have h := ite_f h c41
              refine r_aload (k0 := 2) hx dX6_findOfApply_156 rfl ?_
              refine r_aload (k0 := 3) hx dX6_findOfApply_158 rfl ?_
              refine r_iload (k0 := 0) hx dX6_findOfApply_160 rfl ?_
              refine r_aload (k0 := 3) hx dX6_findOfApply_162 rfl ?_
              refine g_150 hx (kr_0 hKS h_r1) wf_X6_147 dX6_findOfApply_164 ?_
              obtain ⟨S42, c43, h⟩ := bU_some h
              refine r_Vv (ci := 3) (As := [.ref (x_ad x 0 3 r1), .int v37, .int (S38.1 150 r1)]) (rest := []) hx (C_X4_takePart (c := x_y x) hKS h_r4 h_r1 c43) (kr_0 hKS h_r4) rfl wl_X6_159 wi_X4_takePart we_X4_takePart wn_X4 wc_X4_takePart dy_X4_takePart rfl (by rw [hR]; exact ry_X6_findOfApply_X4_takePart) rfl (Nat.le_of_ble_eq_true rfl) dX6_findOfApply_167 ?_
              refine r_aload_n (k0 := 4) hx dX6_findOfApply_170 rfl rfl ?_
              refine g_251 hx (k_0_5 hKS) wf_X6_15 dX6_findOfApply_171 ?_
              refine r_aload_n (k0 := 4) hx dX6_findOfApply_174 rfl rfl ?_
              refine g_251 hx (k_0_5 hKS) wf_X6_15 dX6_findOfApply_175 ?_
              refine g_203 hx (k_0_4 hKS) wf_X6_117 dX6_findOfApply_178 ?_
              refine r_iload_n (k0 := 5) hx dX6_findOfApply_181 rfl rfl ?_
              obtain ⟨v44, e45, i46, h⟩ := gI_some h
              refine r_iald hx (k_1_203 hKS) rfl i46 e45 dX6_findOfApply_182 ?_
              refine r_aload_n (k0 := 4) hx dX6_findOfApply_183 rfl rfl ?_
              refine g_257 hx (k_0_5 hKS) wf_X6_42 dX6_findOfApply_184 ?_
              obtain ⟨S47, c48, h⟩ := bU_some h
              refine r_Vv (ci := 4) (As := [.int v44, .ref (x_ad x 0 3 5)]) (rest := []) hx (C_X5_spread (c := x_y x) hKS (by decide) c48) (k_0_4 hKS) rfl wl_X6_104 wi_X5_spread we_X5_spread wn_X5 wc_X5_spread dy_X5_spread rfl (by rw [hR]; exact ry_X6_findOfApply_X5_spread) rfl (Nat.le_of_ble_eq_true rfl) dX6_findOfApply_187 ?_
              refine r_aload (k0 := 3) hx dX6_findOfApply_190 rfl ?_
              refine r_aload (k0 := 2) hx dX6_findOfApply_192 rfl ?_
              refine r_aload_n (k0 := 4) hx dX6_findOfApply_194 rfl rfl ?_
              refine g_257 hx (k_0_5 hKS) wf_X6_42 dX6_findOfApply_195 ?_
              obtain ⟨S49, v51, c50, h⟩ := bI_some h
              refine r_Vi (ci := 3) (As := [.ref (x_ad x 0 3 r4), .ref (x_ad x 0 3 5)]) (rest := []) hx (C_X4_fillWith (c := x_y x) hKS h_r1 h_r4 (by decide) c50) (kr_0 hKS h_r1) rfl wl_X6_170 wi_X4_fillWith we_X4_fillWith wn_X4 wc_X4_fillWith dy_X4_fillWith rfl (by rw [hR]; exact ry_X6_findOfApply_X4_fillWith) rfl (Nat.le_of_ble_eq_true rfl) dX6_findOfApply_198 ?_
              refine r_if_eq (tgt := 208) hx dX6_findOfApply_201 (by decide) (fun c52 => ?_) (fun c52 => ?_)
              · have h := ite_t h c52
                refine r_iconst (v := 5) hx dX6_findOfApply_208 (by decide) ?_
                exact r_iret hE h dX6_findOfApply_209
              · have h := ite_f h c52
                refine r_iconst (v := 0) hx dX6_findOfApply_204 (by decide) ?_
                refine r_goto (tgt := 209) hx dX6_findOfApply_205 (by decide) ?_
                exact r_iret hE h dX6_findOfApply_209
            · have h := ite_t h c41
              refine r_iconst (v := 3) hx dX6_findOfApply_154 (by decide) ?_
              exact r_iret hE h dX6_findOfApply_155
          · have h := ite_t h c34
            refine r_iconst (v := 5) hx dX6_findOfApply_127 (by decide) ?_
            exact r_iret hE h dX6_findOfApply_128
        · have h := ite_f h c30
          refine r_iload (k0 := 0) hx dX6_findOfApply_110 rfl ?_
          exact r_iret hE h dX6_findOfApply_112
      · have h := ite_f h c21
        refine r_iconst (v := 2) hx dX6_findOfApply_71 (by decide) ?_
        exact r_iret hE h dX6_findOfApply_72
    · have h := ite_t h c17
      refine r_iconst (v := 5) hx dX6_findOfApply_59 (by decide) ?_
      exact r_iret hE h dX6_findOfApply_60
  · have h := ite_f h c13
    refine r_iload (k0 := 0) hx dX6_findOfApply_42 rfl ?_
    exact r_iret hE h dX6_findOfApply_44
set_option maxHeartbeats 4000000 in
theorem C_X6_findOfApply {n d : Nat} {F : St → Int32 → Int32 → Int32 → Option (St × Int32)} {c : YC} (hKS : ∀ k ∈ KK, k ∈ c.2.2.2.2) (hF : ∀ {S : St} {a1 : Int32} {a2 : Int32} {a3 : Int32} {out : St × Int32}, F S a1 a2 a3 = some out → MI (c) yX6_find cX6_find 4 (some .int) (rm_X6_find d) S [.ref ((c).2.2.1 0 5 0), .int a1, .int a2, .int a3] out) {S : St} {a1 : Int32} {a2 : Int32} {a3 : Int32} {out : St × Int32} (h : f_X6_findOfApply n F S a1 a2 a3 = some out) : MI c yX6_findOfApply cX6_findOfApply 8 (some .int) (rm_X6_findOfApply d) S [.ref (c.2.2.1 0 5 0), .int a1, .int a2, .int a3] out := mk_I (own := RX6) (by decide +kernel) rfl (Nat.le_of_ble_eq_true rfl) (fun x hx hR hy hE => by subst hy; exact t_X6_findOfApply_0 hx hR hKS hE hF h)
def j_X6_findOfLet_83 (n : Nat) (F : St → Int32 → Int32 → Int32 → Option (St × Int32)) (S : St) (l1 : Int32) (l2 : Int32) (l3 : Int32) (r_l4 : Nat) (r_l5 : Nat) (l6 : Int32) : Option (St × Int32) :=
  if l6 = 0 then
    gI S 202 0 l1 1500 fun v2 =>
    bU (f_X5_spread n S v2 r_l4) fun S5 =>
    bI (f_X3_reduce n S5 r_l5) fun S7 v9 =>
    if v9 = (-6) then
      some (S7, 5)
    else
      bI (f_X3_reduce n S7 r_l4) fun S11 v13 =>
      if v13 = (-6) then
        some (S11, 5)
      else
        bI (f_X4_matches n S11 r_l4 0 (S11.1 150 r_l4) r_l5) fun S15 v17 =>
        if v17 = 0 then
          some (S15, 6)
        else
          gI S15 202 0 l1 1500 fun v19 =>
          pI S15 256 0 l2 101 v19 fun S22 =>
          gI S22 204 0 l1 1500 fun v25 =>
          bI (F S22 v25 (l2 + 1) (l3 + 1)) fun S28 v30 =>
          if v30 = 0 then
            gI S28 203 0 l1 1500 fun v32 =>
            bU (f_X5_spread n S28 v32 5) fun S35 =>
            bI (f_X4_fillWith n S35 r_l4 r_l5 5) fun S37 v39 =>
            if v39 = 0 then
              some (S37, 5)
            else
              some (S37, 0)
          else
            some (S28, v30)
  else
    some (S, l6)
def j_X6_findOfLet_59 (n : Nat) (F : St → Int32 → Int32 → Int32 → Option (St × Int32)) (S : St) (l1 : Int32) (l2 : Int32) (l3 : Int32) (r_l4 : Nat) (r_l5 : Nat) (l6 : Int32) : Option (St × Int32) :=
  if l6 = 0 then
    gI S 203 0 l1 1500 fun v2 =>
    bI (F S v2 l2 (l3 + 1)) fun S5 v7 =>
    j_X6_findOfLet_83 n F S5 l1 l2 l3 r_l4 r_l5 v7
  else
    j_X6_findOfLet_83 n F S l1 l2 l3 r_l4 r_l5 l6
def f_X6_findOfLet (n : Nat) (F : St → Int32 → Int32 → Int32 → Option (St × Int32)) (S : St) (a1 : Int32) (a2 : Int32) (a3 : Int32) : Option (St × Int32) :=
  gR a3 fun r1 =>
  gR (a3 + 1) fun r4 =>
  gI S 202 0 a1 1500 fun v7 =>
  bI (F S v7 a2 (a3 + 1)) fun S10 v12 =>
  if v12 = 0 then
    bI (f_X3_reduce n S10 r4) fun S14 v16 =>
    bI (f_X6_needSort n S14 v16 r4) fun S17 v19 =>
    j_X6_findOfLet_59 n F S17 a1 a2 a3 r1 r4 v19
  else
    j_X6_findOfLet_59 n F S10 a1 a2 a3 r1 r4 v12
set_option maxRecDepth 100000 in
set_option maxHeartbeats 4000000 in
theorem t_X6_findOfLet_83 {n : Nat} {d : Nat} {F : St → Int32 → Int32 → Int32 → Option (St × Int32)} {x : XC} (hx : CX x cX6_findOfLet 7 RX6) (hR : x_R x = (rm_X6_findOfLet d)) (hKS : ∀ k ∈ KK, k ∈ x_K x) {out : St × Int32} (hE : EI x cX6_findOfLet out) (hF : ∀ {S : St} {a1 : Int32} {a2 : Int32} {a3 : Int32} {out : St × Int32}, F S a1 a2 a3 = some out → MI (x_y x) yX6_find cX6_find 4 (some .int) (rm_X6_find d) S [.ref (x_ad x 0 5 0), .int a1, .int a2, .int a3] out) {S : St} {l1 : Int32} {l2 : Int32} {l3 : Int32} {r_l4 : Nat} {r_l5 : Nat} {l6 : Int32} (h_r_l4 : r_l4 < 107) (h_r_l5 : r_l5 < 107) (h : j_X6_findOfLet_83 n F S l1 l2 l3 r_l4 r_l5 l6 = some out) : WX x 7 0 0 S 83 [(0, .ref (x_ad x 0 5 0)), (1, .int l1), (2, .int l2), (3, .int l3), (4, .ref (x_ad x 0 3 r_l4)), (5, .ref (x_ad x 0 3 r_l5)), (6, .int l6)] [] := by
  unfold j_X6_findOfLet_83 at h
  refine r_iload (k0 := 6) hx dX6_findOfLet_83 rfl ?_
  refine r_if_eq (tgt := 91) hx dX6_findOfLet_85 (by decide) (fun c1 => ?_) (fun c1 => ?_)
  · have h := ite_t h c1
    refine r_aload_n (k0 := 0) hx dX6_findOfLet_91 rfl rfl ?_
    refine g_251 hx (k_0_5 hKS) wf_X6_15 dX6_findOfLet_92 ?_
    refine r_aload_n (k0 := 0) hx dX6_findOfLet_95 rfl rfl ?_
    refine g_251 hx (k_0_5 hKS) wf_X6_15 dX6_findOfLet_96 ?_
    refine g_202 hx (k_0_4 hKS) wf_X6_58 dX6_findOfLet_99 ?_
    refine r_iload_n (k0 := 1) hx dX6_findOfLet_102 rfl rfl ?_
    obtain ⟨v2, e3, i4, h⟩ := gI_some h
    refine r_iald hx (k_1_202 hKS) rfl i4 e3 dX6_findOfLet_103 ?_
    refine r_aload (k0 := 4) hx dX6_findOfLet_104 rfl ?_
    obtain ⟨S5, c6, h⟩ := bU_some h
    refine r_Vv (ci := 4) (As := [.int v2, .ref (x_ad x 0 3 r_l4)]) (rest := []) hx (C_X5_spread (c := x_y x) hKS h_r_l4 c6) (k_0_4 hKS) rfl wl_X6_104 wi_X5_spread we_X5_spread wn_X5 wc_X5_spread dy_X5_spread rfl (by rw [hR]; exact ry_X6_findOfLet_X5_spread) rfl (Nat.le_of_ble_eq_true rfl) dX6_findOfLet_106 ?_
    refine r_aload_n (k0 := 0) hx dX6_findOfLet_109 rfl rfl ?_
    refine g_253 hx (k_0_5 hKS) wf_X6_23 dX6_findOfLet_110 ?_
    refine r_aload (k0 := 5) hx dX6_findOfLet_113 rfl ?_
    obtain ⟨S7, v9, c8, h⟩ := bI_some h
    refine r_Vi (ci := 2) (As := [.ref (x_ad x 0 3 r_l5)]) (rest := []) hx (C_X3_reduce (c := x_y x) hKS h_r_l5 c8) (k_0_2 hKS) rfl wl_X6_130 wi_X3_reduce we_X3_reduce wn_X3 wc_X3_reduce dy_X3_reduce rfl (by rw [hR]; exact ry_X6_findOfLet_X3_reduce) rfl (Nat.le_of_ble_eq_true rfl) dX6_findOfLet_115 ?_
    refine r_bipush (v := -6) hx dX6_findOfLet_118 (by decide) ?_
    refine r_icmp_eq (tgt := 137) hx dX6_findOfLet_120 (by decide) (fun c10 => ?_) (fun c10 => ?_)
    · have h := ite_t h c10
      refine r_iconst (v := 5) hx dX6_findOfLet_137 (by decide) ?_
      exact r_iret hE h dX6_findOfLet_138
    · have h := ite_f h c10
      refine r_aload_n (k0 := 0) hx dX6_findOfLet_123 rfl rfl ?_
      refine g_253 hx (k_0_5 hKS) wf_X6_23 dX6_findOfLet_124 ?_
      refine r_aload (k0 := 4) hx dX6_findOfLet_127 rfl ?_
      obtain ⟨S11, v13, c12, h⟩ := bI_some h
      refine r_Vi (ci := 2) (As := [.ref (x_ad x 0 3 r_l4)]) (rest := []) hx (C_X3_reduce (c := x_y x) hKS h_r_l4 c12) (k_0_2 hKS) rfl wl_X6_130 wi_X3_reduce we_X3_reduce wn_X3 wc_X3_reduce dy_X3_reduce rfl (by rw [hR]; exact ry_X6_findOfLet_X3_reduce) rfl (Nat.le_of_ble_eq_true rfl) dX6_findOfLet_129 ?_
      refine r_bipush (v := -6) hx dX6_findOfLet_132 (by decide) ?_
      refine r_icmp_ne (tgt := 139) hx dX6_findOfLet_134 (by decide) (fun c14 => ?_) (fun c14 => ?_)
      · have h := ite_f h c14
        refine r_aload (k0 := 4) hx dX6_findOfLet_139 rfl ?_
        refine r_iconst (v := 0) hx dX6_findOfLet_141 (by decide) ?_
        refine r_aload (k0 := 4) hx dX6_findOfLet_142 rfl ?_
        refine g_150 hx (kr_0 hKS h_r_l4) wf_X6_147 dX6_findOfLet_144 ?_
        refine r_aload (k0 := 5) hx dX6_findOfLet_147 rfl ?_
        refine r_aload_n (k0 := 0) hx dX6_findOfLet_149 rfl rfl ?_
        refine g_250 hx (k_0_5 hKS) wf_X6_9 dX6_findOfLet_150 ?_
        obtain ⟨S15, v17, c16, h⟩ := bI_some h
        refine r_Vi (ci := 3) (As := [.int 0, .int (S11.1 150 r_l4), .ref (x_ad x 0 3 r_l5), .ref (x_ad x 0 0 0)]) (rest := []) hx (C_X4_matches (c := x_y x) hKS h_r_l4 h_r_l5 c16) (kr_0 hKS h_r_l4) rfl wl_X6_166 wi_X4_matches we_X4_matches wn_X4 wc_X4_matches dy_X4_matches rfl (by rw [hR]; exact ry_X6_findOfLet_X4_matches) rfl (Nat.le_of_ble_eq_true rfl) dX6_findOfLet_153 ?_
        refine r_if_ne (tgt := 162) hx dX6_findOfLet_156 (by decide) (fun c18 => ?_) (fun c18 => ?_)
        · have h := ite_f h c18
          refine r_aload_n (k0 := 0) hx dX6_findOfLet_162 rfl rfl ?_
          refine g_256 hx (k_0_5 hKS) wf_X6_38 dX6_findOfLet_163 ?_
          refine r_iload_n (k0 := 2) hx dX6_findOfLet_166 rfl rfl ?_
          refine r_aload_n (k0 := 0) hx dX6_findOfLet_167 rfl rfl ?_
          refine g_251 hx (k_0_5 hKS) wf_X6_15 dX6_findOfLet_168 ?_
          refine g_202 hx (k_0_4 hKS) wf_X6_58 dX6_findOfLet_171 ?_
          refine r_iload_n (k0 := 1) hx dX6_findOfLet_174 rfl rfl ?_
          obtain ⟨v19, e20, i21, h⟩ := gI_some h
          refine r_iald hx (k_1_202 hKS) rfl i21 e20 dX6_findOfLet_175 ?_
          obtain ⟨S22, e23, i24, h⟩ := pI_some h
          refine r_iast hx (k_1_256 hKS) rfl i24 e23 dX6_findOfLet_176 ?_
          refine r_aload_n (k0 := 0) hx dX6_findOfLet_177 rfl rfl ?_
          refine r_aload_n (k0 := 0) hx dX6_findOfLet_178 rfl rfl ?_
          refine g_251 hx (k_0_5 hKS) wf_X6_15 dX6_findOfLet_179 ?_
          refine g_204 hx (k_0_4 hKS) wf_X6_120 dX6_findOfLet_182 ?_
          refine r_iload_n (k0 := 1) hx dX6_findOfLet_185 rfl rfl ?_
          obtain ⟨v25, e26, i27, h⟩ := gI_some h
          refine r_iald hx (k_1_204 hKS) rfl i27 e26 dX6_findOfLet_186 ?_
          refine r_iload_n (k0 := 2) hx dX6_findOfLet_187 rfl rfl ?_
          refine r_iconst (v := 1) hx dX6_findOfLet_188 (by decide) ?_
          refine r_iadd hx dX6_findOfLet_189 ?_
          refine r_iload_n (k0 := 3) hx dX6_findOfLet_190 rfl rfl ?_
          refine r_iconst (v := 1) hx dX6_findOfLet_191 (by decide) ?_
          refine r_iadd hx dX6_findOfLet_192 ?_
          obtain ⟨S28, v30, c29, h⟩ := bI_some h
          refine r_Vi (ci := 5) (As := [.int v25, .int (l2 + 1), .int (l3 + 1)]) (rest := []) hx (hF c29) (k_0_5 hKS) rfl wl_X6_127 wi_X6_find we_X6_find wn_X6 wc_X6_find dy_X6_find rfl (by rw [hR]; exact ry_X6_findOfLet_X6_find) rfl (Nat.le_of_ble_eq_true rfl) dX6_findOfLet_193 ?_
          refine r_istore (lv' := [(6, .int v30), (0, .ref (x_ad x 0 5 0)), (1, .int l1), (2, .int l2), (3, .int l3), (4, .ref (x_ad x 0 3 r_l4)), (5, .ref (x_ad x 0 3 r_l5))]) hx dX6_findOfLet_196 (by decide) rfl ?_
          refine r_iload (k0 := 0) hx dX6_findOfLet_198 rfl ?_
          refine r_if_eq (tgt := 206) hx dX6_findOfLet_200 (by decide) (fun c31 => ?_) (fun c31 => ?_)
          · have h := ite_t h c31
            refine r_aload_n (k0 := 1) hx dX6_findOfLet_206 rfl rfl ?_
            refine g_251 hx (k_0_5 hKS) wf_X6_15 dX6_findOfLet_207 ?_
            refine r_aload_n (k0 := 1) hx dX6_findOfLet_210 rfl rfl ?_
            refine g_251 hx (k_0_5 hKS) wf_X6_15 dX6_findOfLet_211 ?_
            refine g_203 hx (k_0_4 hKS) wf_X6_117 dX6_findOfLet_214 ?_
            refine r_iload_n (k0 := 2) hx dX6_findOfLet_217 rfl rfl ?_
            obtain ⟨v32, e33, i34, h⟩ := gI_some h
            refine r_iald hx (k_1_203 hKS) rfl i34 e33 dX6_findOfLet_218 ?_
            refine r_aload_n (k0 := 1) hx dX6_findOfLet_219 rfl rfl ?_
            refine g_257 hx (k_0_5 hKS) wf_X6_42 dX6_findOfLet_220 ?_
            obtain ⟨S35, c36, h⟩ := bU_some h
            refine r_Vv (ci := 4) (As := [.int v32, .ref (x_ad x 0 3 5)]) (rest := []) hx (C_X5_spread (c := x_y x) hKS (by decide) c36) (k_0_4 hKS) rfl wl_X6_104 wi_X5_spread we_X5_spread wn_X5 wc_X5_spread dy_X5_spread rfl (by rw [hR]; exact ry_X6_findOfLet_X5_spread) rfl (Nat.le_of_ble_eq_true rfl) dX6_findOfLet_223 ?_
            refine r_aload (k0 := 5) hx dX6_findOfLet_226 rfl ?_
            refine r_aload (k0 := 6) hx dX6_findOfLet_228 rfl ?_
            refine r_aload_n (k0 := 1) hx dX6_findOfLet_230 rfl rfl ?_
            refine g_257 hx (k_0_5 hKS) wf_X6_42 dX6_findOfLet_231 ?_
            obtain ⟨S37, v39, c38, h⟩ := bI_some h
            refine r_Vi (ci := 3) (As := [.ref (x_ad x 0 3 r_l5), .ref (x_ad x 0 3 5)]) (rest := []) hx (C_X4_fillWith (c := x_y x) hKS h_r_l4 h_r_l5 (by decide) c38) (kr_0 hKS h_r_l4) rfl wl_X6_170 wi_X4_fillWith we_X4_fillWith wn_X4 wc_X4_fillWith dy_X4_fillWith rfl (by rw [hR]; exact ry_X6_findOfLet_X4_fillWith) rfl (Nat.le_of_ble_eq_true rfl) dX6_findOfLet_234 ?_
            refine r_if_eq (tgt := 244) hx dX6_findOfLet_237 (by decide) (fun c40 => ?_) (fun c40 => ?_)
            · have h := ite_t h c40
              refine r_iconst (v := 5) hx dX6_findOfLet_244 (by decide) ?_
              exact r_iret hE h dX6_findOfLet_245
            · have h := ite_f h c40
              refine r_iconst (v := 0) hx dX6_findOfLet_240 (by decide) ?_
              refine r_goto (tgt := 245) hx dX6_findOfLet_241 (by decide) ?_
              exact r_iret hE h dX6_findOfLet_245
          · have h := ite_f h c31
            refine r_iload (k0 := 0) hx dX6_findOfLet_203 rfl ?_
            exact r_iret hE h dX6_findOfLet_205
        · have h := ite_t h c18
          refine r_bipush (v := 6) hx dX6_findOfLet_159 (by decide) ?_
          exact r_iret hE h dX6_findOfLet_161
      · have h := ite_t h c14
        refine r_iconst (v := 5) hx dX6_findOfLet_137 (by decide) ?_
        exact r_iret hE h dX6_findOfLet_138
  · have h := ite_f h c1
    refine r_iload (k0 := 6) hx dX6_findOfLet_88 rfl ?_
    exact r_iret hE h dX6_findOfLet_90
set_option maxRecDepth 100000 in
set_option maxHeartbeats 4000000 in
theorem t_X6_findOfLet_59 {n : Nat} {d : Nat} {F : St → Int32 → Int32 → Int32 → Option (St × Int32)} {x : XC} (hx : CX x cX6_findOfLet 7 RX6) (hR : x_R x = (rm_X6_findOfLet d)) (hKS : ∀ k ∈ KK, k ∈ x_K x) {out : St × Int32} (hE : EI x cX6_findOfLet out) (hF : ∀ {S : St} {a1 : Int32} {a2 : Int32} {a3 : Int32} {out : St × Int32}, F S a1 a2 a3 = some out → MI (x_y x) yX6_find cX6_find 4 (some .int) (rm_X6_find d) S [.ref (x_ad x 0 5 0), .int a1, .int a2, .int a3] out) {S : St} {l1 : Int32} {l2 : Int32} {l3 : Int32} {r_l4 : Nat} {r_l5 : Nat} {l6 : Int32} (h_r_l4 : r_l4 < 107) (h_r_l5 : r_l5 < 107) (h : j_X6_findOfLet_59 n F S l1 l2 l3 r_l4 r_l5 l6 = some out) : WX x 7 0 0 S 59 [(0, .ref (x_ad x 0 5 0)), (1, .int l1), (2, .int l2), (3, .int l3), (4, .ref (x_ad x 0 3 r_l4)), (5, .ref (x_ad x 0 3 r_l5)), (6, .int l6)] [] := by
  unfold j_X6_findOfLet_59 at h
  refine r_iload (k0 := 6) hx dX6_findOfLet_59 rfl ?_
  refine r_if_ne (tgt := 83) hx dX6_findOfLet_61 (by decide) (fun c1 => ?_) (fun c1 => ?_)
  · have h := ite_f h c1
    exact t_X6_findOfLet_83 hx hR hKS hE hF h_r_l4 h_r_l5 h
  · have h := ite_t h c1
    refine r_aload_n (k0 := 0) hx dX6_findOfLet_64 rfl rfl ?_
    refine r_aload_n (k0 := 0) hx dX6_findOfLet_65 rfl rfl ?_
    refine g_251 hx (k_0_5 hKS) wf_X6_15 dX6_findOfLet_66 ?_
    refine g_203 hx (k_0_4 hKS) wf_X6_117 dX6_findOfLet_69 ?_
    refine r_iload_n (k0 := 1) hx dX6_findOfLet_72 rfl rfl ?_
    obtain ⟨v2, e3, i4, h⟩ := gI_some h
    refine r_iald hx (k_1_203 hKS) rfl i4 e3 dX6_findOfLet_73 ?_
    refine r_iload_n (k0 := 2) hx dX6_findOfLet_74 rfl rfl ?_
    refine r_iload_n (k0 := 3) hx dX6_findOfLet_75 rfl rfl ?_
    refine r_iconst (v := 1) hx dX6_findOfLet_76 (by decide) ?_
    refine r_iadd hx dX6_findOfLet_77 ?_
    obtain ⟨S5, v7, c6, h⟩ := bI_some h
    refine r_Vi (ci := 5) (As := [.int v2, .int l2, .int (l3 + 1)]) (rest := []) hx (hF c6) (k_0_5 hKS) rfl wl_X6_127 wi_X6_find we_X6_find wn_X6 wc_X6_find dy_X6_find rfl (by rw [hR]; exact ry_X6_findOfLet_X6_find) rfl (Nat.le_of_ble_eq_true rfl) dX6_findOfLet_78 ?_
    refine r_istore (lv' := [(6, .int v7), (0, .ref (x_ad x 0 5 0)), (1, .int l1), (2, .int l2), (3, .int l3), (4, .ref (x_ad x 0 3 r_l4)), (5, .ref (x_ad x 0 3 r_l5))]) hx dX6_findOfLet_81 (by decide) rfl ?_
    refine WX.sub (lv' := [(0, .ref (x_ad x 0 5 0)), (1, .int l1), (2, .int l2), (3, .int l3), (4, .ref (x_ad x 0 3 r_l4)), (5, .ref (x_ad x 0 3 r_l5)), (6, .int v7)]) ?_ [1, 2, 3, 4, 5, 6, 0] rfl
    exact t_X6_findOfLet_83 hx hR hKS hE hF h_r_l4 h_r_l5 h
set_option maxRecDepth 100000 in
set_option maxHeartbeats 4000000 in
theorem t_X6_findOfLet_0 {n : Nat} {d : Nat} {F : St → Int32 → Int32 → Int32 → Option (St × Int32)} {x : XC} (hx : CX x cX6_findOfLet 7 RX6) (hR : x_R x = (rm_X6_findOfLet d)) (hKS : ∀ k ∈ KK, k ∈ x_K x) {out : St × Int32} (hE : EI x cX6_findOfLet out) (hF : ∀ {S : St} {a1 : Int32} {a2 : Int32} {a3 : Int32} {out : St × Int32}, F S a1 a2 a3 = some out → MI (x_y x) yX6_find cX6_find 4 (some .int) (rm_X6_find d) S [.ref (x_ad x 0 5 0), .int a1, .int a2, .int a3] out) {S : St} {a1 : Int32} {a2 : Int32} {a3 : Int32} (h : f_X6_findOfLet n F S a1 a2 a3 = some out) : WX x 7 0 0 S 0 [(0, .ref (x_ad x 0 5 0)), (1, .int a1), (2, .int a2), (3, .int a3)] [] := by
  unfold f_X6_findOfLet at h
  refine r_aload_n (k0 := 0) hx dX6_findOfLet_0 rfl rfl ?_
  refine g_255 hx (k_0_5 hKS) wf_X6_29 dX6_findOfLet_1 ?_
  refine r_iload_n (k0 := 3) hx dX6_findOfLet_4 rfl rfl ?_
  obtain ⟨r1, e2, i3, h_r1, h⟩ := gR_some h
  refine r_aald hx (k_3_255 hKS) rfl i3 e2 dX6_findOfLet_5 ?_
  refine r_astore (lv' := [(4, .ref (x_ad x 0 3 r1)), (0, .ref (x_ad x 0 5 0)), (1, .int a1), (2, .int a2), (3, .int a3)]) hx dX6_findOfLet_6 (by decide) rfl ?_
  refine r_aload_n (k0 := 1) hx dX6_findOfLet_8 rfl rfl ?_
  refine g_255 hx (k_0_5 hKS) wf_X6_29 dX6_findOfLet_9 ?_
  refine r_iload_n (k0 := 4) hx dX6_findOfLet_12 rfl rfl ?_
  refine r_iconst (v := 1) hx dX6_findOfLet_13 (by decide) ?_
  refine r_iadd hx dX6_findOfLet_14 ?_
  obtain ⟨r4, e5, i6, h_r4, h⟩ := gR_some h
  refine r_aald hx (k_3_255 hKS) rfl i6 e5 dX6_findOfLet_15 ?_
  refine r_astore (lv' := [(5, .ref (x_ad x 0 3 r4)), (4, .ref (x_ad x 0 3 r1)), (0, .ref (x_ad x 0 5 0)), (1, .int a1), (2, .int a2), (3, .int a3)]) hx dX6_findOfLet_16 (by decide) rfl ?_
  refine r_aload_n (k0 := 2) hx dX6_findOfLet_18 rfl rfl ?_
  refine r_aload_n (k0 := 2) hx dX6_findOfLet_19 rfl rfl ?_
  refine g_251 hx (k_0_5 hKS) wf_X6_15 dX6_findOfLet_20 ?_
  refine g_202 hx (k_0_4 hKS) wf_X6_58 dX6_findOfLet_23 ?_
  refine r_iload_n (k0 := 3) hx dX6_findOfLet_26 rfl rfl ?_
  obtain ⟨v7, e8, i9, h⟩ := gI_some h
  refine r_iald hx (k_1_202 hKS) rfl i9 e8 dX6_findOfLet_27 ?_
  refine r_iload_n (k0 := 4) hx dX6_findOfLet_28 rfl rfl ?_
  refine r_iload_n (k0 := 5) hx dX6_findOfLet_29 rfl rfl ?_
  refine r_iconst (v := 1) hx dX6_findOfLet_30 (by decide) ?_
  refine r_iadd hx dX6_findOfLet_31 ?_
  obtain ⟨S10, v12, c11, h⟩ := bI_some h
  refine r_Vi (ci := 5) (As := [.int v7, .int a2, .int (a3 + 1)]) (rest := []) hx (hF c11) (k_0_5 hKS) rfl wl_X6_127 wi_X6_find we_X6_find wn_X6 wc_X6_find dy_X6_find rfl (by rw [hR]; exact ry_X6_findOfLet_X6_find) rfl (Nat.le_of_ble_eq_true rfl) dX6_findOfLet_32 ?_
  refine r_istore (lv' := [(6, .int v12), (5, .ref (x_ad x 0 3 r4)), (4, .ref (x_ad x 0 3 r1)), (0, .ref (x_ad x 0 5 0)), (1, .int a1), (2, .int a2), (3, .int a3)]) hx dX6_findOfLet_35 (by decide) rfl ?_
  refine r_iload (k0 := 0) hx dX6_findOfLet_37 rfl ?_
  refine r_if_ne (tgt := 59) hx dX6_findOfLet_39 (by decide) (fun c13 => ?_) (fun c13 => ?_)
  · have h := ite_f h c13
    refine WX.sub (lv' := [(0, .ref (x_ad x 0 5 0)), (1, .int a1), (2, .int a2), (3, .int a3), (4, .ref (x_ad x 0 3 r1)), (5, .ref (x_ad x 0 3 r4)), (6, .int v12)]) ?_ [3, 4, 5, 6, 2, 1, 0] rfl
    exact t_X6_findOfLet_59 hx hR hKS hE hF h_r1 h_r4 h
  · have h := ite_t h c13
    refine r_aload_n (k0 := 3) hx dX6_findOfLet_42 rfl rfl ?_
    refine r_aload_n (k0 := 3) hx dX6_findOfLet_43 rfl rfl ?_
    refine g_253 hx (k_0_5 hKS) wf_X6_23 dX6_findOfLet_44 ?_
    refine r_aload (k0 := 1) hx dX6_findOfLet_47 rfl ?_
    obtain ⟨S14, v16, c15, h⟩ := bI_some h
    refine r_Vi (ci := 2) (As := [.ref (x_ad x 0 3 r4)]) (rest := [.ref (x_ad x 0 5 0)]) hx (C_X3_reduce (c := x_y x) hKS h_r4 c15) (k_0_2 hKS) rfl wl_X6_130 wi_X3_reduce we_X3_reduce wn_X3 wc_X3_reduce dy_X3_reduce rfl (by rw [hR]; exact ry_X6_findOfLet_X3_reduce) rfl (Nat.le_of_ble_eq_true rfl) dX6_findOfLet_49 ?_
    refine r_aload (k0 := 1) hx dX6_findOfLet_52 rfl ?_
    obtain ⟨S17, v19, c18, h⟩ := bI_some h
    refine r_Vi (ci := 5) (As := [.int v16, .ref (x_ad x 0 3 r4)]) (rest := []) hx (C_X6_needSort (c := x_y x) hKS h_r4 c18) (k_0_5 hKS) rfl wl_X6_136 wi_X6_needSort we_X6_needSort wn_X6 wc_X6_needSort dy_X6_needSort rfl (by rw [hR]; exact ry_X6_findOfLet_X6_needSort) rfl (Nat.le_of_ble_eq_true rfl) dX6_findOfLet_54 ?_
    refine r_istore (lv' := [(6, .int v19), (5, .ref (x_ad x 0 3 r4)), (4, .ref (x_ad x 0 3 r1)), (0, .ref (x_ad x 0 5 0)), (1, .int a1), (2, .int a2), (3, .int a3)]) hx dX6_findOfLet_57 (by decide) rfl ?_
    refine WX.sub (lv' := [(0, .ref (x_ad x 0 5 0)), (1, .int a1), (2, .int a2), (3, .int a3), (4, .ref (x_ad x 0 3 r1)), (5, .ref (x_ad x 0 3 r4)), (6, .int v19)]) ?_ [3, 4, 5, 6, 2, 1, 0] rfl
    exact t_X6_findOfLet_59 hx hR hKS hE hF h_r1 h_r4 h
set_option maxHeartbeats 4000000 in
theorem C_X6_findOfLet {n d : Nat} {F : St → Int32 → Int32 → Int32 → Option (St × Int32)} {c : YC} (hKS : ∀ k ∈ KK, k ∈ c.2.2.2.2) (hF : ∀ {S : St} {a1 : Int32} {a2 : Int32} {a3 : Int32} {out : St × Int32}, F S a1 a2 a3 = some out → MI (c) yX6_find cX6_find 4 (some .int) (rm_X6_find d) S [.ref ((c).2.2.1 0 5 0), .int a1, .int a2, .int a3] out) {S : St} {a1 : Int32} {a2 : Int32} {a3 : Int32} {out : St × Int32} (h : f_X6_findOfLet n F S a1 a2 a3 = some out) : MI c yX6_findOfLet cX6_findOfLet 7 (some .int) (rm_X6_findOfLet d) S [.ref (c.2.2.1 0 5 0), .int a1, .int a2, .int a3] out := mk_I (own := RX6) (by decide +kernel) rfl (Nat.le_of_ble_eq_true rfl) (fun x hx hR hy hE => by subst hy; exact t_X6_findOfLet_0 hx hR hKS hE hF h)
def f_X6_find (n : Nat) (F : St → Int32 → Int32 → Int32 → Option (St × Int32)) (S : St) (a1 : Int32) (a2 : Int32) (a3 : Int32) : Option (St × Int32) :=
  bI (f_X5_has n S a1) fun S1 v3 =>
  if v3 = 0 then
    some (S1, 5)
  else
    if a2 < 0 then
      some (S1, 5)
    else
      if 100 ≤ a2 then
        some (S1, 5)
      else
        if a3 < 0 then
          some (S1, 5)
        else
          if a3 < 100 then
            gI S1 201 0 a1 1500 fun v9 =>
            if v9 = 0 then
              gI S1 202 0 a1 1500 fun v13 =>
              bL (f_X1_codeOf n S1 v13) fun S16 v18 =>
              bL (f_X0_ofUp n S16 v18) fun S19 v21 =>
              gR a3 fun r22 =>
              bI (f_X6_putSort n S19 v21 r22) fun S25 v27 =>
              some (S25, v27)
            else if v9 = 1 then
              gI S1 202 0 a1 1500 fun v29 =>
              gR a3 fun r32 =>
              bI (f_X6_putBinderType n S1 v29 a2 r32) fun S35 v37 =>
              some (S35, v37)
            else if v9 = 2 then
              gR a3 fun r39 =>
              bI (f_X6_putNameType n S1 a1 r39) fun S42 v44 =>
              some (S42, v44)
            else if v9 = 3 then
              bI (f_X6_findOfPi n F S1 a1 a2 a3) fun S46 v48 =>
              some (S46, v48)
            else if v9 = 4 then
              bI (f_X6_findOfLambda n F S1 a1 a2 a3) fun S50 v52 =>
              some (S50, v52)
            else if v9 = 5 then
              bI (f_X6_findOfApply n F S1 a1 a2 a3) fun S54 v56 =>
              some (S54, v56)
            else bI (f_X6_findOfLet n F S1 a1 a2 a3) fun S57 v59 =>
            some (S57, v59)
          else
            some (S1, 5)
set_option maxRecDepth 100000 in
set_option maxHeartbeats 4000000 in
theorem t_X6_find_0 {n : Nat} {d : Nat} {F : St → Int32 → Int32 → Int32 → Option (St × Int32)} {x : XC} (hx : CX x cX6_find 4 RX6) (hR : x_R x = (rm_X6_find (d + 1))) (hKS : ∀ k ∈ KK, k ∈ x_K x) {out : St × Int32} (hE : EI x cX6_find out) (hF : ∀ {S : St} {a1 : Int32} {a2 : Int32} {a3 : Int32} {out : St × Int32}, F S a1 a2 a3 = some out → MI (x_y x) yX6_find cX6_find 4 (some .int) (rm_X6_find d) S [.ref (x_ad x 0 5 0), .int a1, .int a2, .int a3] out) {S : St} {a1 : Int32} {a2 : Int32} {a3 : Int32} (h : f_X6_find n F S a1 a2 a3 = some out) : WX x 4 0 0 S 0 [(0, .ref (x_ad x 0 5 0)), (1, .int a1), (2, .int a2), (3, .int a3)] [] := by
  unfold f_X6_find at h
  refine r_aload_n (k0 := 0) hx dX6_find_0 rfl rfl ?_
  refine g_251 hx (k_0_5 hKS) wf_X6_15 dX6_find_1 ?_
  refine r_iload_n (k0 := 1) hx dX6_find_4 rfl rfl ?_
  obtain ⟨S1, v3, c2, h⟩ := bI_some h
  refine r_Vi (ci := 4) (As := [.int a1]) (rest := []) hx (C_X5_has (c := x_y x) hKS c2) (k_0_4 hKS) rfl wl_X6_49 wi_X5_has we_X5_has wn_X5 wc_X5_has dy_X5_has rfl (by rw [hR]; exact ry_X6_find_X5_has) rfl (Nat.le_of_ble_eq_true rfl) dX6_find_5 ?_
  refine r_if_eq (tgt := 31) hx dX6_find_8 (by decide) (fun c4 => ?_) (fun c4 => ?_)
  · have h := ite_t h c4
    refine r_iconst (v := 5) hx dX6_find_31 (by decide) ?_
    exact r_iret hE h dX6_find_32
  · have h := ite_f h c4
    refine r_iload_n (k0 := 2) hx dX6_find_11 rfl rfl ?_
    refine r_if_lt (tgt := 31) hx dX6_find_12 (by decide) (fun c5 => ?_) (fun c5 => ?_)
    · have h := ite_t h c5
      refine r_iconst (v := 5) hx dX6_find_31 (by decide) ?_
      exact r_iret hE h dX6_find_32
    · have h := ite_f h c5
      refine r_iload_n (k0 := 2) hx dX6_find_15 rfl rfl ?_
      refine r_bipush (v := 100) hx dX6_find_16 (by decide) ?_
      refine r_icmp_ge (tgt := 31) hx dX6_find_18 (by decide) (fun c6 => ?_) (fun c6 => ?_)
      · have h := ite_t h c6
        refine r_iconst (v := 5) hx dX6_find_31 (by decide) ?_
        exact r_iret hE h dX6_find_32
      · have h := ite_f h c6
        refine r_iload_n (k0 := 3) hx dX6_find_21 rfl rfl ?_
        refine r_if_lt (tgt := 31) hx dX6_find_22 (by decide) (fun c7 => ?_) (fun c7 => ?_)
        · have h := ite_t h c7
          refine r_iconst (v := 5) hx dX6_find_31 (by decide) ?_
          exact r_iret hE h dX6_find_32
        · have h := ite_f h c7
          refine r_iload_n (k0 := 3) hx dX6_find_25 rfl rfl ?_
          refine r_bipush (v := 100) hx dX6_find_26 (by decide) ?_
          refine r_icmp_lt (tgt := 33) hx dX6_find_28 (by decide) (fun c8 => ?_) (fun c8 => ?_)
          · have h := ite_t h c8
            refine r_aload_n (k0 := 0) hx dX6_find_33 rfl rfl ?_
            refine g_251 hx (k_0_5 hKS) wf_X6_15 dX6_find_34 ?_
            refine g_201 hx (k_0_4 hKS) wf_X6_55 dX6_find_37 ?_
            refine r_iload_n (k0 := 1) hx dX6_find_40 rfl rfl ?_
            obtain ⟨v9, e10, i11, h⟩ := gI_some h
            refine r_iald hx (k_1_201 hKS) rfl i11 e10 dX6_find_41 ?_
            by_cases c12 : v9 = 0
            · have h := ite_t h c12
              refine r_tabI (c9 := 0) (tgt := 80) hx dX6_find_42 c12 (by decide +kernel) ?_
              refine r_aload_n (k0 := 0) hx dX6_find_80 rfl rfl ?_
              refine r_aload_n (k0 := 0) hx dX6_find_81 rfl rfl ?_
              refine g_250 hx (k_0_5 hKS) wf_X6_9 dX6_find_82 ?_
              refine r_aload_n (k0 := 0) hx dX6_find_85 rfl rfl ?_
              refine g_251 hx (k_0_5 hKS) wf_X6_15 dX6_find_86 ?_
              refine g_202 hx (k_0_4 hKS) wf_X6_58 dX6_find_89 ?_
              refine r_iload_n (k0 := 1) hx dX6_find_92 rfl rfl ?_
              obtain ⟨v13, e14, i15, h⟩ := gI_some h
              refine r_iald hx (k_1_202 hKS) rfl i15 e14 dX6_find_93 ?_
              obtain ⟨S16, v18, c17, h⟩ := bL_some h
              refine r_Vl (ci := 0) (As := [.int v13]) (rest := [.ref (x_ad x 0 5 0)]) hx (C_X1_codeOf (c := x_y x) hKS c17) (k_0_0 hKS) rfl wl_X6_61 wi_X1_codeOf we_X1_codeOf wn_X1 wc_X1_codeOf dy_X1_codeOf rfl (by rw [hR]; exact ry_X6_find_X1_codeOf) rfl (Nat.le_of_ble_eq_true rfl) dX6_find_94 ?_
              obtain ⟨S19, v21, c20, h⟩ := bL_some h
              refine r_Sl (As := [.long v18]) (rest := [.ref (x_ad x 0 5 0)]) hx (C_X0_ofUp (c := x_y x) hKS c20) wl_X6_67 wt_X0_ofUp wn_X0 wc_X0_ofUp dy_X0_ofUp rfl (by rw [hR]; exact ry_X6_find_X0_ofUp) rfl (Nat.le_of_ble_eq_true rfl) dX6_find_97 ?_
              refine r_aload_n (k0 := 0) hx dX6_find_100 rfl rfl ?_
              refine g_255 hx (k_0_5 hKS) wf_X6_29 dX6_find_101 ?_
              refine r_iload_n (k0 := 3) hx dX6_find_104 rfl rfl ?_
              obtain ⟨r22, e23, i24, h_r22, h⟩ := gR_some h
              refine r_aald hx (k_3_255 hKS) rfl i24 e23 dX6_find_105 ?_
              obtain ⟨S25, v27, c26, h⟩ := bI_some h
              refine r_Vi (ci := 5) (As := [.long v21, .ref (x_ad x 0 3 r22)]) (rest := []) hx (C_X6_putSort (c := x_y x) hKS h_r22 c26) (k_0_5 hKS) rfl wl_X6_73 wi_X6_putSort we_X6_putSort wn_X6 wc_X6_putSort dy_X6_putSort rfl (by rw [hR]; exact ry_X6_find_X6_putSort) rfl (Nat.le_of_ble_eq_true rfl) dX6_find_106 ?_
              exact r_iret hE h dX6_find_109
            have h := ite_f h c12
            by_cases c28 : v9 = 1
            · have h := ite_t h c28
              refine r_tabI (c9 := 1) (tgt := 110) hx dX6_find_42 c28 (by decide +kernel) ?_
              refine r_aload_n (k0 := 0) hx dX6_find_110 rfl rfl ?_
              refine r_aload_n (k0 := 0) hx dX6_find_111 rfl rfl ?_
              refine g_251 hx (k_0_5 hKS) wf_X6_15 dX6_find_112 ?_
              refine g_202 hx (k_0_4 hKS) wf_X6_58 dX6_find_115 ?_
              refine r_iload_n (k0 := 1) hx dX6_find_118 rfl rfl ?_
              obtain ⟨v29, e30, i31, h⟩ := gI_some h
              refine r_iald hx (k_1_202 hKS) rfl i31 e30 dX6_find_119 ?_
              refine r_iload_n (k0 := 2) hx dX6_find_120 rfl rfl ?_
              refine r_aload_n (k0 := 0) hx dX6_find_121 rfl rfl ?_
              refine g_255 hx (k_0_5 hKS) wf_X6_29 dX6_find_122 ?_
              refine r_iload_n (k0 := 3) hx dX6_find_125 rfl rfl ?_
              obtain ⟨r32, e33, i34, h_r32, h⟩ := gR_some h
              refine r_aald hx (k_3_255 hKS) rfl i34 e33 dX6_find_126 ?_
              obtain ⟨S35, v37, c36, h⟩ := bI_some h
              refine r_Vi (ci := 5) (As := [.int v29, .int a2, .ref (x_ad x 0 3 r32)]) (rest := []) hx (C_X6_putBinderType (c := x_y x) hKS h_r32 c36) (k_0_5 hKS) rfl wl_X6_77 wi_X6_putBinderType we_X6_putBinderType wn_X6 wc_X6_putBinderType dy_X6_putBinderType rfl (by rw [hR]; exact ry_X6_find_X6_putBinderType) rfl (Nat.le_of_ble_eq_true rfl) dX6_find_127 ?_
              exact r_iret hE h dX6_find_130
            have h := ite_f h c28
            by_cases c38 : v9 = 2
            · have h := ite_t h c38
              refine r_tabI (c9 := 2) (tgt := 131) hx dX6_find_42 c38 (by decide +kernel) ?_
              refine r_aload_n (k0 := 0) hx dX6_find_131 rfl rfl ?_
              refine r_iload_n (k0 := 1) hx dX6_find_132 rfl rfl ?_
              refine r_aload_n (k0 := 0) hx dX6_find_133 rfl rfl ?_
              refine g_255 hx (k_0_5 hKS) wf_X6_29 dX6_find_134 ?_
              refine r_iload_n (k0 := 3) hx dX6_find_137 rfl rfl ?_
              obtain ⟨r39, e40, i41, h_r39, h⟩ := gR_some h
              refine r_aald hx (k_3_255 hKS) rfl i41 e40 dX6_find_138 ?_
              obtain ⟨S42, v44, c43, h⟩ := bI_some h
              refine r_Vi (ci := 5) (As := [.int a1, .ref (x_ad x 0 3 r39)]) (rest := []) hx (C_X6_putNameType (c := x_y x) hKS h_r39 c43) (k_0_5 hKS) rfl wl_X6_81 wi_X6_putNameType we_X6_putNameType wn_X6 wc_X6_putNameType dy_X6_putNameType rfl (by rw [hR]; exact ry_X6_find_X6_putNameType) rfl (Nat.le_of_ble_eq_true rfl) dX6_find_139 ?_
              exact r_iret hE h dX6_find_142
            have h := ite_f h c38
            by_cases c45 : v9 = 3
            · have h := ite_t h c45
              refine r_tabI (c9 := 3) (tgt := 143) hx dX6_find_42 c45 (by decide +kernel) ?_
              refine r_aload_n (k0 := 0) hx dX6_find_143 rfl rfl ?_
              refine r_iload_n (k0 := 1) hx dX6_find_144 rfl rfl ?_
              refine r_iload_n (k0 := 2) hx dX6_find_145 rfl rfl ?_
              refine r_iload_n (k0 := 3) hx dX6_find_146 rfl rfl ?_
              obtain ⟨S46, v48, c47, h⟩ := bI_some h
              refine r_Vi (ci := 5) (As := [.int a1, .int a2, .int a3]) (rest := []) hx (C_X6_findOfPi (c := x_y x) hKS hF c47) (k_0_5 hKS) rfl wl_X6_85 wi_X6_findOfPi we_X6_findOfPi wn_X6 wc_X6_findOfPi dy_X6_findOfPi rfl (by rw [hR]; exact ry_X6_find_X6_findOfPi) rfl (Nat.le_of_ble_eq_true rfl) dX6_find_147 ?_
              exact r_iret hE h dX6_find_150
            have h := ite_f h c45
            by_cases c49 : v9 = 4
            · have h := ite_t h c49
              refine r_tabI (c9 := 4) (tgt := 151) hx dX6_find_42 c49 (by decide +kernel) ?_
              refine r_aload_n (k0 := 0) hx dX6_find_151 rfl rfl ?_
              refine r_iload_n (k0 := 1) hx dX6_find_152 rfl rfl ?_
              refine r_iload_n (k0 := 2) hx dX6_find_153 rfl rfl ?_
              refine r_iload_n (k0 := 3) hx dX6_find_154 rfl rfl ?_
              obtain ⟨S50, v52, c51, h⟩ := bI_some h
              refine r_Vi (ci := 5) (As := [.int a1, .int a2, .int a3]) (rest := []) hx (C_X6_findOfLambda (c := x_y x) hKS hF c51) (k_0_5 hKS) rfl wl_X6_89 wi_X6_findOfLambda we_X6_findOfLambda wn_X6 wc_X6_findOfLambda dy_X6_findOfLambda rfl (by rw [hR]; exact ry_X6_find_X6_findOfLambda) rfl (Nat.le_of_ble_eq_true rfl) dX6_find_155 ?_
              exact r_iret hE h dX6_find_158
            have h := ite_f h c49
            by_cases c53 : v9 = 5
            · have h := ite_t h c53
              refine r_tabI (c9 := 5) (tgt := 159) hx dX6_find_42 c53 (by decide +kernel) ?_
              refine r_aload_n (k0 := 0) hx dX6_find_159 rfl rfl ?_
              refine r_iload_n (k0 := 1) hx dX6_find_160 rfl rfl ?_
              refine r_iload_n (k0 := 2) hx dX6_find_161 rfl rfl ?_
              refine r_iload_n (k0 := 3) hx dX6_find_162 rfl rfl ?_
              obtain ⟨S54, v56, c55, h⟩ := bI_some h
              refine r_Vi (ci := 5) (As := [.int a1, .int a2, .int a3]) (rest := []) hx (C_X6_findOfApply (c := x_y x) hKS hF c55) (k_0_5 hKS) rfl wl_X6_92 wi_X6_findOfApply we_X6_findOfApply wn_X6 wc_X6_findOfApply dy_X6_findOfApply rfl (by rw [hR]; exact ry_X6_find_X6_findOfApply) rfl (Nat.le_of_ble_eq_true rfl) dX6_find_163 ?_
              exact r_iret hE h dX6_find_166
            have h := ite_f h c53
            refine r_tabO (tgt := 167) hx dX6_find_42 (tabo_0_6 c12 c28 c38 c45 c49 c53) (by decide) ?_
            refine r_aload_n (k0 := 0) hx dX6_find_167 rfl rfl ?_
            refine r_iload_n (k0 := 1) hx dX6_find_168 rfl rfl ?_
            refine r_iload_n (k0 := 2) hx dX6_find_169 rfl rfl ?_
            refine r_iload_n (k0 := 3) hx dX6_find_170 rfl rfl ?_
            obtain ⟨S57, v59, c58, h⟩ := bI_some h
            refine r_Vi (ci := 5) (As := [.int a1, .int a2, .int a3]) (rest := []) hx (C_X6_findOfLet (c := x_y x) hKS hF c58) (k_0_5 hKS) rfl wl_X6_95 wi_X6_findOfLet we_X6_findOfLet wn_X6 wc_X6_findOfLet dy_X6_findOfLet rfl (by rw [hR]; exact ry_X6_find_X6_findOfLet) rfl (Nat.le_of_ble_eq_true rfl) dX6_find_171 ?_
            exact r_iret hE h dX6_find_174
          · have h := ite_f h c8
            refine r_iconst (v := 5) hx dX6_find_31 (by decide) ?_
            exact r_iret hE h dX6_find_32
def k_X6_find (n : Nat) : Nat → St → Int32 → Int32 → Int32 → Option (St × Int32)
  | 0, _, _, _, _ => none
  | d + 1, S, a1, a2, a3 => f_X6_find n (k_X6_find n d) S a1 a2 a3
set_option maxHeartbeats 4000000 in
theorem D_X6_find {n : Nat} {c : YC} (hKS : ∀ k ∈ KK, k ∈ c.2.2.2.2) : ∀ {d : Nat} {S : St} {a1 : Int32} {a2 : Int32} {a3 : Int32} {out : St × Int32} (h : k_X6_find n d S a1 a2 a3 = some out), MI c yX6_find cX6_find 4 (some .int) (rm_X6_find d) S [.ref (c.2.2.1 0 5 0), .int a1, .int a2, .int a3] out := by
  intro d
  induction d with
  | zero => intro S a1 a2 a3 out h; cases h
  | succ d ih =>
    intro S a1 a2 a3 out h
    exact mk_I (own := RX6) (by decide +kernel) rfl (Nat.le_of_ble_eq_true rfl) (fun x hx hR hy hE => by subst hy; exact t_X6_find_0 hx hR hKS hE ih h)
