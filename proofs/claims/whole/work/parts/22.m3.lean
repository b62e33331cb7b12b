theorem dX8_typeOfSingle_0 : decode cX8_typeOfSingle 0 = .ok (.aload_n 0, 1) := by decide +kernel
theorem dX8_typeOfSingle_1 : decode cX8_typeOfSingle 1 = .ok (.iconst 0, 1) := by decide +kernel
theorem dX8_typeOfSingle_2 : decode cX8_typeOfSingle 2 = .ok (.putfield 159, 3) := by decide +kernel
theorem dX8_typeOfSingle_5 : decode cX8_typeOfSingle 5 = .ok (.aload_n 0, 1) := by decide +kernel
theorem dX8_typeOfSingle_6 : decode cX8_typeOfSingle 6 = .ok (.iconst 0, 1) := by decide +kernel
theorem dX8_typeOfSingle_7 : decode cX8_typeOfSingle 7 = .ok (.putfield 162, 3) := by decide +kernel
theorem dX8_typeOfSingle_10 : decode cX8_typeOfSingle 10 = .ok (.aload_n 0, 1) := by decide +kernel
theorem dX8_typeOfSingle_11 : decode cX8_typeOfSingle 11 = .ok (.getfield 53, 3) := by decide +kernel
theorem dX8_typeOfSingle_14 : decode cX8_typeOfSingle 14 = .ok (.iload_n 1, 1) := by decide +kernel
theorem dX8_typeOfSingle_15 : decode cX8_typeOfSingle 15 = .ok (.iaload, 1) := by decide +kernel
theorem dX8_typeOfSingle_16 : decode cX8_typeOfSingle 16 = .ok (.ifCond .ne 37, 3) := by decide +kernel
theorem dX8_typeOfSingle_19 : decode cX8_typeOfSingle 19 = .ok (.aload_n 0, 1) := by decide +kernel
theorem dX8_typeOfSingle_20 : decode cX8_typeOfSingle 20 = .ok (.iconst 0, 1) := by decide +kernel
theorem dX8_typeOfSingle_21 : decode cX8_typeOfSingle 21 = .ok (.invokevirtual 165, 3) := by decide +kernel
theorem dX8_typeOfSingle_24 : decode cX8_typeOfSingle 24 = .ok (.aload_n 0, 1) := by decide +kernel
theorem dX8_typeOfSingle_25 : decode cX8_typeOfSingle 25 = .ok (.iconst 1, 1) := by decide +kernel
theorem dX8_typeOfSingle_26 : decode cX8_typeOfSingle 26 = .ok (.invokevirtual 165, 3) := by decide +kernel
theorem dX8_typeOfSingle_29 : decode cX8_typeOfSingle 29 = .ok (.aload_n 0, 1) := by decide +kernel
theorem dX8_typeOfSingle_30 : decode cX8_typeOfSingle 30 = .ok (.aload_n 0, 1) := by decide +kernel
theorem dX8_typeOfSingle_31 : decode cX8_typeOfSingle 31 = .ok (.getfield 53, 3) := by decide +kernel
theorem dX8_typeOfSingle_34 : decode cX8_typeOfSingle 34 = .ok (.iload_n 1, 1) := by decide +kernel
theorem dX8_typeOfSingle_35 : decode cX8_typeOfSingle 35 = .ok (.iconst 1, 1) := by decide +kernel
theorem dX8_typeOfSingle_36 : decode cX8_typeOfSingle 36 = .ok (.iadd, 1) := by decide +kernel
theorem dX8_typeOfSingle_37 : decode cX8_typeOfSingle 37 = .ok (.aload_n 0, 1) := by decide +kernel
theorem dX8_typeOfSingle_38 : decode cX8_typeOfSingle 38 = .ok (.getfield 53, 3) := by decide +kernel
theorem dX8_typeOfSingle_41 : decode cX8_typeOfSingle 41 = .ok (.iload_n 1, 1) := by decide +kernel
theorem dX8_typeOfSingle_42 : decode cX8_typeOfSingle 42 = .ok (.iconst 1, 1) := by decide +kernel
theorem dX8_typeOfSingle_43 : decode cX8_typeOfSingle 43 = .ok (.iadd, 1) := by decide +kernel
theorem dX8_typeOfSingle_44 : decode cX8_typeOfSingle 44 = .ok (.invokestatic 144, 3) := by decide +kernel
theorem dX8_typeOfSingle_47 : decode cX8_typeOfSingle 47 = .ok (.invokevirtual 169, 3) := by decide +kernel
theorem dX8_typeOfSingle_50 : decode cX8_typeOfSingle 50 = .ok (.goto 83, 3) := by decide +kernel
theorem dX8_typeOfSingle_53 : decode cX8_typeOfSingle 53 = .ok (.aload_n 0, 1) := by decide +kernel
theorem dX8_typeOfSingle_54 : decode cX8_typeOfSingle 54 = .ok (.getfield 53, 3) := by decide +kernel
theorem dX8_typeOfSingle_57 : decode cX8_typeOfSingle 57 = .ok (.iload_n 1, 1) := by decide +kernel
theorem dX8_typeOfSingle_58 : decode cX8_typeOfSingle 58 = .ok (.iaload, 1) := by decide +kernel
theorem dX8_typeOfSingle_59 : decode cX8_typeOfSingle 59 = .ok (.iconst 1, 1) := by decide +kernel
theorem dX8_typeOfSingle_60 : decode cX8_typeOfSingle 60 = .ok (.if_icmp .ne 49, 3) := by decide +kernel
theorem dX8_typeOfSingle_63 : decode cX8_typeOfSingle 63 = .ok (.aload_n 0, 1) := by decide +kernel
theorem dX8_typeOfSingle_64 : decode cX8_typeOfSingle 64 = .ok (.getfield 53, 3) := by decide +kernel
theorem dX8_typeOfSingle_67 : decode cX8_typeOfSingle 67 = .ok (.iload_n 1, 1) := by decide +kernel
theorem dX8_typeOfSingle_68 : decode cX8_typeOfSingle 68 = .ok (.iconst 1, 1) := by decide +kernel
theorem dX8_typeOfSingle_69 : decode cX8_typeOfSingle 69 = .ok (.iadd, 1) := by decide +kernel
theorem dX8_typeOfSingle_70 : decode cX8_typeOfSingle 70 = .ok (.iaload, 1) := by decide +kernel
theorem dX8_typeOfSingle_71 : decode cX8_typeOfSingle 71 = .ok (.istore_n 2, 1) := by decide +kernel
theorem dX8_typeOfSingle_72 : decode cX8_typeOfSingle 72 = .ok (.iload_n 2, 1) := by decide +kernel
theorem dX8_typeOfSingle_73 : decode cX8_typeOfSingle 73 = .ok (.aload_n 0, 1) := by decide +kernel
theorem dX8_typeOfSingle_74 : decode cX8_typeOfSingle 74 = .ok (.getfield 261, 3) := by decide +kernel
theorem dX8_typeOfSingle_77 : decode cX8_typeOfSingle 77 = .ok (.if_icmp .lt 5, 3) := by decide +kernel
theorem dX8_typeOfSingle_80 : decode cX8_typeOfSingle 80 = .ok (.iconst 1, 1) := by decide +kernel
theorem dX8_typeOfSingle_81 : decode cX8_typeOfSingle 81 = .ok (.ireturn, 1) := by decide +kernel
theorem dX8_typeOfSingle_82 : decode cX8_typeOfSingle 82 = .ok (.aload_n 0, 1) := by decide +kernel
theorem dX8_typeOfSingle_83 : decode cX8_typeOfSingle 83 = .ok (.aload_n 0, 1) := by decide +kernel
theorem dX8_typeOfSingle_84 : decode cX8_typeOfSingle 84 = .ok (.getfield 53, 3) := by decide +kernel
theorem dX8_typeOfSingle_87 : decode cX8_typeOfSingle 87 = .ok (.aload_n 0, 1) := by decide +kernel
theorem dX8_typeOfSingle_88 : decode cX8_typeOfSingle 88 = .ok (.getfield 85, 3) := by decide +kernel
theorem dX8_typeOfSingle_91 : decode cX8_typeOfSingle 91 = .ok (.aload_n 0, 1) := by decide +kernel
theorem dX8_typeOfSingle_92 : decode cX8_typeOfSingle 92 = .ok (.getfield 261, 3) := by decide +kernel
theorem dX8_typeOfSingle_95 : decode cX8_typeOfSingle 95 = .ok (.iconst 1, 1) := by decide +kernel
theorem dX8_typeOfSingle_96 : decode cX8_typeOfSingle 96 = .ok (.isub, 1) := by decide +kernel
theorem dX8_typeOfSingle_97 : decode cX8_typeOfSingle 97 = .ok (.iload_n 2, 1) := by decide +kernel
theorem dX8_typeOfSingle_98 : decode cX8_typeOfSingle 98 = .ok (.isub, 1) := by decide +kernel
theorem dX8_typeOfSingle_99 : decode cX8_typeOfSingle 99 = .ok (.iaload, 1) := by decide +kernel
theorem dX8_typeOfSingle_100 : decode cX8_typeOfSingle 100 = .ok (.iload_n 2, 1) := by decide +kernel
theorem dX8_typeOfSingle_101 : decode cX8_typeOfSingle 101 = .ok (.iconst 1, 1) := by decide +kernel
theorem dX8_typeOfSingle_102 : decode cX8_typeOfSingle 102 = .ok (.iadd, 1) := by decide +kernel
theorem dX8_typeOfSingle_103 : decode cX8_typeOfSingle 103 = .ok (.invokevirtual 173, 3) := by decide +kernel
theorem dX8_typeOfSingle_106 : decode cX8_typeOfSingle 106 = .ok (.goto 27, 3) := by decide +kernel
theorem dX8_typeOfSingle_109 : decode cX8_typeOfSingle 109 = .ok (.aload_n 0, 1) := by decide +kernel
theorem dX8_typeOfSingle_110 : decode cX8_typeOfSingle 110 = .ok (.aload_n 0, 1) := by decide +kernel
theorem dX8_typeOfSingle_111 : decode cX8_typeOfSingle 111 = .ok (.getfield 47, 3) := by decide +kernel
theorem dX8_typeOfSingle_114 : decode cX8_typeOfSingle 114 = .ok (.aload_n 0, 1) := by decide +kernel
theorem dX8_typeOfSingle_115 : decode cX8_typeOfSingle 115 = .ok (.getfield 53, 3) := by decide +kernel
theorem dX8_typeOfSingle_118 : decode cX8_typeOfSingle 118 = .ok (.iload_n 1, 1) := by decide +kernel
theorem dX8_typeOfSingle_119 : decode cX8_typeOfSingle 119 = .ok (.iconst 1, 1) := by decide +kernel
theorem dX8_typeOfSingle_120 : decode cX8_typeOfSingle 120 = .ok (.iadd, 1) := by decide +kernel
theorem dX8_typeOfSingle_121 : decode cX8_typeOfSingle 121 = .ok (.iaload, 1) := by decide +kernel
theorem dX8_typeOfSingle_122 : decode cX8_typeOfSingle 122 = .ok (.iaload, 1) := by decide +kernel
theorem dX8_typeOfSingle_123 : decode cX8_typeOfSingle 123 = .ok (.aload_n 0, 1) := by decide +kernel
theorem dX8_typeOfSingle_124 : decode cX8_typeOfSingle 124 = .ok (.getfield 53, 3) := by decide +kernel
theorem dX8_typeOfSingle_127 : decode cX8_typeOfSingle 127 = .ok (.iload_n 1, 1) := by decide +kernel
theorem dX8_typeOfSingle_128 : decode cX8_typeOfSingle 128 = .ok (.iconst 2, 1) := by decide +kernel
theorem dX8_typeOfSingle_129 : decode cX8_typeOfSingle 129 = .ok (.iadd, 1) := by decide +kernel
theorem dX8_typeOfSingle_130 : decode cX8_typeOfSingle 130 = .ok (.invokevirtual 200, 3) := by decide +kernel
theorem dX8_typeOfSingle_133 : decode cX8_typeOfSingle 133 = .ok (.aload_n 0, 1) := by decide +kernel
theorem dX8_typeOfSingle_134 : decode cX8_typeOfSingle 134 = .ok (.aload_n 0, 1) := by decide +kernel
theorem dX8_typeOfSingle_135 : decode cX8_typeOfSingle 135 = .ok (.getfield 228, 3) := by decide +kernel
theorem dX8_typeOfSingle_138 : decode cX8_typeOfSingle 138 = .ok (.invokevirtual 264, 3) := by decide +kernel
theorem dX8_typeOfSingle_141 : decode cX8_typeOfSingle 141 = .ok (.ireturn, 1) := by decide +kernel
theorem dy_X8_typeOfSingle : DY yX8_typeOfSingle 1 := by decide +kernel
theorem dX8_ofSort_0 : decode cX8_ofSort 0 = .ok (.aload_n 0, 1) := by decide +kernel
theorem dX8_ofSort_1 : decode cX8_ofSort 1 = .ok (.getfield 228, 3) := by decide +kernel
theorem dX8_ofSort_4 : decode cX8_ofSort 4 = .ok (.istore_n 2, 1) := by decide +kernel
theorem dX8_ofSort_5 : decode cX8_ofSort 5 = .ok (.aload_n 0, 1) := by decide +kernel
theorem dX8_ofSort_6 : decode cX8_ofSort 6 = .ok (.iload_n 1, 1) := by decide +kernel
theorem dX8_ofSort_7 : decode cX8_ofSort 7 = .ok (.invokevirtual 240, 3) := by decide +kernel
theorem dX8_ofSort_10 : decode cX8_ofSort 10 = .ok (.istore_n 3, 1) := by decide +kernel
theorem dX8_ofSort_11 : decode cX8_ofSort 11 = .ok (.iload_n 3, 1) := by decide +kernel
theorem dX8_ofSort_12 : decode cX8_ofSort 12 = .ok (.ifCond .ne 11, 3) := by decide +kernel
theorem dX8_ofSort_15 : decode cX8_ofSort 15 = .ok (.aload_n 0, 1) := by decide +kernel
theorem dX8_ofSort_16 : decode cX8_ofSort 16 = .ok (.iload_n 2, 1) := by decide +kernel
theorem dX8_ofSort_17 : decode cX8_ofSort 17 = .ok (.invokevirtual 243, 3) := by decide +kernel
theorem dX8_ofSort_20 : decode cX8_ofSort 20 = .ok (.goto 4, 3) := by decide +kernel
theorem dX8_ofSort_23 : decode cX8_ofSort 23 = .ok (.iload_n 3, 1) := by decide +kernel
theorem dX8_ofSort_24 : decode cX8_ofSort 24 = .ok (.istore_n 3, 1) := by decide +kernel
theorem dX8_ofSort_25 : decode cX8_ofSort 25 = .ok (.iload_n 3, 1) := by decide +kernel
theorem dX8_ofSort_26 : decode cX8_ofSort 26 = .ok (.ifCond .ne 16, 3) := by decide +kernel
theorem dX8_ofSort_29 : decode cX8_ofSort 29 = .ok (.aload_n 0, 1) := by decide +kernel
theorem dX8_ofSort_30 : decode cX8_ofSort 30 = .ok (.getfield 66, 3) := by decide +kernel
theorem dX8_ofSort_33 : decode cX8_ofSort 33 = .ok (.iload_n 2, 1) := by decide +kernel
theorem dX8_ofSort_34 : decode cX8_ofSort 34 = .ok (.iaload, 1) := by decide +kernel
theorem dX8_ofSort_35 : decode cX8_ofSort 35 = .ok (.ifCond .eq 7, 3) := by decide +kernel
theorem dX8_ofSort_38 : decode cX8_ofSort 38 = .ok (.iconst 4, 1) := by decide +kernel
theorem dX8_ofSort_39 : decode cX8_ofSort 39 = .ok (.goto 4, 3) := by decide +kernel
theorem dX8_ofSort_42 : decode cX8_ofSort 42 = .ok (.iload_n 3, 1) := by decide +kernel
theorem dX8_ofSort_43 : decode cX8_ofSort 43 = .ok (.ireturn, 1) := by decide +kernel
theorem dy_X8_ofSort : DY yX8_ofSort 1 := by decide +kernel
theorem dX8_typeOfPi_0 : decode cX8_typeOfPi 0 = .ok (.aload_n 0, 1) := by decide +kernel
theorem dX8_typeOfPi_1 : decode cX8_typeOfPi 1 = .ok (.getfield 228, 3) := by decide +kernel
theorem dX8_typeOfPi_4 : decode cX8_typeOfPi 4 = .ok (.istore_n 2, 1) := by decide +kernel
theorem dX8_typeOfPi_5 : decode cX8_typeOfPi 5 = .ok (.aload_n 0, 1) := by decide +kernel
theorem dX8_typeOfPi_6 : decode cX8_typeOfPi 6 = .ok (.iload_n 1, 1) := by decide +kernel
theorem dX8_typeOfPi_7 : decode cX8_typeOfPi 7 = .ok (.iconst 1, 1) := by decide +kernel
theorem dX8_typeOfPi_8 : decode cX8_typeOfPi 8 = .ok (.iadd, 1) := by decide +kernel
theorem dX8_typeOfPi_9 : decode cX8_typeOfPi 9 = .ok (.invokevirtual 267, 3) := by decide +kernel
theorem dX8_typeOfPi_12 : decode cX8_typeOfPi 12 = .ok (.istore_n 3, 1) := by decide +kernel
theorem dX8_typeOfPi_13 : decode cX8_typeOfPi 13 = .ok (.iload_n 3, 1) := by decide +kernel
theorem dX8_typeOfPi_14 : decode cX8_typeOfPi 14 = .ok (.ifCond .le 5, 3) := by decide +kernel
theorem dX8_typeOfPi_17 : decode cX8_typeOfPi 17 = .ok (.iload_n 3, 1) := by decide +kernel
theorem dX8_typeOfPi_18 : decode cX8_typeOfPi 18 = .ok (.ireturn, 1) := by decide +kernel
theorem dX8_typeOfPi_19 : decode cX8_typeOfPi 19 = .ok (.aload_n 0, 1) := by decide +kernel
theorem dX8_typeOfPi_20 : decode cX8_typeOfPi 20 = .ok (.getfield 228, 3) := by decide +kernel
theorem dX8_typeOfPi_23 : decode cX8_typeOfPi 23 = .ok (.istore 4, 2) := by decide +kernel
theorem dX8_typeOfPi_25 : decode cX8_typeOfPi 25 = .ok (.aload_n 0, 1) := by decide +kernel
theorem dX8_typeOfPi_26 : decode cX8_typeOfPi 26 = .ok (.getfield 85, 3) := by decide +kernel
theorem dX8_typeOfPi_29 : decode cX8_typeOfPi 29 = .ok (.aload_n 0, 1) := by decide +kernel
theorem dX8_typeOfPi_30 : decode cX8_typeOfPi 30 = .ok (.getfield 261, 3) := by decide +kernel
theorem dX8_typeOfPi_33 : decode cX8_typeOfPi 33 = .ok (.iload_n 1, 1) := by decide +kernel
theorem dX8_typeOfPi_34 : decode cX8_typeOfPi 34 = .ok (.iconst 1, 1) := by decide +kernel
theorem dX8_typeOfPi_35 : decode cX8_typeOfPi 35 = .ok (.iadd, 1) := by decide +kernel
theorem dX8_typeOfPi_36 : decode cX8_typeOfPi 36 = .ok (.iastore, 1) := by decide +kernel
theorem dX8_typeOfPi_37 : decode cX8_typeOfPi 37 = .ok (.aload_n 0, 1) := by decide +kernel
theorem dX8_typeOfPi_38 : decode cX8_typeOfPi 38 = .ok (.dup, 1) := by decide +kernel
theorem dX8_typeOfPi_39 : decode cX8_typeOfPi 39 = .ok (.getfield 261, 3) := by decide +kernel
theorem dX8_typeOfPi_42 : decode cX8_typeOfPi 42 = .ok (.iconst 1, 1) := by decide +kernel
theorem dX8_typeOfPi_43 : decode cX8_typeOfPi 43 = .ok (.iadd, 1) := by decide +kernel
theorem dX8_typeOfPi_44 : decode cX8_typeOfPi 44 = .ok (.putfield 261, 3) := by decide +kernel
theorem dX8_typeOfPi_47 : decode cX8_typeOfPi 47 = .ok (.aload_n 0, 1) := by decide +kernel
theorem dX8_typeOfPi_48 : decode cX8_typeOfPi 48 = .ok (.aload_n 0, 1) := by decide +kernel
theorem dX8_typeOfPi_49 : decode cX8_typeOfPi 49 = .ok (.getfield 53, 3) := by decide +kernel
theorem dX8_typeOfPi_52 : decode cX8_typeOfPi 52 = .ok (.iload_n 1, 1) := by decide +kernel
theorem dX8_typeOfPi_53 : decode cX8_typeOfPi 53 = .ok (.iconst 1, 1) := by decide +kernel
theorem dX8_typeOfPi_54 : decode cX8_typeOfPi 54 = .ok (.iadd, 1) := by decide +kernel
theorem dX8_typeOfPi_55 : decode cX8_typeOfPi 55 = .ok (.invokestatic 197, 3) := by decide +kernel
theorem dX8_typeOfPi_58 : decode cX8_typeOfPi 58 = .ok (.invokevirtual 267, 3) := by decide +kernel
theorem dX8_typeOfPi_61 : decode cX8_typeOfPi 61 = .ok (.istore_n 3, 1) := by decide +kernel
theorem dX8_typeOfPi_62 : decode cX8_typeOfPi 62 = .ok (.aload_n 0, 1) := by decide +kernel
theorem dX8_typeOfPi_63 : decode cX8_typeOfPi 63 = .ok (.dup, 1) := by decide +kernel
theorem dX8_typeOfPi_64 : decode cX8_typeOfPi 64 = .ok (.getfield 261, 3) := by decide +kernel
theorem dX8_typeOfPi_67 : decode cX8_typeOfPi 67 = .ok (.iconst 1, 1) := by decide +kernel
theorem dX8_typeOfPi_68 : decode cX8_typeOfPi 68 = .ok (.isub, 1) := by decide +kernel
theorem dX8_typeOfPi_69 : decode cX8_typeOfPi 69 = .ok (.putfield 261, 3) := by decide +kernel
theorem dX8_typeOfPi_72 : decode cX8_typeOfPi 72 = .ok (.iload_n 3, 1) := by decide +kernel
theorem dX8_typeOfPi_73 : decode cX8_typeOfPi 73 = .ok (.ifCond .le 5, 3) := by decide +kernel
theorem dX8_typeOfPi_76 : decode cX8_typeOfPi 76 = .ok (.iload_n 3, 1) := by decide +kernel
theorem dX8_typeOfPi_77 : decode cX8_typeOfPi 77 = .ok (.ireturn, 1) := by decide +kernel
theorem dX8_typeOfPi_78 : decode cX8_typeOfPi 78 = .ok (.aload_n 0, 1) := by decide +kernel
theorem dX8_typeOfPi_79 : decode cX8_typeOfPi 79 = .ok (.iconst 0, 1) := by decide +kernel
theorem dX8_typeOfPi_80 : decode cX8_typeOfPi 80 = .ok (.putfield 159, 3) := by decide +kernel
theorem dX8_typeOfPi_83 : decode cX8_typeOfPi 83 = .ok (.aload_n 0, 1) := by decide +kernel
theorem dX8_typeOfPi_84 : decode cX8_typeOfPi 84 = .ok (.iconst 0, 1) := by decide +kernel
theorem dX8_typeOfPi_85 : decode cX8_typeOfPi 85 = .ok (.putfield 162, 3) := by decide +kernel
theorem dX8_typeOfPi_88 : decode cX8_typeOfPi 88 = .ok (.aload_n 0, 1) := by decide +kernel
theorem dX8_typeOfPi_89 : decode cX8_typeOfPi 89 = .ok (.iconst 0, 1) := by decide +kernel
theorem dX8_typeOfPi_90 : decode cX8_typeOfPi 90 = .ok (.invokevirtual 165, 3) := by decide +kernel
theorem dX8_typeOfPi_93 : decode cX8_typeOfPi 93 = .ok (.aload_n 0, 1) := by decide +kernel
theorem dX8_typeOfPi_94 : decode cX8_typeOfPi 94 = .ok (.iconst 3, 1) := by decide +kernel
theorem dX8_typeOfPi_95 : decode cX8_typeOfPi 95 = .ok (.invokevirtual 165, 3) := by decide +kernel
theorem dX8_typeOfPi_98 : decode cX8_typeOfPi 98 = .ok (.aload_n 0, 1) := by decide +kernel
theorem dX8_typeOfPi_99 : decode cX8_typeOfPi 99 = .ok (.aload_n 0, 1) := by decide +kernel
theorem dX8_typeOfPi_100 : decode cX8_typeOfPi 100 = .ok (.getfield 66, 3) := by decide +kernel
theorem dX8_typeOfPi_103 : decode cX8_typeOfPi 103 = .ok (.iload_n 2, 1) := by decide +kernel
theorem dX8_typeOfPi_104 : decode cX8_typeOfPi 104 = .ok (.iconst 1, 1) := by decide +kernel
theorem dX8_typeOfPi_105 : decode cX8_typeOfPi 105 = .ok (.iadd, 1) := by decide +kernel
theorem dX8_typeOfPi_106 : decode cX8_typeOfPi 106 = .ok (.iload 4, 2) := by decide +kernel
theorem dX8_typeOfPi_108 : decode cX8_typeOfPi 108 = .ok (.invokevirtual 169, 3) := by decide +kernel
theorem dX8_typeOfPi_111 : decode cX8_typeOfPi 111 = .ok (.aload_n 0, 1) := by decide +kernel
theorem dX8_typeOfPi_112 : decode cX8_typeOfPi 112 = .ok (.aload_n 0, 1) := by decide +kernel
theorem dX8_typeOfPi_113 : decode cX8_typeOfPi 113 = .ok (.getfield 66, 3) := by decide +kernel
theorem dX8_typeOfPi_116 : decode cX8_typeOfPi 116 = .ok (.iload 4, 2) := by decide +kernel
theorem dX8_typeOfPi_118 : decode cX8_typeOfPi 118 = .ok (.iconst 1, 1) := by decide +kernel
theorem dX8_typeOfPi_119 : decode cX8_typeOfPi 119 = .ok (.iadd, 1) := by decide +kernel
theorem dX8_typeOfPi_120 : decode cX8_typeOfPi 120 = .ok (.aload_n 0, 1) := by decide +kernel
theorem dX8_typeOfPi_121 : decode cX8_typeOfPi 121 = .ok (.getfield 228, 3) := by decide +kernel
theorem dX8_typeOfPi_124 : decode cX8_typeOfPi 124 = .ok (.invokevirtual 169, 3) := by decide +kernel
theorem dX8_typeOfPi_127 : decode cX8_typeOfPi 127 = .ok (.aload_n 0, 1) := by decide +kernel
theorem dX8_typeOfPi_128 : decode cX8_typeOfPi 128 = .ok (.iload_n 2, 1) := by decide +kernel
theorem dX8_typeOfPi_129 : decode cX8_typeOfPi 129 = .ok (.invokevirtual 264, 3) := by decide +kernel
theorem dX8_typeOfPi_132 : decode cX8_typeOfPi 132 = .ok (.ireturn, 1) := by decide +kernel
theorem dy_X8_typeOfPi : DY yX8_typeOfPi 1 := by decide +kernel
theorem dX8_typeOfLambda_0 : decode cX8_typeOfLambda 0 = .ok (.aload_n 0, 1) := by decide +kernel
theorem dX8_typeOfLambda_1 : decode cX8_typeOfLambda 1 = .ok (.getfield 228, 3) := by decide +kernel
theorem dX8_typeOfLambda_4 : decode cX8_typeOfLambda 4 = .ok (.istore_n 2, 1) := by decide +kernel
theorem dX8_typeOfLambda_5 : decode cX8_typeOfLambda 5 = .ok (.aload_n 0, 1) := by decide +kernel
theorem dX8_typeOfLambda_6 : decode cX8_typeOfLambda 6 = .ok (.iload_n 1, 1) := by decide +kernel
theorem dX8_typeOfLambda_7 : decode cX8_typeOfLambda 7 = .ok (.iconst 1, 1) := by decide +kernel
theorem dX8_typeOfLambda_8 : decode cX8_typeOfLambda 8 = .ok (.iadd, 1) := by decide +kernel
theorem dX8_typeOfLambda_9 : decode cX8_typeOfLambda 9 = .ok (.invokevirtual 267, 3) := by decide +kernel
theorem dX8_typeOfLambda_12 : decode cX8_typeOfLambda 12 = .ok (.istore_n 3, 1) := by decide +kernel
theorem dX8_typeOfLambda_13 : decode cX8_typeOfLambda 13 = .ok (.iload_n 3, 1) := by decide +kernel
theorem dX8_typeOfLambda_14 : decode cX8_typeOfLambda 14 = .ok (.ifCond .le 5, 3) := by decide +kernel
theorem dX8_typeOfLambda_17 : decode cX8_typeOfLambda 17 = .ok (.iload_n 3, 1) := by decide +kernel
theorem dX8_typeOfLambda_18 : decode cX8_typeOfLambda 18 = .ok (.ireturn, 1) := by decide +kernel
theorem dX8_typeOfLambda_19 : decode cX8_typeOfLambda 19 = .ok (.aload_n 0, 1) := by decide +kernel
theorem dX8_typeOfLambda_20 : decode cX8_typeOfLambda 20 = .ok (.iload_n 2, 1) := by decide +kernel
theorem dX8_typeOfLambda_21 : decode cX8_typeOfLambda 21 = .ok (.putfield 228, 3) := by decide +kernel
theorem dX8_typeOfLambda_24 : decode cX8_typeOfLambda 24 = .ok (.aload_n 0, 1) := by decide +kernel
theorem dX8_typeOfLambda_25 : decode cX8_typeOfLambda 25 = .ok (.getfield 53, 3) := by decide +kernel
theorem dX8_typeOfLambda_28 : decode cX8_typeOfLambda 28 = .ok (.iload_n 1, 1) := by decide +kernel
theorem dX8_typeOfLambda_29 : decode cX8_typeOfLambda 29 = .ok (.iconst 1, 1) := by decide +kernel
theorem dX8_typeOfLambda_30 : decode cX8_typeOfLambda 30 = .ok (.iadd, 1) := by decide +kernel
theorem dX8_typeOfLambda_31 : decode cX8_typeOfLambda 31 = .ok (.invokestatic 197, 3) := by decide +kernel
theorem dX8_typeOfLambda_34 : decode cX8_typeOfLambda 34 = .ok (.istore 4, 2) := by decide +kernel
theorem dX8_typeOfLambda_36 : decode cX8_typeOfLambda 36 = .ok (.aload_n 0, 1) := by decide +kernel
theorem dX8_typeOfLambda_37 : decode cX8_typeOfLambda 37 = .ok (.getfield 85, 3) := by decide +kernel
theorem dX8_typeOfLambda_40 : decode cX8_typeOfLambda 40 = .ok (.aload_n 0, 1) := by decide +kernel
theorem dX8_typeOfLambda_41 : decode cX8_typeOfLambda 41 = .ok (.getfield 261, 3) := by decide +kernel
theorem dX8_typeOfLambda_44 : decode cX8_typeOfLambda 44 = .ok (.iload_n 1, 1) := by decide +kernel
theorem dX8_typeOfLambda_45 : decode cX8_typeOfLambda 45 = .ok (.iconst 1, 1) := by decide +kernel
theorem dX8_typeOfLambda_46 : decode cX8_typeOfLambda 46 = .ok (.iadd, 1) := by decide +kernel
theorem dX8_typeOfLambda_47 : decode cX8_typeOfLambda 47 = .ok (.iastore, 1) := by decide +kernel
theorem dX8_typeOfLambda_48 : decode cX8_typeOfLambda 48 = .ok (.aload_n 0, 1) := by decide +kernel
theorem dX8_typeOfLambda_49 : decode cX8_typeOfLambda 49 = .ok (.dup, 1) := by decide +kernel
theorem dX8_typeOfLambda_50 : decode cX8_typeOfLambda 50 = .ok (.getfield 261, 3) := by decide +kernel
theorem dX8_typeOfLambda_53 : decode cX8_typeOfLambda 53 = .ok (.iconst 1, 1) := by decide +kernel
theorem dX8_typeOfLambda_54 : decode cX8_typeOfLambda 54 = .ok (.iadd, 1) := by decide +kernel
theorem dX8_typeOfLambda_55 : decode cX8_typeOfLambda 55 = .ok (.putfield 261, 3) := by decide +kernel
theorem dX8_typeOfLambda_58 : decode cX8_typeOfLambda 58 = .ok (.aload_n 0, 1) := by decide +kernel
theorem dX8_typeOfLambda_59 : decode cX8_typeOfLambda 59 = .ok (.iload 4, 2) := by decide +kernel
theorem dX8_typeOfLambda_61 : decode cX8_typeOfLambda 61 = .ok (.invokevirtual 240, 3) := by decide +kernel
theorem dX8_typeOfLambda_64 : decode cX8_typeOfLambda 64 = .ok (.istore_n 3, 1) := by decide +kernel
theorem dX8_typeOfLambda_65 : decode cX8_typeOfLambda 65 = .ok (.aload_n 0, 1) := by decide +kernel
theorem dX8_typeOfLambda_66 : decode cX8_typeOfLambda 66 = .ok (.dup, 1) := by decide +kernel
theorem dX8_typeOfLambda_67 : decode cX8_typeOfLambda 67 = .ok (.getfield 261, 3) := by decide +kernel
theorem dX8_typeOfLambda_70 : decode cX8_typeOfLambda 70 = .ok (.iconst 1, 1) := by decide +kernel
theorem dX8_typeOfLambda_71 : decode cX8_typeOfLambda 71 = .ok (.isub, 1) := by decide +kernel
theorem dX8_typeOfLambda_72 : decode cX8_typeOfLambda 72 = .ok (.putfield 261, 3) := by decide +kernel
theorem dX8_typeOfLambda_75 : decode cX8_typeOfLambda 75 = .ok (.iload_n 3, 1) := by decide +kernel
theorem dX8_typeOfLambda_76 : decode cX8_typeOfLambda 76 = .ok (.ifCond .le 5, 3) := by decide +kernel
theorem dX8_typeOfLambda_79 : decode cX8_typeOfLambda 79 = .ok (.iload_n 3, 1) := by decide +kernel
theorem dX8_typeOfLambda_80 : decode cX8_typeOfLambda 80 = .ok (.ireturn, 1) := by decide +kernel
theorem dX8_typeOfLambda_81 : decode cX8_typeOfLambda 81 = .ok (.aload_n 0, 1) := by decide +kernel
theorem dX8_typeOfLambda_82 : decode cX8_typeOfLambda 82 = .ok (.iconst 0, 1) := by decide +kernel
theorem dX8_typeOfLambda_83 : decode cX8_typeOfLambda 83 = .ok (.putfield 159, 3) := by decide +kernel
theorem dX8_typeOfLambda_86 : decode cX8_typeOfLambda 86 = .ok (.aload_n 0, 1) := by decide +kernel
theorem dX8_typeOfLambda_87 : decode cX8_typeOfLambda 87 = .ok (.iconst 0, 1) := by decide +kernel
theorem dX8_typeOfLambda_88 : decode cX8_typeOfLambda 88 = .ok (.putfield 162, 3) := by decide +kernel
theorem dX8_typeOfLambda_91 : decode cX8_typeOfLambda 91 = .ok (.aload_n 0, 1) := by decide +kernel
theorem dX8_typeOfLambda_92 : decode cX8_typeOfLambda 92 = .ok (.iconst 3, 1) := by decide +kernel
theorem dX8_typeOfLambda_93 : decode cX8_typeOfLambda 93 = .ok (.invokevirtual 165, 3) := by decide +kernel
theorem dX8_typeOfLambda_96 : decode cX8_typeOfLambda 96 = .ok (.aload_n 0, 1) := by decide +kernel
theorem dX8_typeOfLambda_97 : decode cX8_typeOfLambda 97 = .ok (.aload_n 0, 1) := by decide +kernel
theorem dX8_typeOfLambda_98 : decode cX8_typeOfLambda 98 = .ok (.getfield 53, 3) := by decide +kernel
theorem dX8_typeOfLambda_101 : decode cX8_typeOfLambda 101 = .ok (.iload_n 1, 1) := by decide +kernel
theorem dX8_typeOfLambda_102 : decode cX8_typeOfLambda 102 = .ok (.iconst 1, 1) := by decide +kernel
theorem dX8_typeOfLambda_103 : decode cX8_typeOfLambda 103 = .ok (.iadd, 1) := by decide +kernel
theorem dX8_typeOfLambda_104 : decode cX8_typeOfLambda 104 = .ok (.iload 4, 2) := by decide +kernel
theorem dX8_typeOfLambda_106 : decode cX8_typeOfLambda 106 = .ok (.invokevirtual 169, 3) := by decide +kernel
theorem dX8_typeOfLambda_109 : decode cX8_typeOfLambda 109 = .ok (.aload_n 0, 1) := by decide +kernel
theorem dX8_typeOfLambda_110 : decode cX8_typeOfLambda 110 = .ok (.aload_n 0, 1) := by decide +kernel
theorem dX8_typeOfLambda_111 : decode cX8_typeOfLambda 111 = .ok (.getfield 66, 3) := by decide +kernel
theorem dX8_typeOfLambda_114 : decode cX8_typeOfLambda 114 = .ok (.iload_n 2, 1) := by decide +kernel
theorem dX8_typeOfLambda_115 : decode cX8_typeOfLambda 115 = .ok (.aload_n 0, 1) := by decide +kernel
theorem dX8_typeOfLambda_116 : decode cX8_typeOfLambda 116 = .ok (.getfield 228, 3) := by decide +kernel
theorem dX8_typeOfLambda_119 : decode cX8_typeOfLambda 119 = .ok (.invokevirtual 169, 3) := by decide +kernel
theorem dX8_typeOfLambda_122 : decode cX8_typeOfLambda 122 = .ok (.aload_n 0, 1) := by decide +kernel
theorem dX8_typeOfLambda_123 : decode cX8_typeOfLambda 123 = .ok (.iload_n 2, 1) := by decide +kernel
theorem dX8_typeOfLambda_124 : decode cX8_typeOfLambda 124 = .ok (.invokevirtual 264, 3) := by decide +kernel
theorem dX8_typeOfLambda_127 : decode cX8_typeOfLambda 127 = .ok (.ireturn, 1) := by decide +kernel
theorem dy_X8_typeOfLambda : DY yX8_typeOfLambda 1 := by decide +kernel
theorem dX8_typeOfApply_0 : decode cX8_typeOfApply 0 = .ok (.aload_n 0, 1) := by decide +kernel
theorem dX8_typeOfApply_1 : decode cX8_typeOfApply 1 = .ok (.getfield 228, 3) := by decide +kernel
theorem dX8_typeOfApply_4 : decode cX8_typeOfApply 4 = .ok (.istore_n 2, 1) := by decide +kernel
theorem dX8_typeOfApply_5 : decode cX8_typeOfApply 5 = .ok (.aload_n 0, 1) := by decide +kernel
theorem dX8_typeOfApply_6 : decode cX8_typeOfApply 6 = .ok (.iload_n 1, 1) := by decide +kernel
theorem dX8_typeOfApply_7 : decode cX8_typeOfApply 7 = .ok (.iconst 1, 1) := by decide +kernel
theorem dX8_typeOfApply_8 : decode cX8_typeOfApply 8 = .ok (.iadd, 1) := by decide +kernel
theorem dX8_typeOfApply_9 : decode cX8_typeOfApply 9 = .ok (.invokevirtual 240, 3) := by decide +kernel
theorem dX8_typeOfApply_12 : decode cX8_typeOfApply 12 = .ok (.istore_n 3, 1) := by decide +kernel
theorem dX8_typeOfApply_13 : decode cX8_typeOfApply 13 = .ok (.iload_n 3, 1) := by decide +kernel
theorem dX8_typeOfApply_14 : decode cX8_typeOfApply 14 = .ok (.ifCond .ne 11, 3) := by decide +kernel
theorem dX8_typeOfApply_17 : decode cX8_typeOfApply 17 = .ok (.aload_n 0, 1) := by decide +kernel
theorem dX8_typeOfApply_18 : decode cX8_typeOfApply 18 = .ok (.iload_n 2, 1) := by decide +kernel
theorem dX8_typeOfApply_19 : decode cX8_typeOfApply 19 = .ok (.invokevirtual 243, 3) := by decide +kernel
theorem dX8_typeOfApply_22 : decode cX8_typeOfApply 22 = .ok (.goto 4, 3) := by decide +kernel
theorem dX8_typeOfApply_25 : decode cX8_typeOfApply 25 = .ok (.iload_n 3, 1) := by decide +kernel
theorem dX8_typeOfApply_26 : decode cX8_typeOfApply 26 = .ok (.istore_n 3, 1) := by decide +kernel
theorem dX8_typeOfApply_27 : decode cX8_typeOfApply 27 = .ok (.iload_n 3, 1) := by decide +kernel
theorem dX8_typeOfApply_28 : decode cX8_typeOfApply 28 = .ok (.ifCond .le 5, 3) := by decide +kernel
theorem dX8_typeOfApply_31 : decode cX8_typeOfApply 31 = .ok (.iload_n 3, 1) := by decide +kernel
theorem dX8_typeOfApply_32 : decode cX8_typeOfApply 32 = .ok (.ireturn, 1) := by decide +kernel
theorem dX8_typeOfApply_33 : decode cX8_typeOfApply 33 = .ok (.aload_n 0, 1) := by decide +kernel
theorem dX8_typeOfApply_34 : decode cX8_typeOfApply 34 = .ok (.getfield 66, 3) := by decide +kernel
theorem dX8_typeOfApply_37 : decode cX8_typeOfApply 37 = .ok (.iload_n 2, 1) := by decide +kernel
theorem dX8_typeOfApply_38 : decode cX8_typeOfApply 38 = .ok (.iaload, 1) := by decide +kernel
theorem dX8_typeOfApply_39 : decode cX8_typeOfApply 39 = .ok (.iconst 3, 1) := by decide +kernel
theorem dX8_typeOfApply_40 : decode cX8_typeOfApply 40 = .ok (.if_icmp .eq 5, 3) := by decide +kernel
theorem dX8_typeOfApply_43 : decode cX8_typeOfApply 43 = .ok (.iconst 2, 1) := by decide +kernel
theorem dX8_typeOfApply_44 : decode cX8_typeOfApply 44 = .ok (.ireturn, 1) := by decide +kernel
theorem dX8_typeOfApply_45 : decode cX8_typeOfApply 45 = .ok (.aload_n 0, 1) := by decide +kernel
theorem dX8_typeOfApply_46 : decode cX8_typeOfApply 46 = .ok (.getfield 53, 3) := by decide +kernel
theorem dX8_typeOfApply_49 : decode cX8_typeOfApply 49 = .ok (.iload_n 1, 1) := by decide +kernel
theorem dX8_typeOfApply_50 : decode cX8_typeOfApply 50 = .ok (.iconst 1, 1) := by decide +kernel
theorem dX8_typeOfApply_51 : decode cX8_typeOfApply 51 = .ok (.iadd, 1) := by decide +kernel
theorem dX8_typeOfApply_52 : decode cX8_typeOfApply 52 = .ok (.invokestatic 197, 3) := by decide +kernel
theorem dX8_typeOfApply_55 : decode cX8_typeOfApply 55 = .ok (.istore 4, 2) := by decide +kernel
theorem dX8_typeOfApply_57 : decode cX8_typeOfApply 57 = .ok (.aload_n 0, 1) := by decide +kernel
theorem dX8_typeOfApply_58 : decode cX8_typeOfApply 58 = .ok (.getfield 228, 3) := by decide +kernel
theorem dX8_typeOfApply_61 : decode cX8_typeOfApply 61 = .ok (.istore 5, 2) := by decide +kernel
theorem dX8_typeOfApply_63 : decode cX8_typeOfApply 63 = .ok (.aload_n 0, 1) := by decide +kernel
theorem dX8_typeOfApply_64 : decode cX8_typeOfApply 64 = .ok (.iload 4, 2) := by decide +kernel
theorem dX8_typeOfApply_66 : decode cX8_typeOfApply 66 = .ok (.invokevirtual 240, 3) := by decide +kernel
theorem dX8_typeOfApply_69 : decode cX8_typeOfApply 69 = .ok (.istore_n 3, 1) := by decide +kernel
theorem dX8_typeOfApply_70 : decode cX8_typeOfApply 70 = .ok (.iload_n 3, 1) := by decide +kernel
theorem dX8_typeOfApply_71 : decode cX8_typeOfApply 71 = .ok (.ifCond .ne 12, 3) := by decide +kernel
theorem dX8_typeOfApply_74 : decode cX8_typeOfApply 74 = .ok (.aload_n 0, 1) := by decide +kernel
theorem dX8_typeOfApply_75 : decode cX8_typeOfApply 75 = .ok (.iload 5, 2) := by decide +kernel
theorem dX8_typeOfApply_77 : decode cX8_typeOfApply 77 = .ok (.invokevirtual 243, 3) := by decide +kernel
theorem dX8_typeOfApply_80 : decode cX8_typeOfApply 80 = .ok (.goto 4, 3) := by decide +kernel
theorem dX8_typeOfApply_83 : decode cX8_typeOfApply 83 = .ok (.iload_n 3, 1) := by decide +kernel
theorem dX8_typeOfApply_84 : decode cX8_typeOfApply 84 = .ok (.istore_n 3, 1) := by decide +kernel
theorem dX8_typeOfApply_85 : decode cX8_typeOfApply 85 = .ok (.iload_n 3, 1) := by decide +kernel
theorem dX8_typeOfApply_86 : decode cX8_typeOfApply 86 = .ok (.ifCond .le 5, 3) := by decide +kernel
theorem dX8_typeOfApply_89 : decode cX8_typeOfApply 89 = .ok (.iload_n 3, 1) := by decide +kernel
theorem dX8_typeOfApply_90 : decode cX8_typeOfApply 90 = .ok (.ireturn, 1) := by decide +kernel
theorem dX8_typeOfApply_91 : decode cX8_typeOfApply 91 = .ok (.aload_n 0, 1) := by decide +kernel
theorem dX8_typeOfApply_92 : decode cX8_typeOfApply 92 = .ok (.aload_n 0, 1) := by decide +kernel
theorem dX8_typeOfApply_93 : decode cX8_typeOfApply 93 = .ok (.getfield 66, 3) := by decide +kernel
theorem dX8_typeOfApply_96 : decode cX8_typeOfApply 96 = .ok (.iload 5, 2) := by decide +kernel
theorem dX8_typeOfApply_98 : decode cX8_typeOfApply 98 = .ok (.aload_n 0, 1) := by decide +kernel
theorem dX8_typeOfApply_99 : decode cX8_typeOfApply 99 = .ok (.getfield 66, 3) := by decide +kernel
theorem dX8_typeOfApply_102 : decode cX8_typeOfApply 102 = .ok (.iload_n 2, 1) := by decide +kernel
theorem dX8_typeOfApply_103 : decode cX8_typeOfApply 103 = .ok (.iconst 1, 1) := by decide +kernel
theorem dX8_typeOfApply_104 : decode cX8_typeOfApply 104 = .ok (.iadd, 1) := by decide +kernel
theorem dX8_typeOfApply_105 : decode cX8_typeOfApply 105 = .ok (.invokevirtual 270, 3) := by decide +kernel
theorem dX8_typeOfApply_108 : decode cX8_typeOfApply 108 = .ok (.ifCond .ne 5, 3) := by decide +kernel
theorem dX8_typeOfApply_111 : decode cX8_typeOfApply 111 = .ok (.iconst 3, 1) := by decide +kernel
theorem dX8_typeOfApply_112 : decode cX8_typeOfApply 112 = .ok (.ireturn, 1) := by decide +kernel
theorem dX8_typeOfApply_113 : decode cX8_typeOfApply 113 = .ok (.aload_n 0, 1) := by decide +kernel
theorem dX8_typeOfApply_114 : decode cX8_typeOfApply 114 = .ok (.iconst 0, 1) := by decide +kernel
theorem dX8_typeOfApply_115 : decode cX8_typeOfApply 115 = .ok (.putfield 159, 3) := by decide +kernel
theorem dX8_typeOfApply_118 : decode cX8_typeOfApply 118 = .ok (.aload_n 0, 1) := by decide +kernel
theorem dX8_typeOfApply_119 : decode cX8_typeOfApply 119 = .ok (.iconst 0, 1) := by decide +kernel
theorem dX8_typeOfApply_120 : decode cX8_typeOfApply 120 = .ok (.putfield 162, 3) := by decide +kernel
theorem dX8_typeOfApply_123 : decode cX8_typeOfApply 123 = .ok (.aload_n 0, 1) := by decide +kernel
theorem dX8_typeOfApply_124 : decode cX8_typeOfApply 124 = .ok (.aload_n 0, 1) := by decide +kernel
theorem dX8_typeOfApply_125 : decode cX8_typeOfApply 125 = .ok (.getfield 66, 3) := by decide +kernel
theorem dX8_typeOfApply_128 : decode cX8_typeOfApply 128 = .ok (.aload_n 0, 1) := by decide +kernel
theorem dX8_typeOfApply_129 : decode cX8_typeOfApply 129 = .ok (.getfield 66, 3) := by decide +kernel
theorem dX8_typeOfApply_132 : decode cX8_typeOfApply 132 = .ok (.iload_n 2, 1) := by decide +kernel
theorem dX8_typeOfApply_133 : decode cX8_typeOfApply 133 = .ok (.iconst 1, 1) := by decide +kernel
theorem dX8_typeOfApply_134 : decode cX8_typeOfApply 134 = .ok (.iadd, 1) := by decide +kernel
theorem dX8_typeOfApply_135 : decode cX8_typeOfApply 135 = .ok (.invokestatic 197, 3) := by decide +kernel
theorem dX8_typeOfApply_138 : decode cX8_typeOfApply 138 = .ok (.aload_n 0, 1) := by decide +kernel
theorem dX8_typeOfApply_139 : decode cX8_typeOfApply 139 = .ok (.getfield 53, 3) := by decide +kernel
theorem dX8_typeOfApply_142 : decode cX8_typeOfApply 142 = .ok (.iload 4, 2) := by decide +kernel
theorem dX8_typeOfApply_144 : decode cX8_typeOfApply 144 = .ok (.invokevirtual 204, 3) := by decide +kernel
theorem dX8_typeOfApply_147 : decode cX8_typeOfApply 147 = .ok (.aload_n 0, 1) := by decide +kernel
theorem dX8_typeOfApply_148 : decode cX8_typeOfApply 148 = .ok (.iload_n 2, 1) := by decide +kernel
theorem dX8_typeOfApply_149 : decode cX8_typeOfApply 149 = .ok (.invokevirtual 264, 3) := by decide +kernel
theorem dX8_typeOfApply_152 : decode cX8_typeOfApply 152 = .ok (.ireturn, 1) := by decide +kernel
theorem dy_X8_typeOfApply : DY yX8_typeOfApply 1 := by decide +kernel
theorem dX8_typeOfLet_0 : decode cX8_typeOfLet 0 = .ok (.aload_n 0, 1) := by decide +kernel
theorem dX8_typeOfLet_1 : decode cX8_typeOfLet 1 = .ok (.getfield 228, 3) := by decide +kernel
theorem dX8_typeOfLet_4 : decode cX8_typeOfLet 4 = .ok (.istore_n 2, 1) := by decide +kernel
theorem dX8_typeOfLet_5 : decode cX8_typeOfLet 5 = .ok (.aload_n 0, 1) := by decide +kernel
theorem dX8_typeOfLet_6 : decode cX8_typeOfLet 6 = .ok (.iload_n 1, 1) := by decide +kernel
theorem dX8_typeOfLet_7 : decode cX8_typeOfLet 7 = .ok (.iconst 1, 1) := by decide +kernel
theorem dX8_typeOfLet_8 : decode cX8_typeOfLet 8 = .ok (.iadd, 1) := by decide +kernel
theorem dX8_typeOfLet_9 : decode cX8_typeOfLet 9 = .ok (.invokevirtual 267, 3) := by decide +kernel
theorem dX8_typeOfLet_12 : decode cX8_typeOfLet 12 = .ok (.istore_n 3, 1) := by decide +kernel
theorem dX8_typeOfLet_13 : decode cX8_typeOfLet 13 = .ok (.iload_n 3, 1) := by decide +kernel
theorem dX8_typeOfLet_14 : decode cX8_typeOfLet 14 = .ok (.ifCond .le 5, 3) := by decide +kernel
theorem dX8_typeOfLet_17 : decode cX8_typeOfLet 17 = .ok (.iload_n 3, 1) := by decide +kernel
theorem dX8_typeOfLet_18 : decode cX8_typeOfLet 18 = .ok (.ireturn, 1) := by decide +kernel
theorem dX8_typeOfLet_19 : decode cX8_typeOfLet 19 = .ok (.aload_n 0, 1) := by decide +kernel
theorem dX8_typeOfLet_20 : decode cX8_typeOfLet 20 = .ok (.iload_n 2, 1) := by decide +kernel
theorem dX8_typeOfLet_21 : decode cX8_typeOfLet 21 = .ok (.putfield 228, 3) := by decide +kernel
theorem dX8_typeOfLet_24 : decode cX8_typeOfLet 24 = .ok (.aload_n 0, 1) := by decide +kernel
theorem dX8_typeOfLet_25 : decode cX8_typeOfLet 25 = .ok (.getfield 53, 3) := by decide +kernel
theorem dX8_typeOfLet_28 : decode cX8_typeOfLet 28 = .ok (.iload_n 1, 1) := by decide +kernel
theorem dX8_typeOfLet_29 : decode cX8_typeOfLet 29 = .ok (.iconst 1, 1) := by decide +kernel
theorem dX8_typeOfLet_30 : decode cX8_typeOfLet 30 = .ok (.iadd, 1) := by decide +kernel
theorem dX8_typeOfLet_31 : decode cX8_typeOfLet 31 = .ok (.invokestatic 197, 3) := by decide +kernel
theorem dX8_typeOfLet_34 : decode cX8_typeOfLet 34 = .ok (.istore 4, 2) := by decide +kernel
theorem dX8_typeOfLet_36 : decode cX8_typeOfLet 36 = .ok (.aload_n 0, 1) := by decide +kernel
theorem dX8_typeOfLet_37 : decode cX8_typeOfLet 37 = .ok (.getfield 53, 3) := by decide +kernel
theorem dX8_typeOfLet_40 : decode cX8_typeOfLet 40 = .ok (.iload 4, 2) := by decide +kernel
theorem dX8_typeOfLet_42 : decode cX8_typeOfLet 42 = .ok (.invokestatic 197, 3) := by decide +kernel
theorem dX8_typeOfLet_45 : decode cX8_typeOfLet 45 = .ok (.istore 5, 2) := by decide +kernel
theorem dX8_typeOfLet_47 : decode cX8_typeOfLet 47 = .ok (.aload_n 0, 1) := by decide +kernel
theorem dX8_typeOfLet_48 : decode cX8_typeOfLet 48 = .ok (.iload 4, 2) := by decide +kernel
theorem dX8_typeOfLet_50 : decode cX8_typeOfLet 50 = .ok (.invokevirtual 240, 3) := by decide +kernel
theorem dX8_typeOfLet_53 : decode cX8_typeOfLet 53 = .ok (.istore_n 3, 1) := by decide +kernel
theorem dX8_typeOfLet_54 : decode cX8_typeOfLet 54 = .ok (.iload_n 3, 1) := by decide +kernel
theorem dX8_typeOfLet_55 : decode cX8_typeOfLet 55 = .ok (.ifCond .ne 11, 3) := by decide +kernel
theorem dX8_typeOfLet_58 : decode cX8_typeOfLet 58 = .ok (.aload_n 0, 1) := by decide +kernel
theorem dX8_typeOfLet_59 : decode cX8_typeOfLet 59 = .ok (.iload_n 2, 1) := by decide +kernel
theorem dX8_typeOfLet_60 : decode cX8_typeOfLet 60 = .ok (.invokevirtual 243, 3) := by decide +kernel
theorem dX8_typeOfLet_63 : decode cX8_typeOfLet 63 = .ok (.goto 4, 3) := by decide +kernel
theorem dX8_typeOfLet_66 : decode cX8_typeOfLet 66 = .ok (.iload_n 3, 1) := by decide +kernel
theorem dX8_typeOfLet_67 : decode cX8_typeOfLet 67 = .ok (.istore_n 3, 1) := by decide +kernel
theorem dX8_typeOfLet_68 : decode cX8_typeOfLet 68 = .ok (.iload_n 3, 1) := by decide +kernel
theorem dX8_typeOfLet_69 : decode cX8_typeOfLet 69 = .ok (.ifCond .le 5, 3) := by decide +kernel
theorem dX8_typeOfLet_72 : decode cX8_typeOfLet 72 = .ok (.iload_n 3, 1) := by decide +kernel
theorem dX8_typeOfLet_73 : decode cX8_typeOfLet 73 = .ok (.ireturn, 1) := by decide +kernel
theorem dX8_typeOfLet_74 : decode cX8_typeOfLet 74 = .ok (.aload_n 0, 1) := by decide +kernel
theorem dX8_typeOfLet_75 : decode cX8_typeOfLet 75 = .ok (.aload_n 0, 1) := by decide +kernel
theorem dX8_typeOfLet_76 : decode cX8_typeOfLet 76 = .ok (.getfield 53, 3) := by decide +kernel
theorem dX8_typeOfLet_79 : decode cX8_typeOfLet 79 = .ok (.iload_n 1, 1) := by decide +kernel
theorem dX8_typeOfLet_80 : decode cX8_typeOfLet 80 = .ok (.iconst 1, 1) := by decide +kernel
theorem dX8_typeOfLet_81 : decode cX8_typeOfLet 81 = .ok (.iadd, 1) := by decide +kernel
theorem dX8_typeOfLet_82 : decode cX8_typeOfLet 82 = .ok (.iload 4, 2) := by decide +kernel
theorem dX8_typeOfLet_84 : decode cX8_typeOfLet 84 = .ok (.invokevirtual 234, 3) := by decide +kernel
theorem dX8_typeOfLet_87 : decode cX8_typeOfLet 87 = .ok (.aload_n 0, 1) := by decide +kernel
theorem dX8_typeOfLet_88 : decode cX8_typeOfLet 88 = .ok (.invokevirtual 237, 3) := by decide +kernel
theorem dX8_typeOfLet_91 : decode cX8_typeOfLet 91 = .ok (.ifCond .ge 5, 3) := by decide +kernel
theorem dX8_typeOfLet_94 : decode cX8_typeOfLet 94 = .ok (.iconst 5, 1) := by decide +kernel
theorem dX8_typeOfLet_95 : decode cX8_typeOfLet 95 = .ok (.ireturn, 1) := by decide +kernel
theorem dX8_typeOfLet_96 : decode cX8_typeOfLet 96 = .ok (.aload_n 0, 1) := by decide +kernel
theorem dX8_typeOfLet_97 : decode cX8_typeOfLet 97 = .ok (.aload_n 0, 1) := by decide +kernel
theorem dX8_typeOfLet_98 : decode cX8_typeOfLet 98 = .ok (.getfield 66, 3) := by decide +kernel
theorem dX8_typeOfLet_101 : decode cX8_typeOfLet 101 = .ok (.iload_n 2, 1) := by decide +kernel
theorem dX8_typeOfLet_102 : decode cX8_typeOfLet 102 = .ok (.aload_n 0, 1) := by decide +kernel
theorem dX8_typeOfLet_103 : decode cX8_typeOfLet 103 = .ok (.getfield 56, 3) := by decide +kernel
theorem dX8_typeOfLet_106 : decode cX8_typeOfLet 106 = .ok (.iconst 0, 1) := by decide +kernel
theorem dX8_typeOfLet_107 : decode cX8_typeOfLet 107 = .ok (.invokevirtual 270, 3) := by decide +kernel
theorem dX8_typeOfLet_110 : decode cX8_typeOfLet 110 = .ok (.ifCond .ne 6, 3) := by decide +kernel
theorem dX8_typeOfLet_113 : decode cX8_typeOfLet 113 = .ok (.bipush 6, 2) := by decide +kernel
theorem dX8_typeOfLet_115 : decode cX8_typeOfLet 115 = .ok (.ireturn, 1) := by decide +kernel
theorem dX8_typeOfLet_116 : decode cX8_typeOfLet 116 = .ok (.aload_n 0, 1) := by decide +kernel
theorem dX8_typeOfLet_117 : decode cX8_typeOfLet 117 = .ok (.iload_n 2, 1) := by decide +kernel
theorem dX8_typeOfLet_118 : decode cX8_typeOfLet 118 = .ok (.putfield 228, 3) := by decide +kernel
theorem dX8_typeOfLet_121 : decode cX8_typeOfLet 121 = .ok (.aload_n 0, 1) := by decide +kernel
theorem dX8_typeOfLet_122 : decode cX8_typeOfLet 122 = .ok (.getfield 85, 3) := by decide +kernel
theorem dX8_typeOfLet_125 : decode cX8_typeOfLet 125 = .ok (.aload_n 0, 1) := by decide +kernel
theorem dX8_typeOfLet_126 : decode cX8_typeOfLet 126 = .ok (.getfield 261, 3) := by decide +kernel
theorem dX8_typeOfLet_129 : decode cX8_typeOfLet 129 = .ok (.iload_n 1, 1) := by decide +kernel
theorem dX8_typeOfLet_130 : decode cX8_typeOfLet 130 = .ok (.iconst 1, 1) := by decide +kernel
theorem dX8_typeOfLet_131 : decode cX8_typeOfLet 131 = .ok (.iadd, 1) := by decide +kernel
theorem dX8_typeOfLet_132 : decode cX8_typeOfLet 132 = .ok (.iastore, 1) := by decide +kernel
theorem dX8_typeOfLet_133 : decode cX8_typeOfLet 133 = .ok (.aload_n 0, 1) := by decide +kernel
theorem dX8_typeOfLet_134 : decode cX8_typeOfLet 134 = .ok (.dup, 1) := by decide +kernel
theorem dX8_typeOfLet_135 : decode cX8_typeOfLet 135 = .ok (.getfield 261, 3) := by decide +kernel
theorem dX8_typeOfLet_138 : decode cX8_typeOfLet 138 = .ok (.iconst 1, 1) := by decide +kernel
theorem dX8_typeOfLet_139 : decode cX8_typeOfLet 139 = .ok (.iadd, 1) := by decide +kernel
theorem dX8_typeOfLet_140 : decode cX8_typeOfLet 140 = .ok (.putfield 261, 3) := by decide +kernel
theorem dX8_typeOfLet_143 : decode cX8_typeOfLet 143 = .ok (.aload_n 0, 1) := by decide +kernel
theorem dX8_typeOfLet_144 : decode cX8_typeOfLet 144 = .ok (.iload 5, 2) := by decide +kernel
theorem dX8_typeOfLet_146 : decode cX8_typeOfLet 146 = .ok (.invokevirtual 240, 3) := by decide +kernel
theorem dX8_typeOfLet_149 : decode cX8_typeOfLet 149 = .ok (.istore_n 3, 1) := by decide +kernel
theorem dX8_typeOfLet_150 : decode cX8_typeOfLet 150 = .ok (.aload_n 0, 1) := by decide +kernel
theorem dX8_typeOfLet_151 : decode cX8_typeOfLet 151 = .ok (.dup, 1) := by decide +kernel
theorem dX8_typeOfLet_152 : decode cX8_typeOfLet 152 = .ok (.getfield 261, 3) := by decide +kernel
theorem dX8_typeOfLet_155 : decode cX8_typeOfLet 155 = .ok (.iconst 1, 1) := by decide +kernel
theorem dX8_typeOfLet_156 : decode cX8_typeOfLet 156 = .ok (.isub, 1) := by decide +kernel
theorem dX8_typeOfLet_157 : decode cX8_typeOfLet 157 = .ok (.putfield 261, 3) := by decide +kernel
theorem dX8_typeOfLet_160 : decode cX8_typeOfLet 160 = .ok (.iload_n 3, 1) := by decide +kernel
theorem dX8_typeOfLet_161 : decode cX8_typeOfLet 161 = .ok (.ifCond .le 5, 3) := by decide +kernel
theorem dX8_typeOfLet_164 : decode cX8_typeOfLet 164 = .ok (.iload_n 3, 1) := by decide +kernel
theorem dX8_typeOfLet_165 : decode cX8_typeOfLet 165 = .ok (.ireturn, 1) := by decide +kernel
theorem dX8_typeOfLet_166 : decode cX8_typeOfLet 166 = .ok (.aload_n 0, 1) := by decide +kernel
theorem dX8_typeOfLet_167 : decode cX8_typeOfLet 167 = .ok (.iconst 0, 1) := by decide +kernel
theorem dX8_typeOfLet_168 : decode cX8_typeOfLet 168 = .ok (.putfield 159, 3) := by decide +kernel
theorem dX8_typeOfLet_171 : decode cX8_typeOfLet 171 = .ok (.aload_n 0, 1) := by decide +kernel
theorem dX8_typeOfLet_172 : decode cX8_typeOfLet 172 = .ok (.iconst 0, 1) := by decide +kernel
theorem dX8_typeOfLet_173 : decode cX8_typeOfLet 173 = .ok (.putfield 162, 3) := by decide +kernel
theorem dX8_typeOfLet_176 : decode cX8_typeOfLet 176 = .ok (.aload_n 0, 1) := by decide +kernel
theorem dX8_typeOfLet_177 : decode cX8_typeOfLet 177 = .ok (.aload_n 0, 1) := by decide +kernel
theorem dX8_typeOfLet_178 : decode cX8_typeOfLet 178 = .ok (.getfield 66, 3) := by decide +kernel
theorem dX8_typeOfLet_181 : decode cX8_typeOfLet 181 = .ok (.iload_n 2, 1) := by decide +kernel
theorem dX8_typeOfLet_182 : decode cX8_typeOfLet 182 = .ok (.aload_n 0, 1) := by decide +kernel
theorem dX8_typeOfLet_183 : decode cX8_typeOfLet 183 = .ok (.getfield 53, 3) := by decide +kernel
theorem dX8_typeOfLet_186 : decode cX8_typeOfLet 186 = .ok (.iload 4, 2) := by decide +kernel
theorem dX8_typeOfLet_188 : decode cX8_typeOfLet 188 = .ok (.invokevirtual 204, 3) := by decide +kernel
theorem dX8_typeOfLet_191 : decode cX8_typeOfLet 191 = .ok (.aload_n 0, 1) := by decide +kernel
theorem dX8_typeOfLet_192 : decode cX8_typeOfLet 192 = .ok (.iload_n 2, 1) := by decide +kernel
theorem dX8_typeOfLet_193 : decode cX8_typeOfLet 193 = .ok (.invokevirtual 264, 3) := by decide +kernel
theorem dX8_typeOfLet_196 : decode cX8_typeOfLet 196 = .ok (.ireturn, 1) := by decide +kernel
theorem dy_X8_typeOfLet : DY yX8_typeOfLet 1 := by decide +kernel
theorem dX8_typeOf_0 : decode cX8_typeOf 0 = .ok (.aload_n 0, 1) := by decide +kernel
theorem dX8_typeOf_1 : decode cX8_typeOf 1 = .ok (.getfield 53, 3) := by decide +kernel
theorem dX8_typeOf_4 : decode cX8_typeOf 4 = .ok (.iload_n 1, 1) := by decide +kernel
theorem dX8_typeOf_5 : decode cX8_typeOf 5 = .ok (.iaload, 1) := by decide +kernel
theorem dX8_typeOf_6 : decode cX8_typeOf 6 = .ok (.tableswitch 62 0 5 #[38, 38, 38, 44, 50, 56], 38) := by decide +kernel
theorem dX8_typeOf_44 : decode cX8_typeOf 44 = .ok (.aload_n 0, 1) := by decide +kernel
theorem dX8_typeOf_45 : decode cX8_typeOf 45 = .ok (.iload_n 1, 1) := by decide +kernel
theorem dX8_typeOf_46 : decode cX8_typeOf 46 = .ok (.invokevirtual 246, 3) := by decide +kernel
theorem dX8_typeOf_49 : decode cX8_typeOf 49 = .ok (.ireturn, 1) := by decide +kernel
theorem dX8_typeOf_50 : decode cX8_typeOf 50 = .ok (.aload_n 0, 1) := by decide +kernel
theorem dX8_typeOf_51 : decode cX8_typeOf 51 = .ok (.iload_n 1, 1) := by decide +kernel
theorem dX8_typeOf_52 : decode cX8_typeOf 52 = .ok (.invokevirtual 249, 3) := by decide +kernel
theorem dX8_typeOf_55 : decode cX8_typeOf 55 = .ok (.ireturn, 1) := by decide +kernel
theorem dX8_typeOf_56 : decode cX8_typeOf 56 = .ok (.aload_n 0, 1) := by decide +kernel
theorem dX8_typeOf_57 : decode cX8_typeOf 57 = .ok (.iload_n 1, 1) := by decide +kernel
theorem dX8_typeOf_58 : decode cX8_typeOf 58 = .ok (.invokevirtual 252, 3) := by decide +kernel
theorem dX8_typeOf_61 : decode cX8_typeOf 61 = .ok (.ireturn, 1) := by decide +kernel
theorem dX8_typeOf_62 : decode cX8_typeOf 62 = .ok (.aload_n 0, 1) := by decide +kernel
theorem dX8_typeOf_63 : decode cX8_typeOf 63 = .ok (.iload_n 1, 1) := by decide +kernel
theorem dX8_typeOf_64 : decode cX8_typeOf 64 = .ok (.invokevirtual 255, 3) := by decide +kernel
theorem dX8_typeOf_67 : decode cX8_typeOf 67 = .ok (.ireturn, 1) := by decide +kernel
theorem dX8_typeOf_68 : decode cX8_typeOf 68 = .ok (.aload_n 0, 1) := by decide +kernel
theorem dX8_typeOf_69 : decode cX8_typeOf 69 = .ok (.iload_n 1, 1) := by decide +kernel
theorem dX8_typeOf_70 : decode cX8_typeOf 70 = .ok (.invokevirtual 258, 3) := by decide +kernel
theorem dX8_typeOf_73 : decode cX8_typeOf 73 = .ok (.ireturn, 1) := by decide +kernel
theorem dy_X8_typeOf : DY yX8_typeOf 1 := by decide +kernel
abbrev rm_X8_typeOfSingle : Room := { frames := 4, cells := 0, slots := 0, locals := 97 }
abbrev rm_X8_ofSort (d : Nat) : Room := { frames := 4 * d + 9, cells := 0, slots := 0, locals := 160 * d + 249 }
abbrev rm_X8_typeOfPi (d : Nat) : Room := { frames := 4 * d + 10, cells := 0, slots := 0, locals := 160 * d + 289 }
abbrev rm_X8_typeOfLambda (d : Nat) : Room := { frames := 4 * d + 10, cells := 0, slots := 0, locals := 160 * d + 289 }
abbrev rm_X8_typeOfApply (d : Nat) : Room := { frames := 4 * d + 9, cells := 0, slots := 0, locals := 160 * d + 249 }
abbrev rm_X8_typeOfLet (d : Nat) : Room := { frames := 4 * d + 10, cells := 0, slots := 0, locals := 160 * d + 289 }
abbrev rm_X8_typeOf (d : Nat) : Room := { frames := 4 * d + 8, cells := 0, slots := 0, locals := 160 * d + 209 }
theorem ry_X8_ofSort_X8_normalAt {d : Nat} : RY (rm_X8_ofSort d) rm_X8_normalAt 2 0 0 := ⟨⟨by show 5 + 1 ≤ 4 * d + 9; omega, by show 8 + (2 + 11) + (128) ≤ 160 * d + 249; omega⟩, rfl, rfl, Nat.zero_le _, Nat.zero_le _⟩
theorem ry_X8_ofSort_X8_typeOf {d : Nat} : RY (rm_X8_ofSort d) (rm_X8_typeOf d) 2 0 0 := ⟨⟨by show 4 * d + 8 + 1 ≤ 4 * d + 9; omega, by show 8 + (2 + 11) + (160 * d + 209) ≤ 160 * d + 249; omega⟩, rfl, rfl, Nat.zero_le _, Nat.zero_le _⟩
theorem ry_X8_typeOfPi_X8_behindTerm {d : Nat} : RY (rm_X8_typeOfPi d) rm_X8_behindTerm 4 0 0 := ⟨⟨by show 2 + 1 ≤ 4 * d + 10; omega, by show 8 + (4 + 11) + (44) ≤ 160 * d + 289; omega⟩, rfl, rfl, Nat.zero_le _, Nat.zero_le _⟩
theorem ry_X8_typeOfPi_X8_copy {d : Nat} : RY (rm_X8_typeOfPi d) rm_X8_copy 5 0 0 := ⟨⟨by show 1 + 1 ≤ 4 * d + 10; omega, by show 8 + (5 + 11) + (21) ≤ 160 * d + 289; omega⟩, rfl, rfl, Nat.zero_le _, Nat.zero_le _⟩
theorem ry_X8_typeOfPi_X8_ofSort {d : Nat} : RY (rm_X8_typeOfPi d) (rm_X8_ofSort d) 4 0 0 := ⟨⟨by show 4 * d + 9 + 1 ≤ 4 * d + 10; omega, by show 8 + (4 + 11) + (160 * d + 249) ≤ 160 * d + 289; omega⟩, rfl, rfl, Nat.zero_le _, Nat.zero_le _⟩
theorem ry_X8_typeOfPi_X8_put {d : Nat} : RY (rm_X8_typeOfPi d) rm_X8_put 2 0 0 := ⟨⟨by show 0 + 1 ≤ 4 * d + 10; omega, by show 8 + (2 + 11) + (0) ≤ 160 * d + 289; omega⟩, rfl, rfl, Nat.zero_le _, Nat.zero_le _⟩
theorem ry_X8_typeOfPi_X8_settle {d : Nat} : RY (rm_X8_typeOfPi d) rm_X8_settle 2 0 0 := ⟨⟨by show 3 + 1 ≤ 4 * d + 10; omega, by show 8 + (2 + 11) + (71) ≤ 160 * d + 289; omega⟩, rfl, rfl, Nat.zero_le _, Nat.zero_le _⟩
theorem ry_X8_typeOfLambda_X8_behindTerm {d : Nat} : RY (rm_X8_typeOfLambda d) rm_X8_behindTerm 4 0 0 := ⟨⟨by show 2 + 1 ≤ 4 * d + 10; omega, by show 8 + (4 + 11) + (44) ≤ 160 * d + 289; omega⟩, rfl, rfl, Nat.zero_le _, Nat.zero_le _⟩
theorem ry_X8_typeOfLambda_X8_copy {d : Nat} : RY (rm_X8_typeOfLambda d) rm_X8_copy 5 0 0 := ⟨⟨by show 1 + 1 ≤ 4 * d + 10; omega, by show 8 + (5 + 11) + (21) ≤ 160 * d + 289; omega⟩, rfl, rfl, Nat.zero_le _, Nat.zero_le _⟩
theorem ry_X8_typeOfLambda_X8_ofSort {d : Nat} : RY (rm_X8_typeOfLambda d) (rm_X8_ofSort d) 4 0 0 := ⟨⟨by show 4 * d + 9 + 1 ≤ 4 * d + 10; omega, by show 8 + (4 + 11) + (160 * d + 249) ≤ 160 * d + 289; omega⟩, rfl, rfl, Nat.zero_le _, Nat.zero_le _⟩
theorem ry_X8_typeOfLambda_X8_put {d : Nat} : RY (rm_X8_typeOfLambda d) rm_X8_put 2 0 0 := ⟨⟨by show 0 + 1 ≤ 4 * d + 10; omega, by show 8 + (2 + 11) + (0) ≤ 160 * d + 289; omega⟩, rfl, rfl, Nat.zero_le _, Nat.zero_le _⟩
theorem ry_X8_typeOfLambda_X8_settle {d : Nat} : RY (rm_X8_typeOfLambda d) rm_X8_settle 2 0 0 := ⟨⟨by show 3 + 1 ≤ 4 * d + 10; omega, by show 8 + (2 + 11) + (71) ≤ 160 * d + 289; omega⟩, rfl, rfl, Nat.zero_le _, Nat.zero_le _⟩
theorem ry_X8_typeOfLambda_X8_typeOf {d : Nat} : RY (rm_X8_typeOfLambda d) (rm_X8_typeOf d) 2 0 0 := ⟨⟨by show 4 * d + 8 + 1 ≤ 4 * d + 10; omega, by show 8 + (2 + 11) + (160 * d + 209) ≤ 160 * d + 289; omega⟩, rfl, rfl, Nat.zero_le _, Nat.zero_le _⟩
theorem ry_X8_typeOfApply_X8_behindTerm {d : Nat} : RY (rm_X8_typeOfApply d) rm_X8_behindTerm 4 0 0 := ⟨⟨by show 2 + 1 ≤ 4 * d + 9; omega, by show 8 + (4 + 11) + (44) ≤ 160 * d + 249; omega⟩, rfl, rfl, Nat.zero_le _, Nat.zero_le _⟩
theorem ry_X8_typeOfApply_X8_isSame {d : Nat} : RY (rm_X8_typeOfApply d) rm_X8_isSame 9 0 0 := ⟨⟨by show 4 + 1 ≤ 4 * d + 9; omega, by show 8 + (9 + 11) + (106) ≤ 160 * d + 249; omega⟩, rfl, rfl, Nat.zero_le _, Nat.zero_le _⟩
theorem ry_X8_typeOfApply_X8_normalAt {d : Nat} : RY (rm_X8_typeOfApply d) rm_X8_normalAt 2 0 0 := ⟨⟨by show 5 + 1 ≤ 4 * d + 9; omega, by show 8 + (2 + 11) + (128) ≤ 160 * d + 249; omega⟩, rfl, rfl, Nat.zero_le _, Nat.zero_le _⟩
theorem ry_X8_typeOfApply_X8_settle {d : Nat} : RY (rm_X8_typeOfApply d) rm_X8_settle 2 0 0 := ⟨⟨by show 3 + 1 ≤ 4 * d + 9; omega, by show 8 + (2 + 11) + (71) ≤ 160 * d + 249; omega⟩, rfl, rfl, Nat.zero_le _, Nat.zero_le _⟩
theorem ry_X8_typeOfApply_X8_typeOf {d : Nat} : RY (rm_X8_typeOfApply d) (rm_X8_typeOf d) 2 0 0 := ⟨⟨by show 4 * d + 8 + 1 ≤ 4 * d + 9; omega, by show 8 + (2 + 11) + (160 * d + 209) ≤ 160 * d + 249; omega⟩, rfl, rfl, Nat.zero_le _, Nat.zero_le _⟩
theorem ry_X8_typeOfApply_X8_with {d : Nat} : RY (rm_X8_typeOfApply d) rm_X8_with 11 0 0 := ⟨⟨by show 3 + 1 ≤ 4 * d + 9; omega, by show 8 + (11 + 11) + (74) ≤ 160 * d + 249; omega⟩, rfl, rfl, Nat.zero_le _, Nat.zero_le _⟩
theorem ry_X8_typeOfLet_X8_behindTerm {d : Nat} : RY (rm_X8_typeOfLet d) rm_X8_behindTerm 4 0 0 := ⟨⟨by show 2 + 1 ≤ 4 * d + 10; omega, by show 8 + (4 + 11) + (44) ≤ 160 * d + 289; omega⟩, rfl, rfl, Nat.zero_le _, Nat.zero_le _⟩
theorem ry_X8_typeOfLet_X8_isSame {d : Nat} : RY (rm_X8_typeOfLet d) rm_X8_isSame 9 0 0 := ⟨⟨by show 4 + 1 ≤ 4 * d + 10; omega, by show 8 + (9 + 11) + (106) ≤ 160 * d + 289; omega⟩, rfl, rfl, Nat.zero_le _, Nat.zero_le _⟩
theorem ry_X8_typeOfLet_X8_load {d : Nat} : RY (rm_X8_typeOfLet d) rm_X8_load 5 0 0 := ⟨⟨by show 0 + 1 ≤ 4 * d + 10; omega, by show 8 + (5 + 11) + (0) ≤ 160 * d + 289; omega⟩, rfl, rfl, Nat.zero_le _, Nat.zero_le _⟩
theorem ry_X8_typeOfLet_X8_normalAt {d : Nat} : RY (rm_X8_typeOfLet d) rm_X8_normalAt 2 0 0 := ⟨⟨by show 5 + 1 ≤ 4 * d + 10; omega, by show 8 + (2 + 11) + (128) ≤ 160 * d + 289; omega⟩, rfl, rfl, Nat.zero_le _, Nat.zero_le _⟩
theorem ry_X8_typeOfLet_X8_normalize {d : Nat} : RY (rm_X8_typeOfLet d) rm_X8_normalize 5 0 0 := ⟨⟨by show 4 + 1 ≤ 4 * d + 10; omega, by show 8 + (5 + 11) + (104) ≤ 160 * d + 289; omega⟩, rfl, rfl, Nat.zero_le _, Nat.zero_le _⟩
theorem ry_X8_typeOfLet_X8_ofSort {d : Nat} : RY (rm_X8_typeOfLet d) (rm_X8_ofSort d) 4 0 0 := ⟨⟨by show 4 * d + 9 + 1 ≤ 4 * d + 10; omega, by show 8 + (4 + 11) + (160 * d + 249) ≤ 160 * d + 289; omega⟩, rfl, rfl, Nat.zero_le _, Nat.zero_le _⟩
theorem ry_X8_typeOfLet_X8_settle {d : Nat} : RY (rm_X8_typeOfLet d) rm_X8_settle 2 0 0 := ⟨⟨by show 3 + 1 ≤ 4 * d + 10; omega, by show 8 + (2 + 11) + (71) ≤ 160 * d + 289; omega⟩, rfl, rfl, Nat.zero_le _, Nat.zero_le _⟩
theorem ry_X8_typeOfLet_X8_typeOf {d : Nat} : RY (rm_X8_typeOfLet d) (rm_X8_typeOf d) 2 0 0 := ⟨⟨by show 4 * d + 8 + 1 ≤ 4 * d + 10; omega, by show 8 + (2 + 11) + (160 * d + 209) ≤ 160 * d + 289; omega⟩, rfl, rfl, Nat.zero_le _, Nat.zero_le _⟩
theorem ry_X8_typeOfLet_X8_with {d : Nat} : RY (rm_X8_typeOfLet d) rm_X8_with 11 0 0 := ⟨⟨by show 3 + 1 ≤ 4 * d + 10; omega, by show 8 + (11 + 11) + (74) ≤ 160 * d + 289; omega⟩, rfl, rfl, Nat.zero_le _, Nat.zero_le _⟩
theorem ry_X8_typeOf_X8_typeOfApply {d : Nat} : RY (rm_X8_typeOf (d + 1)) (rm_X8_typeOfApply d) 6 0 0 := ⟨⟨by show 4 * d + 9 + 1 ≤ 4 * (d + 1) + 8; omega, by show 8 + (6 + 11) + (160 * d + 249) ≤ 160 * (d + 1) + 209; omega⟩, rfl, rfl, Nat.zero_le _, Nat.zero_le _⟩
theorem ry_X8_typeOf_X8_typeOfLambda {d : Nat} : RY (rm_X8_typeOf (d + 1)) (rm_X8_typeOfLambda d) 5 0 0 := ⟨⟨by show 4 * d + 10 + 1 ≤ 4 * (d + 1) + 8; omega, by show 8 + (5 + 11) + (160 * d + 289) ≤ 160 * (d + 1) + 209; omega⟩, rfl, rfl, Nat.zero_le _, Nat.zero_le _⟩
theorem ry_X8_typeOf_X8_typeOfLet {d : Nat} : RY (rm_X8_typeOf (d + 1)) (rm_X8_typeOfLet d) 6 0 0 := ⟨⟨by show 4 * d + 10 + 1 ≤ 4 * (d + 1) + 8; omega, by show 8 + (6 + 11) + (160 * d + 289) ≤ 160 * (d + 1) + 209; omega⟩, rfl, rfl, Nat.zero_le _, Nat.zero_le _⟩
theorem ry_X8_typeOf_X8_typeOfPi {d : Nat} : RY (rm_X8_typeOf (d + 1)) (rm_X8_typeOfPi d) 5 0 0 := ⟨⟨by show 4 * d + 10 + 1 ≤ 4 * (d + 1) + 8; omega, by show 8 + (5 + 11) + (160 * d + 289) ≤ 160 * (d + 1) + 209; omega⟩, rfl, rfl, Nat.zero_le _, Nat.zero_le _⟩
theorem ry_X8_typeOf_X8_typeOfSingle {d : Nat} : RY (rm_X8_typeOf (d + 1)) rm_X8_typeOfSingle 3 0 0 := ⟨⟨by show 4 + 1 ≤ 4 * (d + 1) + 8; omega, by show 8 + (3 + 11) + (97) ≤ 160 * (d + 1) + 209; omega⟩, rfl, rfl, Nat.zero_le _, Nat.zero_le _⟩
def j_X8_typeOfSingle_133 (n : Nat) (S : St) : Option (St × Int32) :=
  bI (f_X8_settle n S (S.1 375 0)) fun S1 v3 =>
  some (S1, v3)
def f_X8_typeOfSingle (n : Nat) (S : St) (a1 : Int32) : Option (St × Int32) :=
  pS S 373 0 0 fun S1 =>
  pS S1 380 0 0 fun S3 =>
  gI S3 367 0 a1 8000 fun v5 =>
  if v5 = 0 then
    bU (f_X8_put n S3 0) fun S30 =>
    bU (f_X8_put n S30 1) fun S32 =>
    bI (f_X8_behindLevel n S32 367 (a1 + 1)) fun S34 v36 =>
    bU (f_X8_copy n S34 367 (a1 + 1) v36) fun S37 =>
    j_X8_typeOfSingle_133 n S37
  else
    gI S3 367 0 a1 8000 fun v9 =>
    if v9 = 1 then
      gI S3 367 0 (a1 + 1) 8000 fun v21 =>
      if v21 < (S3.1 383 0) then
        gI S3 382 0 (((S3.1 383 0) - 1) - v21) 300 fun v25 =>
        bU (f_X8_lift n S3 367 v25 (v21 + 1)) fun S28 =>
        j_X8_typeOfSingle_133 n S28
      else
        some (S3, 1)
    else
      gI S3 367 0 (a1 + 1) 8000 fun v13 =>
      gI S3 364 0 v13 40 fun v16 =>
      bU (f_X8_named n S3 v16 367 (a1 + 2)) fun S19 =>
      j_X8_typeOfSingle_133 n S19
set_option maxRecDepth 100000 in
set_option maxHeartbeats 4000000 in
theorem t_X8_typeOfSingle_133 {n : Nat} {x : XC} (hx : CX x cX8_typeOfSingle 3 RX8) (hR : x_R x = rm_X8_typeOfSingle) (hKS : ∀ k ∈ KM, k ∈ x_K x) {out : St × Int32} (hE : EI x cX8_typeOfSingle out) {S : St} (h : j_X8_typeOfSingle_133 n S  = some out) : WX x 3 0 0 S 133 [(0, .ref (x_ad x 0 7 0))] [] := by
  unfold j_X8_typeOfSingle_133 at h
  refine r_aload_n (k0 := 0) hx dX8_typeOfSingle_133 rfl rfl ?_
  refine r_aload_n (k0 := 0) hx dX8_typeOfSingle_134 rfl rfl ?_
  refine g_375 hx (k_0_7 hKS) wf_X8_228 dX8_typeOfSingle_135 ?_
  obtain ⟨S1, v3, c2, h⟩ := bI_some h
  refine r_Vi (ci := 7) (As := [.int (S.1 375 0)]) (rest := []) hx (C_X8_settle (c := x_y x) hKS c2) (k_0_7 hKS) rfl wl_X8_264 wi_X8_settle we_X8_settle wn_X8 wc_X8_settle dy_X8_settle rfl (by rw [hR]; decide +kernel) rfl (Nat.le_of_ble_eq_true rfl) dX8_typeOfSingle_138 ?_
  exact r_iret hE h dX8_typeOfSingle_141
set_option maxRecDepth 100000 in
set_option maxHeartbeats 4000000 in
theorem t_X8_typeOfSingle_0 {n : Nat} {x : XC} (hx : CX x cX8_typeOfSingle 3 RX8) (hR : x_R x = rm_X8_typeOfSingle) (hKS : ∀ k ∈ KM, k ∈ x_K x) {out : St × Int32} (hE : EI x cX8_typeOfSingle out) {S : St} {a1 : Int32} (h : f_X8_typeOfSingle n S a1 = some out) : WX x 3 0 0 S 0 [(0, .ref (x_ad x 0 7 0)), (1, .int a1)] [] := by
  unfold f_X8_typeOfSingle at h
  refine r_aload_n (k0 := 0) hx dX8_typeOfSingle_0 rfl rfl ?_
  refine r_iconst (v := 0) hx dX8_typeOfSingle_1 (by decide) ?_
  obtain ⟨S1, e2, h⟩ := pS_some h
  refine p_373 hx (k_0_7 hKS) wf_X8_159 dX8_typeOfSingle_2 e2 ?_
  refine r_aload_n (k0 := 0) hx dX8_typeOfSingle_5 rfl rfl ?_
  refine r_iconst (v := 0) hx dX8_typeOfSingle_6 (by decide) ?_
  obtain ⟨S3, e4, h⟩ := pS_some h
  refine p_380 hx (k_0_7 hKS) wf_X8_162 (by decide) dX8_typeOfSingle_7 e4 ?_
  refine r_aload_n (k0 := 0) hx dX8_typeOfSingle_10 rfl rfl ?_
  refine g_367 hx (k_0_7 hKS) wf_X8_53 dX8_typeOfSingle_11 ?_
  refine r_iload_n (k0 := 1) hx dX8_typeOfSingle_14 rfl rfl ?_
  obtain ⟨v5, e6, i7, h⟩ := gI_some h
  refine r_iald hx (k_1_367 hKS) rfl i7 e6 dX8_typeOfSingle_15 ?_
  refine r_if_ne (tgt := 53) hx dX8_typeOfSingle_16 (by decide) (fun c8 => ?_) (fun c8 => ?_)
  · have h := ite_f h c8
    refine r_aload_n (k0 := 0) hx dX8_typeOfSingle_53 rfl rfl ?_
    refine g_367 hx (k_0_7 hKS) wf_X8_53 dX8_typeOfSingle_54 ?_
    refine r_iload_n (k0 := 1) hx dX8_typeOfSingle_57 rfl rfl ?_
    obtain ⟨v9, e10, i11, h⟩ := gI_some h
    refine r_iald hx (k_1_367 hKS) rfl i11 e10 dX8_typeOfSingle_58 ?_
    refine r_iconst (v := 1) hx dX8_typeOfSingle_59 (by decide) ?_
    refine r_icmp_ne (tgt := 109) hx dX8_typeOfSingle_60 (by decide) (fun c12 => ?_) (fun c12 => ?_)
    · have h := ite_f h c12
      refine r_aload_n (k0 := 0) hx dX8_typeOfSingle_109 rfl rfl ?_
      refine r_aload_n (k0 := 0) hx dX8_typeOfSingle_110 rfl rfl ?_
      refine g_364 hx (k_0_7 hKS) wf_X8_47 dX8_typeOfSingle_111 ?_
      refine r_aload_n (k0 := 0) hx dX8_typeOfSingle_114 rfl rfl ?_
      refine g_367 hx (k_0_7 hKS) wf_X8_53 dX8_typeOfSingle_115 ?_
      refine r_iload_n (k0 := 1) hx dX8_typeOfSingle_118 rfl rfl ?_
      refine r_iconst (v := 1) hx dX8_typeOfSingle_119 (by decide) ?_
      refine r_iadd hx dX8_typeOfSingle_120 ?_
      obtain ⟨v13, e14, i15, h⟩ := gI_some h
      refine r_iald hx (k_1_367 hKS) rfl i15 e14 dX8_typeOfSingle_121 ?_
      obtain ⟨v16, e17, i18, h⟩ := gI_some h
      refine r_iald hx (k_1_364 hKS) rfl i18 e17 dX8_typeOfSingle_122 ?_
      refine r_aload_n (k0 := 0) hx dX8_typeOfSingle_123 rfl rfl ?_
      refine g_367 hx (k_0_7 hKS) wf_X8_53 dX8_typeOfSingle_124 ?_
      refine r_iload_n (k0 := 1) hx dX8_typeOfSingle_127 rfl rfl ?_
      refine r_iconst (v := 2) hx dX8_typeOfSingle_128 (by decide) ?_
      refine r_iadd hx dX8_typeOfSingle_129 ?_
      obtain ⟨S19, c20, h⟩ := bU_some h
      refine r_Vv (ci := 7) (As := [.int v16, .ref (x_ad x 1 367 0), .int (a1 + 2)]) (rest := []) hx (C_X8_named (c := x_y x) hKS km_367 c20) (k_0_7 hKS) rfl wl_X8_200 wi_X8_named we_X8_named wn_X8 wc_X8_named dy_X8_named rfl (by rw [hR]; decide +kernel) rfl (Nat.le_of_ble_eq_true rfl) dX8_typeOfSingle_130 ?_
      refine WX.sub (lv' := [(0, .ref (x_ad x 0 7 0))]) ?_ [0] rfl
      exact t_X8_typeOfSingle_133 hx hR hKS hE h
    · have h := ite_t h c12
      refine r_aload_n (k0 := 0) hx dX8_typeOfSingle_63 rfl rfl ?_
      refine g_367 hx (k_0_7 hKS) wf_X8_53 dX8_typeOfSingle_64 ?_
      refine r_iload_n (k0 := 1) hx dX8_typeOfSingle_67 rfl rfl ?_
      refine r_iconst (v := 1) hx dX8_typeOfSingle_68 (by decide) ?_
      refine r_iadd hx dX8_typeOfSingle_69 ?_
      obtain ⟨v21, e22, i23, h⟩ := gI_some h
      refine r_iald hx (k_1_367 hKS) rfl i23 e22 dX8_typeOfSingle_70 ?_
      refine r_istore_n (lv' := [(2, .int v21), (0, .ref (x_ad x 0 7 0)), (1, .int a1)]) hx dX8_typeOfSingle_71 rfl (by decide) rfl ?_
      refine r_iload_n (k0 := 0) hx dX8_typeOfSingle_72 rfl rfl ?_
      refine r_aload_n (k0 := 1) hx dX8_typeOfSingle_73 rfl rfl ?_
      refine g_383 hx (k_0_7 hKS) wf_X8_261 dX8_typeOfSingle_74 ?_
      refine r_icmp_lt (tgt := 82) hx dX8_typeOfSingle_77 (by decide) (fun c24 => ?_) (fun c24 => ?_)
      · have h := ite_t h c24
        refine r_aload_n (k0 := 1) hx dX8_typeOfSingle_82 rfl rfl ?_
        refine r_aload_n (k0 := 1) hx dX8_typeOfSingle_83 rfl rfl ?_
        refine g_367 hx (k_0_7 hKS) wf_X8_53 dX8_typeOfSingle_84 ?_
        refine r_aload_n (k0 := 1) hx dX8_typeOfSingle_87 rfl rfl ?_
        refine g_382 hx (k_0_7 hKS) wf_X8_85 dX8_typeOfSingle_88 ?_
        refine r_aload_n (k0 := 1) hx dX8_typeOfSingle_91 rfl rfl ?_
        refine g_383 hx (k_0_7 hKS) wf_X8_261 dX8_typeOfSingle_92 ?_
        refine r_iconst (v := 1) hx dX8_typeOfSingle_95 (by decide) ?_
        refine r_isub hx dX8_typeOfSingle_96 ?_
        refine r_iload_n (k0 := 0) hx dX8_typeOfSingle_97 rfl rfl ?_
        refine r_isub hx dX8_typeOfSingle_98 ?_
        obtain ⟨v25, e26, i27, h⟩ := gI_some h
        refine r_iald hx (k_1_382 hKS) rfl i27 e26 dX8_typeOfSingle_99 ?_
        refine r_iload_n (k0 := 0) hx dX8_typeOfSingle_100 rfl rfl ?_
        refine r_iconst (v := 1) hx dX8_typeOfSingle_101 (by decide) ?_
        refine r_iadd hx dX8_typeOfSingle_102 ?_
        obtain ⟨S28, c29, h⟩ := bU_some h
        refine r_Vv (ci := 7) (As := [.ref (x_ad x 1 367 0), .int v25, .int (v21 + 1)]) (rest := []) hx (C_X8_lift (c := x_y x) hKS km_367 c29) (k_0_7 hKS) rfl wl_X8_173 wi_X8_lift we_X8_lift wn_X8 wc_X8_lift dy_X8_lift rfl (by rw [hR]; decide +kernel) rfl (Nat.le_of_ble_eq_true rfl) dX8_typeOfSingle_103 ?_
        refine r_goto (tgt := 133) hx dX8_typeOfSingle_106 (by decide) ?_
        refine WX.sub (lv' := [(0, .ref (x_ad x 0 7 0))]) ?_ [1] rfl
        exact t_X8_typeOfSingle_133 hx hR hKS hE h
      · have h := ite_f h c24
        refine r_iconst (v := 1) hx dX8_typeOfSingle_80 (by decide) ?_
        exact r_iret hE h dX8_typeOfSingle_81
  · have h := ite_t h c8
    refine r_aload_n (k0 := 0) hx dX8_typeOfSingle_19 rfl rfl ?_
    refine r_iconst (v := 0) hx dX8_typeOfSingle_20 (by decide) ?_
    obtain ⟨S30, c31, h⟩ := bU_some h
    refine r_Vv (ci := 7) (As := [.int 0]) (rest := []) hx (C_X8_put (c := x_y x) hKS c31) (k_0_7 hKS) rfl wl_X8_165 wi_X8_put we_X8_put wn_X8 wc_X8_put dy_X8_put rfl (by rw [hR]; decide +kernel) rfl (Nat.le_of_ble_eq_true rfl) dX8_typeOfSingle_21 ?_
    refine r_aload_n (k0 := 0) hx dX8_typeOfSingle_24 rfl rfl ?_
    refine r_iconst (v := 1) hx dX8_typeOfSingle_25 (by decide) ?_
    obtain ⟨S32, c33, h⟩ := bU_some h
    refine r_Vv (ci := 7) (As := [.int 1]) (rest := []) hx (C_X8_put (c := x_y x) hKS c33) (k_0_7 hKS) rfl wl_X8_165 wi_X8_put we_X8_put wn_X8 wc_X8_put dy_X8_put rfl (by rw [hR]; decide +kernel) rfl (Nat.le_of_ble_eq_true rfl) dX8_typeOfSingle_26 ?_
    refine r_aload_n (k0 := 0) hx dX8_typeOfSingle_29 rfl rfl ?_
    refine r_aload_n (k0 := 0) hx dX8_typeOfSingle_30 rfl rfl ?_
    refine g_367 hx (k_0_7 hKS) wf_X8_53 dX8_typeOfSingle_31 ?_
    refine r_iload_n (k0 := 1) hx dX8_typeOfSingle_34 rfl rfl ?_
    refine r_iconst (v := 1) hx dX8_typeOfSingle_35 (by decide) ?_
    refine r_iadd hx dX8_typeOfSingle_36 ?_
    refine r_aload_n (k0 := 0) hx dX8_typeOfSingle_37 rfl rfl ?_
    refine g_367 hx (k_0_7 hKS) wf_X8_53 dX8_typeOfSingle_38 ?_
    refine r_iload_n (k0 := 1) hx dX8_typeOfSingle_41 rfl rfl ?_
    refine r_iconst (v := 1) hx dX8_typeOfSingle_42 (by decide) ?_
    refine r_iadd hx dX8_typeOfSingle_43 ?_
    obtain ⟨S34, v36, c35, h⟩ := bI_some h
    refine r_Si (As := [.ref (x_ad x 1 367 0), .int (a1 + 1)]) (rest := [.int (a1 + 1), .ref (x_ad x 1 367 0), .ref (x_ad x 0 7 0)]) hx (C_X8_behindLevel (c := x_y x) hKS km_367 c35) wl_X8_144 wt_X8_behindLevel wn_X8 wc_X8_behindLevel dy_X8_behindLevel rfl (by rw [hR]; decide +kernel) rfl (Nat.le_of_ble_eq_true rfl) dX8_typeOfSingle_44 ?_
    obtain ⟨S37, c38, h⟩ := bU_some h
    refine r_Vv (ci := 7) (As := [.ref (x_ad x 1 367 0), .int (a1 + 1), .int v36]) (rest := []) hx (C_X8_copy (c := x_y x) hKS km_367 c38) (k_0_7 hKS) rfl wl_X8_169 wi_X8_copy we_X8_copy wn_X8 wc_X8_copy dy_X8_copy rfl (by rw [hR]; decide +kernel) rfl (Nat.le_of_ble_eq_true rfl) dX8_typeOfSingle_47 ?_
    refine r_goto (tgt := 133) hx dX8_typeOfSingle_50 (by decide) ?_
    refine WX.sub (lv' := [(0, .ref (x_ad x 0 7 0))]) ?_ [0] rfl
    exact t_X8_typeOfSingle_133 hx hR hKS hE h
set_option maxHeartbeats 4000000 in
theorem C_X8_typeOfSingle {n : Nat} {c : YC} (hKS : ∀ k ∈ KM, k ∈ c.2.2.2.2) {S : St} {a1 : Int32} {out : St × Int32} (h : f_X8_typeOfSingle n S a1 = some out) : MI c yX8_typeOfSingle cX8_typeOfSingle 3 (some .int) rm_X8_typeOfSingle S [.ref (c.2.2.1 0 7 0), .int a1] out := mk_I (own := RX8) (by decide +kernel) rfl (Nat.le_of_ble_eq_true rfl) (fun x hx hR hy hE => by subst hy; exact t_X8_typeOfSingle_0 hx hR hKS hE h)
def j_X8_ofSort_24 (n : Nat) (F : St → Int32 → Option (St × Int32)) (S : St) (l2 : Int32) (s0 : Int32) : Option (St × Int32) :=
  if s0 = 0 then
    gI S 371 0 l2 1500000 fun v2 =>
    if v2 = 0 then
      some (S, s0)
    else
      some (S, 4)
  else
    some (S, s0)
def f_X8_ofSort (n : Nat) (F : St → Int32 → Option (St × Int32)) (S : St) (a1 : Int32) : Option (St × Int32) :=
  bV (S.1 375 0) fun v1 =>
  bI (F S a1) fun S3 v5 =>
  if v5 = 0 then
    bI (f_X8_normalAt n S3 v1) fun S7 v9 =>
    j_X8_ofSort_24 n F S7 v1 v9
  else
    j_X8_ofSort_24 n F S3 v1 v5
set_option maxRecDepth 100000 in
set_option maxHeartbeats 4000000 in
theorem t_X8_ofSort_24 {n : Nat} {d : Nat} {F : St → Int32 → Option (St × Int32)} {x : XC} (hx : CX x cX8_ofSort 4 RX8) (hR : x_R x = (rm_X8_ofSort d)) (hKS : ∀ k ∈ KM, k ∈ x_K x) {out : St × Int32} (hE : EI x cX8_ofSort out) (hF : ∀ {S : St} {a1 : Int32} {out : St × Int32}, F S a1 = some out → MI (x_y x) yX8_typeOf cX8_typeOf 2 (some .int) (rm_X8_typeOf d) S [.ref (x_ad x 0 7 0), .int a1] out) {S : St} {l2 : Int32} {s0 : Int32} (h : j_X8_ofSort_24 n F S l2 s0 = some out) : WX x 4 0 0 S 24 [(0, .ref (x_ad x 0 7 0)), (2, .int l2)] [.int s0] := by
  unfold j_X8_ofSort_24 at h
  refine r_istore_n (lv' := [(3, .int s0), (0, .ref (x_ad x 0 7 0)), (2, .int l2)]) hx dX8_ofSort_24 rfl (by decide) rfl ?_
  refine r_iload_n (k0 := 0) hx dX8_ofSort_25 rfl rfl ?_
  refine r_if_ne (tgt := 42) hx dX8_ofSort_26 (by decide) (fun c1 => ?_) (fun c1 => ?_)
  · have h := ite_f h c1
    refine r_iload_n (k0 := 0) hx dX8_ofSort_42 rfl rfl ?_
    exact r_iret hE h dX8_ofSort_43
  · have h := ite_t h c1
    refine r_aload_n (k0 := 1) hx dX8_ofSort_29 rfl rfl ?_
    refine g_371 hx (k_0_7 hKS) wf_X8_66 dX8_ofSort_30 ?_
    refine r_iload_n (k0 := 2) hx dX8_ofSort_33 rfl rfl ?_
    obtain ⟨v2, e3, i4, h⟩ := gI_some h
    refine r_iald hx (k_1_371 hKS) rfl i4 e3 dX8_ofSort_34 ?_
    refine r_if_eq (tgt := 42) hx dX8_ofSort_35 (by decide) (fun c5 => ?_) (fun c5 => ?_)
    · have h := ite_t h c5
      refine r_iload_n (k0 := 0) hx dX8_ofSort_42 rfl rfl ?_
      exact r_iret hE h dX8_ofSort_43
    · have h := ite_f h c5
      refine r_iconst (v := 4) hx dX8_ofSort_38 (by decide) ?_
      refine r_goto (tgt := 43) hx dX8_ofSort_39 (by decide) ?_
      exact r_iret hE h dX8_ofSort_43
set_option maxRecDepth 100000 in
set_option maxHeartbeats 4000000 in
theorem t_X8_ofSort_0 {n : Nat} {d : Nat} {F : St → Int32 → Option (St × Int32)} {x : XC} (hx : CX x cX8_ofSort 4 RX8) (hR : x_R x = (rm_X8_ofSort d)) (hKS : ∀ k ∈ KM, k ∈ x_K x) {out : St × Int32} (hE : EI x cX8_ofSort out) (hF : ∀ {S : St} {a1 : Int32} {out : St × Int32}, F S a1 = some out → MI (x_y x) yX8_typeOf cX8_typeOf 2 (some .int) (rm_X8_typeOf d) S [.ref (x_ad x 0 7 0), .int a1] out) {S : St} {a1 : Int32} (h : f_X8_ofSort n F S a1 = some out) : WX x 4 0 0 S 0 [(0, .ref (x_ad x 0 7 0)), (1, .int a1)] [] := by
  unfold f_X8_ofSort at h
  refine r_aload_n (k0 := 0) hx dX8_ofSort_0 rfl rfl ?_
  refine g_375 hx (k_0_7 hKS) wf_X8_228 dX8_ofSort_1 ?_
  obtain ⟨v1, e2, h⟩ := bV_some h
  rw [← e2]
  refine r_istore_n (lv' := [(2, .int v1), (0, .ref (x_ad x 0 7 0)), (1, .int a1)]) hx dX8_ofSort_4 rfl (by decide) rfl ?_
  refine r_aload_n (k0 := 1) hx dX8_ofSort_5 rfl rfl ?_
  refine r_iload_n (k0 := 2) hx dX8_ofSort_6 rfl rfl ?_
  obtain ⟨S3, v5, c4, h⟩ := bI_some h
  refine r_Vi (ci := 7) (As := [.int a1]) (rest := []) hx (hF c4) (k_0_7 hKS) rfl wl_X8_240 wi_X8_typeOf we_X8_typeOf wn_X8 wc_X8_typeOf dy_X8_typeOf rfl (by rw [hR]; exact ry_X8_ofSort_X8_typeOf) rfl (Nat.le_of_ble_eq_true rfl) dX8_ofSort_7 ?_
  refine r_istore_n (lv' := [(3, .int v5), (2, .int v1), (0, .ref (x_ad x 0 7 0)), (1, .int a1)]) hx dX8_ofSort_10 rfl (by decide) rfl ?_
  refine r_iload_n (k0 := 0) hx dX8_ofSort_11 rfl rfl ?_
  refine r_if_ne (tgt := 23) hx dX8_ofSort_12 (by decide) (fun c6 => ?_) (fun c6 => ?_)
  · have h := ite_f h c6
    refine r_iload_n (k0 := 0) hx dX8_ofSort_23 rfl rfl ?_
    refine WX.sub (lv' := [(0, .ref (x_ad x 0 7 0)), (2, .int v1)]) ?_ [2, 1] rfl
    exact t_X8_ofSort_24 hx hR hKS hE hF h
  · have h := ite_t h c6
    refine r_aload_n (k0 := 2) hx dX8_ofSort_15 rfl rfl ?_
    refine r_iload_n (k0 := 1) hx dX8_ofSort_16 rfl rfl ?_
    obtain ⟨S7, v9, c8, h⟩ := bI_some h
    refine r_Vi (ci := 7) (As := [.int v1]) (rest := []) hx (C_X8_normalAt (c := x_y x) hKS c8) (k_0_7 hKS) rfl wl_X8_243 wi_X8_normalAt we_X8_normalAt wn_X8 wc_X8_normalAt dy_X8_normalAt rfl (by rw [hR]; exact ry_X8_ofSort_X8_normalAt) rfl (Nat.le_of_ble_eq_true rfl) dX8_ofSort_17 ?_
    refine r_goto (tgt := 24) hx dX8_ofSort_20 (by decide) ?_
    refine WX.sub (lv' := [(0, .ref (x_ad x 0 7 0)), (2, .int v1)]) ?_ [2, 1] rfl
    exact t_X8_ofSort_24 hx hR hKS hE hF h
set_option maxHeartbeats 4000000 in
theorem C_X8_ofSort {n d : Nat} {F : St → Int32 → Option (St × Int32)} {c : YC} (hKS : ∀ k ∈ KM, k ∈ c.2.2.2.2) (hF : ∀ {S : St} {a1 : Int32} {out : St × Int32}, F S a1 = some out → MI (c) yX8_typeOf cX8_typeOf 2 (some .int) (rm_X8_typeOf d) S [.ref ((c).2.2.1 0 7 0), .int a1] out) {S : St} {a1 : Int32} {out : St × Int32} (h : f_X8_ofSort n F S a1 = some out) : MI c yX8_ofSort cX8_ofSort 4 (some .int) (rm_X8_ofSort d) S [.ref (c.2.2.1 0 7 0), .int a1] out := mk_I (own := RX8) (by decide +kernel) rfl (Nat.le_of_ble_eq_true rfl) (fun x hx hR hy hE => by subst hy; exact t_X8_ofSort_0 hx hR hKS hE hF h)
def f_X8_typeOfPi (n : Nat) (F : St → Int32 → Option (St × Int32)) (S : St) (a1 : Int32) : Option (St × Int32) :=
  bV (S.1 375 0) fun v1 =>
  bI (f_X8_ofSort n F S (a1 + 1)) fun S3 v5 =>
  if v5 ≤ 0 then
    bV (S3.1 375 0) fun v7 =>
    pI S3 382 0 (S3.1 383 0) 300 (a1 + 1) fun S9 =>
    pS S9 383 0 ((S9.1 383 0) + 1) fun S12 =>
    bI (f_X8_behindTerm n S12 367 (a1 + 1)) fun S14 v16 =>
    bI (f_X8_ofSort n F S14 v16) fun S17 v19 =>
    pS S17 383 0 ((S17.1 383 0) - 1) fun S20 =>
    if v19 ≤ 0 then
      pS S20 373 0 0 fun S23 =>
      pS S23 380 0 0 fun S25 =>
      bU (f_X8_put n S25 0) fun S27 =>
      bU (f_X8_put n S27 3) fun S29 =>
      bU (f_X8_copy n S29 371 (v1 + 1) v7) fun S31 =>
      bU (f_X8_copy n S31 371 (v7 + 1) (S31.1 375 0)) fun S33 =>
      bI (f_X8_settle n S33 v1) fun S35 v37 =>
      some (S35, v37)
    else
      some (S20, v19)
  else
    some (S3, v5)
set_option maxRecDepth 100000 in
set_option maxHeartbeats 4000000 in
theorem t_X8_typeOfPi_0 {n : Nat} {d : Nat} {F : St → Int32 → Option (St × Int32)} {x : XC} (hx : CX x cX8_typeOfPi 5 RX8) (hR : x_R x = (rm_X8_typeOfPi d)) (hKS : ∀ k ∈ KM, k ∈ x_K x) {out : St × Int32} (hE : EI x cX8_typeOfPi out) (hF : ∀ {S : St} {a1 : Int32} {out : St × Int32}, F S a1 = some out → MI (x_y x) yX8_typeOf cX8_typeOf 2 (some .int) (rm_X8_typeOf d) S [.ref (x_ad x 0 7 0), .int a1] out) {S : St} {a1 : Int32} (h : f_X8_typeOfPi n F S a1 = some out) : WX x 5 0 0 S 0 [(0, .ref (x_ad x 0 7 0)), (1, .int a1)] [] := by
  unfold f_X8_typeOfPi at h
  refine r_aload_n (k0 := 0) hx dX8_typeOfPi_0 rfl rfl ?_
  refine g_375 hx (k_0_7 hKS) wf_X8_228 dX8_typeOfPi_1 ?_
  obtain ⟨v1, e2, h⟩ := bV_some h
  rw [← e2]
  refine r_istore_n (lv' := [(2, .int v1), (0, .ref (x_ad x 0 7 0)), (1, .int a1)]) hx dX8_typeOfPi_4 rfl (by decide) rfl ?_
  refine r_aload_n (k0 := 1) hx dX8_typeOfPi_5 rfl rfl ?_
  refine r_iload_n (k0 := 2) hx dX8_typeOfPi_6 rfl rfl ?_
  refine r_iconst (v := 1) hx dX8_typeOfPi_7 (by decide) ?_
  refine r_iadd hx dX8_typeOfPi_8 ?_
  obtain ⟨S3, v5, c4, h⟩ := bI_some h
  refine r_Vi (ci := 7) (As := [.int (a1 + 1)]) (rest := []) hx (C_X8_ofSort (c := x_y x) hKS hF c4) (k_0_7 hKS) rfl wl_X8_267 wi_X8_ofSort we_X8_ofSort wn_X8 wc_X8_ofSort dy_X8_ofSort rfl (by rw [hR]; exact ry_X8_typeOfPi_X8_ofSort) rfl (Nat.le_of_ble_eq_true rfl) dX8_typeOfPi_9 ?_
  refine r_istore_n (lv' := [(3, .int v5), (2, .int v1), (0, .ref (x_ad x 0 7 0)), (1, .int a1)]) hx dX8_typeOfPi_12 rfl (by decide) rfl ?_
  refine r_iload_n (k0 := 0) hx dX8_typeOfPi_13 rfl rfl ?_
  refine r_if_le (tgt := 19) hx dX8_typeOfPi_14 (by decide) (fun c6 => ?_) (fun c6 => ?_)
  · have h := ite_t h c6
    refine r_aload_n (k0 := 2) hx dX8_typeOfPi_19 rfl rfl ?_
    refine g_375 hx (k_0_7 hKS) wf_X8_228 dX8_typeOfPi_20 ?_
    obtain ⟨v7, e8, h⟩ := bV_some h
    rw [← e8]
    refine r_istore (lv' := [(4, .int v7), (3, .int v5), (2, .int v1), (0, .ref (x_ad x 0 7 0)), (1, .int a1)]) hx dX8_typeOfPi_23 (by decide) rfl ?_
    refine r_aload_n (k0 := 3) hx dX8_typeOfPi_25 rfl rfl ?_
    refine g_382 hx (k_0_7 hKS) wf_X8_85 dX8_typeOfPi_26 ?_
    refine r_aload_n (k0 := 3) hx dX8_typeOfPi_29 rfl rfl ?_
    refine g_383 hx (k_0_7 hKS) wf_X8_261 dX8_typeOfPi_30 ?_
    refine r_iload_n (k0 := 4) hx dX8_typeOfPi_33 rfl rfl ?_
    refine r_iconst (v := 1) hx dX8_typeOfPi_34 (by decide) ?_
    refine r_iadd hx dX8_typeOfPi_35 ?_
    obtain ⟨S9, e10, i11, h⟩ := pI_some h
    refine r_iast hx (k_1_382 hKS) rfl i11 e10 dX8_typeOfPi_36 ?_
    refine r_aload_n (k0 := 3) hx dX8_typeOfPi_37 rfl rfl ?_
    refine r_dup hx dX8_typeOfPi_38 rfl ?_
    refine g_383 hx (k_0_7 hKS) wf_X8_261 dX8_typeOfPi_39 ?_
    refine r_iconst (v := 1) hx dX8_typeOfPi_42 (by decide) ?_
    refine r_iadd hx dX8_typeOfPi_43 ?_
    obtain ⟨S12, e13, h⟩ := pS_some h
    refine p_383 hx (k_0_7 hKS) wf_X8_261 dX8_typeOfPi_44 e13 ?_
    refine r_aload_n (k0 := 3) hx dX8_typeOfPi_47 rfl rfl ?_
    refine r_aload_n (k0 := 3) hx dX8_typeOfPi_48 rfl rfl ?_
    refine g_367 hx (k_0_7 hKS) wf_X8_53 dX8_typeOfPi_49 ?_
    refine r_iload_n (k0 := 4) hx dX8_typeOfPi_52 rfl rfl ?_
    refine r_iconst (v := 1) hx dX8_typeOfPi_53 (by decide) ?_
    refine r_iadd hx dX8_typeOfPi_54 ?_
    obtain ⟨S14, v16, c15, h⟩ := bI_some h
    refine r_Si (As := [.ref (x_ad x 1 367 0), .int (a1 + 1)]) (rest := [.ref (x_ad x 0 7 0)]) hx (C_X8_behindTerm (c := x_y x) hKS km_367 c15) wl_X8_197 wt_X8_behindTerm wn_X8 wc_X8_behindTerm dy_X8_behindTerm rfl (by rw [hR]; exact ry_X8_typeOfPi_X8_behindTerm) rfl (Nat.le_of_ble_eq_true rfl) dX8_typeOfPi_55 ?_
    obtain ⟨S17, v19, c18, h⟩ := bI_some h
    refine r_Vi (ci := 7) (As := [.int v16]) (rest := []) hx (C_X8_ofSort (c := x_y x) hKS hF c18) (k_0_7 hKS) rfl wl_X8_267 wi_X8_ofSort we_X8_ofSort wn_X8 wc_X8_ofSort dy_X8_ofSort rfl (by rw [hR]; exact ry_X8_typeOfPi_X8_ofSort) rfl (Nat.le_of_ble_eq_true rfl) dX8_typeOfPi_58 ?_
    refine r_istore_n (lv' := [(3, .int v19), (4, .int v7), (2, .int v1), (0, .ref (x_ad x 0 7 0)), (1, .int a1)]) hx dX8_typeOfPi_61 rfl (by decide) rfl ?_
    refine r_aload_n (k0 := 3) hx dX8_typeOfPi_62 rfl rfl ?_
    refine r_dup hx dX8_typeOfPi_63 rfl ?_
    refine g_383 hx (k_0_7 hKS) wf_X8_261 dX8_typeOfPi_64 ?_
    refine r_iconst (v := 1) hx dX8_typeOfPi_67 (by decide) ?_
    refine r_isub hx dX8_typeOfPi_68 ?_
    obtain ⟨S20, e21, h⟩ := pS_some h
    refine p_383 hx (k_0_7 hKS) wf_X8_261 dX8_typeOfPi_69 e21 ?_
    refine r_iload_n (k0 := 0) hx dX8_typeOfPi_72 rfl rfl ?_
    refine r_if_le (tgt := 78) hx dX8_typeOfPi_73 (by decide) (fun c22 => ?_) (fun c22 => ?_)
    · have h := ite_t h c22
      refine r_aload_n (k0 := 3) hx dX8_typeOfPi_78 rfl rfl ?_
      refine r_iconst (v := 0) hx dX8_typeOfPi_79 (by decide) ?_
      obtain ⟨S23, e24, h⟩ := pS_some h
      refine p_373 hx (k_0_7 hKS) wf_X8_159 dX8_typeOfPi_80 e24 ?_
      refine r_aload_n (k0 := 3) hx dX8_typeOfPi_83 rfl rfl ?_
      refine r_iconst (v := 0) hx dX8_typeOfPi_84 (by decide) ?_
      obtain ⟨S25, e26, h⟩ := pS_some h
      refine p_380 hx (k_0_7 hKS) wf_X8_162 (by decide) dX8_typeOfPi_85 e26 ?_
      refine r_aload_n (k0 := 3) hx dX8_typeOfPi_88 rfl rfl ?_
      refine r_iconst (v := 0) hx dX8_typeOfPi_89 (by decide) ?_
      obtain ⟨S27, c28, h⟩ := bU_some h
      refine r_Vv (ci := 7) (As := [.int 0]) (rest := []) hx (C_X8_put (c := x_y x) hKS c28) (k_0_7 hKS) rfl wl_X8_165 wi_X8_put we_X8_put wn_X8 wc_X8_put dy_X8_put rfl (by rw [hR]; exact ry_X8_typeOfPi_X8_put) rfl (Nat.le_of_ble_eq_true rfl) dX8_typeOfPi_90 ?_
      refine r_aload_n (k0 := 3) hx dX8_typeOfPi_93 rfl rfl ?_
      refine r_iconst (v := 3) hx dX8_typeOfPi_94 (by decide) ?_
      obtain ⟨S29, c30, h⟩ := bU_some h
      refine r_Vv (ci := 7) (As := [.int 3]) (rest := []) hx (C_X8_put (c := x_y x) hKS c30) (k_0_7 hKS) rfl wl_X8_165 wi_X8_put we_X8_put wn_X8 wc_X8_put dy_X8_put rfl (by rw [hR]; exact ry_X8_typeOfPi_X8_put) rfl (Nat.le_of_ble_eq_true rfl) dX8_typeOfPi_95 ?_
      refine r_aload_n (k0 := 3) hx dX8_typeOfPi_98 rfl rfl ?_
      refine r_aload_n (k0 := 3) hx dX8_typeOfPi_99 rfl rfl ?_
      refine g_371 hx (k_0_7 hKS) wf_X8_66 dX8_typeOfPi_100 ?_
      refine r_iload_n (k0 := 2) hx dX8_typeOfPi_103 rfl rfl ?_
      refine r_iconst (v := 1) hx dX8_typeOfPi_104 (by decide) ?_
      refine r_iadd hx dX8_typeOfPi_105 ?_
      refine r_iload (k0 := 1) hx dX8_typeOfPi_106 rfl ?_
      obtain ⟨S31, c32, h⟩ := bU_some h
      refine r_Vv (ci := 7) (As := [.ref (x_ad x 1 371 0), .int (v1 + 1), .int v7]) (rest := []) hx (C_X8_copy (c := x_y x) hKS km_371 c32) (k_0_7 hKS) rfl wl_X8_169 wi_X8_copy we_X8_copy wn_X8 wc_X8_copy dy_X8_copy rfl (by rw [hR]; exact ry_X8_typeOfPi_X8_copy) rfl (Nat.le_of_ble_eq_true rfl) dX8_typeOfPi_108 ?_
      refine r_aload_n (k0 := 3) hx dX8_typeOfPi_111 rfl rfl ?_
      refine r_aload_n (k0 := 3) hx dX8_typeOfPi_112 rfl rfl ?_
      refine g_371 hx (k_0_7 hKS) wf_X8_66 dX8_typeOfPi_113 ?_
      refine r_iload (k0 := 1) hx dX8_typeOfPi_116 rfl ?_
      refine r_iconst (v := 1) hx dX8_typeOfPi_118 (by decide) ?_
      refine r_iadd hx dX8_typeOfPi_119 ?_
      refine r_aload_n (k0 := 3) hx dX8_typeOfPi_120 rfl rfl ?_
      refine g_375 hx (k_0_7 hKS) wf_X8_228 dX8_typeOfPi_121 ?_
      obtain ⟨S33, c34, h⟩ := bU_some h
      refine r_Vv (ci := 7) (As := [.ref (x_ad x 1 371 0), .int (v7 + 1), .int (S31.1 375 0)]) (rest := []) hx (C_X8_copy (c := x_y x) hKS km_371 c34) (k_0_7 hKS) rfl wl_X8_169 wi_X8_copy we_X8_copy wn_X8 wc_X8_copy dy_X8_copy rfl (by rw [hR]; exact ry_X8_typeOfPi_X8_copy) rfl (Nat.le_of_ble_eq_true rfl) dX8_typeOfPi_124 ?_
      refine r_aload_n (k0 := 3) hx dX8_typeOfPi_127 rfl rfl ?_
      refine r_iload_n (k0 := 2) hx dX8_typeOfPi_128 rfl rfl ?_
      obtain ⟨S35, v37, c36, h⟩ := bI_some h
      refine r_Vi (ci := 7) (As := [.int v1]) (rest := []) hx (C_X8_settle (c := x_y x) hKS c36) (k_0_7 hKS) rfl wl_X8_264 wi_X8_settle we_X8_settle wn_X8 wc_X8_settle dy_X8_settle rfl (by rw [hR]; exact ry_X8_typeOfPi_X8_settle) rfl (Nat.le_of_ble_eq_true rfl) dX8_typeOfPi_129 ?_
      exact r_iret hE h dX8_typeOfPi_132
    · have h := ite_f h c22
      refine r_iload_n (k0 := 0) hx dX8_typeOfPi_76 rfl rfl ?_
      exact r_iret hE h dX8_typeOfPi_77
  · have h := ite_f h c6
    refine r_iload_n (k0 := 0) hx dX8_typeOfPi_17 rfl rfl ?_
    exact r_iret hE h dX8_typeOfPi_18
set_option maxHeartbeats 4000000 in
theorem C_X8_typeOfPi {n d : Nat} {F : St → Int32 → Option (St × Int32)} {c : YC} (hKS : ∀ k ∈ KM, k ∈ c.2.2.2.2) (hF : ∀ {S : St} {a1 : Int32} {out : St × Int32}, F S a1 = some out → MI (c) yX8_typeOf cX8_typeOf 2 (some .int) (rm_X8_typeOf d) S [.ref ((c).2.2.1 0 7 0), .int a1] out) {S : St} {a1 : Int32} {out : St × Int32} (h : f_X8_typeOfPi n F S a1 = some out) : MI c yX8_typeOfPi cX8_typeOfPi 5 (some .int) (rm_X8_typeOfPi d) S [.ref (c.2.2.1 0 7 0), .int a1] out := mk_I (own := RX8) (by decide +kernel) rfl (Nat.le_of_ble_eq_true rfl) (fun x hx hR hy hE => by subst hy; exact t_X8_typeOfPi_0 hx hR hKS hE hF h)
def f_X8_typeOfLambda (n : Nat) (F : St → Int32 → Option (St × Int32)) (S : St) (a1 : Int32) : Option (St × Int32) :=
  bV (S.1 375 0) fun v1 =>
  bI (f_X8_ofSort n F S (a1 + 1)) fun S3 v5 =>
  if v5 ≤ 0 then
    pS S3 375 0 v1 fun S7 =>
    bI (f_X8_behindTerm n S7 367 (a1 + 1)) fun S9 v11 =>
    pI S9 382 0 (S9.1 383 0) 300 (a1 + 1) fun S12 =>
    pS S12 383 0 ((S12.1 383 0) + 1) fun S15 =>
    bI (F S15 v11) fun S17 v19 =>
    pS S17 383 0 ((S17.1 383 0) - 1) fun S20 =>
    if v19 ≤ 0 then
      pS S20 373 0 0 fun S23 =>
      pS S23 380 0 0 fun S25 =>
      bU (f_X8_put n S25 3) fun S27 =>
      bU (f_X8_copy n S27 367 (a1 + 1) v11) fun S29 =>
      bU (f_X8_copy n S29 371 v1 (S29.1 375 0)) fun S31 =>
      bI (f_X8_settle n S31 v1) fun S33 v35 =>
      some (S33, v35)
    else
      some (S20, v19)
  else
    some (S3, v5)
set_option maxRecDepth 100000 in
set_option maxHeartbeats 4000000 in
theorem t_X8_typeOfLambda_0 {n : Nat} {d : Nat} {F : St → Int32 → Option (St × Int32)} {x : XC} (hx : CX x cX8_typeOfLambda 5 RX8) (hR : x_R x = (rm_X8_typeOfLambda d)) (hKS : ∀ k ∈ KM, k ∈ x_K x) {out : St × Int32} (hE : EI x cX8_typeOfLambda out) (hF : ∀ {S : St} {a1 : Int32} {out : St × Int32}, F S a1 = some out → MI (x_y x) yX8_typeOf cX8_typeOf 2 (some .int) (rm_X8_typeOf d) S [.ref (x_ad x 0 7 0), .int a1] out) {S : St} {a1 : Int32} (h : f_X8_typeOfLambda n F S a1 = some out) : WX x 5 0 0 S 0 [(0, .ref (x_ad x 0 7 0)), (1, .int a1)] [] := by
  unfold f_X8_typeOfLambda at h
  refine r_aload_n (k0 := 0) hx dX8_typeOfLambda_0 rfl rfl ?_
  refine g_375 hx (k_0_7 hKS) wf_X8_228 dX8_typeOfLambda_1 ?_
  obtain ⟨v1, e2, h⟩ := bV_some h
  rw [← e2]
  refine r_istore_n (lv' := [(2, .int v1), (0, .ref (x_ad x 0 7 0)), (1, .int a1)]) hx dX8_typeOfLambda_4 rfl (by decide) rfl ?_
  refine r_aload_n (k0 := 1) hx dX8_typeOfLambda_5 rfl rfl ?_
  refine r_iload_n (k0 := 2) hx dX8_typeOfLambda_6 rfl rfl ?_
  refine r_iconst (v := 1) hx dX8_typeOfLambda_7 (by decide) ?_
  refine r_iadd hx dX8_typeOfLambda_8 ?_
  obtain ⟨S3, v5, c4, h⟩ := bI_some h
  refine r_Vi (ci := 7) (As := [.int (a1 + 1)]) (rest := []) hx (C_X8_ofSort (c := x_y x) hKS hF c4) (k_0_7 hKS) rfl wl_X8_267 wi_X8_ofSort we_X8_ofSort wn_X8 wc_X8_ofSort dy_X8_ofSort rfl (by rw [hR]; exact ry_X8_typeOfLambda_X8_ofSort) rfl (Nat.le_of_ble_eq_true rfl) dX8_typeOfLambda_9 ?_
  refine r_istore_n (lv' := [(3, .int v5), (2, .int v1), (0, .ref (x_ad x 0 7 0)), (1, .int a1)]) hx dX8_typeOfLambda_12 rfl (by decide) rfl ?_
  refine r_iload_n (k0 := 0) hx dX8_typeOfLambda_13 rfl rfl ?_
  refine r_if_le (tgt := 19) hx dX8_typeOfLambda_14 (by decide) (fun c6 => ?_) (fun c6 => ?_)
  · have h := ite_t h c6
    refine r_aload_n (k0 := 2) hx dX8_typeOfLambda_19 rfl rfl ?_
    refine r_iload_n (k0 := 1) hx dX8_typeOfLambda_20 rfl rfl ?_
    obtain ⟨S7, e8, h⟩ := pS_some h
    refine p_375 hx (k_0_7 hKS) wf_X8_228 dX8_typeOfLambda_21 e8 ?_
    refine r_aload_n (k0 := 2) hx dX8_typeOfLambda_24 rfl rfl ?_
    refine g_367 hx (k_0_7 hKS) wf_X8_53 dX8_typeOfLambda_25 ?_
    refine r_iload_n (k0 := 3) hx dX8_typeOfLambda_28 rfl rfl ?_
    refine r_iconst (v := 1) hx dX8_typeOfLambda_29 (by decide) ?_
    refine r_iadd hx dX8_typeOfLambda_30 ?_
    obtain ⟨S9, v11, c10, h⟩ := bI_some h
    refine r_Si (As := [.ref (x_ad x 1 367 0), .int (a1 + 1)]) (rest := []) hx (C_X8_behindTerm (c := x_y x) hKS km_367 c10) wl_X8_197 wt_X8_behindTerm wn_X8 wc_X8_behindTerm dy_X8_behindTerm rfl (by rw [hR]; exact ry_X8_typeOfLambda_X8_behindTerm) rfl (Nat.le_of_ble_eq_true rfl) dX8_typeOfLambda_31 ?_
    refine r_istore (lv' := [(4, .int v11), (3, .int v5), (2, .int v1), (0, .ref (x_ad x 0 7 0)), (1, .int a1)]) hx dX8_typeOfLambda_34 (by decide) rfl ?_
    refine r_aload_n (k0 := 3) hx dX8_typeOfLambda_36 rfl rfl ?_
    refine g_382 hx (k_0_7 hKS) wf_X8_85 dX8_typeOfLambda_37 ?_
    refine r_aload_n (k0 := 3) hx dX8_typeOfLambda_40 rfl rfl ?_
    refine g_383 hx (k_0_7 hKS) wf_X8_261 dX8_typeOfLambda_41 ?_
    refine r_iload_n (k0 := 4) hx dX8_typeOfLambda_44 rfl rfl ?_
    refine r_iconst (v := 1) hx dX8_typeOfLambda_45 (by decide) ?_
    refine r_iadd hx dX8_typeOfLambda_46 ?_
    obtain ⟨S12, e13, i14, h⟩ := pI_some h
    refine r_iast hx (k_1_382 hKS) rfl i14 e13 dX8_typeOfLambda_47 ?_
    refine r_aload_n (k0 := 3) hx dX8_typeOfLambda_48 rfl rfl ?_
    refine r_dup hx dX8_typeOfLambda_49 rfl ?_
    refine g_383 hx (k_0_7 hKS) wf_X8_261 dX8_typeOfLambda_50 ?_
    refine r_iconst (v := 1) hx dX8_typeOfLambda_53 (by decide) ?_
    refine r_iadd hx dX8_typeOfLambda_54 ?_
    obtain ⟨S15, e16, h⟩ := pS_some h
    refine p_383 hx (k_0_7 hKS) wf_X8_261 dX8_typeOfLambda_55 e16 ?_
    refine r_aload_n (k0 := 3) hx dX8_typeOfLambda_58 rfl rfl ?_
    refine r_iload (k0 := 0) hx dX8_typeOfLambda_59 rfl ?_
    obtain ⟨S17, v19, c18, h⟩ := bI_some h
    refine r_Vi (ci := 7) (As := [.int v11]) (rest := []) hx (hF c18) (k_0_7 hKS) rfl wl_X8_240 wi_X8_typeOf we_X8_typeOf wn_X8 wc_X8_typeOf dy_X8_typeOf rfl (by rw [hR]; exact ry_X8_typeOfLambda_X8_typeOf) rfl (Nat.le_of_ble_eq_true rfl) dX8_typeOfLambda_61 ?_
    refine r_istore_n (lv' := [(3, .int v19), (4, .int v11), (2, .int v1), (0, .ref (x_ad x 0 7 0)), (1, .int a1)]) hx dX8_typeOfLambda_64 rfl (by decide) rfl ?_
    refine r_aload_n (k0 := 3) hx dX8_typeOfLambda_65 rfl rfl ?_
    refine r_dup hx dX8_typeOfLambda_66 rfl ?_
    refine g_383 hx (k_0_7 hKS) wf_X8_261 dX8_typeOfLambda_67 ?_
    refine r_iconst (v := 1) hx dX8_typeOfLambda_70 (by decide) ?_
    refine r_isub hx dX8_typeOfLambda_71 ?_
    obtain ⟨S20, e21, h⟩ := pS_some h
    refine p_383 hx (k_0_7 hKS) wf_X8_261 dX8_typeOfLambda_72 e21 ?_
    refine r_iload_n (k0 := 0) hx dX8_typeOfLambda_75 rfl rfl ?_
    refine r_if_le (tgt := 81) hx dX8_typeOfLambda_76 (by decide) (fun c22 => ?_) (fun c22 => ?_)
    · have h := ite_t h c22
      refine r_aload_n (k0 := 3) hx dX8_typeOfLambda_81 rfl rfl ?_
      refine r_iconst (v := 0) hx dX8_typeOfLambda_82 (by decide) ?_
      obtain ⟨S23, e24, h⟩ := pS_some h
      refine p_373 hx (k_0_7 hKS) wf_X8_159 dX8_typeOfLambda_83 e24 ?_
      refine r_aload_n (k0 := 3) hx dX8_typeOfLambda_86 rfl rfl ?_
      refine r_iconst (v := 0) hx dX8_typeOfLambda_87 (by decide) ?_
      obtain ⟨S25, e26, h⟩ := pS_some h
      refine p_380 hx (k_0_7 hKS) wf_X8_162 (by decide) dX8_typeOfLambda_88 e26 ?_
      refine r_aload_n (k0 := 3) hx dX8_typeOfLambda_91 rfl rfl ?_
      refine r_iconst (v := 3) hx dX8_typeOfLambda_92 (by decide) ?_
      obtain ⟨S27, c28, h⟩ := bU_some h
      refine r_Vv (ci := 7) (As := [.int 3]) (rest := []) hx (C_X8_put (c := x_y x) hKS c28) (k_0_7 hKS) rfl wl_X8_165 wi_X8_put we_X8_put wn_X8 wc_X8_put dy_X8_put rfl (by rw [hR]; exact ry_X8_typeOfLambda_X8_put) rfl (Nat.le_of_ble_eq_true rfl) dX8_typeOfLambda_93 ?_
      refine r_aload_n (k0 := 3) hx dX8_typeOfLambda_96 rfl rfl ?_
      refine r_aload_n (k0 := 3) hx dX8_typeOfLambda_97 rfl rfl ?_
      refine g_367 hx (k_0_7 hKS) wf_X8_53 dX8_typeOfLambda_98 ?_
      refine r_iload_n (k0 := 4) hx dX8_typeOfLambda_101 rfl rfl ?_
      refine r_iconst (v := 1) hx dX8_typeOfLambda_102 (by decide) ?_
      refine r_iadd hx dX8_typeOfLambda_103 ?_
      refine r_iload (k0 := 1) hx dX8_typeOfLambda_104 rfl ?_
      obtain ⟨S29, c30, h⟩ := bU_some h
      refine r_Vv (ci := 7) (As := [.ref (x_ad x 1 367 0), .int (a1 + 1), .int v11]) (rest := []) hx (C_X8_copy (c := x_y x) hKS km_367 c30) (k_0_7 hKS) rfl wl_X8_169 wi_X8_copy we_X8_copy wn_X8 wc_X8_copy dy_X8_copy rfl (by rw [hR]; exact ry_X8_typeOfLambda_X8_copy) rfl (Nat.le_of_ble_eq_true rfl) dX8_typeOfLambda_106 ?_
      refine r_aload_n (k0 := 3) hx dX8_typeOfLambda_109 rfl rfl ?_
      refine r_aload_n (k0 := 3) hx dX8_typeOfLambda_110 rfl rfl ?_
      refine g_371 hx (k_0_7 hKS) wf_X8_66 dX8_typeOfLambda_111 ?_
      refine r_iload_n (k0 := 2) hx dX8_typeOfLambda_114 rfl rfl ?_
      refine r_aload_n (k0 := 3) hx dX8_typeOfLambda_115 rfl rfl ?_
      refine g_375 hx (k_0_7 hKS) wf_X8_228 dX8_typeOfLambda_116 ?_
      obtain ⟨S31, c32, h⟩ := bU_some h
      refine r_Vv (ci := 7) (As := [.ref (x_ad x 1 371 0), .int v1, .int (S29.1 375 0)]) (rest := []) hx (C_X8_copy (c := x_y x) hKS km_371 c32) (k_0_7 hKS) rfl wl_X8_169 wi_X8_copy we_X8_copy wn_X8 wc_X8_copy dy_X8_copy rfl (by rw [hR]; exact ry_X8_typeOfLambda_X8_copy) rfl (Nat.le_of_ble_eq_true rfl) dX8_typeOfLambda_119 ?_
      refine r_aload_n (k0 := 3) hx dX8_typeOfLambda_122 rfl rfl ?_
      refine r_iload_n (k0 := 2) hx dX8_typeOfLambda_123 rfl rfl ?_
      obtain ⟨S33, v35, c34, h⟩ := bI_some h
      refine r_Vi (ci := 7) (As := [.int v1]) (rest := []) hx (C_X8_settle (c := x_y x) hKS c34) (k_0_7 hKS) rfl wl_X8_264 wi_X8_settle we_X8_settle wn_X8 wc_X8_settle dy_X8_settle rfl (by rw [hR]; exact ry_X8_typeOfLambda_X8_settle) rfl (Nat.le_of_ble_eq_true rfl) dX8_typeOfLambda_124 ?_
      exact r_iret hE h dX8_typeOfLambda_127
    · have h := ite_f h c22
      refine r_iload_n (k0 := 0) hx dX8_typeOfLambda_79 rfl rfl ?_
      exact r_iret hE h dX8_typeOfLambda_80
  · have h := ite_f h c6
    refine r_iload_n (k0 := 0) hx dX8_typeOfLambda_17 rfl rfl ?_
    exact r_iret hE h dX8_typeOfLambda_18
set_option maxHeartbeats 4000000 in
theorem C_X8_typeOfLambda {n d : Nat} {F : St → Int32 → Option (St × Int32)} {c : YC} (hKS : ∀ k ∈ KM, k ∈ c.2.2.2.2) (hF : ∀ {S : St} {a1 : Int32} {out : St × Int32}, F S a1 = some out → MI (c) yX8_typeOf cX8_typeOf 2 (some .int) (rm_X8_typeOf d) S [.ref ((c).2.2.1 0 7 0), .int a1] out) {S : St} {a1 : Int32} {out : St × Int32} (h : f_X8_typeOfLambda n F S a1 = some out) : MI c yX8_typeOfLambda cX8_typeOfLambda 5 (some .int) (rm_X8_typeOfLambda d) S [.ref (c.2.2.1 0 7 0), .int a1] out := mk_I (own := RX8) (by decide +kernel) rfl (Nat.le_of_ble_eq_true rfl) (fun x hx hR hy hE => by subst hy; exact t_X8_typeOfLambda_0 hx hR hKS hE hF h)
def j_X8_typeOfApply_84 (n : Nat) (F : St → Int32 → Option (St × Int32)) (S : St) (l2 : Int32) (l4 : Int32) (l5 : Int32) (s0 : Int32) : Option (St × Int32) :=
  if s0 ≤ 0 then
    bI (f_X8_isSame n S 371 l5 371 (l2 + 1)) fun S2 v4 =>
    if v4 = 0 then
      some (S2, 3)
    else
      pS S2 373 0 0 fun S6 =>
      pS S6 380 0 0 fun S8 =>
      bI (f_X8_behindTerm n S8 371 (l2 + 1)) fun S10 v12 =>
      bU (f_X8_with n S10 371 v12 367 l4) fun S13 =>
      bI (f_X8_settle n S13 l2) fun S15 v17 =>
      some (S15, v17)
  else
    some (S, s0)
def j_X8_typeOfApply_26 (n : Nat) (F : St → Int32 → Option (St × Int32)) (S : St) (l1 : Int32) (l2 : Int32) (s0 : Int32) : Option (St × Int32) :=
  if s0 ≤ 0 then
    gI S 371 0 l2 1500000 fun v2 =>
    if v2 = 3 then
      bI (f_X8_behindTerm n S 367 (l1 + 1)) fun S6 v8 =>
      bV (S6.1 375 0) fun v9 =>
      bI (F S6 v8) fun S11 v13 =>
      if v13 = 0 then
        bI (f_X8_normalAt n S11 v9) fun S15 v17 =>
        j_X8_typeOfApply_84 n F S15 l2 v8 v9 v17
      else
        j_X8_typeOfApply_84 n F S11 l2 v8 v9 v13
    else
      some (S, 2)
  else
    some (S, s0)
def f_X8_typeOfApply (n : Nat) (F : St → Int32 → Option (St × Int32)) (S : St) (a1 : Int32) : Option (St × Int32) :=
  bV (S.1 375 0) fun v1 =>
  bI (F S (a1 + 1)) fun S3 v5 =>
  if v5 = 0 then
    bI (f_X8_normalAt n S3 v1) fun S7 v9 =>
    j_X8_typeOfApply_26 n F S7 a1 v1 v9
  else
    j_X8_typeOfApply_26 n F S3 a1 v1 v5
set_option maxRecDepth 100000 in
set_option maxHeartbeats 4000000 in
theorem t_X8_typeOfApply_84 {n : Nat} {d : Nat} {F : St → Int32 → Option (St × Int32)} {x : XC} (hx : CX x cX8_typeOfApply 6 RX8) (hR : x_R x = (rm_X8_typeOfApply d)) (hKS : ∀ k ∈ KM, k ∈ x_K x) {out : St × Int32} (hE : EI x cX8_typeOfApply out) (hF : ∀ {S : St} {a1 : Int32} {out : St × Int32}, F S a1 = some out → MI (x_y x) yX8_typeOf cX8_typeOf 2 (some .int) (rm_X8_typeOf d) S [.ref (x_ad x 0 7 0), .int a1] out) {S : St} {l2 : Int32} {l4 : Int32} {l5 : Int32} {s0 : Int32} (h : j_X8_typeOfApply_84 n F S l2 l4 l5 s0 = some out) : WX x 6 0 0 S 84 [(0, .ref (x_ad x 0 7 0)), (2, .int l2), (4, .int l4), (5, .int l5)] [.int s0] := by
  unfold j_X8_typeOfApply_84 at h
  refine r_istore_n (lv' := [(3, .int s0), (0, .ref (x_ad x 0 7 0)), (2, .int l2), (4, .int l4), (5, .int l5)]) hx dX8_typeOfApply_84 rfl (by decide) rfl ?_
  refine r_iload_n (k0 := 0) hx dX8_typeOfApply_85 rfl rfl ?_
  refine r_if_le (tgt := 91) hx dX8_typeOfApply_86 (by decide) (fun c1 => ?_) (fun c1 => ?_)
  · have h := ite_t h c1
    refine r_aload_n (k0 := 1) hx dX8_typeOfApply_91 rfl rfl ?_
    refine r_aload_n (k0 := 1) hx dX8_typeOfApply_92 rfl rfl ?_
    refine g_371 hx (k_0_7 hKS) wf_X8_66 dX8_typeOfApply_93 ?_
    refine r_iload (k0 := 4) hx dX8_typeOfApply_96 rfl ?_
    refine r_aload_n (k0 := 1) hx dX8_typeOfApply_98 rfl rfl ?_
    refine g_371 hx (k_0_7 hKS) wf_X8_66 dX8_typeOfApply_99 ?_
    refine r_iload_n (k0 := 2) hx dX8_typeOfApply_102 rfl rfl ?_
    refine r_iconst (v := 1) hx dX8_typeOfApply_103 (by decide) ?_
    refine r_iadd hx dX8_typeOfApply_104 ?_
    obtain ⟨S2, v4, c3, h⟩ := bI_some h
    refine r_Vi (ci := 7) (As := [.ref (x_ad x 1 371 0), .int l5, .ref (x_ad x 1 371 0), .int (l2 + 1)]) (rest := []) hx (C_X8_isSame (c := x_y x) hKS km_371 km_371 c3) (k_0_7 hKS) rfl wl_X8_270 wi_X8_isSame we_X8_isSame wn_X8 wc_X8_isSame dy_X8_isSame rfl (by rw [hR]; exact ry_X8_typeOfApply_X8_isSame) rfl (Nat.le_of_ble_eq_true rfl) dX8_typeOfApply_105 ?_
    refine r_if_ne (tgt := 113) hx dX8_typeOfApply_108 (by decide) (fun c5 => ?_) (fun c5 => ?_)
    · have h := ite_f h c5
      refine r_aload_n (k0 := 1) hx dX8_typeOfApply_113 rfl rfl ?_
      refine r_iconst (v := 0) hx dX8_typeOfApply_114 (by decide) ?_
      obtain ⟨S6, e7, h⟩ := pS_some h
      refine p_373 hx (k_0_7 hKS) wf_X8_159 dX8_typeOfApply_115 e7 ?_
      refine r_aload_n (k0 := 1) hx dX8_typeOfApply_118 rfl rfl ?_
      refine r_iconst (v := 0) hx dX8_typeOfApply_119 (by decide) ?_
      obtain ⟨S8, e9, h⟩ := pS_some h
      refine p_380 hx (k_0_7 hKS) wf_X8_162 (by decide) dX8_typeOfApply_120 e9 ?_
      refine r_aload_n (k0 := 1) hx dX8_typeOfApply_123 rfl rfl ?_
      refine r_aload_n (k0 := 1) hx dX8_typeOfApply_124 rfl rfl ?_
      refine g_371 hx (k_0_7 hKS) wf_X8_66 dX8_typeOfApply_125 ?_
      refine r_aload_n (k0 := 1) hx dX8_typeOfApply_128 rfl rfl ?_
      refine g_371 hx (k_0_7 hKS) wf_X8_66 dX8_typeOfApply_129 ?_
      refine r_iload_n (k0 := 2) hx dX8_typeOfApply_132 rfl rfl ?_
      refine r_iconst (v := 1) hx dX8_typeOfApply_133 (by decide) ?_
      refine r_iadd hx dX8_typeOfApply_134 ?_
      obtain ⟨S10, v12, c11, h⟩ := bI_some h
      refine r_Si (As := [.ref (x_ad x 1 371 0), .int (l2 + 1)]) (rest := [.ref (x_ad x 1 371 0), .ref (x_ad x 0 7 0)]) hx (C_X8_behindTerm (c := x_y x) hKS km_371 c11) wl_X8_197 wt_X8_behindTerm wn_X8 wc_X8_behindTerm dy_X8_behindTerm rfl (by rw [hR]; exact ry_X8_typeOfApply_X8_behindTerm) rfl (Nat.le_of_ble_eq_true rfl) dX8_typeOfApply_135 ?_
      refine r_aload_n (k0 := 1) hx dX8_typeOfApply_138 rfl rfl ?_
      refine g_367 hx (k_0_7 hKS) wf_X8_53 dX8_typeOfApply_139 ?_
      refine r_iload (k0 := 3) hx dX8_typeOfApply_142 rfl ?_
      obtain ⟨S13, c14, h⟩ := bU_some h
      refine r_Vv (ci := 7) (As := [.ref (x_ad x 1 371 0), .int v12, .ref (x_ad x 1 367 0), .int l4]) (rest := []) hx (C_X8_with (c := x_y x) hKS km_371 km_367 c14) (k_0_7 hKS) rfl wl_X8_204 wi_X8_with we_X8_with wn_X8 wc_X8_with dy_X8_with rfl (by rw [hR]; exact ry_X8_typeOfApply_X8_with) rfl (Nat.le_of_ble_eq_true rfl) dX8_typeOfApply_144 ?_
      refine r_aload_n (k0 := 1) hx dX8_typeOfApply_147 rfl rfl ?_
      refine r_iload_n (k0 := 2) hx dX8_typeOfApply_148 rfl rfl ?_
      obtain ⟨S15, v17, c16, h⟩ := bI_some h
      refine r_Vi (ci := 7) (As := [.int l2]) (rest := []) hx (C_X8_settle (c := x_y x) hKS c16) (k_0_7 hKS) rfl wl_X8_264 wi_X8_settle we_X8_settle wn_X8 wc_X8_settle dy_X8_settle rfl (by rw [hR]; exact ry_X8_typeOfApply_X8_settle) rfl (Nat.le_of_ble_eq_true rfl) dX8_typeOfApply_149 ?_
      exact r_iret hE h dX8_typeOfApply_152
    · have h := ite_t h c5
      refine r_iconst (v := 3) hx dX8_typeOfApply_111 (by decide) ?_
      exact r_iret hE h dX8_typeOfApply_112
  · have h := ite_f h c1
    refine r_iload_n (k0 := 0) hx dX8_typeOfApply_89 rfl rfl ?_
    exact r_iret hE h dX8_typeOfApply_90
set_option maxRecDepth 100000 in
set_option maxHeartbeats 4000000 in
theorem t_X8_typeOfApply_26 {n : Nat} {d : Nat} {F : St → Int32 → Option (St × Int32)} {x : XC} (hx : CX x cX8_typeOfApply 6 RX8) (hR : x_R x = (rm_X8_typeOfApply d)) (hKS : ∀ k ∈ KM, k ∈ x_K x) {out : St × Int32} (hE : EI x cX8_typeOfApply out) (hF : ∀ {S : St} {a1 : Int32} {out : St × Int32}, F S a1 = some out → MI (x_y x) yX8_typeOf cX8_typeOf 2 (some .int) (rm_X8_typeOf d) S [.ref (x_ad x 0 7 0), .int a1] out) {S : St} {l1 : Int32} {l2 : Int32} {s0 : Int32} (h : j_X8_typeOfApply_26 n F S l1 l2 s0 = some out) : WX x 6 0 0 S 26 [(0, .ref (x_ad x 0 7 0)), (1, .int l1), (2, .int l2)] [.int s0] := by
  unfold j_X8_typeOfApply_26 at h
  refine r_istore_n (lv' := [(3, .int s0), (0, .ref (x_ad x 0 7 0)), (1, .int l1), (2, .int l2)]) hx dX8_typeOfApply_26 rfl (by decide) rfl ?_
  refine r_iload_n (k0 := 0) hx dX8_typeOfApply_27 rfl rfl ?_
  refine r_if_le (tgt := 33) hx dX8_typeOfApply_28 (by decide) (fun c1 => ?_) (fun c1 => ?_)
  · have h := ite_t h c1
    refine r_aload_n (k0 := 1) hx dX8_typeOfApply_33 rfl rfl ?_
    refine g_371 hx (k_0_7 hKS) wf_X8_66 dX8_typeOfApply_34 ?_
    refine r_iload_n (k0 := 3) hx dX8_typeOfApply_37 rfl rfl ?_
    obtain ⟨v2, e3, i4, h⟩ := gI_some h
    refine r_iald hx (k_1_371 hKS) rfl i4 e3 dX8_typeOfApply_38 ?_
    refine r_iconst (v := 3) hx dX8_typeOfApply_39 (by decide) ?_
    refine r_icmp_eq (tgt := 45) hx dX8_typeOfApply_40 (by decide) (fun c5 => ?_) (fun c5 => ?_)
    · have h := ite_t h c5
      refine r_aload_n (k0 := 1) hx dX8_typeOfApply_45 rfl rfl ?_
      refine g_367 hx (k_0_7 hKS) wf_X8_53 dX8_typeOfApply_46 ?_
      refine r_iload_n (k0 := 2) hx dX8_typeOfApply_49 rfl rfl ?_
      refine r_iconst (v := 1) hx dX8_typeOfApply_50 (by decide) ?_
      refine r_iadd hx dX8_typeOfApply_51 ?_
      obtain ⟨S6, v8, c7, h⟩ := bI_some h
      refine r_Si (As := [.ref (x_ad x 1 367 0), .int (l1 + 1)]) (rest := []) hx (C_X8_behindTerm (c := x_y x) hKS km_367 c7) wl_X8_197 wt_X8_behindTerm wn_X8 wc_X8_behindTerm dy_X8_behindTerm rfl (by rw [hR]; exact ry_X8_typeOfApply_X8_behindTerm) rfl (Nat.le_of_ble_eq_true rfl) dX8_typeOfApply_52 ?_
      refine r_istore (lv' := [(4, .int v8), (3, .int s0), (0, .ref (x_ad x 0 7 0)), (1, .int l1), (2, .int l2)]) hx dX8_typeOfApply_55 (by decide) rfl ?_
      refine r_aload_n (k0 := 2) hx dX8_typeOfApply_57 rfl rfl ?_
      refine g_375 hx (k_0_7 hKS) wf_X8_228 dX8_typeOfApply_58 ?_
      obtain ⟨v9, e10, h⟩ := bV_some h
      rw [← e10]
      refine r_istore (lv' := [(5, .int v9), (4, .int v8), (3, .int s0), (0, .ref (x_ad x 0 7 0)), (1, .int l1), (2, .int l2)]) hx dX8_typeOfApply_61 (by decide) rfl ?_
      refine r_aload_n (k0 := 3) hx dX8_typeOfApply_63 rfl rfl ?_
      refine r_iload (k0 := 1) hx dX8_typeOfApply_64 rfl ?_
      obtain ⟨S11, v13, c12, h⟩ := bI_some h
      refine r_Vi (ci := 7) (As := [.int v8]) (rest := []) hx (hF c12) (k_0_7 hKS) rfl wl_X8_240 wi_X8_typeOf we_X8_typeOf wn_X8 wc_X8_typeOf dy_X8_typeOf rfl (by rw [hR]; exact ry_X8_typeOfApply_X8_typeOf) rfl (Nat.le_of_ble_eq_true rfl) dX8_typeOfApply_66 ?_
      refine r_istore_n (lv' := [(3, .int v13), (5, .int v9), (4, .int v8), (0, .ref (x_ad x 0 7 0)), (1, .int l1), (2, .int l2)]) hx dX8_typeOfApply_69 rfl (by decide) rfl ?_
      refine r_iload_n (k0 := 0) hx dX8_typeOfApply_70 rfl rfl ?_
      refine r_if_ne (tgt := 83) hx dX8_typeOfApply_71 (by decide) (fun c14 => ?_) (fun c14 => ?_)
      · have h := ite_f h c14
        refine r_iload_n (k0 := 0) hx dX8_typeOfApply_83 rfl rfl ?_
        refine WX.sub (lv' := [(0, .ref (x_ad x 0 7 0)), (2, .int l2), (4, .int v8), (5, .int v9)]) ?_ [3, 5, 2, 1] rfl
        exact t_X8_typeOfApply_84 hx hR hKS hE hF h
      · have h := ite_t h c14
        refine r_aload_n (k0 := 3) hx dX8_typeOfApply_74 rfl rfl ?_
        refine r_iload (k0 := 1) hx dX8_typeOfApply_75 rfl ?_
        obtain ⟨S15, v17, c16, h⟩ := bI_some h
        refine r_Vi (ci := 7) (As := [.int v9]) (rest := []) hx (C_X8_normalAt (c := x_y x) hKS c16) (k_0_7 hKS) rfl wl_X8_243 wi_X8_normalAt we_X8_normalAt wn_X8 wc_X8_normalAt dy_X8_normalAt rfl (by rw [hR]; exact ry_X8_typeOfApply_X8_normalAt) rfl (Nat.le_of_ble_eq_true rfl) dX8_typeOfApply_77 ?_
        refine r_goto (tgt := 84) hx dX8_typeOfApply_80 (by decide) ?_
        refine WX.sub (lv' := [(0, .ref (x_ad x 0 7 0)), (2, .int l2), (4, .int v8), (5, .int v9)]) ?_ [3, 5, 2, 1] rfl
        exact t_X8_typeOfApply_84 hx hR hKS hE hF h
    · have h := ite_f h c5
      refine r_iconst (v := 2) hx dX8_typeOfApply_43 (by decide) ?_
      exact r_iret hE h dX8_typeOfApply_44
  · have h := ite_f h c1
    refine r_iload_n (k0 := 0) hx dX8_typeOfApply_31 rfl rfl ?_
    exact r_iret hE h dX8_typeOfApply_32
set_option maxRecDepth 100000 in
set_option maxHeartbeats 4000000 in
theorem t_X8_typeOfApply_0 {n : Nat} {d : Nat} {F : St → Int32 → Option (St × Int32)} {x : XC} (hx : CX x cX8_typeOfApply 6 RX8) (hR : x_R x = (rm_X8_typeOfApply d)) (hKS : ∀ k ∈ KM, k ∈ x_K x) {out : St × Int32} (hE : EI x cX8_typeOfApply out) (hF : ∀ {S : St} {a1 : Int32} {out : St × Int32}, F S a1 = some out → MI (x_y x) yX8_typeOf cX8_typeOf 2 (some .int) (rm_X8_typeOf d) S [.ref (x_ad x 0 7 0), .int a1] out) {S : St} {a1 : Int32} (h : f_X8_typeOfApply n F S a1 = some out) : WX x 6 0 0 S 0 [(0, .ref (x_ad x 0 7 0)), (1, .int a1)] [] := by
  unfold f_X8_typeOfApply at h
  refine r_aload_n (k0 := 0) hx dX8_typeOfApply_0 rfl rfl ?_
  refine g_375 hx (k_0_7 hKS) wf_X8_228 dX8_typeOfApply_1 ?_
  obtain ⟨v1, e2, h⟩ := bV_some h
  rw [← e2]
  refine r_istore_n (lv' := [(2, .int v1), (0, .ref (x_ad x 0 7 0)), (1, .int a1)]) hx dX8_typeOfApply_4 rfl (by decide) rfl ?_
  refine r_aload_n (k0 := 1) hx dX8_typeOfApply_5 rfl rfl ?_
  refine r_iload_n (k0 := 2) hx dX8_typeOfApply_6 rfl rfl ?_
  refine r_iconst (v := 1) hx dX8_typeOfApply_7 (by decide) ?_
  refine r_iadd hx dX8_typeOfApply_8 ?_
  obtain ⟨S3, v5, c4, h⟩ := bI_some h
  refine r_Vi (ci := 7) (As := [.int (a1 + 1)]) (rest := []) hx (hF c4) (k_0_7 hKS) rfl wl_X8_240 wi_X8_typeOf we_X8_typeOf wn_X8 wc_X8_typeOf dy_X8_typeOf rfl (by rw [hR]; exact ry_X8_typeOfApply_X8_typeOf) rfl (Nat.le_of_ble_eq_true rfl) dX8_typeOfApply_9 ?_
  refine r_istore_n (lv' := [(3, .int v5), (2, .int v1), (0, .ref (x_ad x 0 7 0)), (1, .int a1)]) hx dX8_typeOfApply_12 rfl (by decide) rfl ?_
  refine r_iload_n (k0 := 0) hx dX8_typeOfApply_13 rfl rfl ?_
  refine r_if_ne (tgt := 25) hx dX8_typeOfApply_14 (by decide) (fun c6 => ?_) (fun c6 => ?_)
  · have h := ite_f h c6
    refine r_iload_n (k0 := 0) hx dX8_typeOfApply_25 rfl rfl ?_
    refine WX.sub (lv' := [(0, .ref (x_ad x 0 7 0)), (1, .int a1), (2, .int v1)]) ?_ [2, 3, 1] rfl
    exact t_X8_typeOfApply_26 hx hR hKS hE hF h
  · have h := ite_t h c6
    refine r_aload_n (k0 := 2) hx dX8_typeOfApply_17 rfl rfl ?_
    refine r_iload_n (k0 := 1) hx dX8_typeOfApply_18 rfl rfl ?_
    obtain ⟨S7, v9, c8, h⟩ := bI_some h
    refine r_Vi (ci := 7) (As := [.int v1]) (rest := []) hx (C_X8_normalAt (c := x_y x) hKS c8) (k_0_7 hKS) rfl wl_X8_243 wi_X8_normalAt we_X8_normalAt wn_X8 wc_X8_normalAt dy_X8_normalAt rfl (by rw [hR]; exact ry_X8_typeOfApply_X8_normalAt) rfl (Nat.le_of_ble_eq_true rfl) dX8_typeOfApply_19 ?_
    refine r_goto (tgt := 26) hx dX8_typeOfApply_22 (by decide) ?_
    refine WX.sub (lv' := [(0, .ref (x_ad x 0 7 0)), (1, .int a1), (2, .int v1)]) ?_ [2, 3, 1] rfl
    exact t_X8_typeOfApply_26 hx hR hKS hE hF h
set_option maxHeartbeats 4000000 in
theorem C_X8_typeOfApply {n d : Nat} {F : St → Int32 → Option (St × Int32)} {c : YC} (hKS : ∀ k ∈ KM, k ∈ c.2.2.2.2) (hF : ∀ {S : St} {a1 : Int32} {out : St × Int32}, F S a1 = some out → MI (c) yX8_typeOf cX8_typeOf 2 (some .int) (rm_X8_typeOf d) S [.ref ((c).2.2.1 0 7 0), .int a1] out) {S : St} {a1 : Int32} {out : St × Int32} (h : f_X8_typeOfApply n F S a1 = some out) : MI c yX8_typeOfApply cX8_typeOfApply 6 (some .int) (rm_X8_typeOfApply d) S [.ref (c.2.2.1 0 7 0), .int a1] out := mk_I (own := RX8) (by decide +kernel) rfl (Nat.le_of_ble_eq_true rfl) (fun x hx hR hy hE => by subst hy; exact t_X8_typeOfApply_0 hx hR hKS hE hF h)
def j_X8_typeOfLet_67 (n : Nat) (F : St → Int32 → Option (St × Int32)) (S : St) (l1 : Int32) (l2 : Int32) (l4 : Int32) (l5 : Int32) (s0 : Int32) : Option (St × Int32) :=
  if s0 ≤ 0 then
    bU (f_X8_load n S 367 (l1 + 1) l4) fun S2 =>
    bI (f_X8_normalize n S2) fun S4 v6 =>
    if 0 ≤ v6 then
      bI (f_X8_isSame n S4 371 l2 368 0) fun S8 v10 =>
      if v10 = 0 then
        some (S8, 6)
      else
        pS S8 375 0 l2 fun S12 =>
        pI S12 382 0 (S12.1 383 0) 300 (l1 + 1) fun S14 =>
        pS S14 383 0 ((S14.1 383 0) + 1) fun S17 =>
        bI (F S17 l5) fun S19 v21 =>
        pS S19 383 0 ((S19.1 383 0) - 1) fun S22 =>
        if v21 ≤ 0 then
          pS S22 373 0 0 fun S25 =>
          pS S25 380 0 0 fun S27 =>
          bU (f_X8_with n S27 371 l2 367 l4) fun S29 =>
          bI (f_X8_settle n S29 l2) fun S31 v33 =>
          some (S31, v33)
        else
          some (S22, v21)
    else
      some (S4, 5)
  else
    some (S, s0)
def f_X8_typeOfLet (n : Nat) (F : St → Int32 → Option (St × Int32)) (S : St) (a1 : Int32) : Option (St × Int32) :=
  bV (S.1 375 0) fun v1 =>
  bI (f_X8_ofSort n F S (a1 + 1)) fun S3 v5 =>
  if v5 ≤ 0 then
    pS S3 375 0 v1 fun S7 =>
    bI (f_X8_behindTerm n S7 367 (a1 + 1)) fun S9 v11 =>
    bI (f_X8_behindTerm n S9 367 v11) fun S12 v14 =>
    bI (F S12 v11) fun S15 v17 =>
    if v17 = 0 then
      bI (f_X8_normalAt n S15 v1) fun S19 v21 =>
      j_X8_typeOfLet_67 n F S19 a1 v1 v11 v14 v21
    else
      j_X8_typeOfLet_67 n F S15 a1 v1 v11 v14 v17
  else
    some (S3, v5)
set_option maxRecDepth 100000 in
set_option maxHeartbeats 4000000 in
theorem t_X8_typeOfLet_67 {n : Nat} {d : Nat} {F : St → Int32 → Option (St × Int32)} {x : XC} (hx : CX x cX8_typeOfLet 6 RX8) (hR : x_R x = (rm_X8_typeOfLet d)) (hKS : ∀ k ∈ KM, k ∈ x_K x) {out : St × Int32} (hE : EI x cX8_typeOfLet out) (hF : ∀ {S : St} {a1 : Int32} {out : St × Int32}, F S a1 = some out → MI (x_y x) yX8_typeOf cX8_typeOf 2 (some .int) (rm_X8_typeOf d) S [.ref (x_ad x 0 7 0), .int a1] out) {S : St} {l1 : Int32} {l2 : Int32} {l4 : Int32} {l5 : Int32} {s0 : Int32} (h : j_X8_typeOfLet_67 n F S l1 l2 l4 l5 s0 = some out) : WX x 6 0 0 S 67 [(0, .ref (x_ad x 0 7 0)), (1, .int l1), (2, .int l2), (4, .int l4), (5, .int l5)] [.int s0] := by
  unfold j_X8_typeOfLet_67 at h
  refine r_istore_n (lv' := [(3, .int s0), (0, .ref (x_ad x 0 7 0)), (1, .int l1), (2, .int l2), (4, .int l4), (5, .int l5)]) hx dX8_typeOfLet_67 rfl (by decide) rfl ?_
  refine r_iload_n (k0 := 0) hx dX8_typeOfLet_68 rfl rfl ?_
  refine r_if_le (tgt := 74) hx dX8_typeOfLet_69 (by decide) (fun c1 => ?_) (fun c1 => ?_)
  · have h := ite_t h c1
    refine r_aload_n (k0 := 1) hx dX8_typeOfLet_74 rfl rfl ?_
    refine r_aload_n (k0 := 1) hx dX8_typeOfLet_75 rfl rfl ?_
    refine g_367 hx (k_0_7 hKS) wf_X8_53 dX8_typeOfLet_76 ?_
    refine r_iload_n (k0 := 2) hx dX8_typeOfLet_79 rfl rfl ?_
    refine r_iconst (v := 1) hx dX8_typeOfLet_80 (by decide) ?_
    refine r_iadd hx dX8_typeOfLet_81 ?_
    refine r_iload (k0 := 4) hx dX8_typeOfLet_82 rfl ?_
    obtain ⟨S2, c3, h⟩ := bU_some h
    refine r_Vv (ci := 7) (As := [.ref (x_ad x 1 367 0), .int (l1 + 1), .int l4]) (rest := []) hx (C_X8_load (c := x_y x) hKS km_367 c3) (k_0_7 hKS) rfl wl_X8_234 wi_X8_load we_X8_load wn_X8 wc_X8_load dy_X8_load rfl (by rw [hR]; exact ry_X8_typeOfLet_X8_load) rfl (Nat.le_of_ble_eq_true rfl) dX8_typeOfLet_84 ?_
    refine r_aload_n (k0 := 1) hx dX8_typeOfLet_87 rfl rfl ?_
    obtain ⟨S4, v6, c5, h⟩ := bI_some h
    refine r_Vi (ci := 7) (As := []) (rest := []) hx (C_X8_normalize (c := x_y x) hKS c5) (k_0_7 hKS) rfl wl_X8_237 wi_X8_normalize we_X8_normalize wn_X8 wc_X8_normalize dy_X8_normalize rfl (by rw [hR]; exact ry_X8_typeOfLet_X8_normalize) rfl (Nat.le_of_ble_eq_true rfl) dX8_typeOfLet_88 ?_
    refine r_if_ge (tgt := 96) hx dX8_typeOfLet_91 (by decide) (fun c7 => ?_) (fun c7 => ?_)
    · have h := ite_t h c7
      refine r_aload_n (k0 := 1) hx dX8_typeOfLet_96 rfl rfl ?_
      refine r_aload_n (k0 := 1) hx dX8_typeOfLet_97 rfl rfl ?_
      refine g_371 hx (k_0_7 hKS) wf_X8_66 dX8_typeOfLet_98 ?_
      refine r_iload_n (k0 := 3) hx dX8_typeOfLet_101 rfl rfl ?_
      refine r_aload_n (k0 := 1) hx dX8_typeOfLet_102 rfl rfl ?_
      refine g_368 hx (k_0_7 hKS) wf_X8_56 dX8_typeOfLet_103 ?_
      refine r_iconst (v := 0) hx dX8_typeOfLet_106 (by decide) ?_
      obtain ⟨S8, v10, c9, h⟩ := bI_some h
      refine r_Vi (ci := 7) (As := [.ref (x_ad x 1 371 0), .int l2, .ref (x_ad x 1 368 0), .int 0]) (rest := []) hx (C_X8_isSame (c := x_y x) hKS km_371 km_368 c9) (k_0_7 hKS) rfl wl_X8_270 wi_X8_isSame we_X8_isSame wn_X8 wc_X8_isSame dy_X8_isSame rfl (by rw [hR]; exact ry_X8_typeOfLet_X8_isSame) rfl (Nat.le_of_ble_eq_true rfl) dX8_typeOfLet_107 ?_
      refine r_if_ne (tgt := 116) hx dX8_typeOfLet_110 (by decide) (fun c11 => ?_) (fun c11 => ?_)
      · have h := ite_f h c11
        refine r_aload_n (k0 := 1) hx dX8_typeOfLet_116 rfl rfl ?_
        refine r_iload_n (k0 := 3) hx dX8_typeOfLet_117 rfl rfl ?_
        obtain ⟨S12, e13, h⟩ := pS_some h
        refine p_375 hx (k_0_7 hKS) wf_X8_228 dX8_typeOfLet_118 e13 ?_
        refine r_aload_n (k0 := 1) hx dX8_typeOfLet_121 rfl rfl ?_
        refine g_382 hx (k_0_7 hKS) wf_X8_85 dX8_typeOfLet_122 ?_
        refine r_aload_n (k0 := 1) hx dX8_typeOfLet_125 rfl rfl ?_
        refine g_383 hx (k_0_7 hKS) wf_X8_261 dX8_typeOfLet_126 ?_
        refine r_iload_n (k0 := 2) hx dX8_typeOfLet_129 rfl rfl ?_
        refine r_iconst (v := 1) hx dX8_typeOfLet_130 (by decide) ?_
        refine r_iadd hx dX8_typeOfLet_131 ?_
        obtain ⟨S14, e15, i16, h⟩ := pI_some h
        refine r_iast hx (k_1_382 hKS) rfl i16 e15 dX8_typeOfLet_132 ?_
        refine r_aload_n (k0 := 1) hx dX8_typeOfLet_133 rfl rfl ?_
        refine r_dup hx dX8_typeOfLet_134 rfl ?_
        refine g_383 hx (k_0_7 hKS) wf_X8_261 dX8_typeOfLet_135 ?_
        refine r_iconst (v := 1) hx dX8_typeOfLet_138 (by decide) ?_
        refine r_iadd hx dX8_typeOfLet_139 ?_
        obtain ⟨S17, e18, h⟩ := pS_some h
        refine p_383 hx (k_0_7 hKS) wf_X8_261 dX8_typeOfLet_140 e18 ?_
        refine r_aload_n (k0 := 1) hx dX8_typeOfLet_143 rfl rfl ?_
        refine r_iload (k0 := 5) hx dX8_typeOfLet_144 rfl ?_
        obtain ⟨S19, v21, c20, h⟩ := bI_some h
        refine r_Vi (ci := 7) (As := [.int l5]) (rest := []) hx (hF c20) (k_0_7 hKS) rfl wl_X8_240 wi_X8_typeOf we_X8_typeOf wn_X8 wc_X8_typeOf dy_X8_typeOf rfl (by rw [hR]; exact ry_X8_typeOfLet_X8_typeOf) rfl (Nat.le_of_ble_eq_true rfl) dX8_typeOfLet_146 ?_
        refine r_istore_n (lv' := [(3, .int v21), (0, .ref (x_ad x 0 7 0)), (1, .int l1), (2, .int l2), (4, .int l4), (5, .int l5)]) hx dX8_typeOfLet_149 rfl (by decide) rfl ?_
        refine r_aload_n (k0 := 1) hx dX8_typeOfLet_150 rfl rfl ?_
        refine r_dup hx dX8_typeOfLet_151 rfl ?_
        refine g_383 hx (k_0_7 hKS) wf_X8_261 dX8_typeOfLet_152 ?_
        refine r_iconst (v := 1) hx dX8_typeOfLet_155 (by decide) ?_
        refine r_isub hx dX8_typeOfLet_156 ?_
        obtain ⟨S22, e23, h⟩ := pS_some h
        refine p_383 hx (k_0_7 hKS) wf_X8_261 dX8_typeOfLet_157 e23 ?_
        refine r_iload_n (k0 := 0) hx dX8_typeOfLet_160 rfl rfl ?_
        refine r_if_le (tgt := 166) hx dX8_typeOfLet_161 (by decide) (fun c24 => ?_) (fun c24 => ?_)
        · have h := ite_t h c24
          refine r_aload_n (k0 := 1) hx dX8_typeOfLet_166 rfl rfl ?_
          refine r_iconst (v := 0) hx dX8_typeOfLet_167 (by decide) ?_
          obtain ⟨S25, e26, h⟩ := pS_some h
          refine p_373 hx (k_0_7 hKS) wf_X8_159 dX8_typeOfLet_168 e26 ?_
          refine r_aload_n (k0 := 1) hx dX8_typeOfLet_171 rfl rfl ?_
          refine r_iconst (v := 0) hx dX8_typeOfLet_172 (by decide) ?_
          obtain ⟨S27, e28, h⟩ := pS_some h
          refine p_380 hx (k_0_7 hKS) wf_X8_162 (by decide) dX8_typeOfLet_173 e28 ?_
          refine r_aload_n (k0 := 1) hx dX8_typeOfLet_176 rfl rfl ?_
          refine r_aload_n (k0 := 1) hx dX8_typeOfLet_177 rfl rfl ?_
          refine g_371 hx (k_0_7 hKS) wf_X8_66 dX8_typeOfLet_178 ?_
          refine r_iload_n (k0 := 3) hx dX8_typeOfLet_181 rfl rfl ?_
          refine r_aload_n (k0 := 1) hx dX8_typeOfLet_182 rfl rfl ?_
          refine g_367 hx (k_0_7 hKS) wf_X8_53 dX8_typeOfLet_183 ?_
          refine r_iload (k0 := 4) hx dX8_typeOfLet_186 rfl ?_
          obtain ⟨S29, c30, h⟩ := bU_some h
          refine r_Vv (ci := 7) (As := [.ref (x_ad x 1 371 0), .int l2, .ref (x_ad x 1 367 0), .int l4]) (rest := []) hx (C_X8_with (c := x_y x) hKS km_371 km_367 c30) (k_0_7 hKS) rfl wl_X8_204 wi_X8_with we_X8_with wn_X8 wc_X8_with dy_X8_with rfl (by rw [hR]; exact ry_X8_typeOfLet_X8_with) rfl (Nat.le_of_ble_eq_true rfl) dX8_typeOfLet_188 ?_
          refine r_aload_n (k0 := 1) hx dX8_typeOfLet_191 rfl rfl ?_
          refine r_iload_n (k0 := 3) hx dX8_typeOfLet_192 rfl rfl ?_
          obtain ⟨S31, v33, c32, h⟩ := bI_some h
          refine r_Vi (ci := 7) (As := [.int l2]) (rest := []) hx (C_X8_settle (c := x_y x) hKS c32) (k_0_7 hKS) rfl wl_X8_264 wi_X8_settle we_X8_settle wn_X8 wc_X8_settle dy_X8_settle rfl (by rw [hR]; exact ry_X8_typeOfLet_X8_settle) rfl (Nat.le_of_ble_eq_true rfl) dX8_typeOfLet_193 ?_
          exact r_iret hE h dX8_typeOfLet_196
        · have h := ite_f h c24
          refine r_iload_n (k0 := 0) hx dX8_typeOfLet_164 rfl rfl ?_
          exact r_iret hE h dX8_typeOfLet_165
      · have h := ite_t h c11
        refine r_bipush (v := 6) hx dX8_typeOfLet_113 (by decide) ?_
        exact r_iret hE h dX8_typeOfLet_115
    · have h := ite_f h c7
      refine r_iconst (v := 5) hx dX8_typeOfLet_94 (by decide) ?_
      exact r_iret hE h dX8_typeOfLet_95
  · have h := ite_f h c1
    refine r_iload_n (k0 := 0) hx dX8_typeOfLet_72 rfl rfl ?_
    exact r_iret hE h dX8_typeOfLet_73
set_option maxRecDepth 100000 in
set_option maxHeartbeats 4000000 in
theorem t_X8_typeOfLet_0 {n : Nat} {d : Nat} {F : St → Int32 → Option (St × Int32)} {x : XC} (hx : CX x cX8_typeOfLet 6 RX8) (hR : x_R x = (rm_X8_typeOfLet d)) (hKS : ∀ k ∈ KM, k ∈ x_K x) {out : St × Int32} (hE : EI x cX8_typeOfLet out) (hF : ∀ {S : St} {a1 : Int32} {out : St × Int32}, F S a1 = some out → MI (x_y x) yX8_typeOf cX8_typeOf 2 (some .int) (rm_X8_typeOf d) S [.ref (x_ad x 0 7 0), .int a1] out) {S : St} {a1 : Int32} (h : f_X8_typeOfLet n F S a1 = some out) : WX x 6 0 0 S 0 [(0, .ref (x_ad x 0 7 0)), (1, .int a1)] [] := by
  unfold f_X8_typeOfLet at h
  refine r_aload_n (k0 := 0) hx dX8_typeOfLet_0 rfl rfl ?_
  refine g_375 hx (k_0_7 hKS) wf_X8_228 dX8_typeOfLet_1 ?_
  obtain ⟨v1, e2, h⟩ := bV_some h
  rw [← e2]
  refine r_istore_n (lv' := [(2, .int v1), (0, .ref (x_ad x 0 7 0)), (1, .int a1)]) hx dX8_typeOfLet_4 rfl (by decide) rfl ?_
  refine r_aload_n (k0 := 1) hx dX8_typeOfLet_5 rfl rfl ?_
  refine r_iload_n (k0 := 2) hx dX8_typeOfLet_6 rfl rfl ?_
  refine r_iconst (v := 1) hx dX8_typeOfLet_7 (by decide) ?_
  refine r_iadd hx dX8_typeOfLet_8 ?_
  obtain ⟨S3, v5, c4, h⟩ := bI_some h
  refine r_Vi (ci := 7) (As := [.int (a1 + 1)]) (rest := []) hx (C_X8_ofSort (c := x_y x) hKS hF c4) (k_0_7 hKS) rfl wl_X8_267 wi_X8_ofSort we_X8_ofSort wn_X8 wc_X8_ofSort dy_X8_ofSort rfl (by rw [hR]; exact ry_X8_typeOfLet_X8_ofSort) rfl (Nat.le_of_ble_eq_true rfl) dX8_typeOfLet_9 ?_
  refine r_istore_n (lv' := [(3, .int v5), (2, .int v1), (0, .ref (x_ad x 0 7 0)), (1, .int a1)]) hx dX8_typeOfLet_12 rfl (by decide) rfl ?_
  refine r_iload_n (k0 := 0) hx dX8_typeOfLet_13 rfl rfl ?_
  refine r_if_le (tgt := 19) hx dX8_typeOfLet_14 (by decide) (fun c6 => ?_) (fun c6 => ?_)
  · have h := ite_t h c6
    refine r_aload_n (k0 := 2) hx dX8_typeOfLet_19 rfl rfl ?_
    refine r_iload_n (k0 := 1) hx dX8_typeOfLet_20 rfl rfl ?_
    obtain ⟨S7, e8, h⟩ := pS_some h
    refine p_375 hx (k_0_7 hKS) wf_X8_228 dX8_typeOfLet_21 e8 ?_
    refine r_aload_n (k0 := 2) hx dX8_typeOfLet_24 rfl rfl ?_
    refine g_367 hx (k_0_7 hKS) wf_X8_53 dX8_typeOfLet_25 ?_
    refine r_iload_n (k0 := 3) hx dX8_typeOfLet_28 rfl rfl ?_
    refine r_iconst (v := 1) hx dX8_typeOfLet_29 (by decide) ?_
    refine r_iadd hx dX8_typeOfLet_30 ?_
    obtain ⟨S9, v11, c10, h⟩ := bI_some h
    refine r_Si (As := [.ref (x_ad x 1 367 0), .int (a1 + 1)]) (rest := []) hx (C_X8_behindTerm (c := x_y x) hKS km_367 c10) wl_X8_197 wt_X8_behindTerm wn_X8 wc_X8_behindTerm dy_X8_behindTerm rfl (by rw [hR]; exact ry_X8_typeOfLet_X8_behindTerm) rfl (Nat.le_of_ble_eq_true rfl) dX8_typeOfLet_31 ?_
    refine r_istore (lv' := [(4, .int v11), (3, .int v5), (2, .int v1), (0, .ref (x_ad x 0 7 0)), (1, .int a1)]) hx dX8_typeOfLet_34 (by decide) rfl ?_
    refine r_aload_n (k0 := 3) hx dX8_typeOfLet_36 rfl rfl ?_
    refine g_367 hx (k_0_7 hKS) wf_X8_53 dX8_typeOfLet_37 ?_
    refine r_iload (k0 := 0) hx dX8_typeOfLet_40 rfl ?_
    obtain ⟨S12, v14, c13, h⟩ := bI_some h
    refine r_Si (As := [.ref (x_ad x 1 367 0), .int v11]) (rest := []) hx (C_X8_behindTerm (c := x_y x) hKS km_367 c13) wl_X8_197 wt_X8_behindTerm wn_X8 wc_X8_behindTerm dy_X8_behindTerm rfl (by rw [hR]; exact ry_X8_typeOfLet_X8_behindTerm) rfl (Nat.le_of_ble_eq_true rfl) dX8_typeOfLet_42 ?_
    refine r_istore (lv' := [(5, .int v14), (4, .int v11), (3, .int v5), (2, .int v1), (0, .ref (x_ad x 0 7 0)), (1, .int a1)]) hx dX8_typeOfLet_45 (by decide) rfl ?_
    refine r_aload_n (k0 := 4) hx dX8_typeOfLet_47 rfl rfl ?_
    refine r_iload (k0 := 1) hx dX8_typeOfLet_48 rfl ?_
    obtain ⟨S15, v17, c16, h⟩ := bI_some h
    refine r_Vi (ci := 7) (As := [.int v11]) (rest := []) hx (hF c16) (k_0_7 hKS) rfl wl_X8_240 wi_X8_typeOf we_X8_typeOf wn_X8 wc_X8_typeOf dy_X8_typeOf rfl (by rw [hR]; exact ry_X8_typeOfLet_X8_typeOf) rfl (Nat.le_of_ble_eq_true rfl) dX8_typeOfLet_50 ?_
    refine r_istore_n (lv' := [(3, .int v17), (5, .int v14), (4, .int v11), (2, .int v1), (0, .ref (x_ad x 0 7 0)), (1, .int a1)]) hx dX8_typeOfLet_53 rfl (by decide) rfl ?_
    refine r_iload_n (k0 := 0) hx dX8_typeOfLet_54 rfl rfl ?_
    refine r_if_ne (tgt := 66) hx dX8_typeOfLet_55 (by decide) (fun c18 => ?_) (fun c18 => ?_)
    · have h := ite_f h c18
      refine r_iload_n (k0 := 0) hx dX8_typeOfLet_66 rfl rfl ?_
      refine WX.sub (lv' := [(0, .ref (x_ad x 0 7 0)), (1, .int a1), (2, .int v1), (4, .int v11), (5, .int v14)]) ?_ [4, 5, 3, 2, 1] rfl
      exact t_X8_typeOfLet_67 hx hR hKS hE hF h
    · have h := ite_t h c18
      refine r_aload_n (k0 := 4) hx dX8_typeOfLet_58 rfl rfl ?_
      refine r_iload_n (k0 := 3) hx dX8_typeOfLet_59 rfl rfl ?_
      obtain ⟨S19, v21, c20, h⟩ := bI_some h
      refine r_Vi (ci := 7) (As := [.int v1]) (rest := []) hx (C_X8_normalAt (c := x_y x) hKS c20) (k_0_7 hKS) rfl wl_X8_243 wi_X8_normalAt we_X8_normalAt wn_X8 wc_X8_normalAt dy_X8_normalAt rfl (by rw [hR]; exact ry_X8_typeOfLet_X8_normalAt) rfl (Nat.le_of_ble_eq_true rfl) dX8_typeOfLet_60 ?_
      refine r_goto (tgt := 67) hx dX8_typeOfLet_63 (by decide) ?_
      refine WX.sub (lv' := [(0, .ref (x_ad x 0 7 0)), (1, .int a1), (2, .int v1), (4, .int v11), (5, .int v14)]) ?_ [4, 5, 3, 2, 1] rfl
      exact t_X8_typeOfLet_67 hx hR hKS hE hF h
  · have h := ite_f h c6
    refine r_iload_n (k0 := 0) hx dX8_typeOfLet_17 rfl rfl ?_
    exact r_iret hE h dX8_typeOfLet_18
set_option maxHeartbeats 4000000 in
theorem C_X8_typeOfLet {n d : Nat} {F : St → Int32 → Option (St × Int32)} {c : YC} (hKS : ∀ k ∈ KM, k ∈ c.2.2.2.2) (hF : ∀ {S : St} {a1 : Int32} {out : St × Int32}, F S a1 = some out → MI (c) yX8_typeOf cX8_typeOf 2 (some .int) (rm_X8_typeOf d) S [.ref ((c).2.2.1 0 7 0), .int a1] out) {S : St} {a1 : Int32} {out : St × Int32} (h : f_X8_typeOfLet n F S a1 = some out) : MI c yX8_typeOfLet cX8_typeOfLet 6 (some .int) (rm_X8_typeOfLet d) S [.ref (c.2.2.1 0 7 0), .int a1] out := mk_I (own := RX8) (by decide +kernel) rfl (Nat.le_of_ble_eq_true rfl) (fun x hx hR hy hE => by subst hy; exact t_X8_typeOfLet_0 hx hR hKS hE hF h)
def f_X8_typeOf (n : Nat) (F : St → Int32 → Option (St × Int32)) (S : St) (a1 : Int32) : Option (St × Int32) :=
  gI S 367 0 a1 8000 fun v1 =>
  if v1 = 0 then
    bI (f_X8_typeOfSingle n S a1) fun S5 v7 =>
    some (S5, v7)
  else if v1 = 1 then
    bI (f_X8_typeOfSingle n S a1) fun S9 v11 =>
    some (S9, v11)
  else if v1 = 2 then
    bI (f_X8_typeOfSingle n S a1) fun S13 v15 =>
    some (S13, v15)
  else if v1 = 3 then
    bI (f_X8_typeOfPi n F S a1) fun S17 v19 =>
    some (S17, v19)
  else if v1 = 4 then
    bI (f_X8_typeOfLambda n F S a1) fun S21 v23 =>
    some (S21, v23)
  else if v1 = 5 then
    bI (f_X8_typeOfApply n F S a1) fun S25 v27 =>
    some (S25, v27)
  else bI (f_X8_typeOfLet n F S a1) fun S28 v30 =>
  some (S28, v30)
set_option maxRecDepth 100000 in
set_option maxHeartbeats 4000000 in
theorem t_X8_typeOf_0 {n : Nat} {d : Nat} {F : St → Int32 → Option (St × Int32)} {x : XC} (hx : CX x cX8_typeOf 2 RX8) (hR : x_R x = (rm_X8_typeOf (d + 1))) (hKS : ∀ k ∈ KM, k ∈ x_K x) {out : St × Int32} (hE : EI x cX8_typeOf out) (hF : ∀ {S : St} {a1 : Int32} {out : St × Int32}, F S a1 = some out → MI (x_y x) yX8_typeOf cX8_typeOf 2 (some .int) (rm_X8_typeOf d) S [.ref (x_ad x 0 7 0), .int a1] out) {S : St} {a1 : Int32} (h : f_X8_typeOf n F S a1 = some out) : WX x 2 0 0 S 0 [(0, .ref (x_ad x 0 7 0)), (1, .int a1)] [] := by
  unfold f_X8_typeOf at h
  refine r_aload_n (k0 := 0) hx dX8_typeOf_0 rfl rfl ?_
  refine g_367 hx (k_0_7 hKS) wf_X8_53 dX8_typeOf_1 ?_
  refine r_iload_n (k0 := 1) hx dX8_typeOf_4 rfl rfl ?_
  obtain ⟨v1, e2, i3, h⟩ := gI_some h
  refine r_iald hx (k_1_367 hKS) rfl i3 e2 dX8_typeOf_5 ?_
  by_cases c4 : v1 = 0
  · have h := ite_t h c4
    refine r_tabI (c9 := 0) (tgt := 44) hx dX8_typeOf_6 c4 (by decide +kernel) ?_
    refine r_aload_n (k0 := 0) hx dX8_typeOf_44 rfl rfl ?_
    refine r_iload_n (k0 := 1) hx dX8_typeOf_45 rfl rfl ?_
    obtain ⟨S5, v7, c6, h⟩ := bI_some h
    refine r_Vi (ci := 7) (As := [.int a1]) (rest := []) hx (C_X8_typeOfSingle (c := x_y x) hKS c6) (k_0_7 hKS) rfl wl_X8_246 wi_X8_typeOfSingle we_X8_typeOfSingle wn_X8 wc_X8_typeOfSingle dy_X8_typeOfSingle rfl (by rw [hR]; exact ry_X8_typeOf_X8_typeOfSingle) rfl (Nat.le_of_ble_eq_true rfl) dX8_typeOf_46 ?_
    exact r_iret hE h dX8_typeOf_49
  have h := ite_f h c4
  by_cases c8 : v1 = 1
  · have h := ite_t h c8
    refine r_tabI (c9 := 1) (tgt := 44) hx dX8_typeOf_6 c8 (by decide +kernel) ?_
    refine r_aload_n (k0 := 0) hx dX8_typeOf_44 rfl rfl ?_
    refine r_iload_n (k0 := 1) hx dX8_typeOf_45 rfl rfl ?_
    obtain ⟨S9, v11, c10, h⟩ := bI_some h
    refine r_Vi (ci := 7) (As := [.int a1]) (rest := []) hx (C_X8_typeOfSingle (c := x_y x) hKS c10) (k_0_7 hKS) rfl wl_X8_246 wi_X8_typeOfSingle we_X8_typeOfSingle wn_X8 wc_X8_typeOfSingle dy_X8_typeOfSingle rfl (by rw [hR]; exact ry_X8_typeOf_X8_typeOfSingle) rfl (Nat.le_of_ble_eq_true rfl) dX8_typeOf_46 ?_
    exact r_iret hE h dX8_typeOf_49
  have h := ite_f h c8
  by_cases c12 : v1 = 2
  · have h := ite_t h c12
    refine r_tabI (c9 := 2) (tgt := 44) hx dX8_typeOf_6 c12 (by decide +kernel) ?_
    refine r_aload_n (k0 := 0) hx dX8_typeOf_44 rfl rfl ?_
    refine r_iload_n (k0 := 1) hx dX8_typeOf_45 rfl rfl ?_
    obtain ⟨S13, v15, c14, h⟩ := bI_some h
    refine r_Vi (ci := 7) (As := [.int a1]) (rest := []) hx (C_X8_typeOfSingle (c := x_y x) hKS c14) (k_0_7 hKS) rfl wl_X8_246 wi_X8_typeOfSingle we_X8_typeOfSingle wn_X8 wc_X8_typeOfSingle dy_X8_typeOfSingle rfl (by rw [hR]; exact ry_X8_typeOf_X8_typeOfSingle) rfl (Nat.le_of_ble_eq_true rfl) dX8_typeOf_46 ?_
    exact r_iret hE h dX8_typeOf_49
  have h := ite_f h c12
  by_cases c16 : v1 = 3
  · have h := ite_t h c16
    refine r_tabI (c9 := 3) (tgt := 50) hx dX8_typeOf_6 c16 (by decide +kernel) ?_
    refine r_aload_n (k0 := 0) hx dX8_typeOf_50 rfl rfl ?_
    refine r_iload_n (k0 := 1) hx dX8_typeOf_51 rfl rfl ?_
    obtain ⟨S17, v19, c18, h⟩ := bI_some h
    refine r_Vi (ci := 7) (As := [.int a1]) (rest := []) hx (C_X8_typeOfPi (c := x_y x) hKS hF c18) (k_0_7 hKS) rfl wl_X8_249 wi_X8_typeOfPi we_X8_typeOfPi wn_X8 wc_X8_typeOfPi dy_X8_typeOfPi rfl (by rw [hR]; exact ry_X8_typeOf_X8_typeOfPi) rfl (Nat.le_of_ble_eq_true rfl) dX8_typeOf_52 ?_
    exact r_iret hE h dX8_typeOf_55
  have h := ite_f h c16
  by_cases c20 : v1 = 4
  · have h := ite_t h c20
    refine r_tabI (c9 := 4) (tgt := 56) hx dX8_typeOf_6 c20 (by decide +kernel) ?_
    refine r_aload_n (k0 := 0) hx dX8_typeOf_56 rfl rfl ?_
    refine r_iload_n (k0 := 1) hx dX8_typeOf_57 rfl rfl ?_
    obtain ⟨S21, v23, c22, h⟩ := bI_some h
    refine r_Vi (ci := 7) (As := [.int a1]) (rest := []) hx (C_X8_typeOfLambda (c := x_y x) hKS hF c22) (k_0_7 hKS) rfl wl_X8_252 wi_X8_typeOfLambda we_X8_typeOfLambda wn_X8 wc_X8_typeOfLambda dy_X8_typeOfLambda rfl (by rw [hR]; exact ry_X8_typeOf_X8_typeOfLambda) rfl (Nat.le_of_ble_eq_true rfl) dX8_typeOf_58 ?_
    exact r_iret hE h dX8_typeOf_61
  have h := ite_f h c20
  by_cases c24 : v1 = 5
  · have h := ite_t h c24
    refine r_tabI (c9 := 5) (tgt := 62) hx dX8_typeOf_6 c24 (by decide +kernel) ?_
    refine r_aload_n (k0 := 0) hx dX8_typeOf_62 rfl rfl ?_
    refine r_iload_n (k0 := 1) hx dX8_typeOf_63 rfl rfl ?_
    obtain ⟨S25, v27, c26, h⟩ := bI_some h
    refine r_Vi (ci := 7) (As := [.int a1]) (rest := []) hx (C_X8_typeOfApply (c := x_y x) hKS hF c26) (k_0_7 hKS) rfl wl_X8_255 wi_X8_typeOfApply we_X8_typeOfApply wn_X8 wc_X8_typeOfApply dy_X8_typeOfApply rfl (by rw [hR]; exact ry_X8_typeOf_X8_typeOfApply) rfl (Nat.le_of_ble_eq_true rfl) dX8_typeOf_64 ?_
    exact r_iret hE h dX8_typeOf_67
  have h := ite_f h c24
  refine r_tabO (tgt := 68) hx dX8_typeOf_6 (tabo_0_6 c4 c8 c12 c16 c20 c24) (by decide) ?_
  refine r_aload_n (k0 := 0) hx dX8_typeOf_68 rfl rfl ?_
  refine r_iload_n (k0 := 1) hx dX8_typeOf_69 rfl rfl ?_
  obtain ⟨S28, v30, c29, h⟩ := bI_some h
  refine r_Vi (ci := 7) (As := [.int a1]) (rest := []) hx (C_X8_typeOfLet (c := x_y x) hKS hF c29) (k_0_7 hKS) rfl wl_X8_258 wi_X8_typeOfLet we_X8_typeOfLet wn_X8 wc_X8_typeOfLet dy_X8_typeOfLet rfl (by rw [hR]; exact ry_X8_typeOf_X8_typeOfLet) rfl (Nat.le_of_ble_eq_true rfl) dX8_typeOf_70 ?_
  exact r_iret hE h dX8_typeOf_73
def k_X8_typeOf (n : Nat) : Nat → St → Int32 → Option (St × Int32)
  | 0, _, _ => none
  | d + 1, S, a1 => f_X8_typeOf n (k_X8_typeOf n d) S a1
set_option maxHeartbeats 4000000 in
theorem D_X8_typeOf {n : Nat} {c : YC} (hKS : ∀ k ∈ KM, k ∈ c.2.2.2.2) : ∀ {d : Nat} {S : St} {a1 : Int32} {out : St × Int32} (h : k_X8_typeOf n d S a1 = some out), MI c yX8_typeOf cX8_typeOf 2 (some .int) (rm_X8_typeOf d) S [.ref (c.2.2.1 0 7 0), .int a1] out := by
  intro d
  induction d with
  | zero => intro S a1 out h; cases h
  | succ d ih =>
    intro S a1 out h
    exact mk_I (own := RX8) (by decide +kernel) rfl (Nat.le_of_ble_eq_true rfl) (fun x hx hR hy hE => by subst hy; exact t_X8_typeOf_0 hx hR hKS hE ih h)
