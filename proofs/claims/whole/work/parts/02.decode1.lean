theorem dX0_init_0 : decode cX0_init 0 = .ok (.aload_n 0, 1) := by decide +kernel
theorem dX0_init_1 : decode cX0_init 1 = .ok (.invokespecial 3, 3) := by decide +kernel
theorem dX0_init_4 : decode cX0_init 4 = .ok (.aload_n 0, 1) := by decide +kernel
theorem dX0_init_5 : decode cX0_init 5 = .ok (.bipush 29, 2) := by decide +kernel
theorem dX0_init_7 : decode cX0_init 7 = .ok (.newarray .int, 2) := by decide +kernel
theorem dX0_init_9 : decode cX0_init 9 = .ok (.putfield 9, 3) := by decide +kernel
theorem dX0_init_12 : decode cX0_init 12 = .ok (.aload_n 0, 1) := by decide +kernel
theorem dX0_init_13 : decode cX0_init 13 = .ok (.bipush 29, 2) := by decide +kernel
theorem dX0_init_15 : decode cX0_init 15 = .ok (.newarray .int, 2) := by decide +kernel
theorem dX0_init_17 : decode cX0_init 17 = .ok (.putfield 15, 3) := by decide +kernel
theorem dX0_init_20 : decode cX0_init 20 = .ok (.aload_n 0, 1) := by decide +kernel
theorem dX0_init_21 : decode cX0_init 21 = .ok (.new 18, 3) := by decide +kernel
theorem dX0_init_24 : decode cX0_init 24 = .ok (.dup, 1) := by decide +kernel
theorem dX0_init_25 : decode cX0_init 25 = .ok (.invokespecial 20, 3) := by decide +kernel
theorem dX0_init_28 : decode cX0_init 28 = .ok (.putfield 21, 3) := by decide +kernel
theorem dX0_init_31 : decode cX0_init 31 = .ok (.aload_n 0, 1) := by decide +kernel
theorem dX0_init_32 : decode cX0_init 32 = .ok (.new 25, 3) := by decide +kernel
theorem dX0_init_35 : decode cX0_init 35 = .ok (.dup, 1) := by decide +kernel
theorem dX0_init_36 : decode cX0_init 36 = .ok (.invokespecial 27, 3) := by decide +kernel
theorem dX0_init_39 : decode cX0_init 39 = .ok (.putfield 28, 3) := by decide +kernel
theorem dX0_init_42 : decode cX0_init 42 = .ok (.aload_n 0, 1) := by decide +kernel
theorem dX0_init_43 : decode cX0_init 43 = .ok (.new 25, 3) := by decide +kernel
theorem dX0_init_46 : decode cX0_init 46 = .ok (.dup, 1) := by decide +kernel
theorem dX0_init_47 : decode cX0_init 47 = .ok (.invokespecial 27, 3) := by decide +kernel
theorem dX0_init_50 : decode cX0_init 50 = .ok (.putfield 32, 3) := by decide +kernel
theorem dX0_init_53 : decode cX0_init 53 = .ok (.aload_n 0, 1) := by decide +kernel
theorem dX0_init_54 : decode cX0_init 54 = .ok (.new 18, 3) := by decide +kernel
theorem dX0_init_57 : decode cX0_init 57 = .ok (.dup, 1) := by decide +kernel
theorem dX0_init_58 : decode cX0_init 58 = .ok (.invokespecial 20, 3) := by decide +kernel
theorem dX0_init_61 : decode cX0_init 61 = .ok (.putfield 35, 3) := by decide +kernel
theorem dX0_init_64 : decode cX0_init 64 = .ok (.aload_n 0, 1) := by decide +kernel
theorem dX0_init_65 : decode cX0_init 65 = .ok (.aload_n 1, 1) := by decide +kernel
theorem dX0_init_66 : decode cX0_init 66 = .ok (.putfield 38, 3) := by decide +kernel
theorem dX0_init_69 : decode cX0_init 69 = .ok (.aload_n 0, 1) := by decide +kernel
theorem dX0_init_70 : decode cX0_init 70 = .ok (.aload_n 2, 1) := by decide +kernel
theorem dX0_init_71 : decode cX0_init 71 = .ok (.putfield 42, 3) := by decide +kernel
theorem dX0_init_74 : decode cX0_init 74 = .ok (.aload_n 0, 1) := by decide +kernel
theorem dX0_init_75 : decode cX0_init 75 = .ok (.getfield 32, 3) := by decide +kernel
theorem dX0_init_78 : decode cX0_init 78 = .ok (.lconst 1, 1) := by decide +kernel
theorem dX0_init_79 : decode cX0_init 79 = .ok (.lconst 1, 1) := by decide +kernel
theorem dX0_init_80 : decode cX0_init 80 = .ok (.invokevirtual 45, 3) := by decide +kernel
theorem dX0_init_83 : decode cX0_init 83 = .ok (.aload_n 0, 1) := by decide +kernel
theorem dX0_init_84 : decode cX0_init 84 = .ok (.getfield 35, 3) := by decide +kernel
theorem dX0_init_87 : decode cX0_init 87 = .ok (.iconst 0, 1) := by decide +kernel
theorem dX0_init_88 : decode cX0_init 88 = .ok (.aload_n 0, 1) := by decide +kernel
theorem dX0_init_89 : decode cX0_init 89 = .ok (.getfield 32, 3) := by decide +kernel
theorem dX0_init_92 : decode cX0_init 92 = .ok (.invokevirtual 49, 3) := by decide +kernel
theorem dX0_init_95 : decode cX0_init 95 = .ok (.iconst 0, 1) := by decide +kernel
theorem dX0_init_96 : decode cX0_init 96 = .ok (.istore_n 3, 1) := by decide +kernel
theorem dX0_init_97 : decode cX0_init 97 = .ok (.iload_n 3, 1) := by decide +kernel
theorem dX0_init_98 : decode cX0_init 98 = .ok (.bipush 29, 2) := by decide +kernel
theorem dX0_init_100 : decode cX0_init 100 = .ok (.if_icmp .ge 86, 3) := by decide +kernel
theorem dX0_init_103 : decode cX0_init 103 = .ok (.aload_n 2, 1) := by decide +kernel
theorem dX0_init_104 : decode cX0_init 104 = .ok (.getfield 53, 3) := by decide +kernel
theorem dX0_init_107 : decode cX0_init 107 = .ok (.iload_n 3, 1) := by decide +kernel
theorem dX0_init_108 : decode cX0_init 108 = .ok (.aaload, 1) := by decide +kernel
theorem dX0_init_109 : decode cX0_init 109 = .ok (.astore 4, 2) := by decide +kernel
theorem dX0_init_111 : decode cX0_init 111 = .ok (.iconst 1, 1) := by decide +kernel
theorem dX0_init_112 : decode cX0_init 112 = .ok (.aload 4, 2) := by decide +kernel
theorem dX0_init_114 : decode cX0_init 114 = .ok (.getfield 59, 3) := by decide +kernel
theorem dX0_init_117 : decode cX0_init 117 = .ok (.ishl, 1) := by decide +kernel
theorem dX0_init_118 : decode cX0_init 118 = .ok (.iconst 1, 1) := by decide +kernel
theorem dX0_init_119 : decode cX0_init 119 = .ok (.isub, 1) := by decide +kernel
theorem dX0_init_120 : decode cX0_init 120 = .ok (.istore 5, 2) := by decide +kernel
theorem dX0_init_122 : decode cX0_init 122 = .ok (.aload_n 0, 1) := by decide +kernel
theorem dX0_init_123 : decode cX0_init 123 = .ok (.getfield 9, 3) := by decide +kernel
theorem dX0_init_126 : decode cX0_init 126 = .ok (.iload_n 3, 1) := by decide +kernel
theorem dX0_init_127 : decode cX0_init 127 = .ok (.aload_n 1, 1) := by decide +kernel
theorem dX0_init_128 : decode cX0_init 128 = .ok (.aload 4, 2) := by decide +kernel
theorem dX0_init_130 : decode cX0_init 130 = .ok (.iload 5, 2) := by decide +kernel
theorem dX0_init_132 : decode cX0_init 132 = .ok (.iconst (-1), 1) := by decide +kernel
theorem dX0_init_133 : decode cX0_init 133 = .ok (.invokevirtual 65, 3) := by decide +kernel
theorem dX0_init_136 : decode cX0_init 136 = .ok (.iastore, 1) := by decide +kernel
theorem dX0_init_137 : decode cX0_init 137 = .ok (.iconst 0, 1) := by decide +kernel
theorem dX0_init_138 : decode cX0_init 138 = .ok (.istore 6, 2) := by decide +kernel
theorem dX0_init_140 : decode cX0_init 140 = .ok (.iload 6, 2) := by decide +kernel
theorem dX0_init_142 : decode cX0_init 142 = .ok (.aload 4, 2) := by decide +kernel
theorem dX0_init_144 : decode cX0_init 144 = .ok (.getfield 59, 3) := by decide +kernel
theorem dX0_init_147 : decode cX0_init 147 = .ok (.if_icmp .ge 33, 3) := by decide +kernel
theorem dX0_init_150 : decode cX0_init 150 = .ok (.aload_n 2, 1) := by decide +kernel
theorem dX0_init_151 : decode cX0_init 151 = .ok (.aload 4, 2) := by decide +kernel
theorem dX0_init_153 : decode cX0_init 153 = .ok (.iload 5, 2) := by decide +kernel
theorem dX0_init_155 : decode cX0_init 155 = .ok (.iload 6, 2) := by decide +kernel
theorem dX0_init_157 : decode cX0_init 157 = .ok (.invokevirtual 65, 3) := by decide +kernel
theorem dX0_init_160 : decode cX0_init 160 = .ok (.iload_n 3, 1) := by decide +kernel
theorem dX0_init_161 : decode cX0_init 161 = .ok (.if_icmp .ne 13, 3) := by decide +kernel
theorem dX0_init_164 : decode cX0_init 164 = .ok (.aload_n 0, 1) := by decide +kernel
theorem dX0_init_165 : decode cX0_init 165 = .ok (.getfield 15, 3) := by decide +kernel
theorem dX0_init_168 : decode cX0_init 168 = .ok (.iload_n 3, 1) := by decide +kernel
theorem dX0_init_169 : decode cX0_init 169 = .ok (.dup2, 1) := by decide +kernel
theorem dX0_init_170 : decode cX0_init 170 = .ok (.iaload, 1) := by decide +kernel
theorem dX0_init_171 : decode cX0_init 171 = .ok (.iconst 1, 1) := by decide +kernel
theorem dX0_init_172 : decode cX0_init 172 = .ok (.iadd, 1) := by decide +kernel
theorem dX0_init_173 : decode cX0_init 173 = .ok (.iastore, 1) := by decide +kernel
theorem dX0_init_174 : decode cX0_init 174 = .ok (.iinc 6 1, 3) := by decide +kernel
theorem dX0_init_177 : decode cX0_init 177 = .ok (.goto (-37), 3) := by decide +kernel
theorem dX0_init_180 : decode cX0_init 180 = .ok (.iinc 3 1, 3) := by decide +kernel
theorem dX0_init_183 : decode cX0_init 183 = .ok (.goto (-86), 3) := by decide +kernel
theorem dX0_init_186 : decode cX0_init 186 = .ok (.return_, 1) := by decide +kernel
theorem dX0_familyOf_0 : decode cX0_familyOf 0 = .ok (.iload_n 1, 1) := by decide +kernel
theorem dX0_familyOf_1 : decode cX0_familyOf 1 = .ok (.iconst 2, 1) := by decide +kernel
theorem dX0_familyOf_2 : decode cX0_familyOf 2 = .ok (.if_icmp .ne 10, 3) := by decide +kernel
theorem dX0_familyOf_5 : decode cX0_familyOf 5 = .ok (.aload_n 0, 1) := by decide +kernel
theorem dX0_familyOf_6 : decode cX0_familyOf 6 = .ok (.getfield 42, 3) := by decide +kernel
theorem dX0_familyOf_9 : decode cX0_familyOf 9 = .ok (.goto 7, 3) := by decide +kernel
theorem dX0_familyOf_12 : decode cX0_familyOf 12 = .ok (.aload_n 0, 1) := by decide +kernel
theorem dX0_familyOf_13 : decode cX0_familyOf 13 = .ok (.getfield 38, 3) := by decide +kernel
theorem dX0_familyOf_16 : decode cX0_familyOf 16 = .ok (.areturn, 1) := by decide +kernel
theorem dX0_greatestSize_0 : decode cX0_greatestSize 0 = .ok (.aload_n 0, 1) := by decide +kernel
theorem dX0_greatestSize_1 : decode cX0_greatestSize 1 = .ok (.iload_n 2, 1) := by decide +kernel
theorem dX0_greatestSize_2 : decode cX0_greatestSize 2 = .ok (.invokevirtual 69, 3) := by decide +kernel
theorem dX0_greatestSize_5 : decode cX0_greatestSize 5 = .ok (.astore_n 3, 1) := by decide +kernel
theorem dX0_greatestSize_6 : decode cX0_greatestSize 6 = .ok (.iconst (-1), 1) := by decide +kernel
theorem dX0_greatestSize_7 : decode cX0_greatestSize 7 = .ok (.istore 4, 2) := by decide +kernel
theorem dX0_greatestSize_9 : decode cX0_greatestSize 9 = .ok (.iconst 0, 1) := by decide +kernel
theorem dX0_greatestSize_10 : decode cX0_greatestSize 10 = .ok (.istore 5, 2) := by decide +kernel
theorem dX0_greatestSize_12 : decode cX0_greatestSize 12 = .ok (.iload 5, 2) := by decide +kernel
theorem dX0_greatestSize_14 : decode cX0_greatestSize 14 = .ok (.aload_n 3, 1) := by decide +kernel
theorem dX0_greatestSize_15 : decode cX0_greatestSize 15 = .ok (.getfield 73, 3) := by decide +kernel
theorem dX0_greatestSize_18 : decode cX0_greatestSize 18 = .ok (.if_icmp .ge 35, 3) := by decide +kernel
theorem dX0_greatestSize_21 : decode cX0_greatestSize 21 = .ok (.aload_n 1, 1) := by decide +kernel
theorem dX0_greatestSize_22 : decode cX0_greatestSize 22 = .ok (.getfield 74, 3) := by decide +kernel
theorem dX0_greatestSize_25 : decode cX0_greatestSize 25 = .ok (.iload 5, 2) := by decide +kernel
theorem dX0_greatestSize_27 : decode cX0_greatestSize 27 = .ok (.laload, 1) := by decide +kernel
theorem dX0_greatestSize_28 : decode cX0_greatestSize 28 = .ok (.lconst 0, 1) := by decide +kernel
theorem dX0_greatestSize_29 : decode cX0_greatestSize 29 = .ok (.lcmp, 1) := by decide +kernel
theorem dX0_greatestSize_30 : decode cX0_greatestSize 30 = .ok (.ifCond .eq 17, 3) := by decide +kernel
theorem dX0_greatestSize_33 : decode cX0_greatestSize 33 = .ok (.iload 4, 2) := by decide +kernel
theorem dX0_greatestSize_35 : decode cX0_greatestSize 35 = .ok (.aload_n 3, 1) := by decide +kernel
theorem dX0_greatestSize_36 : decode cX0_greatestSize 36 = .ok (.getfield 78, 3) := by decide +kernel
theorem dX0_greatestSize_39 : decode cX0_greatestSize 39 = .ok (.iload 5, 2) := by decide +kernel
theorem dX0_greatestSize_41 : decode cX0_greatestSize 41 = .ok (.iaload, 1) := by decide +kernel
theorem dX0_greatestSize_42 : decode cX0_greatestSize 42 = .ok (.invokestatic 81, 3) := by decide +kernel
theorem dX0_greatestSize_45 : decode cX0_greatestSize 45 = .ok (.istore 4, 2) := by decide +kernel
theorem dX0_greatestSize_47 : decode cX0_greatestSize 47 = .ok (.iinc 5 1, 3) := by decide +kernel
theorem dX0_greatestSize_50 : decode cX0_greatestSize 50 = .ok (.goto (-38), 3) := by decide +kernel
theorem dX0_greatestSize_53 : decode cX0_greatestSize 53 = .ok (.iload 4, 2) := by decide +kernel
theorem dX0_greatestSize_55 : decode cX0_greatestSize 55 = .ok (.ireturn, 1) := by decide +kernel
theorem dX0_combine_0 : decode cX0_combine 0 = .ok (.aload_n 1, 1) := by decide +kernel
theorem dX0_combine_1 : decode cX0_combine 1 = .ok (.getfield 87, 3) := by decide +kernel
theorem dX0_combine_4 : decode cX0_combine 4 = .ok (.ifCond .eq 24, 3) := by decide +kernel
theorem dX0_combine_7 : decode cX0_combine 7 = .ok (.aload_n 2, 1) := by decide +kernel
theorem dX0_combine_8 : decode cX0_combine 8 = .ok (.getfield 87, 3) := by decide +kernel
theorem dX0_combine_11 : decode cX0_combine 11 = .ok (.ifCond .eq 17, 3) := by decide +kernel
theorem dX0_combine_14 : decode cX0_combine 14 = .ok (.aload_n 1, 1) := by decide +kernel
theorem dX0_combine_15 : decode cX0_combine 15 = .ok (.getfield 87, 3) := by decide +kernel
theorem dX0_combine_18 : decode cX0_combine 18 = .ok (.aload_n 2, 1) := by decide +kernel
theorem dX0_combine_19 : decode cX0_combine 19 = .ok (.getfield 87, 3) := by decide +kernel
theorem dX0_combine_22 : decode cX0_combine 22 = .ok (.if_icmp .eq 6, 3) := by decide +kernel
theorem dX0_combine_25 : decode cX0_combine 25 = .ok (.bipush (-2), 2) := by decide +kernel
theorem dX0_combine_27 : decode cX0_combine 27 = .ok (.ireturn, 1) := by decide +kernel
theorem dX0_combine_28 : decode cX0_combine 28 = .ok (.aload_n 1, 1) := by decide +kernel
theorem dX0_combine_29 : decode cX0_combine 29 = .ok (.getfield 87, 3) := by decide +kernel
theorem dX0_combine_32 : decode cX0_combine 32 = .ok (.ifCond .ne 10, 3) := by decide +kernel
theorem dX0_combine_35 : decode cX0_combine 35 = .ok (.aload_n 2, 1) := by decide +kernel
theorem dX0_combine_36 : decode cX0_combine 36 = .ok (.getfield 87, 3) := by decide +kernel
theorem dX0_combine_39 : decode cX0_combine 39 = .ok (.goto 7, 3) := by decide +kernel
theorem dX0_combine_42 : decode cX0_combine 42 = .ok (.aload_n 1, 1) := by decide +kernel
theorem dX0_combine_43 : decode cX0_combine 43 = .ok (.getfield 87, 3) := by decide +kernel
theorem dX0_combine_46 : decode cX0_combine 46 = .ok (.istore 5, 2) := by decide +kernel
theorem dX0_combine_48 : decode cX0_combine 48 = .ok (.iload_n 3, 1) := by decide +kernel
theorem dX0_combine_49 : decode cX0_combine 49 = .ok (.iconst 2, 1) := by decide +kernel
theorem dX0_combine_50 : decode cX0_combine 50 = .ok (.if_icmp .ne 28, 3) := by decide +kernel
theorem dX0_combine_53 : decode cX0_combine 53 = .ok (.aload_n 0, 1) := by decide +kernel
theorem dX0_combine_54 : decode cX0_combine 54 = .ok (.aload_n 1, 1) := by decide +kernel
theorem dX0_combine_55 : decode cX0_combine 55 = .ok (.iload 5, 2) := by decide +kernel
theorem dX0_combine_57 : decode cX0_combine 57 = .ok (.invokevirtual 90, 3) := by decide +kernel
theorem dX0_combine_60 : decode cX0_combine 60 = .ok (.aload_n 0, 1) := by decide +kernel
theorem dX0_combine_61 : decode cX0_combine 61 = .ok (.aload_n 2, 1) := by decide +kernel
theorem dX0_combine_62 : decode cX0_combine 62 = .ok (.iload 5, 2) := by decide +kernel
theorem dX0_combine_64 : decode cX0_combine 64 = .ok (.invokevirtual 90, 3) := by decide +kernel
theorem dX0_combine_67 : decode cX0_combine 67 = .ok (.iload 5, 2) := by decide +kernel
theorem dX0_combine_69 : decode cX0_combine 69 = .ok (.invokestatic 94, 3) := by decide +kernel
theorem dX0_combine_72 : decode cX0_combine 72 = .ok (.ifCond .eq 6, 3) := by decide +kernel
theorem dX0_combine_75 : decode cX0_combine 75 = .ok (.bipush (-4), 2) := by decide +kernel
theorem dX0_combine_77 : decode cX0_combine 77 = .ok (.ireturn, 1) := by decide +kernel
theorem dX0_combine_78 : decode cX0_combine 78 = .ok (.iload_n 3, 1) := by decide +kernel
theorem dX0_combine_79 : decode cX0_combine 79 = .ok (.iconst 2, 1) := by decide +kernel
theorem dX0_combine_80 : decode cX0_combine 80 = .ok (.if_icmp .ne 18, 3) := by decide +kernel
theorem dX0_combine_83 : decode cX0_combine 83 = .ok (.aload_n 0, 1) := by decide +kernel
theorem dX0_combine_84 : decode cX0_combine 84 = .ok (.aload_n 1, 1) := by decide +kernel
theorem dX0_combine_85 : decode cX0_combine 85 = .ok (.aload_n 2, 1) := by decide +kernel
theorem dX0_combine_86 : decode cX0_combine 86 = .ok (.iload 5, 2) := by decide +kernel
theorem dX0_combine_88 : decode cX0_combine 88 = .ok (.iconst (-1), 1) := by decide +kernel
theorem dX0_combine_89 : decode cX0_combine 89 = .ok (.invokevirtual 98, 3) := by decide +kernel
theorem dX0_combine_92 : decode cX0_combine 92 = .ok (.ifCond .eq 25, 3) := by decide +kernel
theorem dX0_combine_95 : decode cX0_combine 95 = .ok (.goto 25, 3) := by decide +kernel
theorem dX0_combine_98 : decode cX0_combine 98 = .ok (.aload_n 0, 1) := by decide +kernel
theorem dX0_combine_99 : decode cX0_combine 99 = .ok (.aload_n 1, 1) := by decide +kernel
theorem dX0_combine_100 : decode cX0_combine 100 = .ok (.aload_n 2, 1) := by decide +kernel
theorem dX0_combine_101 : decode cX0_combine 101 = .ok (.iload_n 3, 1) := by decide +kernel
theorem dX0_combine_102 : decode cX0_combine 102 = .ok (.iconst 1, 1) := by decide +kernel
theorem dX0_combine_103 : decode cX0_combine 103 = .ok (.if_icmp .ne 7, 3) := by decide +kernel
theorem dX0_combine_106 : decode cX0_combine 106 = .ok (.iconst 1, 1) := by decide +kernel
theorem dX0_combine_107 : decode cX0_combine 107 = .ok (.goto 4, 3) := by decide +kernel
theorem dX0_combine_110 : decode cX0_combine 110 = .ok (.iconst 0, 1) := by decide +kernel
theorem dX0_combine_111 : decode cX0_combine 111 = .ok (.invokevirtual 102, 3) := by decide +kernel
theorem dX0_combine_114 : decode cX0_combine 114 = .ok (.ifCond .ne 6, 3) := by decide +kernel
theorem dX0_combine_117 : decode cX0_combine 117 = .ok (.bipush (-6), 2) := by decide +kernel
theorem dX0_combine_119 : decode cX0_combine 119 = .ok (.ireturn, 1) := by decide +kernel
theorem dX0_combine_120 : decode cX0_combine 120 = .ok (.aload_n 0, 1) := by decide +kernel
theorem dX0_combine_121 : decode cX0_combine 121 = .ok (.getfield 21, 3) := by decide +kernel
theorem dX0_combine_124 : decode cX0_combine 124 = .ok (.iload 5, 2) := by decide +kernel
theorem dX0_combine_126 : decode cX0_combine 126 = .ok (.invokevirtual 106, 3) := by decide +kernel
theorem dX0_combine_129 : decode cX0_combine 129 = .ok (.aload 4, 2) := by decide +kernel
theorem dX0_combine_131 : decode cX0_combine 131 = .ok (.aload_n 0, 1) := by decide +kernel
theorem dX0_combine_132 : decode cX0_combine 132 = .ok (.getfield 21, 3) := by decide +kernel
theorem dX0_combine_135 : decode cX0_combine 135 = .ok (.invokevirtual 110, 3) := by decide +kernel
theorem dX0_combine_138 : decode cX0_combine 138 = .ok (.iconst 0, 1) := by decide +kernel
theorem dX0_combine_139 : decode cX0_combine 139 = .ok (.ireturn, 1) := by decide +kernel
theorem dX0_isTooLarge_0 : decode cX0_isTooLarge 0 = .ok (.iload_n 0, 1) := by decide +kernel
theorem dX0_isTooLarge_1 : decode cX0_isTooLarge 1 = .ok (.iload_n 1, 1) := by decide +kernel
theorem dX0_isTooLarge_2 : decode cX0_isTooLarge 2 = .ok (.iadd, 1) := by decide +kernel
theorem dX0_isTooLarge_3 : decode cX0_isTooLarge 3 = .ok (.iload_n 2, 1) := by decide +kernel
theorem dX0_isTooLarge_4 : decode cX0_isTooLarge 4 = .ok (.iconst 2, 1) := by decide +kernel
theorem dX0_isTooLarge_5 : decode cX0_isTooLarge 5 = .ok (.if_icmp .ne 7, 3) := by decide +kernel
theorem dX0_isTooLarge_8 : decode cX0_isTooLarge 8 = .ok (.iconst 1, 1) := by decide +kernel
theorem dX0_isTooLarge_9 : decode cX0_isTooLarge 9 = .ok (.goto 4, 3) := by decide +kernel
theorem dX0_isTooLarge_12 : decode cX0_isTooLarge 12 = .ok (.iconst 0, 1) := by decide +kernel
theorem dX0_isTooLarge_13 : decode cX0_isTooLarge 13 = .ok (.isub, 1) := by decide +kernel
theorem dX0_isTooLarge_14 : decode cX0_isTooLarge 14 = .ok (.istore_n 3, 1) := by decide +kernel
theorem dX0_isTooLarge_15 : decode cX0_isTooLarge 15 = .ok (.iload_n 0, 1) := by decide +kernel
theorem dX0_isTooLarge_16 : decode cX0_isTooLarge 16 = .ok (.iconst (-1), 1) := by decide +kernel
theorem dX0_isTooLarge_17 : decode cX0_isTooLarge 17 = .ok (.if_icmp .eq 17, 3) := by decide +kernel
theorem dX0_isTooLarge_20 : decode cX0_isTooLarge 20 = .ok (.iload_n 1, 1) := by decide +kernel
theorem dX0_isTooLarge_21 : decode cX0_isTooLarge 21 = .ok (.iconst (-1), 1) := by decide +kernel
theorem dX0_isTooLarge_22 : decode cX0_isTooLarge 22 = .ok (.if_icmp .eq 12, 3) := by decide +kernel
theorem dX0_isTooLarge_25 : decode cX0_isTooLarge 25 = .ok (.iload_n 3, 1) := by decide +kernel
theorem dX0_isTooLarge_26 : decode cX0_isTooLarge 26 = .ok (.iconst 4, 1) := by decide +kernel
theorem dX0_isTooLarge_27 : decode cX0_isTooLarge 27 = .ok (.if_icmp .le 7, 3) := by decide +kernel
theorem dX0_isTooLarge_30 : decode cX0_isTooLarge 30 = .ok (.iconst 1, 1) := by decide +kernel
theorem dX0_isTooLarge_31 : decode cX0_isTooLarge 31 = .ok (.goto 4, 3) := by decide +kernel
theorem dX0_isTooLarge_34 : decode cX0_isTooLarge 34 = .ok (.iconst 0, 1) := by decide +kernel
theorem dX0_isTooLarge_35 : decode cX0_isTooLarge 35 = .ok (.ireturn, 1) := by decide +kernel
theorem dX0_unite_0 : decode cX0_unite 0 = .ok (.aload_n 0, 1) := by decide +kernel
theorem dX0_unite_1 : decode cX0_unite 1 = .ok (.getfield 21, 3) := by decide +kernel
theorem dX0_unite_4 : decode cX0_unite 4 = .ok (.aload_n 1, 1) := by decide +kernel
theorem dX0_unite_5 : decode cX0_unite 5 = .ok (.invokevirtual 110, 3) := by decide +kernel
theorem dX0_unite_8 : decode cX0_unite 8 = .ok (.iconst 0, 1) := by decide +kernel
theorem dX0_unite_9 : decode cX0_unite 9 = .ok (.istore 4, 2) := by decide +kernel
theorem dX0_unite_11 : decode cX0_unite 11 = .ok (.iload 4, 2) := by decide +kernel
theorem dX0_unite_13 : decode cX0_unite 13 = .ok (.bipush 29, 2) := by decide +kernel
theorem dX0_unite_15 : decode cX0_unite 15 = .ok (.if_icmp .ge 81, 3) := by decide +kernel
theorem dX0_unite_18 : decode cX0_unite 18 = .ok (.aload_n 2, 1) := by decide +kernel
theorem dX0_unite_19 : decode cX0_unite 19 = .ok (.getfield 74, 3) := by decide +kernel
theorem dX0_unite_22 : decode cX0_unite 22 = .ok (.iload 4, 2) := by decide +kernel
theorem dX0_unite_24 : decode cX0_unite 24 = .ok (.laload, 1) := by decide +kernel
theorem dX0_unite_25 : decode cX0_unite 25 = .ok (.lconst 0, 1) := by decide +kernel
theorem dX0_unite_26 : decode cX0_unite 26 = .ok (.lcmp, 1) := by decide +kernel
theorem dX0_unite_27 : decode cX0_unite 27 = .ok (.ifCond .ne 6, 3) := by decide +kernel
theorem dX0_unite_30 : decode cX0_unite 30 = .ok (.goto 60, 3) := by decide +kernel
theorem dX0_unite_33 : decode cX0_unite 33 = .ok (.aload_n 0, 1) := by decide +kernel
theorem dX0_unite_34 : decode cX0_unite 34 = .ok (.getfield 32, 3) := by decide +kernel
theorem dX0_unite_37 : decode cX0_unite 37 = .ok (.aload_n 2, 1) := by decide +kernel
theorem dX0_unite_38 : decode cX0_unite 38 = .ok (.getfield 74, 3) := by decide +kernel
theorem dX0_unite_41 : decode cX0_unite 41 = .ok (.iload 4, 2) := by decide +kernel
theorem dX0_unite_43 : decode cX0_unite 43 = .ok (.laload, 1) := by decide +kernel
theorem dX0_unite_44 : decode cX0_unite 44 = .ok (.aload_n 2, 1) := by decide +kernel
theorem dX0_unite_45 : decode cX0_unite 45 = .ok (.getfield 113, 3) := by decide +kernel
theorem dX0_unite_48 : decode cX0_unite 48 = .ok (.iload 4, 2) := by decide +kernel
theorem dX0_unite_50 : decode cX0_unite 50 = .ok (.laload, 1) := by decide +kernel
theorem dX0_unite_51 : decode cX0_unite 51 = .ok (.invokevirtual 45, 3) := by decide +kernel
theorem dX0_unite_54 : decode cX0_unite 54 = .ok (.iload_n 3, 1) := by decide +kernel
theorem dX0_unite_55 : decode cX0_unite 55 = .ok (.ifCond .eq 17, 3) := by decide +kernel
theorem dX0_unite_58 : decode cX0_unite 58 = .ok (.aload_n 0, 1) := by decide +kernel
theorem dX0_unite_59 : decode cX0_unite 59 = .ok (.getfield 32, 3) := by decide +kernel
theorem dX0_unite_62 : decode cX0_unite 62 = .ok (.ldc2_w 116, 3) := by decide +kernel
theorem dX0_unite_65 : decode cX0_unite 65 = .ok (.lconst 1, 1) := by decide +kernel
theorem dX0_unite_66 : decode cX0_unite 66 = .ok (.invokevirtual 118, 3) := by decide +kernel
theorem dX0_unite_69 : decode cX0_unite 69 = .ok (.ifCond .eq 19, 3) := by decide +kernel
theorem dX0_unite_72 : decode cX0_unite 72 = .ok (.aload_n 0, 1) := by decide +kernel
theorem dX0_unite_73 : decode cX0_unite 73 = .ok (.getfield 21, 3) := by decide +kernel
theorem dX0_unite_76 : decode cX0_unite 76 = .ok (.iload 4, 2) := by decide +kernel
theorem dX0_unite_78 : decode cX0_unite 78 = .ok (.aload_n 0, 1) := by decide +kernel
theorem dX0_unite_79 : decode cX0_unite 79 = .ok (.getfield 32, 3) := by decide +kernel
theorem dX0_unite_82 : decode cX0_unite 82 = .ok (.invokevirtual 122, 3) := by decide +kernel
theorem dX0_unite_85 : decode cX0_unite 85 = .ok (.ifCond .ne 5, 3) := by decide +kernel
theorem dX0_unite_88 : decode cX0_unite 88 = .ok (.iconst 0, 1) := by decide +kernel
theorem dX0_unite_89 : decode cX0_unite 89 = .ok (.ireturn, 1) := by decide +kernel
theorem dX0_unite_90 : decode cX0_unite 90 = .ok (.iinc 4 1, 3) := by decide +kernel
theorem dX0_unite_93 : decode cX0_unite 93 = .ok (.goto (-82), 3) := by decide +kernel
theorem dX0_unite_96 : decode cX0_unite 96 = .ok (.iconst 1, 1) := by decide +kernel
theorem dX0_unite_97 : decode cX0_unite 97 = .ok (.ireturn, 1) := by decide +kernel
theorem dX0_multiply_0 : decode cX0_multiply 0 = .ok (.aload_n 0, 1) := by decide +kernel
theorem dX0_multiply_1 : decode cX0_multiply 1 = .ok (.iload_n 3, 1) := by decide +kernel
theorem dX0_multiply_2 : decode cX0_multiply 2 = .ok (.invokevirtual 69, 3) := by decide +kernel
theorem dX0_multiply_5 : decode cX0_multiply 5 = .ok (.astore 5, 2) := by decide +kernel
theorem dX0_multiply_7 : decode cX0_multiply 7 = .ok (.aload_n 0, 1) := by decide +kernel
theorem dX0_multiply_8 : decode cX0_multiply 8 = .ok (.getfield 21, 3) := by decide +kernel
theorem dX0_multiply_11 : decode cX0_multiply 11 = .ok (.invokevirtual 126, 3) := by decide +kernel
theorem dX0_multiply_14 : decode cX0_multiply 14 = .ok (.iconst 0, 1) := by decide +kernel
theorem dX0_multiply_15 : decode cX0_multiply 15 = .ok (.istore 6, 2) := by decide +kernel
theorem dX0_multiply_17 : decode cX0_multiply 17 = .ok (.iload 6, 2) := by decide +kernel
theorem dX0_multiply_19 : decode cX0_multiply 19 = .ok (.aload 5, 2) := by decide +kernel
theorem dX0_multiply_21 : decode cX0_multiply 21 = .ok (.getfield 73, 3) := by decide +kernel
theorem dX0_multiply_24 : decode cX0_multiply 24 = .ok (.if_icmp .ge 135, 3) := by decide +kernel
theorem dX0_multiply_27 : decode cX0_multiply 27 = .ok (.iconst 0, 1) := by decide +kernel
theorem dX0_multiply_28 : decode cX0_multiply 28 = .ok (.istore 7, 2) := by decide +kernel
theorem dX0_multiply_30 : decode cX0_multiply 30 = .ok (.iload 7, 2) := by decide +kernel
theorem dX0_multiply_32 : decode cX0_multiply 32 = .ok (.aload 5, 2) := by decide +kernel
theorem dX0_multiply_34 : decode cX0_multiply 34 = .ok (.getfield 73, 3) := by decide +kernel
theorem dX0_multiply_37 : decode cX0_multiply 37 = .ok (.if_icmp .ge 116, 3) := by decide +kernel
theorem dX0_multiply_40 : decode cX0_multiply 40 = .ok (.aload_n 1, 1) := by decide +kernel
theorem dX0_multiply_41 : decode cX0_multiply 41 = .ok (.getfield 74, 3) := by decide +kernel
theorem dX0_multiply_44 : decode cX0_multiply 44 = .ok (.iload 6, 2) := by decide +kernel
theorem dX0_multiply_46 : decode cX0_multiply 46 = .ok (.laload, 1) := by decide +kernel
theorem dX0_multiply_47 : decode cX0_multiply 47 = .ok (.lconst 0, 1) := by decide +kernel
theorem dX0_multiply_48 : decode cX0_multiply 48 = .ok (.lcmp, 1) := by decide +kernel
theorem dX0_multiply_49 : decode cX0_multiply 49 = .ok (.ifCond .eq 98, 3) := by decide +kernel
theorem dX0_multiply_52 : decode cX0_multiply 52 = .ok (.aload_n 2, 1) := by decide +kernel
theorem dX0_multiply_53 : decode cX0_multiply 53 = .ok (.getfield 74, 3) := by decide +kernel
theorem dX0_multiply_56 : decode cX0_multiply 56 = .ok (.iload 7, 2) := by decide +kernel
theorem dX0_multiply_58 : decode cX0_multiply 58 = .ok (.laload, 1) := by decide +kernel
theorem dX0_multiply_59 : decode cX0_multiply 59 = .ok (.lconst 0, 1) := by decide +kernel
theorem dX0_multiply_60 : decode cX0_multiply 60 = .ok (.lcmp, 1) := by decide +kernel
theorem dX0_multiply_61 : decode cX0_multiply 61 = .ok (.ifCond .ne 6, 3) := by decide +kernel
theorem dX0_multiply_64 : decode cX0_multiply 64 = .ok (.goto 83, 3) := by decide +kernel
theorem dX0_multiply_67 : decode cX0_multiply 67 = .ok (.aload_n 0, 1) := by decide +kernel
theorem dX0_multiply_68 : decode cX0_multiply 68 = .ok (.getfield 28, 3) := by decide +kernel
theorem dX0_multiply_71 : decode cX0_multiply 71 = .ok (.aload_n 1, 1) := by decide +kernel
theorem dX0_multiply_72 : decode cX0_multiply 72 = .ok (.getfield 74, 3) := by decide +kernel
theorem dX0_multiply_75 : decode cX0_multiply 75 = .ok (.iload 6, 2) := by decide +kernel
theorem dX0_multiply_77 : decode cX0_multiply 77 = .ok (.laload, 1) := by decide +kernel
theorem dX0_multiply_78 : decode cX0_multiply 78 = .ok (.aload_n 1, 1) := by decide +kernel
theorem dX0_multiply_79 : decode cX0_multiply 79 = .ok (.getfield 113, 3) := by decide +kernel
theorem dX0_multiply_82 : decode cX0_multiply 82 = .ok (.iload 6, 2) := by decide +kernel
theorem dX0_multiply_84 : decode cX0_multiply 84 = .ok (.laload, 1) := by decide +kernel
theorem dX0_multiply_85 : decode cX0_multiply 85 = .ok (.invokevirtual 45, 3) := by decide +kernel
theorem dX0_multiply_88 : decode cX0_multiply 88 = .ok (.aload_n 0, 1) := by decide +kernel
theorem dX0_multiply_89 : decode cX0_multiply 89 = .ok (.getfield 28, 3) := by decide +kernel
theorem dX0_multiply_92 : decode cX0_multiply 92 = .ok (.aload_n 2, 1) := by decide +kernel
theorem dX0_multiply_93 : decode cX0_multiply 93 = .ok (.getfield 74, 3) := by decide +kernel
theorem dX0_multiply_96 : decode cX0_multiply 96 = .ok (.iload 7, 2) := by decide +kernel
theorem dX0_multiply_98 : decode cX0_multiply 98 = .ok (.laload, 1) := by decide +kernel
theorem dX0_multiply_99 : decode cX0_multiply 99 = .ok (.aload_n 2, 1) := by decide +kernel
theorem dX0_multiply_100 : decode cX0_multiply 100 = .ok (.getfield 113, 3) := by decide +kernel
theorem dX0_multiply_103 : decode cX0_multiply 103 = .ok (.iload 7, 2) := by decide +kernel
theorem dX0_multiply_105 : decode cX0_multiply 105 = .ok (.laload, 1) := by decide +kernel
theorem dX0_multiply_106 : decode cX0_multiply 106 = .ok (.invokevirtual 118, 3) := by decide +kernel
theorem dX0_multiply_109 : decode cX0_multiply 109 = .ok (.ifCond .eq 36, 3) := by decide +kernel
theorem dX0_multiply_112 : decode cX0_multiply 112 = .ok (.aload_n 0, 1) := by decide +kernel
theorem dX0_multiply_113 : decode cX0_multiply 113 = .ok (.iload 6, 2) := by decide +kernel
theorem dX0_multiply_115 : decode cX0_multiply 115 = .ok (.iload 7, 2) := by decide +kernel
theorem dX0_multiply_117 : decode cX0_multiply 117 = .ok (.aload 5, 2) := by decide +kernel
theorem dX0_multiply_119 : decode cX0_multiply 119 = .ok (.iload 4, 2) := by decide +kernel
theorem dX0_multiply_121 : decode cX0_multiply 121 = .ok (.iconst (-1), 1) := by decide +kernel
theorem dX0_multiply_122 : decode cX0_multiply 122 = .ok (.if_icmp .ne 15, 3) := by decide +kernel
theorem dX0_multiply_125 : decode cX0_multiply 125 = .ok (.aload 5, 2) := by decide +kernel
theorem dX0_multiply_127 : decode cX0_multiply 127 = .ok (.iload 6, 2) := by decide +kernel
theorem dX0_multiply_129 : decode cX0_multiply 129 = .ok (.iload 7, 2) := by decide +kernel
theorem dX0_multiply_131 : decode cX0_multiply 131 = .ok (.invokevirtual 129, 3) := by decide +kernel
theorem dX0_multiply_134 : decode cX0_multiply 134 = .ok (.goto 5, 3) := by decide +kernel
theorem dX0_multiply_137 : decode cX0_multiply 137 = .ok (.iload 4, 2) := by decide +kernel
theorem dX0_multiply_139 : decode cX0_multiply 139 = .ok (.invokevirtual 132, 3) := by decide +kernel
theorem dX0_multiply_142 : decode cX0_multiply 142 = .ok (.ifCond .ne 5, 3) := by decide +kernel
theorem dX0_multiply_145 : decode cX0_multiply 145 = .ok (.iconst 0, 1) := by decide +kernel
theorem dX0_multiply_146 : decode cX0_multiply 146 = .ok (.ireturn, 1) := by decide +kernel
theorem dX0_multiply_147 : decode cX0_multiply 147 = .ok (.iinc 7 1, 3) := by decide +kernel
theorem dX0_multiply_150 : decode cX0_multiply 150 = .ok (.goto (-120), 3) := by decide +kernel
theorem dX0_multiply_153 : decode cX0_multiply 153 = .ok (.iinc 6 1, 3) := by decide +kernel
theorem dX0_multiply_156 : decode cX0_multiply 156 = .ok (.goto (-139), 3) := by decide +kernel
theorem dX0_multiply_159 : decode cX0_multiply 159 = .ok (.iconst 1, 1) := by decide +kernel
theorem dX0_multiply_160 : decode cX0_multiply 160 = .ok (.ireturn, 1) := by decide +kernel
theorem dX0_spread_0 : decode cX0_spread 0 = .ok (.aload_n 3, 1) := by decide +kernel
theorem dX0_spread_1 : decode cX0_spread 1 = .ok (.iload 4, 2) := by decide +kernel
theorem dX0_spread_3 : decode cX0_spread 3 = .ok (.invokevirtual 136, 3) := by decide +kernel
theorem dX0_spread_6 : decode cX0_spread 6 = .ok (.ifCond .eq 15, 3) := by decide +kernel
theorem dX0_spread_9 : decode cX0_spread 9 = .ok (.aload_n 3, 1) := by decide +kernel
theorem dX0_spread_10 : decode cX0_spread 10 = .ok (.getfield 140, 3) := by decide +kernel
theorem dX0_spread_13 : decode cX0_spread 13 = .ok (.iload 4, 2) := by decide +kernel
theorem dX0_spread_15 : decode cX0_spread 15 = .ok (.iconst 1, 1) := by decide +kernel
theorem dX0_spread_16 : decode cX0_spread 16 = .ok (.iadd, 1) := by decide +kernel
theorem dX0_spread_17 : decode cX0_spread 17 = .ok (.iaload, 1) := by decide +kernel
theorem dX0_spread_18 : decode cX0_spread 18 = .ok (.goto 4, 3) := by decide +kernel
theorem dX0_spread_21 : decode cX0_spread 21 = .ok (.iconst 0, 1) := by decide +kernel
theorem dX0_spread_22 : decode cX0_spread 22 = .ok (.istore 5, 2) := by decide +kernel
theorem dX0_spread_24 : decode cX0_spread 24 = .ok (.aload_n 3, 1) := by decide +kernel
theorem dX0_spread_25 : decode cX0_spread 25 = .ok (.iload 4, 2) := by decide +kernel
theorem dX0_spread_27 : decode cX0_spread 27 = .ok (.invokevirtual 136, 3) := by decide +kernel
theorem dX0_spread_30 : decode cX0_spread 30 = .ok (.ifCond .eq 13, 3) := by decide +kernel
theorem dX0_spread_33 : decode cX0_spread 33 = .ok (.aload_n 3, 1) := by decide +kernel
theorem dX0_spread_34 : decode cX0_spread 34 = .ok (.getfield 140, 3) := by decide +kernel
theorem dX0_spread_37 : decode cX0_spread 37 = .ok (.iload 4, 2) := by decide +kernel
theorem dX0_spread_39 : decode cX0_spread 39 = .ok (.iaload, 1) := by decide +kernel
theorem dX0_spread_40 : decode cX0_spread 40 = .ok (.goto 4, 3) := by decide +kernel
theorem dX0_spread_43 : decode cX0_spread 43 = .ok (.iconst 0, 1) := by decide +kernel
theorem dX0_spread_44 : decode cX0_spread 44 = .ok (.istore 6, 2) := by decide +kernel
theorem dX0_spread_46 : decode cX0_spread 46 = .ok (.iload 6, 2) := by decide +kernel
theorem dX0_spread_48 : decode cX0_spread 48 = .ok (.istore 7, 2) := by decide +kernel
theorem dX0_spread_50 : decode cX0_spread 50 = .ok (.iload 7, 2) := by decide +kernel
theorem dX0_spread_52 : decode cX0_spread 52 = .ok (.iload 5, 2) := by decide +kernel
theorem dX0_spread_54 : decode cX0_spread 54 = .ok (.if_icmp .ge 88, 3) := by decide +kernel
theorem dX0_spread_57 : decode cX0_spread 57 = .ok (.aload_n 0, 1) := by decide +kernel
theorem dX0_spread_58 : decode cX0_spread 58 = .ok (.getfield 32, 3) := by decide +kernel
theorem dX0_spread_61 : decode cX0_spread 61 = .ok (.aload_n 3, 1) := by decide +kernel
theorem dX0_spread_62 : decode cX0_spread 62 = .ok (.iload_n 1, 1) := by decide +kernel
theorem dX0_spread_63 : decode cX0_spread 63 = .ok (.iload_n 2, 1) := by decide +kernel
theorem dX0_spread_64 : decode cX0_spread 64 = .ok (.iload 7, 2) := by decide +kernel
theorem dX0_spread_66 : decode cX0_spread 66 = .ok (.invokevirtual 143, 3) := by decide +kernel
theorem dX0_spread_69 : decode cX0_spread 69 = .ok (.i2l, 1) := by decide +kernel
theorem dX0_spread_70 : decode cX0_spread 70 = .ok (.aload_n 3, 1) := by decide +kernel
theorem dX0_spread_71 : decode cX0_spread 71 = .ok (.iload_n 1, 1) := by decide +kernel
theorem dX0_spread_72 : decode cX0_spread 72 = .ok (.iload_n 2, 1) := by decide +kernel
theorem dX0_spread_73 : decode cX0_spread 73 = .ok (.iload 7, 2) := by decide +kernel
theorem dX0_spread_75 : decode cX0_spread 75 = .ok (.invokevirtual 147, 3) := by decide +kernel
theorem dX0_spread_78 : decode cX0_spread 78 = .ok (.i2l, 1) := by decide +kernel
theorem dX0_spread_79 : decode cX0_spread 79 = .ok (.invokevirtual 45, 3) := by decide +kernel
theorem dX0_spread_82 : decode cX0_spread 82 = .ok (.aload_n 0, 1) := by decide +kernel
theorem dX0_spread_83 : decode cX0_spread 83 = .ok (.getfield 32, 3) := by decide +kernel
theorem dX0_spread_86 : decode cX0_spread 86 = .ok (.getfield 150, 3) := by decide +kernel
theorem dX0_spread_89 : decode cX0_spread 89 = .ok (.lconst 0, 1) := by decide +kernel
theorem dX0_spread_90 : decode cX0_spread 90 = .ok (.lcmp, 1) := by decide +kernel
theorem dX0_spread_91 : decode cX0_spread 91 = .ok (.ifCond .eq 45, 3) := by decide +kernel
theorem dX0_spread_94 : decode cX0_spread 94 = .ok (.aload_n 0, 1) := by decide +kernel
theorem dX0_spread_95 : decode cX0_spread 95 = .ok (.getfield 32, 3) := by decide +kernel
theorem dX0_spread_98 : decode cX0_spread 98 = .ok (.aload_n 0, 1) := by decide +kernel
theorem dX0_spread_99 : decode cX0_spread 99 = .ok (.getfield 28, 3) := by decide +kernel
theorem dX0_spread_102 : decode cX0_spread 102 = .ok (.getfield 150, 3) := by decide +kernel
theorem dX0_spread_105 : decode cX0_spread 105 = .ok (.aload_n 0, 1) := by decide +kernel
theorem dX0_spread_106 : decode cX0_spread 106 = .ok (.getfield 28, 3) := by decide +kernel
theorem dX0_spread_109 : decode cX0_spread 109 = .ok (.getfield 153, 3) := by decide +kernel
theorem dX0_spread_112 : decode cX0_spread 112 = .ok (.invokevirtual 118, 3) := by decide +kernel
theorem dX0_spread_115 : decode cX0_spread 115 = .ok (.ifCond .eq 19, 3) := by decide +kernel
theorem dX0_spread_118 : decode cX0_spread 118 = .ok (.aload_n 0, 1) := by decide +kernel
theorem dX0_spread_119 : decode cX0_spread 119 = .ok (.getfield 21, 3) := by decide +kernel
theorem dX0_spread_122 : decode cX0_spread 122 = .ok (.iload 7, 2) := by decide +kernel
theorem dX0_spread_124 : decode cX0_spread 124 = .ok (.aload_n 0, 1) := by decide +kernel
theorem dX0_spread_125 : decode cX0_spread 125 = .ok (.getfield 32, 3) := by decide +kernel
theorem dX0_spread_128 : decode cX0_spread 128 = .ok (.invokevirtual 122, 3) := by decide +kernel
theorem dX0_spread_131 : decode cX0_spread 131 = .ok (.ifCond .ne 5, 3) := by decide +kernel
theorem dX0_spread_134 : decode cX0_spread 134 = .ok (.iconst 0, 1) := by decide +kernel
theorem dX0_spread_135 : decode cX0_spread 135 = .ok (.ireturn, 1) := by decide +kernel
theorem dX0_spread_136 : decode cX0_spread 136 = .ok (.iinc 7 1, 3) := by decide +kernel
theorem dX0_spread_139 : decode cX0_spread 139 = .ok (.goto (-89), 3) := by decide +kernel
theorem dX0_spread_142 : decode cX0_spread 142 = .ok (.iconst 1, 1) := by decide +kernel
theorem dX0_spread_143 : decode cX0_spread 143 = .ok (.ireturn, 1) := by decide +kernel
theorem dX0_raise_0 : decode cX0_raise 0 = .ok (.aload_n 0, 1) := by decide +kernel
theorem dX0_raise_1 : decode cX0_raise 1 = .ok (.aload_n 0, 1) := by decide +kernel
theorem dX0_raise_2 : decode cX0_raise 2 = .ok (.getfield 35, 3) := by decide +kernel
theorem dX0_raise_5 : decode cX0_raise 5 = .ok (.aload_n 1, 1) := by decide +kernel
theorem dX0_raise_6 : decode cX0_raise 6 = .ok (.aload_n 1, 1) := by decide +kernel
theorem dX0_raise_7 : decode cX0_raise 7 = .ok (.getfield 87, 3) := by decide +kernel
theorem dX0_raise_10 : decode cX0_raise 10 = .ok (.iload_n 2, 1) := by decide +kernel
theorem dX0_raise_11 : decode cX0_raise 11 = .ok (.invokevirtual 98, 3) := by decide +kernel
theorem dX0_raise_14 : decode cX0_raise 14 = .ok (.ifCond .ne 5, 3) := by decide +kernel
theorem dX0_raise_17 : decode cX0_raise 17 = .ok (.iconst 0, 1) := by decide +kernel
theorem dX0_raise_18 : decode cX0_raise 18 = .ok (.ireturn, 1) := by decide +kernel
theorem dX0_raise_19 : decode cX0_raise 19 = .ok (.aload_n 0, 1) := by decide +kernel
theorem dX0_raise_20 : decode cX0_raise 20 = .ok (.getfield 21, 3) := by decide +kernel
theorem dX0_raise_23 : decode cX0_raise 23 = .ok (.aload_n 1, 1) := by decide +kernel
theorem dX0_raise_24 : decode cX0_raise 24 = .ok (.getfield 87, 3) := by decide +kernel
theorem dX0_raise_27 : decode cX0_raise 27 = .ok (.invokevirtual 106, 3) := by decide +kernel
theorem dX0_raise_30 : decode cX0_raise 30 = .ok (.aload_n 3, 1) := by decide +kernel
theorem dX0_raise_31 : decode cX0_raise 31 = .ok (.aload_n 0, 1) := by decide +kernel
theorem dX0_raise_32 : decode cX0_raise 32 = .ok (.getfield 21, 3) := by decide +kernel
theorem dX0_raise_35 : decode cX0_raise 35 = .ok (.invokevirtual 110, 3) := by decide +kernel
theorem dX0_raise_38 : decode cX0_raise 38 = .ok (.iconst 1, 1) := by decide +kernel
theorem dX0_raise_39 : decode cX0_raise 39 = .ok (.ireturn, 1) := by decide +kernel
theorem dX0_uproot_0 : decode cX0_uproot 0 = .ok (.aload_n 1, 1) := by decide +kernel
theorem dX0_uproot_1 : decode cX0_uproot 1 = .ok (.getfield 87, 3) := by decide +kernel
theorem dX0_uproot_4 : decode cX0_uproot 4 = .ok (.iconst 1, 1) := by decide +kernel
theorem dX0_uproot_5 : decode cX0_uproot 5 = .ok (.if_icmp .ne 6, 3) := by decide +kernel
theorem dX0_uproot_8 : decode cX0_uproot 8 = .ok (.bipush (-2), 2) := by decide +kernel
theorem dX0_uproot_10 : decode cX0_uproot 10 = .ok (.ireturn, 1) := by decide +kernel
theorem dX0_uproot_11 : decode cX0_uproot 11 = .ok (.aload_n 1, 1) := by decide +kernel
theorem dX0_uproot_12 : decode cX0_uproot 12 = .ok (.getfield 87, 3) := by decide +kernel
theorem dX0_uproot_15 : decode cX0_uproot 15 = .ok (.ifCond .ne 10, 3) := by decide +kernel
theorem dX0_uproot_18 : decode cX0_uproot 18 = .ok (.aload_n 2, 1) := by decide +kernel
theorem dX0_uproot_19 : decode cX0_uproot 19 = .ok (.aload_n 1, 1) := by decide +kernel
theorem dX0_uproot_20 : decode cX0_uproot 20 = .ok (.invokevirtual 110, 3) := by decide +kernel
theorem dX0_uproot_23 : decode cX0_uproot 23 = .ok (.iconst 0, 1) := by decide +kernel
theorem dX0_uproot_24 : decode cX0_uproot 24 = .ok (.ireturn, 1) := by decide +kernel
theorem dX0_uproot_25 : decode cX0_uproot 25 = .ok (.aload_n 0, 1) := by decide +kernel
theorem dX0_uproot_26 : decode cX0_uproot 26 = .ok (.getfield 21, 3) := by decide +kernel
theorem dX0_uproot_29 : decode cX0_uproot 29 = .ok (.invokevirtual 126, 3) := by decide +kernel
theorem dX0_uproot_32 : decode cX0_uproot 32 = .ok (.iconst 0, 1) := by decide +kernel
theorem dX0_uproot_33 : decode cX0_uproot 33 = .ok (.istore_n 3, 1) := by decide +kernel
theorem dX0_uproot_34 : decode cX0_uproot 34 = .ok (.iload_n 3, 1) := by decide +kernel
theorem dX0_uproot_35 : decode cX0_uproot 35 = .ok (.bipush 29, 2) := by decide +kernel
theorem dX0_uproot_37 : decode cX0_uproot 37 = .ok (.if_icmp .ge 92, 3) := by decide +kernel
theorem dX0_uproot_40 : decode cX0_uproot 40 = .ok (.aload_n 1, 1) := by decide +kernel
theorem dX0_uproot_41 : decode cX0_uproot 41 = .ok (.getfield 74, 3) := by decide +kernel
theorem dX0_uproot_44 : decode cX0_uproot 44 = .ok (.iload_n 3, 1) := by decide +kernel
theorem dX0_uproot_45 : decode cX0_uproot 45 = .ok (.laload, 1) := by decide +kernel
theorem dX0_uproot_46 : decode cX0_uproot 46 = .ok (.lconst 0, 1) := by decide +kernel
theorem dX0_uproot_47 : decode cX0_uproot 47 = .ok (.lcmp, 1) := by decide +kernel
theorem dX0_uproot_48 : decode cX0_uproot 48 = .ok (.ifCond .ne 6, 3) := by decide +kernel
theorem dX0_uproot_51 : decode cX0_uproot 51 = .ok (.goto 72, 3) := by decide +kernel
theorem dX0_uproot_54 : decode cX0_uproot 54 = .ok (.aload_n 0, 1) := by decide +kernel
theorem dX0_uproot_55 : decode cX0_uproot 55 = .ok (.getfield 32, 3) := by decide +kernel
theorem dX0_uproot_58 : decode cX0_uproot 58 = .ok (.aload_n 0, 1) := by decide +kernel
theorem dX0_uproot_59 : decode cX0_uproot 59 = .ok (.getfield 15, 3) := by decide +kernel
theorem dX0_uproot_62 : decode cX0_uproot 62 = .ok (.iload_n 3, 1) := by decide +kernel
theorem dX0_uproot_63 : decode cX0_uproot 63 = .ok (.iaload, 1) := by decide +kernel
theorem dX0_uproot_64 : decode cX0_uproot 64 = .ok (.i2l, 1) := by decide +kernel
theorem dX0_uproot_65 : decode cX0_uproot 65 = .ok (.aload_n 0, 1) := by decide +kernel
theorem dX0_uproot_66 : decode cX0_uproot 66 = .ok (.getfield 42, 3) := by decide +kernel
theorem dX0_uproot_69 : decode cX0_uproot 69 = .ok (.getfield 78, 3) := by decide +kernel
theorem dX0_uproot_72 : decode cX0_uproot 72 = .ok (.iload_n 3, 1) := by decide +kernel
theorem dX0_uproot_73 : decode cX0_uproot 73 = .ok (.iaload, 1) := by decide +kernel
theorem dX0_uproot_74 : decode cX0_uproot 74 = .ok (.i2l, 1) := by decide +kernel
theorem dX0_uproot_75 : decode cX0_uproot 75 = .ok (.invokevirtual 45, 3) := by decide +kernel
theorem dX0_uproot_78 : decode cX0_uproot 78 = .ok (.aload_n 0, 1) := by decide +kernel
theorem dX0_uproot_79 : decode cX0_uproot 79 = .ok (.getfield 32, 3) := by decide +kernel
theorem dX0_uproot_82 : decode cX0_uproot 82 = .ok (.aload_n 1, 1) := by decide +kernel
theorem dX0_uproot_83 : decode cX0_uproot 83 = .ok (.getfield 74, 3) := by decide +kernel
theorem dX0_uproot_86 : decode cX0_uproot 86 = .ok (.iload_n 3, 1) := by decide +kernel
theorem dX0_uproot_87 : decode cX0_uproot 87 = .ok (.laload, 1) := by decide +kernel
theorem dX0_uproot_88 : decode cX0_uproot 88 = .ok (.aload_n 1, 1) := by decide +kernel
theorem dX0_uproot_89 : decode cX0_uproot 89 = .ok (.getfield 113, 3) := by decide +kernel
theorem dX0_uproot_92 : decode cX0_uproot 92 = .ok (.iload_n 3, 1) := by decide +kernel
theorem dX0_uproot_93 : decode cX0_uproot 93 = .ok (.laload, 1) := by decide +kernel
theorem dX0_uproot_94 : decode cX0_uproot 94 = .ok (.invokevirtual 118, 3) := by decide +kernel
theorem dX0_uproot_97 : decode cX0_uproot 97 = .ok (.ifCond .eq 23, 3) := by decide +kernel
theorem dX0_uproot_100 : decode cX0_uproot 100 = .ok (.aload_n 0, 1) := by decide +kernel
theorem dX0_uproot_101 : decode cX0_uproot 101 = .ok (.getfield 21, 3) := by decide +kernel
theorem dX0_uproot_104 : decode cX0_uproot 104 = .ok (.aload_n 0, 1) := by decide +kernel
theorem dX0_uproot_105 : decode cX0_uproot 105 = .ok (.getfield 9, 3) := by decide +kernel
theorem dX0_uproot_108 : decode cX0_uproot 108 = .ok (.iload_n 3, 1) := by decide +kernel
theorem dX0_uproot_109 : decode cX0_uproot 109 = .ok (.iaload, 1) := by decide +kernel
theorem dX0_uproot_110 : decode cX0_uproot 110 = .ok (.aload_n 0, 1) := by decide +kernel
theorem dX0_uproot_111 : decode cX0_uproot 111 = .ok (.getfield 32, 3) := by decide +kernel
theorem dX0_uproot_114 : decode cX0_uproot 114 = .ok (.invokevirtual 122, 3) := by decide +kernel
theorem dX0_uproot_117 : decode cX0_uproot 117 = .ok (.ifCond .ne 6, 3) := by decide +kernel
theorem dX0_uproot_120 : decode cX0_uproot 120 = .ok (.bipush (-6), 2) := by decide +kernel
theorem dX0_uproot_122 : decode cX0_uproot 122 = .ok (.ireturn, 1) := by decide +kernel
theorem dX0_uproot_123 : decode cX0_uproot 123 = .ok (.iinc 3 1, 3) := by decide +kernel
theorem dX0_uproot_126 : decode cX0_uproot 126 = .ok (.goto (-92), 3) := by decide +kernel
theorem dX0_uproot_129 : decode cX0_uproot 129 = .ok (.aload_n 0, 1) := by decide +kernel
theorem dX0_uproot_130 : decode cX0_uproot 130 = .ok (.getfield 21, 3) := by decide +kernel
theorem dX0_uproot_133 : decode cX0_uproot 133 = .ok (.iconst 1, 1) := by decide +kernel
theorem dX0_uproot_134 : decode cX0_uproot 134 = .ok (.invokevirtual 106, 3) := by decide +kernel
theorem dX0_uproot_137 : decode cX0_uproot 137 = .ok (.aload_n 2, 1) := by decide +kernel
theorem dX0_uproot_138 : decode cX0_uproot 138 = .ok (.aload_n 0, 1) := by decide +kernel
theorem dX0_uproot_139 : decode cX0_uproot 139 = .ok (.getfield 21, 3) := by decide +kernel
theorem dX0_uproot_142 : decode cX0_uproot 142 = .ok (.invokevirtual 110, 3) := by decide +kernel
theorem dX0_uproot_145 : decode cX0_uproot 145 = .ok (.iconst 0, 1) := by decide +kernel
theorem dX0_uproot_146 : decode cX0_uproot 146 = .ok (.ireturn, 1) := by decide +kernel
theorem dX0_weigh_0 : decode cX0_weigh 0 = .ok (.aload_n 0, 1) := by decide +kernel
theorem dX0_weigh_1 : decode cX0_weigh 1 = .ok (.aload_n 1, 1) := by decide +kernel
theorem dX0_weigh_2 : decode cX0_weigh 2 = .ok (.aload_n 1, 1) := by decide +kernel
theorem dX0_weigh_3 : decode cX0_weigh 3 = .ok (.getfield 87, 3) := by decide +kernel
theorem dX0_weigh_6 : decode cX0_weigh 6 = .ok (.invokevirtual 90, 3) := by decide +kernel
theorem dX0_weigh_9 : decode cX0_weigh 9 = .ok (.aload_n 2, 1) := by decide +kernel
theorem dX0_weigh_10 : decode cX0_weigh 10 = .ok (.getfield 59, 3) := by decide +kernel
theorem dX0_weigh_13 : decode cX0_weigh 13 = .ok (.if_icmp .le 5, 3) := by decide +kernel
theorem dX0_weigh_16 : decode cX0_weigh 16 = .ok (.iconst 0, 1) := by decide +kernel
theorem dX0_weigh_17 : decode cX0_weigh 17 = .ok (.ireturn, 1) := by decide +kernel
theorem dX0_weigh_18 : decode cX0_weigh 18 = .ok (.aload_n 0, 1) := by decide +kernel
theorem dX0_weigh_19 : decode cX0_weigh 19 = .ok (.aload_n 1, 1) := by decide +kernel
theorem dX0_weigh_20 : decode cX0_weigh 20 = .ok (.getfield 87, 3) := by decide +kernel
theorem dX0_weigh_23 : decode cX0_weigh 23 = .ok (.invokevirtual 69, 3) := by decide +kernel
theorem dX0_weigh_26 : decode cX0_weigh 26 = .ok (.astore 5, 2) := by decide +kernel
theorem dX0_weigh_28 : decode cX0_weigh 28 = .ok (.aload_n 0, 1) := by decide +kernel
theorem dX0_weigh_29 : decode cX0_weigh 29 = .ok (.getfield 21, 3) := by decide +kernel
theorem dX0_weigh_32 : decode cX0_weigh 32 = .ok (.invokevirtual 126, 3) := by decide +kernel
theorem dX0_weigh_35 : decode cX0_weigh 35 = .ok (.iconst 0, 1) := by decide +kernel
theorem dX0_weigh_36 : decode cX0_weigh 36 = .ok (.istore 6, 2) := by decide +kernel
theorem dX0_weigh_38 : decode cX0_weigh 38 = .ok (.iload 6, 2) := by decide +kernel
theorem dX0_weigh_40 : decode cX0_weigh 40 = .ok (.aload 5, 2) := by decide +kernel
theorem dX0_weigh_42 : decode cX0_weigh 42 = .ok (.getfield 73, 3) := by decide +kernel
theorem dX0_weigh_45 : decode cX0_weigh 45 = .ok (.if_icmp .ge 78, 3) := by decide +kernel
theorem dX0_weigh_48 : decode cX0_weigh 48 = .ok (.aload_n 1, 1) := by decide +kernel
theorem dX0_weigh_49 : decode cX0_weigh 49 = .ok (.getfield 74, 3) := by decide +kernel
theorem dX0_weigh_52 : decode cX0_weigh 52 = .ok (.iload 6, 2) := by decide +kernel
theorem dX0_weigh_54 : decode cX0_weigh 54 = .ok (.laload, 1) := by decide +kernel
theorem dX0_weigh_55 : decode cX0_weigh 55 = .ok (.lconst 0, 1) := by decide +kernel
theorem dX0_weigh_56 : decode cX0_weigh 56 = .ok (.lcmp, 1) := by decide +kernel
theorem dX0_weigh_57 : decode cX0_weigh 57 = .ok (.ifCond .ne 6, 3) := by decide +kernel
theorem dX0_weigh_60 : decode cX0_weigh 60 = .ok (.goto 57, 3) := by decide +kernel
theorem dX0_weigh_63 : decode cX0_weigh 63 = .ok (.aload 5, 2) := by decide +kernel
theorem dX0_weigh_65 : decode cX0_weigh 65 = .ok (.iload 6, 2) := by decide +kernel
theorem dX0_weigh_67 : decode cX0_weigh 67 = .ok (.aload_n 2, 1) := by decide +kernel
theorem dX0_weigh_68 : decode cX0_weigh 68 = .ok (.iload_n 3, 1) := by decide +kernel
theorem dX0_weigh_69 : decode cX0_weigh 69 = .ok (.aload_n 0, 1) := by decide +kernel
theorem dX0_weigh_70 : decode cX0_weigh 70 = .ok (.getfield 32, 3) := by decide +kernel
theorem dX0_weigh_73 : decode cX0_weigh 73 = .ok (.invokevirtual 155, 3) := by decide +kernel
theorem dX0_weigh_76 : decode cX0_weigh 76 = .ok (.aload_n 0, 1) := by decide +kernel
theorem dX0_weigh_77 : decode cX0_weigh 77 = .ok (.getfield 32, 3) := by decide +kernel
theorem dX0_weigh_80 : decode cX0_weigh 80 = .ok (.aload_n 1, 1) := by decide +kernel
theorem dX0_weigh_81 : decode cX0_weigh 81 = .ok (.getfield 74, 3) := by decide +kernel
theorem dX0_weigh_84 : decode cX0_weigh 84 = .ok (.iload 6, 2) := by decide +kernel
theorem dX0_weigh_86 : decode cX0_weigh 86 = .ok (.laload, 1) := by decide +kernel
theorem dX0_weigh_87 : decode cX0_weigh 87 = .ok (.aload_n 1, 1) := by decide +kernel
theorem dX0_weigh_88 : decode cX0_weigh 88 = .ok (.getfield 113, 3) := by decide +kernel
theorem dX0_weigh_91 : decode cX0_weigh 91 = .ok (.iload 6, 2) := by decide +kernel
theorem dX0_weigh_93 : decode cX0_weigh 93 = .ok (.laload, 1) := by decide +kernel
theorem dX0_weigh_94 : decode cX0_weigh 94 = .ok (.invokevirtual 118, 3) := by decide +kernel
theorem dX0_weigh_97 : decode cX0_weigh 97 = .ok (.ifCond .eq 18, 3) := by decide +kernel
theorem dX0_weigh_100 : decode cX0_weigh 100 = .ok (.aload_n 0, 1) := by decide +kernel
theorem dX0_weigh_101 : decode cX0_weigh 101 = .ok (.getfield 21, 3) := by decide +kernel
theorem dX0_weigh_104 : decode cX0_weigh 104 = .ok (.iconst 0, 1) := by decide +kernel
theorem dX0_weigh_105 : decode cX0_weigh 105 = .ok (.aload_n 0, 1) := by decide +kernel
theorem dX0_weigh_106 : decode cX0_weigh 106 = .ok (.getfield 32, 3) := by decide +kernel
theorem dX0_weigh_109 : decode cX0_weigh 109 = .ok (.invokevirtual 122, 3) := by decide +kernel
theorem dX0_weigh_112 : decode cX0_weigh 112 = .ok (.ifCond .ne 5, 3) := by decide +kernel
theorem dX0_weigh_115 : decode cX0_weigh 115 = .ok (.iconst 0, 1) := by decide +kernel
theorem dX0_weigh_116 : decode cX0_weigh 116 = .ok (.ireturn, 1) := by decide +kernel
theorem dX0_weigh_117 : decode cX0_weigh 117 = .ok (.iinc 6 1, 3) := by decide +kernel
theorem dX0_weigh_120 : decode cX0_weigh 120 = .ok (.goto (-82), 3) := by decide +kernel
theorem dX0_weigh_123 : decode cX0_weigh 123 = .ok (.aload 4, 2) := by decide +kernel
theorem dX0_weigh_125 : decode cX0_weigh 125 = .ok (.aload_n 0, 1) := by decide +kernel
theorem dX0_weigh_126 : decode cX0_weigh 126 = .ok (.getfield 21, 3) := by decide +kernel
theorem dX0_weigh_129 : decode cX0_weigh 129 = .ok (.getfield 74, 3) := by decide +kernel
theorem dX0_weigh_132 : decode cX0_weigh 132 = .ok (.iconst 0, 1) := by decide +kernel
theorem dX0_weigh_133 : decode cX0_weigh 133 = .ok (.laload, 1) := by decide +kernel
theorem dX0_weigh_134 : decode cX0_weigh 134 = .ok (.aload_n 0, 1) := by decide +kernel
theorem dX0_weigh_135 : decode cX0_weigh 135 = .ok (.getfield 21, 3) := by decide +kernel
theorem dX0_weigh_138 : decode cX0_weigh 138 = .ok (.getfield 113, 3) := by decide +kernel
theorem dX0_weigh_141 : decode cX0_weigh 141 = .ok (.iconst 0, 1) := by decide +kernel
theorem dX0_weigh_142 : decode cX0_weigh 142 = .ok (.laload, 1) := by decide +kernel
theorem dX0_weigh_143 : decode cX0_weigh 143 = .ok (.invokevirtual 45, 3) := by decide +kernel
theorem dX0_weigh_146 : decode cX0_weigh 146 = .ok (.iconst 1, 1) := by decide +kernel
theorem dX0_weigh_147 : decode cX0_weigh 147 = .ok (.ireturn, 1) := by decide +kernel
theorem dX1_init_0 : decode cX1_init 0 = .ok (.aload_n 0, 1) := by decide +kernel
theorem dX1_init_1 : decode cX1_init 1 = .ok (.invokespecial 3, 3) := by decide +kernel
theorem dX1_init_4 : decode cX1_init 4 = .ok (.aload_n 0, 1) := by decide +kernel
theorem dX1_init_5 : decode cX1_init 5 = .ok (.bipush 6, 2) := by decide +kernel
theorem dX1_init_7 : decode cX1_init 7 = .ok (.newarray .int, 2) := by decide +kernel
theorem dX1_init_9 : decode cX1_init 9 = .ok (.putfield 9, 3) := by decide +kernel
theorem dX1_init_12 : decode cX1_init 12 = .ok (.aload_n 0, 1) := by decide +kernel
theorem dX1_init_13 : decode cX1_init 13 = .ok (.iconst 5, 1) := by decide +kernel
theorem dX1_init_14 : decode cX1_init 14 = .ok (.bipush 64, 2) := by decide +kernel
theorem dX1_init_16 : decode cX1_init 16 = .ok (.multianewarray 15 2, 4) := by decide +kernel
theorem dX1_init_20 : decode cX1_init 20 = .ok (.putfield 17, 3) := by decide +kernel
theorem dX1_init_23 : decode cX1_init 23 = .ok (.aload_n 0, 1) := by decide +kernel
theorem dX1_init_24 : decode cX1_init 24 = .ok (.invokestatic 20, 3) := by decide +kernel
theorem dX1_init_27 : decode cX1_init 27 = .ok (.putfield 24, 3) := by decide +kernel
theorem dX1_init_30 : decode cX1_init 30 = .ok (.aload_n 0, 1) := by decide +kernel
theorem dX1_init_31 : decode cX1_init 31 = .ok (.iconst 0, 1) := by decide +kernel
theorem dX1_init_32 : decode cX1_init 32 = .ok (.putfield 27, 3) := by decide +kernel
theorem dX1_init_35 : decode cX1_init 35 = .ok (.aload_n 0, 1) := by decide +kernel
theorem dX1_init_36 : decode cX1_init 36 = .ok (.iload_n 1, 1) := by decide +kernel
theorem dX1_init_37 : decode cX1_init 37 = .ok (.putfield 31, 3) := by decide +kernel
theorem dX1_init_40 : decode cX1_init 40 = .ok (.aload_n 0, 1) := by decide +kernel
theorem dX1_init_41 : decode cX1_init 41 = .ok (.iload_n 2, 1) := by decide +kernel
theorem dX1_init_42 : decode cX1_init 42 = .ok (.putfield 35, 3) := by decide +kernel
theorem dX1_init_45 : decode cX1_init 45 = .ok (.aload_n 0, 1) := by decide +kernel
theorem dX1_init_46 : decode cX1_init 46 = .ok (.iload_n 1, 1) := by decide +kernel
theorem dX1_init_47 : decode cX1_init 47 = .ok (.ifCond .eq 7, 3) := by decide +kernel
theorem dX1_init_50 : decode cX1_init 50 = .ok (.iconst 1, 1) := by decide +kernel
theorem dX1_init_51 : decode cX1_init 51 = .ok (.goto 4, 3) := by decide +kernel
theorem dX1_init_54 : decode cX1_init 54 = .ok (.iconst 0, 1) := by decide +kernel
theorem dX1_init_55 : decode cX1_init 55 = .ok (.putfield 38, 3) := by decide +kernel
theorem dX1_init_58 : decode cX1_init 58 = .ok (.aload_n 0, 1) := by decide +kernel
theorem dX1_init_59 : decode cX1_init 59 = .ok (.iload_n 2, 1) := by decide +kernel
theorem dX1_init_60 : decode cX1_init 60 = .ok (.newarray .int, 2) := by decide +kernel
theorem dX1_init_62 : decode cX1_init 62 = .ok (.putfield 41, 3) := by decide +kernel
theorem dX1_init_65 : decode cX1_init 65 = .ok (.aload_n 0, 1) := by decide +kernel
theorem dX1_init_66 : decode cX1_init 66 = .ok (.iload_n 2, 1) := by decide +kernel
theorem dX1_init_67 : decode cX1_init 67 = .ok (.newarray .int, 2) := by decide +kernel
theorem dX1_init_69 : decode cX1_init 69 = .ok (.putfield 44, 3) := by decide +kernel
theorem dX1_init_72 : decode cX1_init 72 = .ok (.aload_n 0, 1) := by decide +kernel
theorem dX1_init_73 : decode cX1_init 73 = .ok (.iload_n 2, 1) := by decide +kernel
theorem dX1_init_74 : decode cX1_init 74 = .ok (.anewarray 47, 3) := by decide +kernel
theorem dX1_init_77 : decode cX1_init 77 = .ok (.putfield 49, 3) := by decide +kernel
theorem dX1_init_80 : decode cX1_init 80 = .ok (.aload_n 0, 1) := by decide +kernel
theorem dX1_init_81 : decode cX1_init 81 = .ok (.iload_n 2, 1) := by decide +kernel
theorem dX1_init_82 : decode cX1_init 82 = .ok (.bipush 16, 2) := by decide +kernel
theorem dX1_init_84 : decode cX1_init 84 = .ok (.multianewarray 15 2, 4) := by decide +kernel
theorem dX1_init_88 : decode cX1_init 88 = .ok (.putfield 53, 3) := by decide +kernel
theorem dX1_init_91 : decode cX1_init 91 = .ok (.aload_n 0, 1) := by decide +kernel
theorem dX1_init_92 : decode cX1_init 92 = .ok (.iload_n 2, 1) := by decide +kernel
theorem dX1_init_93 : decode cX1_init 93 = .ok (.newarray .int, 2) := by decide +kernel
theorem dX1_init_95 : decode cX1_init 95 = .ok (.putfield 56, 3) := by decide +kernel
theorem dX1_init_98 : decode cX1_init 98 = .ok (.aload_n 0, 1) := by decide +kernel
theorem dX1_init_99 : decode cX1_init 99 = .ok (.iload_n 2, 1) := by decide +kernel
theorem dX1_init_100 : decode cX1_init 100 = .ok (.newarray .int, 2) := by decide +kernel
theorem dX1_init_102 : decode cX1_init 102 = .ok (.putfield 59, 3) := by decide +kernel
theorem dX1_init_105 : decode cX1_init 105 = .ok (.aload_n 0, 1) := by decide +kernel
theorem dX1_init_106 : decode cX1_init 106 = .ok (.invokevirtual 62, 3) := by decide +kernel
theorem dX1_init_109 : decode cX1_init 109 = .ok (.iconst 0, 1) := by decide +kernel
theorem dX1_init_110 : decode cX1_init 110 = .ok (.istore_n 3, 1) := by decide +kernel
theorem dX1_init_111 : decode cX1_init 111 = .ok (.iload_n 3, 1) := by decide +kernel
theorem dX1_init_112 : decode cX1_init 112 = .ok (.iload_n 2, 1) := by decide +kernel
theorem dX1_init_113 : decode cX1_init 113 = .ok (.if_icmp .ge 95, 3) := by decide +kernel
theorem dX1_init_116 : decode cX1_init 116 = .ok (.aload_n 0, 1) := by decide +kernel
theorem dX1_init_117 : decode cX1_init 117 = .ok (.getfield 49, 3) := by decide +kernel
theorem dX1_init_120 : decode cX1_init 120 = .ok (.iload_n 3, 1) := by decide +kernel
theorem dX1_init_121 : decode cX1_init 121 = .ok (.new 47, 3) := by decide +kernel
theorem dX1_init_124 : decode cX1_init 124 = .ok (.dup, 1) := by decide +kernel
theorem dX1_init_125 : decode cX1_init 125 = .ok (.invokespecial 65, 3) := by decide +kernel
theorem dX1_init_128 : decode cX1_init 128 = .ok (.aastore, 1) := by decide +kernel
theorem dX1_init_129 : decode cX1_init 129 = .ok (.aload_n 0, 1) := by decide +kernel
theorem dX1_init_130 : decode cX1_init 130 = .ok (.getfield 49, 3) := by decide +kernel
theorem dX1_init_133 : decode cX1_init 133 = .ok (.iload_n 3, 1) := by decide +kernel
theorem dX1_init_134 : decode cX1_init 134 = .ok (.aaload, 1) := by decide +kernel
theorem dX1_init_135 : decode cX1_init 135 = .ok (.aload_n 0, 1) := by decide +kernel
theorem dX1_init_136 : decode cX1_init 136 = .ok (.getfield 41, 3) := by decide +kernel
theorem dX1_init_139 : decode cX1_init 139 = .ok (.iload_n 3, 1) := by decide +kernel
theorem dX1_init_140 : decode cX1_init 140 = .ok (.iaload, 1) := by decide +kernel
theorem dX1_init_141 : decode cX1_init 141 = .ok (.aload_n 0, 1) := by decide +kernel
theorem dX1_init_142 : decode cX1_init 142 = .ok (.getfield 44, 3) := by decide +kernel
theorem dX1_init_145 : decode cX1_init 145 = .ok (.iload_n 3, 1) := by decide +kernel
theorem dX1_init_146 : decode cX1_init 146 = .ok (.iaload, 1) := by decide +kernel
theorem dX1_init_147 : decode cX1_init 147 = .ok (.invokevirtual 66, 3) := by decide +kernel
theorem dX1_init_150 : decode cX1_init 150 = .ok (.iconst 0, 1) := by decide +kernel
theorem dX1_init_151 : decode cX1_init 151 = .ok (.istore 4, 2) := by decide +kernel
theorem dX1_init_153 : decode cX1_init 153 = .ok (.iload 4, 2) := by decide +kernel
theorem dX1_init_155 : decode cX1_init 155 = .ok (.iconst 1, 1) := by decide +kernel
theorem dX1_init_156 : decode cX1_init 156 = .ok (.aload_n 0, 1) := by decide +kernel
theorem dX1_init_157 : decode cX1_init 157 = .ok (.getfield 41, 3) := by decide +kernel
theorem dX1_init_160 : decode cX1_init 160 = .ok (.iload_n 3, 1) := by decide +kernel
theorem dX1_init_161 : decode cX1_init 161 = .ok (.iaload, 1) := by decide +kernel
theorem dX1_init_162 : decode cX1_init 162 = .ok (.ishl, 1) := by decide +kernel
theorem dX1_init_163 : decode cX1_init 163 = .ok (.if_icmp .ge 39, 3) := by decide +kernel
theorem dX1_init_166 : decode cX1_init 166 = .ok (.aload_n 0, 1) := by decide +kernel
theorem dX1_init_167 : decode cX1_init 167 = .ok (.getfield 53, 3) := by decide +kernel
theorem dX1_init_170 : decode cX1_init 170 = .ok (.iload_n 3, 1) := by decide +kernel
theorem dX1_init_171 : decode cX1_init 171 = .ok (.aaload, 1) := by decide +kernel
theorem dX1_init_172 : decode cX1_init 172 = .ok (.iload 4, 2) := by decide +kernel
theorem dX1_init_174 : decode cX1_init 174 = .ok (.aload_n 0, 1) := by decide +kernel
theorem dX1_init_175 : decode cX1_init 175 = .ok (.aload_n 0, 1) := by decide +kernel
theorem dX1_init_176 : decode cX1_init 176 = .ok (.getfield 49, 3) := by decide +kernel
theorem dX1_init_179 : decode cX1_init 179 = .ok (.iload_n 3, 1) := by decide +kernel
theorem dX1_init_180 : decode cX1_init 180 = .ok (.aaload, 1) := by decide +kernel
theorem dX1_init_181 : decode cX1_init 181 = .ok (.iload 4, 2) := by decide +kernel
theorem dX1_init_183 : decode cX1_init 183 = .ok (.iload_n 1, 1) := by decide +kernel
theorem dX1_init_184 : decode cX1_init 184 = .ok (.ifCond .eq 7, 3) := by decide +kernel
theorem dX1_init_187 : decode cX1_init 187 = .ok (.iconst 0, 1) := by decide +kernel
theorem dX1_init_188 : decode cX1_init 188 = .ok (.goto 4, 3) := by decide +kernel
theorem dX1_init_191 : decode cX1_init 191 = .ok (.iconst (-1), 1) := by decide +kernel
theorem dX1_init_192 : decode cX1_init 192 = .ok (.invokevirtual 70, 3) := by decide +kernel
theorem dX1_init_195 : decode cX1_init 195 = .ok (.iastore, 1) := by decide +kernel
theorem dX1_init_196 : decode cX1_init 196 = .ok (.iinc 4 1, 3) := by decide +kernel
theorem dX1_init_199 : decode cX1_init 199 = .ok (.goto (-46), 3) := by decide +kernel
theorem dX1_init_202 : decode cX1_init 202 = .ok (.iinc 3 1, 3) := by decide +kernel
theorem dX1_init_205 : decode cX1_init 205 = .ok (.goto (-94), 3) := by decide +kernel
theorem dX1_init_208 : decode cX1_init 208 = .ok (.return_, 1) := by decide +kernel
theorem dX1_numberAll_0 : decode cX1_numberAll 0 = .ok (.iconst 0, 1) := by decide +kernel
theorem dX1_numberAll_1 : decode cX1_numberAll 1 = .ok (.istore_n 1, 1) := by decide +kernel
theorem dX1_numberAll_2 : decode cX1_numberAll 2 = .ok (.iconst 0, 1) := by decide +kernel
theorem dX1_numberAll_3 : decode cX1_numberAll 3 = .ok (.istore_n 2, 1) := by decide +kernel
theorem dX1_numberAll_4 : decode cX1_numberAll 4 = .ok (.iload_n 2, 1) := by decide +kernel
theorem dX1_numberAll_5 : decode cX1_numberAll 5 = .ok (.iconst 4, 1) := by decide +kernel
theorem dX1_numberAll_6 : decode cX1_numberAll 6 = .ok (.if_icmp .gt 121, 3) := by decide +kernel
theorem dX1_numberAll_9 : decode cX1_numberAll 9 = .ok (.aload_n 0, 1) := by decide +kernel
theorem dX1_numberAll_10 : decode cX1_numberAll 10 = .ok (.getfield 9, 3) := by decide +kernel
theorem dX1_numberAll_13 : decode cX1_numberAll 13 = .ok (.iload_n 2, 1) := by decide +kernel
theorem dX1_numberAll_14 : decode cX1_numberAll 14 = .ok (.iload_n 1, 1) := by decide +kernel
theorem dX1_numberAll_15 : decode cX1_numberAll 15 = .ok (.iastore, 1) := by decide +kernel
theorem dX1_numberAll_16 : decode cX1_numberAll 16 = .ok (.aload_n 0, 1) := by decide +kernel
theorem dX1_numberAll_17 : decode cX1_numberAll 17 = .ok (.iload_n 2, 1) := by decide +kernel
theorem dX1_numberAll_18 : decode cX1_numberAll 18 = .ok (.invokevirtual 74, 3) := by decide +kernel
theorem dX1_numberAll_21 : decode cX1_numberAll 21 = .ok (.ifCond .eq 10, 3) := by decide +kernel
theorem dX1_numberAll_24 : decode cX1_numberAll 24 = .ok (.iload_n 2, 1) := by decide +kernel
theorem dX1_numberAll_25 : decode cX1_numberAll 25 = .ok (.invokestatic 78, 3) := by decide +kernel
theorem dX1_numberAll_28 : decode cX1_numberAll 28 = .ok (.goto 4, 3) := by decide +kernel
theorem dX1_numberAll_31 : decode cX1_numberAll 31 = .ok (.iconst 0, 1) := by decide +kernel
theorem dX1_numberAll_32 : decode cX1_numberAll 32 = .ok (.istore_n 3, 1) := by decide +kernel
theorem dX1_numberAll_33 : decode cX1_numberAll 33 = .ok (.iconst 0, 1) := by decide +kernel
theorem dX1_numberAll_34 : decode cX1_numberAll 34 = .ok (.istore 4, 2) := by decide +kernel
theorem dX1_numberAll_36 : decode cX1_numberAll 36 = .ok (.iload 4, 2) := by decide +kernel
theorem dX1_numberAll_38 : decode cX1_numberAll 38 = .ok (.iload_n 3, 1) := by decide +kernel
theorem dX1_numberAll_39 : decode cX1_numberAll 39 = .ok (.if_icmp .ge 82, 3) := by decide +kernel
theorem dX1_numberAll_42 : decode cX1_numberAll 42 = .ok (.aload_n 0, 1) := by decide +kernel
theorem dX1_numberAll_43 : decode cX1_numberAll 43 = .ok (.iload_n 2, 1) := by decide +kernel
theorem dX1_numberAll_44 : decode cX1_numberAll 44 = .ok (.iload 4, 2) := by decide +kernel
theorem dX1_numberAll_46 : decode cX1_numberAll 46 = .ok (.invokevirtual 82, 3) := by decide +kernel
theorem dX1_numberAll_49 : decode cX1_numberAll 49 = .ok (.istore 5, 2) := by decide +kernel
theorem dX1_numberAll_51 : decode cX1_numberAll 51 = .ok (.iload 5, 2) := by decide +kernel
theorem dX1_numberAll_53 : decode cX1_numberAll 53 = .ok (.iload 4, 2) := by decide +kernel
theorem dX1_numberAll_55 : decode cX1_numberAll 55 = .ok (.if_icmp .ne 42, 3) := by decide +kernel
theorem dX1_numberAll_58 : decode cX1_numberAll 58 = .ok (.iload_n 1, 1) := by decide +kernel
theorem dX1_numberAll_59 : decode cX1_numberAll 59 = .ok (.aload_n 0, 1) := by decide +kernel
theorem dX1_numberAll_60 : decode cX1_numberAll 60 = .ok (.getfield 35, 3) := by decide +kernel
theorem dX1_numberAll_63 : decode cX1_numberAll 63 = .ok (.if_icmp .ge 34, 3) := by decide +kernel
theorem dX1_numberAll_66 : decode cX1_numberAll 66 = .ok (.aload_n 0, 1) := by decide +kernel
theorem dX1_numberAll_67 : decode cX1_numberAll 67 = .ok (.getfield 41, 3) := by decide +kernel
theorem dX1_numberAll_70 : decode cX1_numberAll 70 = .ok (.iload_n 1, 1) := by decide +kernel
theorem dX1_numberAll_71 : decode cX1_numberAll 71 = .ok (.iload_n 2, 1) := by decide +kernel
theorem dX1_numberAll_72 : decode cX1_numberAll 72 = .ok (.iastore, 1) := by decide +kernel
theorem dX1_numberAll_73 : decode cX1_numberAll 73 = .ok (.aload_n 0, 1) := by decide +kernel
theorem dX1_numberAll_74 : decode cX1_numberAll 74 = .ok (.getfield 44, 3) := by decide +kernel
theorem dX1_numberAll_77 : decode cX1_numberAll 77 = .ok (.iload_n 1, 1) := by decide +kernel
theorem dX1_numberAll_78 : decode cX1_numberAll 78 = .ok (.iload 4, 2) := by decide +kernel
theorem dX1_numberAll_80 : decode cX1_numberAll 80 = .ok (.iastore, 1) := by decide +kernel
theorem dX1_numberAll_81 : decode cX1_numberAll 81 = .ok (.aload_n 0, 1) := by decide +kernel
theorem dX1_numberAll_82 : decode cX1_numberAll 82 = .ok (.getfield 17, 3) := by decide +kernel
theorem dX1_numberAll_85 : decode cX1_numberAll 85 = .ok (.iload_n 2, 1) := by decide +kernel
theorem dX1_numberAll_86 : decode cX1_numberAll 86 = .ok (.aaload, 1) := by decide +kernel
theorem dX1_numberAll_87 : decode cX1_numberAll 87 = .ok (.iload 4, 2) := by decide +kernel
theorem dX1_numberAll_89 : decode cX1_numberAll 89 = .ok (.iload_n 1, 1) := by decide +kernel
theorem dX1_numberAll_90 : decode cX1_numberAll 90 = .ok (.iastore, 1) := by decide +kernel
theorem dX1_numberAll_91 : decode cX1_numberAll 91 = .ok (.iinc 1 1, 3) := by decide +kernel
theorem dX1_numberAll_94 : decode cX1_numberAll 94 = .ok (.goto 21, 3) := by decide +kernel
theorem dX1_numberAll_97 : decode cX1_numberAll 97 = .ok (.aload_n 0, 1) := by decide +kernel
theorem dX1_numberAll_98 : decode cX1_numberAll 98 = .ok (.getfield 17, 3) := by decide +kernel
theorem dX1_numberAll_101 : decode cX1_numberAll 101 = .ok (.iload_n 2, 1) := by decide +kernel
theorem dX1_numberAll_102 : decode cX1_numberAll 102 = .ok (.aaload, 1) := by decide +kernel
theorem dX1_numberAll_103 : decode cX1_numberAll 103 = .ok (.iload 4, 2) := by decide +kernel
theorem dX1_numberAll_105 : decode cX1_numberAll 105 = .ok (.aload_n 0, 1) := by decide +kernel
theorem dX1_numberAll_106 : decode cX1_numberAll 106 = .ok (.getfield 17, 3) := by decide +kernel
theorem dX1_numberAll_109 : decode cX1_numberAll 109 = .ok (.iload_n 2, 1) := by decide +kernel
theorem dX1_numberAll_110 : decode cX1_numberAll 110 = .ok (.aaload, 1) := by decide +kernel
theorem dX1_numberAll_111 : decode cX1_numberAll 111 = .ok (.iload 5, 2) := by decide +kernel
theorem dX1_numberAll_113 : decode cX1_numberAll 113 = .ok (.iaload, 1) := by decide +kernel
theorem dX1_numberAll_114 : decode cX1_numberAll 114 = .ok (.iastore, 1) := by decide +kernel
theorem dX1_numberAll_115 : decode cX1_numberAll 115 = .ok (.iinc 4 1, 3) := by decide +kernel
theorem dX1_numberAll_118 : decode cX1_numberAll 118 = .ok (.goto (-82), 3) := by decide +kernel
theorem dX1_numberAll_121 : decode cX1_numberAll 121 = .ok (.iinc 2 1, 3) := by decide +kernel
theorem dX1_numberAll_124 : decode cX1_numberAll 124 = .ok (.goto (-120), 3) := by decide +kernel
theorem dX1_numberAll_127 : decode cX1_numberAll 127 = .ok (.aload_n 0, 1) := by decide +kernel
theorem dX1_numberAll_128 : decode cX1_numberAll 128 = .ok (.getfield 9, 3) := by decide +kernel
theorem dX1_numberAll_131 : decode cX1_numberAll 131 = .ok (.iconst 5, 1) := by decide +kernel
theorem dX1_numberAll_132 : decode cX1_numberAll 132 = .ok (.iload_n 1, 1) := by decide +kernel
theorem dX1_numberAll_133 : decode cX1_numberAll 133 = .ok (.iastore, 1) := by decide +kernel
theorem dX1_numberAll_134 : decode cX1_numberAll 134 = .ok (.return_, 1) := by decide +kernel
theorem dX1_leastCode_0 : decode cX1_leastCode 0 = .ok (.iload_n 2, 1) := by decide +kernel
theorem dX1_leastCode_1 : decode cX1_leastCode 1 = .ok (.istore_n 3, 1) := by decide +kernel
theorem dX1_leastCode_2 : decode cX1_leastCode 2 = .ok (.aload_n 0, 1) := by decide +kernel
theorem dX1_leastCode_3 : decode cX1_leastCode 3 = .ok (.getfield 24, 3) := by decide +kernel
theorem dX1_leastCode_6 : decode cX1_leastCode 6 = .ok (.astore 4, 2) := by decide +kernel
theorem dX1_leastCode_8 : decode cX1_leastCode 8 = .ok (.aload 4, 2) := by decide +kernel
theorem dX1_leastCode_10 : decode cX1_leastCode 10 = .ok (.arraylength, 1) := by decide +kernel
theorem dX1_leastCode_11 : decode cX1_leastCode 11 = .ok (.istore 5, 2) := by decide +kernel
theorem dX1_leastCode_13 : decode cX1_leastCode 13 = .ok (.iconst 0, 1) := by decide +kernel
theorem dX1_leastCode_14 : decode cX1_leastCode 14 = .ok (.istore 6, 2) := by decide +kernel
theorem dX1_leastCode_16 : decode cX1_leastCode 16 = .ok (.iload 6, 2) := by decide +kernel
theorem dX1_leastCode_18 : decode cX1_leastCode 18 = .ok (.iload 5, 2) := by decide +kernel
theorem dX1_leastCode_20 : decode cX1_leastCode 20 = .ok (.if_icmp .ge 38, 3) := by decide +kernel
theorem dX1_leastCode_23 : decode cX1_leastCode 23 = .ok (.aload 4, 2) := by decide +kernel
theorem dX1_leastCode_25 : decode cX1_leastCode 25 = .ok (.iload 6, 2) := by decide +kernel
theorem dX1_leastCode_27 : decode cX1_leastCode 27 = .ok (.iaload, 1) := by decide +kernel
theorem dX1_leastCode_28 : decode cX1_leastCode 28 = .ok (.istore 7, 2) := by decide +kernel
theorem dX1_leastCode_30 : decode cX1_leastCode 30 = .ok (.aload_n 0, 1) := by decide +kernel
theorem dX1_leastCode_31 : decode cX1_leastCode 31 = .ok (.iload 7, 2) := by decide +kernel
theorem dX1_leastCode_33 : decode cX1_leastCode 33 = .ok (.iload_n 1, 1) := by decide +kernel
theorem dX1_leastCode_34 : decode cX1_leastCode 34 = .ok (.invokevirtual 86, 3) := by decide +kernel
theorem dX1_leastCode_37 : decode cX1_leastCode 37 = .ok (.ifCond .eq 15, 3) := by decide +kernel
theorem dX1_leastCode_40 : decode cX1_leastCode 40 = .ok (.iload_n 3, 1) := by decide +kernel
theorem dX1_leastCode_41 : decode cX1_leastCode 41 = .ok (.iload_n 1, 1) := by decide +kernel
theorem dX1_leastCode_42 : decode cX1_leastCode 42 = .ok (.iload_n 2, 1) := by decide +kernel
theorem dX1_leastCode_43 : decode cX1_leastCode 43 = .ok (.iload 7, 2) := by decide +kernel
theorem dX1_leastCode_45 : decode cX1_leastCode 45 = .ok (.invokestatic 90, 3) := by decide +kernel
theorem dX1_leastCode_48 : decode cX1_leastCode 48 = .ok (.invokestatic 94, 3) := by decide +kernel
theorem dX1_leastCode_51 : decode cX1_leastCode 51 = .ok (.istore_n 3, 1) := by decide +kernel
theorem dX1_leastCode_52 : decode cX1_leastCode 52 = .ok (.iinc 6 1, 3) := by decide +kernel
theorem dX1_leastCode_55 : decode cX1_leastCode 55 = .ok (.goto (-39), 3) := by decide +kernel
theorem dX1_leastCode_58 : decode cX1_leastCode 58 = .ok (.iload_n 3, 1) := by decide +kernel
theorem dX1_leastCode_59 : decode cX1_leastCode 59 = .ok (.ireturn, 1) := by decide +kernel
theorem dX1_suits_0 : decode cX1_suits 0 = .ok (.iload_n 2, 1) := by decide +kernel
theorem dX1_suits_1 : decode cX1_suits 1 = .ok (.istore_n 3, 1) := by decide +kernel
theorem dX1_suits_2 : decode cX1_suits 2 = .ok (.iload_n 3, 1) := by decide +kernel
theorem dX1_suits_3 : decode cX1_suits 3 = .ok (.iconst 4, 1) := by decide +kernel
theorem dX1_suits_4 : decode cX1_suits 4 = .ok (.if_icmp .ge 20, 3) := by decide +kernel
theorem dX1_suits_7 : decode cX1_suits 7 = .ok (.iload_n 1, 1) := by decide +kernel
theorem dX1_suits_8 : decode cX1_suits 8 = .ok (.iload_n 3, 1) := by decide +kernel
theorem dX1_suits_9 : decode cX1_suits 9 = .ok (.invokestatic 99, 3) := by decide +kernel
theorem dX1_suits_12 : decode cX1_suits 12 = .ok (.iload_n 3, 1) := by decide +kernel
theorem dX1_suits_13 : decode cX1_suits 13 = .ok (.if_icmp .eq 5, 3) := by decide +kernel
theorem dX1_suits_16 : decode cX1_suits 16 = .ok (.iconst 0, 1) := by decide +kernel
theorem dX1_suits_17 : decode cX1_suits 17 = .ok (.ireturn, 1) := by decide +kernel
theorem dX1_suits_18 : decode cX1_suits 18 = .ok (.iinc 3 1, 3) := by decide +kernel
theorem dX1_suits_21 : decode cX1_suits 21 = .ok (.goto (-19), 3) := by decide +kernel
theorem dX1_suits_24 : decode cX1_suits 24 = .ok (.aload_n 0, 1) := by decide +kernel
theorem dX1_suits_25 : decode cX1_suits 25 = .ok (.getfield 31, 3) := by decide +kernel
theorem dX1_suits_28 : decode cX1_suits 28 = .ok (.ifCond .eq 11, 3) := by decide +kernel
theorem dX1_suits_31 : decode cX1_suits 31 = .ok (.iload_n 1, 1) := by decide +kernel
theorem dX1_suits_32 : decode cX1_suits 32 = .ok (.iconst 0, 1) := by decide +kernel
theorem dX1_suits_33 : decode cX1_suits 33 = .ok (.invokestatic 99, 3) := by decide +kernel
theorem dX1_suits_36 : decode cX1_suits 36 = .ok (.ifCond .ne 7, 3) := by decide +kernel
theorem dX1_suits_39 : decode cX1_suits 39 = .ok (.iconst 1, 1) := by decide +kernel
theorem dX1_suits_40 : decode cX1_suits 40 = .ok (.goto 4, 3) := by decide +kernel
theorem dX1_suits_43 : decode cX1_suits 43 = .ok (.iconst 0, 1) := by decide +kernel
theorem dX1_suits_44 : decode cX1_suits 44 = .ok (.ireturn, 1) := by decide +kernel
theorem dX1_allRenamings_0 : decode cX1_allRenamings 0 = .ok (.bipush 24, 2) := by decide +kernel
theorem dX1_allRenamings_2 : decode cX1_allRenamings 2 = .ok (.newarray .int, 2) := by decide +kernel
theorem dX1_allRenamings_4 : decode cX1_allRenamings 4 = .ok (.astore_n 0, 1) := by decide +kernel
theorem dX1_allRenamings_5 : decode cX1_allRenamings 5 = .ok (.iconst 0, 1) := by decide +kernel
theorem dX1_allRenamings_6 : decode cX1_allRenamings 6 = .ok (.istore_n 1, 1) := by decide +kernel
theorem dX1_allRenamings_7 : decode cX1_allRenamings 7 = .ok (.iconst 0, 1) := by decide +kernel
theorem dX1_allRenamings_8 : decode cX1_allRenamings 8 = .ok (.istore_n 2, 1) := by decide +kernel
theorem dX1_allRenamings_9 : decode cX1_allRenamings 9 = .ok (.iload_n 2, 1) := by decide +kernel
theorem dX1_allRenamings_10 : decode cX1_allRenamings 10 = .ok (.sipush 256, 3) := by decide +kernel
theorem dX1_allRenamings_13 : decode cX1_allRenamings 13 = .ok (.if_icmp .ge 56, 3) := by decide +kernel
theorem dX1_allRenamings_16 : decode cX1_allRenamings 16 = .ok (.iconst 0, 1) := by decide +kernel
theorem dX1_allRenamings_17 : decode cX1_allRenamings 17 = .ok (.istore_n 3, 1) := by decide +kernel
theorem dX1_allRenamings_18 : decode cX1_allRenamings 18 = .ok (.iconst 0, 1) := by decide +kernel
theorem dX1_allRenamings_19 : decode cX1_allRenamings 19 = .ok (.istore 4, 2) := by decide +kernel
theorem dX1_allRenamings_21 : decode cX1_allRenamings 21 = .ok (.iload 4, 2) := by decide +kernel
theorem dX1_allRenamings_23 : decode cX1_allRenamings 23 = .ok (.iconst 4, 1) := by decide +kernel
theorem dX1_allRenamings_24 : decode cX1_allRenamings 24 = .ok (.if_icmp .ge 20, 3) := by decide +kernel
theorem dX1_allRenamings_27 : decode cX1_allRenamings 27 = .ok (.iload_n 3, 1) := by decide +kernel
theorem dX1_allRenamings_28 : decode cX1_allRenamings 28 = .ok (.iconst 1, 1) := by decide +kernel
theorem dX1_allRenamings_29 : decode cX1_allRenamings 29 = .ok (.iload_n 2, 1) := by decide +kernel
theorem dX1_allRenamings_30 : decode cX1_allRenamings 30 = .ok (.iload 4, 2) := by decide +kernel
theorem dX1_allRenamings_32 : decode cX1_allRenamings 32 = .ok (.invokestatic 99, 3) := by decide +kernel
theorem dX1_allRenamings_35 : decode cX1_allRenamings 35 = .ok (.ishl, 1) := by decide +kernel
theorem dX1_allRenamings_36 : decode cX1_allRenamings 36 = .ok (.ior, 1) := by decide +kernel
theorem dX1_allRenamings_37 : decode cX1_allRenamings 37 = .ok (.istore_n 3, 1) := by decide +kernel
theorem dX1_allRenamings_38 : decode cX1_allRenamings 38 = .ok (.iinc 4 1, 3) := by decide +kernel
theorem dX1_allRenamings_41 : decode cX1_allRenamings 41 = .ok (.goto (-20), 3) := by decide +kernel
theorem dX1_allRenamings_44 : decode cX1_allRenamings 44 = .ok (.iload_n 3, 1) := by decide +kernel
theorem dX1_allRenamings_45 : decode cX1_allRenamings 45 = .ok (.bipush 15, 2) := by decide +kernel
theorem dX1_allRenamings_47 : decode cX1_allRenamings 47 = .ok (.if_icmp .ne 16, 3) := by decide +kernel
theorem dX1_allRenamings_50 : decode cX1_allRenamings 50 = .ok (.iload_n 1, 1) := by decide +kernel
theorem dX1_allRenamings_51 : decode cX1_allRenamings 51 = .ok (.aload_n 0, 1) := by decide +kernel
theorem dX1_allRenamings_52 : decode cX1_allRenamings 52 = .ok (.arraylength, 1) := by decide +kernel
theorem dX1_allRenamings_53 : decode cX1_allRenamings 53 = .ok (.if_icmp .ge 10, 3) := by decide +kernel
theorem dX1_allRenamings_56 : decode cX1_allRenamings 56 = .ok (.aload_n 0, 1) := by decide +kernel
theorem dX1_allRenamings_57 : decode cX1_allRenamings 57 = .ok (.iload_n 1, 1) := by decide +kernel
theorem dX1_allRenamings_58 : decode cX1_allRenamings 58 = .ok (.iload_n 2, 1) := by decide +kernel
theorem dX1_allRenamings_59 : decode cX1_allRenamings 59 = .ok (.iastore, 1) := by decide +kernel
theorem dX1_allRenamings_60 : decode cX1_allRenamings 60 = .ok (.iinc 1 1, 3) := by decide +kernel
theorem dX1_allRenamings_63 : decode cX1_allRenamings 63 = .ok (.iinc 2 1, 3) := by decide +kernel
theorem dX1_allRenamings_66 : decode cX1_allRenamings 66 = .ok (.goto (-57), 3) := by decide +kernel
theorem dX1_allRenamings_69 : decode cX1_allRenamings 69 = .ok (.aload_n 0, 1) := by decide +kernel
theorem dX1_allRenamings_70 : decode cX1_allRenamings 70 = .ok (.areturn, 1) := by decide +kernel
theorem dX1_newName_0 : decode cX1_newName 0 = .ok (.iload_n 0, 1) := by decide +kernel
theorem dX1_newName_1 : decode cX1_newName 1 = .ok (.iconst 2, 1) := by decide +kernel
theorem dX1_newName_2 : decode cX1_newName 2 = .ok (.iload_n 1, 1) := by decide +kernel
theorem dX1_newName_3 : decode cX1_newName 3 = .ok (.imul, 1) := by decide +kernel
theorem dX1_newName_4 : decode cX1_newName 4 = .ok (.ishr, 1) := by decide +kernel
theorem dX1_newName_5 : decode cX1_newName 5 = .ok (.iconst 3, 1) := by decide +kernel
theorem dX1_newName_6 : decode cX1_newName 6 = .ok (.iand, 1) := by decide +kernel
theorem dX1_newName_7 : decode cX1_newName 7 = .ok (.ireturn, 1) := by decide +kernel
theorem dX1_renamed_0 : decode cX1_renamed 0 = .ok (.iconst 0, 1) := by decide +kernel
theorem dX1_renamed_1 : decode cX1_renamed 1 = .ok (.istore_n 3, 1) := by decide +kernel
theorem dX1_renamed_2 : decode cX1_renamed 2 = .ok (.iconst 1, 1) := by decide +kernel
theorem dX1_renamed_3 : decode cX1_renamed 3 = .ok (.istore 4, 2) := by decide +kernel
theorem dX1_renamed_5 : decode cX1_renamed 5 = .ok (.iload 4, 2) := by decide +kernel
theorem dX1_renamed_7 : decode cX1_renamed 7 = .ok (.iload_n 0, 1) := by decide +kernel
theorem dX1_renamed_8 : decode cX1_renamed 8 = .ok (.if_icmp .ge 55, 3) := by decide +kernel
theorem dX1_renamed_11 : decode cX1_renamed 11 = .ok (.iconst 0, 1) := by decide +kernel
theorem dX1_renamed_12 : decode cX1_renamed 12 = .ok (.istore 5, 2) := by decide +kernel
theorem dX1_renamed_14 : decode cX1_renamed 14 = .ok (.iload 5, 2) := by decide +kernel
theorem dX1_renamed_16 : decode cX1_renamed 16 = .ok (.iload 4, 2) := by decide +kernel
theorem dX1_renamed_18 : decode cX1_renamed 18 = .ok (.if_icmp .ge 39, 3) := by decide +kernel
theorem dX1_renamed_21 : decode cX1_renamed 21 = .ok (.iload_n 1, 1) := by decide +kernel
theorem dX1_renamed_22 : decode cX1_renamed 22 = .ok (.iload 5, 2) := by decide +kernel
theorem dX1_renamed_24 : decode cX1_renamed 24 = .ok (.iload 4, 2) := by decide +kernel
theorem dX1_renamed_26 : decode cX1_renamed 26 = .ok (.invokestatic 102, 3) := by decide +kernel
theorem dX1_renamed_29 : decode cX1_renamed 29 = .ok (.iand, 1) := by decide +kernel
theorem dX1_renamed_30 : decode cX1_renamed 30 = .ok (.ifCond .eq 21, 3) := by decide +kernel
theorem dX1_renamed_33 : decode cX1_renamed 33 = .ok (.iload_n 3, 1) := by decide +kernel
theorem dX1_renamed_34 : decode cX1_renamed 34 = .ok (.iload_n 2, 1) := by decide +kernel
theorem dX1_renamed_35 : decode cX1_renamed 35 = .ok (.iload 5, 2) := by decide +kernel
theorem dX1_renamed_37 : decode cX1_renamed 37 = .ok (.invokestatic 99, 3) := by decide +kernel
theorem dX1_renamed_40 : decode cX1_renamed 40 = .ok (.iload_n 2, 1) := by decide +kernel
theorem dX1_renamed_41 : decode cX1_renamed 41 = .ok (.iload 4, 2) := by decide +kernel
theorem dX1_renamed_43 : decode cX1_renamed 43 = .ok (.invokestatic 99, 3) := by decide +kernel
theorem dX1_renamed_46 : decode cX1_renamed 46 = .ok (.invokestatic 102, 3) := by decide +kernel
theorem dX1_renamed_49 : decode cX1_renamed 49 = .ok (.ior, 1) := by decide +kernel
theorem dX1_renamed_50 : decode cX1_renamed 50 = .ok (.istore_n 3, 1) := by decide +kernel
theorem dX1_renamed_51 : decode cX1_renamed 51 = .ok (.iinc 5 1, 3) := by decide +kernel
theorem dX1_renamed_54 : decode cX1_renamed 54 = .ok (.goto (-40), 3) := by decide +kernel
theorem dX1_renamed_57 : decode cX1_renamed 57 = .ok (.iinc 4 1, 3) := by decide +kernel
theorem dX1_renamed_60 : decode cX1_renamed 60 = .ok (.goto (-55), 3) := by decide +kernel
theorem dX1_renamed_63 : decode cX1_renamed 63 = .ok (.iload_n 3, 1) := by decide +kernel
theorem dX1_renamed_64 : decode cX1_renamed 64 = .ok (.ireturn, 1) := by decide +kernel
theorem dX1_bitOf_0 : decode cX1_bitOf 0 = .ok (.iload_n 0, 1) := by decide +kernel
theorem dX1_bitOf_1 : decode cX1_bitOf 1 = .ok (.iload_n 1, 1) := by decide +kernel
theorem dX1_bitOf_2 : decode cX1_bitOf 2 = .ok (.if_icmp .ge 7, 3) := by decide +kernel
theorem dX1_bitOf_5 : decode cX1_bitOf 5 = .ok (.iload_n 0, 1) := by decide +kernel
theorem dX1_bitOf_6 : decode cX1_bitOf 6 = .ok (.goto 4, 3) := by decide +kernel
theorem dX1_bitOf_9 : decode cX1_bitOf 9 = .ok (.iload_n 1, 1) := by decide +kernel
theorem dX1_bitOf_10 : decode cX1_bitOf 10 = .ok (.istore_n 2, 1) := by decide +kernel
theorem dX1_bitOf_11 : decode cX1_bitOf 11 = .ok (.iload_n 0, 1) := by decide +kernel
theorem dX1_bitOf_12 : decode cX1_bitOf 12 = .ok (.iload_n 1, 1) := by decide +kernel
theorem dX1_bitOf_13 : decode cX1_bitOf 13 = .ok (.if_icmp .ge 7, 3) := by decide +kernel
theorem dX1_bitOf_16 : decode cX1_bitOf 16 = .ok (.iload_n 1, 1) := by decide +kernel
theorem dX1_bitOf_17 : decode cX1_bitOf 17 = .ok (.goto 4, 3) := by decide +kernel
theorem dX1_bitOf_20 : decode cX1_bitOf 20 = .ok (.iload_n 0, 1) := by decide +kernel
theorem dX1_bitOf_21 : decode cX1_bitOf 21 = .ok (.istore_n 3, 1) := by decide +kernel
theorem dX1_bitOf_22 : decode cX1_bitOf 22 = .ok (.iconst 1, 1) := by decide +kernel
theorem dX1_bitOf_23 : decode cX1_bitOf 23 = .ok (.iload_n 3, 1) := by decide +kernel
theorem dX1_bitOf_24 : decode cX1_bitOf 24 = .ok (.iload_n 3, 1) := by decide +kernel
theorem dX1_bitOf_25 : decode cX1_bitOf 25 = .ok (.iconst 1, 1) := by decide +kernel
theorem dX1_bitOf_26 : decode cX1_bitOf 26 = .ok (.isub, 1) := by decide +kernel
theorem dX1_bitOf_27 : decode cX1_bitOf 27 = .ok (.imul, 1) := by decide +kernel
theorem dX1_bitOf_28 : decode cX1_bitOf 28 = .ok (.iconst 2, 1) := by decide +kernel
theorem dX1_bitOf_29 : decode cX1_bitOf 29 = .ok (.idiv, 1) := by decide +kernel
theorem dX1_bitOf_30 : decode cX1_bitOf 30 = .ok (.iload_n 2, 1) := by decide +kernel
theorem dX1_bitOf_31 : decode cX1_bitOf 31 = .ok (.iadd, 1) := by decide +kernel
theorem dX1_bitOf_32 : decode cX1_bitOf 32 = .ok (.ishl, 1) := by decide +kernel
theorem dX1_bitOf_33 : decode cX1_bitOf 33 = .ok (.ireturn, 1) := by decide +kernel
theorem dX1_codesOf_0 : decode cX1_codesOf 0 = .ok (.iconst 1, 1) := by decide +kernel
theorem dX1_codesOf_1 : decode cX1_codesOf 1 = .ok (.iload_n 0, 1) := by decide +kernel
theorem dX1_codesOf_2 : decode cX1_codesOf 2 = .ok (.iload_n 0, 1) := by decide +kernel
theorem dX1_codesOf_3 : decode cX1_codesOf 3 = .ok (.iconst 1, 1) := by decide +kernel
theorem dX1_codesOf_4 : decode cX1_codesOf 4 = .ok (.isub, 1) := by decide +kernel
theorem dX1_codesOf_5 : decode cX1_codesOf 5 = .ok (.imul, 1) := by decide +kernel
theorem dX1_codesOf_6 : decode cX1_codesOf 6 = .ok (.iconst 2, 1) := by decide +kernel
theorem dX1_codesOf_7 : decode cX1_codesOf 7 = .ok (.idiv, 1) := by decide +kernel
theorem dX1_codesOf_8 : decode cX1_codesOf 8 = .ok (.ishl, 1) := by decide +kernel
theorem dX1_codesOf_9 : decode cX1_codesOf 9 = .ok (.ireturn, 1) := by decide +kernel
theorem dX1_has_0 : decode cX1_has 0 = .ok (.iload_n 1, 1) := by decide +kernel
theorem dX1_has_1 : decode cX1_has 1 = .ok (.ifCond .lt 15, 3) := by decide +kernel
theorem dX1_has_4 : decode cX1_has 4 = .ok (.iload_n 1, 1) := by decide +kernel
theorem dX1_has_5 : decode cX1_has 5 = .ok (.aload_n 0, 1) := by decide +kernel
theorem dX1_has_6 : decode cX1_has 6 = .ok (.getfield 35, 3) := by decide +kernel
theorem dX1_has_9 : decode cX1_has 9 = .ok (.if_icmp .ge 7, 3) := by decide +kernel
theorem dX1_has_12 : decode cX1_has 12 = .ok (.iconst 1, 1) := by decide +kernel
theorem dX1_has_13 : decode cX1_has 13 = .ok (.goto 4, 3) := by decide +kernel
theorem dX1_has_16 : decode cX1_has 16 = .ok (.iconst 0, 1) := by decide +kernel
theorem dX1_has_17 : decode cX1_has 17 = .ok (.ireturn, 1) := by decide +kernel
theorem dX1_hasSize_0 : decode cX1_hasSize 0 = .ok (.iload_n 1, 1) := by decide +kernel
theorem dX1_hasSize_1 : decode cX1_hasSize 1 = .ok (.aload_n 0, 1) := by decide +kernel
theorem dX1_hasSize_2 : decode cX1_hasSize 2 = .ok (.getfield 38, 3) := by decide +kernel
theorem dX1_hasSize_5 : decode cX1_hasSize 5 = .ok (.if_icmp .lt 12, 3) := by decide +kernel
theorem dX1_hasSize_8 : decode cX1_hasSize 8 = .ok (.iload_n 1, 1) := by decide +kernel
theorem dX1_hasSize_9 : decode cX1_hasSize 9 = .ok (.iconst 4, 1) := by decide +kernel
theorem dX1_hasSize_10 : decode cX1_hasSize 10 = .ok (.if_icmp .gt 7, 3) := by decide +kernel
theorem dX1_hasSize_13 : decode cX1_hasSize 13 = .ok (.iconst 1, 1) := by decide +kernel
theorem dX1_hasSize_14 : decode cX1_hasSize 14 = .ok (.goto 4, 3) := by decide +kernel
theorem dX1_hasSize_17 : decode cX1_hasSize 17 = .ok (.iconst 0, 1) := by decide +kernel
theorem dX1_hasSize_18 : decode cX1_hasSize 18 = .ok (.ireturn, 1) := by decide +kernel
theorem dX1_manyOf_0 : decode cX1_manyOf 0 = .ok (.aload_n 0, 1) := by decide +kernel
theorem dX1_manyOf_1 : decode cX1_manyOf 1 = .ok (.iload_n 1, 1) := by decide +kernel
theorem dX1_manyOf_2 : decode cX1_manyOf 2 = .ok (.invokevirtual 74, 3) := by decide +kernel
theorem dX1_manyOf_5 : decode cX1_manyOf 5 = .ok (.ifCond .eq 21, 3) := by decide +kernel
theorem dX1_manyOf_8 : decode cX1_manyOf 8 = .ok (.aload_n 0, 1) := by decide +kernel
theorem dX1_manyOf_9 : decode cX1_manyOf 9 = .ok (.getfield 9, 3) := by decide +kernel
theorem dX1_manyOf_12 : decode cX1_manyOf 12 = .ok (.iload_n 1, 1) := by decide +kernel
theorem dX1_manyOf_13 : decode cX1_manyOf 13 = .ok (.iconst 1, 1) := by decide +kernel
theorem dX1_manyOf_14 : decode cX1_manyOf 14 = .ok (.iadd, 1) := by decide +kernel
theorem dX1_manyOf_15 : decode cX1_manyOf 15 = .ok (.iaload, 1) := by decide +kernel
theorem dX1_manyOf_16 : decode cX1_manyOf 16 = .ok (.aload_n 0, 1) := by decide +kernel
theorem dX1_manyOf_17 : decode cX1_manyOf 17 = .ok (.getfield 9, 3) := by decide +kernel
theorem dX1_manyOf_20 : decode cX1_manyOf 20 = .ok (.iload_n 1, 1) := by decide +kernel
theorem dX1_manyOf_21 : decode cX1_manyOf 21 = .ok (.iaload, 1) := by decide +kernel
theorem dX1_manyOf_22 : decode cX1_manyOf 22 = .ok (.isub, 1) := by decide +kernel
theorem dX1_manyOf_23 : decode cX1_manyOf 23 = .ok (.goto 4, 3) := by decide +kernel
theorem dX1_manyOf_26 : decode cX1_manyOf 26 = .ok (.iconst 0, 1) := by decide +kernel
theorem dX1_manyOf_27 : decode cX1_manyOf 27 = .ok (.ireturn, 1) := by decide +kernel
theorem dX1_symmetriesOf_0 : decode cX1_symmetriesOf 0 = .ok (.iconst 0, 1) := by decide +kernel
theorem dX1_symmetriesOf_1 : decode cX1_symmetriesOf 1 = .ok (.istore_n 2, 1) := by decide +kernel
theorem dX1_symmetriesOf_2 : decode cX1_symmetriesOf 2 = .ok (.aload_n 0, 1) := by decide +kernel
theorem dX1_symmetriesOf_3 : decode cX1_symmetriesOf 3 = .ok (.getfield 24, 3) := by decide +kernel
theorem dX1_symmetriesOf_6 : decode cX1_symmetriesOf 6 = .ok (.astore_n 3, 1) := by decide +kernel
theorem dX1_symmetriesOf_7 : decode cX1_symmetriesOf 7 = .ok (.aload_n 3, 1) := by decide +kernel
theorem dX1_symmetriesOf_8 : decode cX1_symmetriesOf 8 = .ok (.arraylength, 1) := by decide +kernel
theorem dX1_symmetriesOf_9 : decode cX1_symmetriesOf 9 = .ok (.istore 4, 2) := by decide +kernel
theorem dX1_symmetriesOf_11 : decode cX1_symmetriesOf 11 = .ok (.iconst 0, 1) := by decide +kernel
theorem dX1_symmetriesOf_12 : decode cX1_symmetriesOf 12 = .ok (.istore 5, 2) := by decide +kernel
theorem dX1_symmetriesOf_14 : decode cX1_symmetriesOf 14 = .ok (.iload 5, 2) := by decide +kernel
theorem dX1_symmetriesOf_16 : decode cX1_symmetriesOf 16 = .ok (.iload 4, 2) := by decide +kernel
theorem dX1_symmetriesOf_18 : decode cX1_symmetriesOf 18 = .ok (.if_icmp .ge 59, 3) := by decide +kernel
theorem dX1_symmetriesOf_21 : decode cX1_symmetriesOf 21 = .ok (.aload_n 3, 1) := by decide +kernel
theorem dX1_symmetriesOf_22 : decode cX1_symmetriesOf 22 = .ok (.iload 5, 2) := by decide +kernel
theorem dX1_symmetriesOf_24 : decode cX1_symmetriesOf 24 = .ok (.iaload, 1) := by decide +kernel
theorem dX1_symmetriesOf_25 : decode cX1_symmetriesOf 25 = .ok (.istore 6, 2) := by decide +kernel
theorem dX1_symmetriesOf_27 : decode cX1_symmetriesOf 27 = .ok (.aload_n 0, 1) := by decide +kernel
theorem dX1_symmetriesOf_28 : decode cX1_symmetriesOf 28 = .ok (.iload 6, 2) := by decide +kernel
theorem dX1_symmetriesOf_30 : decode cX1_symmetriesOf 30 = .ok (.aload_n 0, 1) := by decide +kernel
theorem dX1_symmetriesOf_31 : decode cX1_symmetriesOf 31 = .ok (.getfield 41, 3) := by decide +kernel
theorem dX1_symmetriesOf_34 : decode cX1_symmetriesOf 34 = .ok (.iload_n 1, 1) := by decide +kernel
theorem dX1_symmetriesOf_35 : decode cX1_symmetriesOf 35 = .ok (.iaload, 1) := by decide +kernel
theorem dX1_symmetriesOf_36 : decode cX1_symmetriesOf 36 = .ok (.invokevirtual 86, 3) := by decide +kernel
theorem dX1_symmetriesOf_39 : decode cX1_symmetriesOf 39 = .ok (.ifCond .eq 32, 3) := by decide +kernel
theorem dX1_symmetriesOf_42 : decode cX1_symmetriesOf 42 = .ok (.aload_n 0, 1) := by decide +kernel
theorem dX1_symmetriesOf_43 : decode cX1_symmetriesOf 43 = .ok (.getfield 41, 3) := by decide +kernel
theorem dX1_symmetriesOf_46 : decode cX1_symmetriesOf 46 = .ok (.iload_n 1, 1) := by decide +kernel
theorem dX1_symmetriesOf_47 : decode cX1_symmetriesOf 47 = .ok (.iaload, 1) := by decide +kernel
theorem dX1_symmetriesOf_48 : decode cX1_symmetriesOf 48 = .ok (.aload_n 0, 1) := by decide +kernel
theorem dX1_symmetriesOf_49 : decode cX1_symmetriesOf 49 = .ok (.getfield 44, 3) := by decide +kernel
theorem dX1_symmetriesOf_52 : decode cX1_symmetriesOf 52 = .ok (.iload_n 1, 1) := by decide +kernel
theorem dX1_symmetriesOf_53 : decode cX1_symmetriesOf 53 = .ok (.iaload, 1) := by decide +kernel
theorem dX1_symmetriesOf_54 : decode cX1_symmetriesOf 54 = .ok (.iload 6, 2) := by decide +kernel
theorem dX1_symmetriesOf_56 : decode cX1_symmetriesOf 56 = .ok (.invokestatic 90, 3) := by decide +kernel
theorem dX1_symmetriesOf_59 : decode cX1_symmetriesOf 59 = .ok (.aload_n 0, 1) := by decide +kernel
theorem dX1_symmetriesOf_60 : decode cX1_symmetriesOf 60 = .ok (.getfield 44, 3) := by decide +kernel
theorem dX1_symmetriesOf_63 : decode cX1_symmetriesOf 63 = .ok (.iload_n 1, 1) := by decide +kernel
theorem dX1_symmetriesOf_64 : decode cX1_symmetriesOf 64 = .ok (.iaload, 1) := by decide +kernel
theorem dX1_symmetriesOf_65 : decode cX1_symmetriesOf 65 = .ok (.if_icmp .ne 6, 3) := by decide +kernel
theorem dX1_symmetriesOf_68 : decode cX1_symmetriesOf 68 = .ok (.iinc 2 1, 3) := by decide +kernel
theorem dX1_symmetriesOf_71 : decode cX1_symmetriesOf 71 = .ok (.iinc 5 1, 3) := by decide +kernel
theorem dX1_symmetriesOf_74 : decode cX1_symmetriesOf 74 = .ok (.goto (-60), 3) := by decide +kernel
theorem dX1_symmetriesOf_77 : decode cX1_symmetriesOf 77 = .ok (.iload_n 2, 1) := by decide +kernel
theorem dX1_symmetriesOf_78 : decode cX1_symmetriesOf 78 = .ok (.ireturn, 1) := by decide +kernel
theorem dX1_oppositeOf_0 : decode cX1_oppositeOf 0 = .ok (.aload_n 0, 1) := by decide +kernel
theorem dX1_oppositeOf_1 : decode cX1_oppositeOf 1 = .ok (.getfield 41, 3) := by decide +kernel
theorem dX1_oppositeOf_4 : decode cX1_oppositeOf 4 = .ok (.iload_n 1, 1) := by decide +kernel
theorem dX1_oppositeOf_5 : decode cX1_oppositeOf 5 = .ok (.iaload, 1) := by decide +kernel
theorem dX1_oppositeOf_6 : decode cX1_oppositeOf 6 = .ok (.istore_n 2, 1) := by decide +kernel
theorem dX1_oppositeOf_7 : decode cX1_oppositeOf 7 = .ok (.aload_n 0, 1) := by decide +kernel
theorem dX1_oppositeOf_8 : decode cX1_oppositeOf 8 = .ok (.getfield 17, 3) := by decide +kernel
theorem dX1_oppositeOf_11 : decode cX1_oppositeOf 11 = .ok (.iload_n 2, 1) := by decide +kernel
theorem dX1_oppositeOf_12 : decode cX1_oppositeOf 12 = .ok (.aaload, 1) := by decide +kernel
theorem dX1_oppositeOf_13 : decode cX1_oppositeOf 13 = .ok (.iload_n 2, 1) := by decide +kernel
theorem dX1_oppositeOf_14 : decode cX1_oppositeOf 14 = .ok (.invokestatic 78, 3) := by decide +kernel
theorem dX1_oppositeOf_17 : decode cX1_oppositeOf 17 = .ok (.iconst 1, 1) := by decide +kernel
theorem dX1_oppositeOf_18 : decode cX1_oppositeOf 18 = .ok (.isub, 1) := by decide +kernel
theorem dX1_oppositeOf_19 : decode cX1_oppositeOf 19 = .ok (.aload_n 0, 1) := by decide +kernel
theorem dX1_oppositeOf_20 : decode cX1_oppositeOf 20 = .ok (.getfield 44, 3) := by decide +kernel
theorem dX1_oppositeOf_23 : decode cX1_oppositeOf 23 = .ok (.iload_n 1, 1) := by decide +kernel
theorem dX1_oppositeOf_24 : decode cX1_oppositeOf 24 = .ok (.iaload, 1) := by decide +kernel
theorem dX1_oppositeOf_25 : decode cX1_oppositeOf 25 = .ok (.isub, 1) := by decide +kernel
theorem dX1_oppositeOf_26 : decode cX1_oppositeOf 26 = .ok (.iaload, 1) := by decide +kernel
theorem dX1_oppositeOf_27 : decode cX1_oppositeOf 27 = .ok (.ireturn, 1) := by decide +kernel
theorem dX1_numberOn_0 : decode cX1_numberOn 0 = .ok (.iload_n 2, 1) := by decide +kernel
theorem dX1_numberOn_1 : decode cX1_numberOn 1 = .ok (.invokestatic 105, 3) := by decide +kernel
theorem dX1_numberOn_4 : decode cX1_numberOn 4 = .ok (.istore 4, 2) := by decide +kernel
theorem dX1_numberOn_6 : decode cX1_numberOn 6 = .ok (.aload_n 0, 1) := by decide +kernel
theorem dX1_numberOn_7 : decode cX1_numberOn 7 = .ok (.iload 4, 2) := by decide +kernel
theorem dX1_numberOn_9 : decode cX1_numberOn 9 = .ok (.invokevirtual 74, 3) := by decide +kernel
theorem dX1_numberOn_12 : decode cX1_numberOn 12 = .ok (.ifCond .eq 26, 3) := by decide +kernel
theorem dX1_numberOn_15 : decode cX1_numberOn 15 = .ok (.aload_n 0, 1) := by decide +kernel
theorem dX1_numberOn_16 : decode cX1_numberOn 16 = .ok (.getfield 31, 3) := by decide +kernel
theorem dX1_numberOn_19 : decode cX1_numberOn 19 = .ok (.ifCond .eq 21, 3) := by decide +kernel
theorem dX1_numberOn_22 : decode cX1_numberOn 22 = .ok (.aload_n 1, 1) := by decide +kernel
theorem dX1_numberOn_23 : decode cX1_numberOn 23 = .ok (.iload_n 3, 1) := by decide +kernel
theorem dX1_numberOn_24 : decode cX1_numberOn 24 = .ok (.invokevirtual 110, 3) := by decide +kernel
theorem dX1_numberOn_27 : decode cX1_numberOn 27 = .ok (.ifCond .eq 11, 3) := by decide +kernel
theorem dX1_numberOn_30 : decode cX1_numberOn 30 = .ok (.iload_n 2, 1) := by decide +kernel
theorem dX1_numberOn_31 : decode cX1_numberOn 31 = .ok (.iload_n 3, 1) := by decide +kernel
theorem dX1_numberOn_32 : decode cX1_numberOn 32 = .ok (.ishr, 1) := by decide +kernel
theorem dX1_numberOn_33 : decode cX1_numberOn 33 = .ok (.iconst 1, 1) := by decide +kernel
theorem dX1_numberOn_34 : decode cX1_numberOn 34 = .ok (.iand, 1) := by decide +kernel
theorem dX1_numberOn_35 : decode cX1_numberOn 35 = .ok (.ifCond .ne 5, 3) := by decide +kernel
theorem dX1_numberOn_38 : decode cX1_numberOn 38 = .ok (.iconst (-1), 1) := by decide +kernel
theorem dX1_numberOn_39 : decode cX1_numberOn 39 = .ok (.ireturn, 1) := by decide +kernel
theorem dX1_numberOn_40 : decode cX1_numberOn 40 = .ok (.aload_n 0, 1) := by decide +kernel
theorem dX1_numberOn_41 : decode cX1_numberOn 41 = .ok (.getfield 17, 3) := by decide +kernel
theorem dX1_numberOn_44 : decode cX1_numberOn 44 = .ok (.iload 4, 2) := by decide +kernel
theorem dX1_numberOn_46 : decode cX1_numberOn 46 = .ok (.aaload, 1) := by decide +kernel
theorem dX1_numberOn_47 : decode cX1_numberOn 47 = .ok (.aload_n 1, 1) := by decide +kernel
theorem dX1_numberOn_48 : decode cX1_numberOn 48 = .ok (.iload_n 2, 1) := by decide +kernel
theorem dX1_numberOn_49 : decode cX1_numberOn 49 = .ok (.iload_n 3, 1) := by decide +kernel
theorem dX1_numberOn_50 : decode cX1_numberOn 50 = .ok (.invokevirtual 113, 3) := by decide +kernel
theorem dX1_numberOn_53 : decode cX1_numberOn 53 = .ok (.iaload, 1) := by decide +kernel
theorem dX1_numberOn_54 : decode cX1_numberOn 54 = .ok (.ireturn, 1) := by decide +kernel
theorem dX1_sizeOfBoth_0 : decode cX1_sizeOfBoth 0 = .ok (.aload_n 0, 1) := by decide +kernel
theorem dX1_sizeOfBoth_1 : decode cX1_sizeOfBoth 1 = .ok (.getfield 41, 3) := by decide +kernel
theorem dX1_sizeOfBoth_4 : decode cX1_sizeOfBoth 4 = .ok (.iload_n 1, 1) := by decide +kernel
theorem dX1_sizeOfBoth_5 : decode cX1_sizeOfBoth 5 = .ok (.iaload, 1) := by decide +kernel
theorem dX1_sizeOfBoth_6 : decode cX1_sizeOfBoth 6 = .ok (.aload_n 0, 1) := by decide +kernel
theorem dX1_sizeOfBoth_7 : decode cX1_sizeOfBoth 7 = .ok (.getfield 41, 3) := by decide +kernel
theorem dX1_sizeOfBoth_10 : decode cX1_sizeOfBoth 10 = .ok (.iload_n 2, 1) := by decide +kernel
theorem dX1_sizeOfBoth_11 : decode cX1_sizeOfBoth 11 = .ok (.iaload, 1) := by decide +kernel
theorem dX1_sizeOfBoth_12 : decode cX1_sizeOfBoth 12 = .ok (.iadd, 1) := by decide +kernel
theorem dX1_sizeOfBoth_13 : decode cX1_sizeOfBoth 13 = .ok (.aload_n 0, 1) := by decide +kernel
theorem dX1_sizeOfBoth_14 : decode cX1_sizeOfBoth 14 = .ok (.getfield 38, 3) := by decide +kernel
theorem dX1_sizeOfBoth_17 : decode cX1_sizeOfBoth 17 = .ok (.isub, 1) := by decide +kernel
theorem dX1_sizeOfBoth_18 : decode cX1_sizeOfBoth 18 = .ok (.ireturn, 1) := by decide +kernel
theorem dX1_setsIn_0 : decode cX1_setsIn 0 = .ok (.iload_n 1, 1) := by decide +kernel
theorem dX1_setsIn_1 : decode cX1_setsIn 1 = .ok (.aload_n 0, 1) := by decide +kernel
theorem dX1_setsIn_2 : decode cX1_setsIn 2 = .ok (.getfield 38, 3) := by decide +kernel
theorem dX1_setsIn_5 : decode cX1_setsIn 5 = .ok (.isub, 1) := by decide +kernel
theorem dX1_setsIn_6 : decode cX1_setsIn 6 = .ok (.iload_n 2, 1) := by decide +kernel
theorem dX1_setsIn_7 : decode cX1_setsIn 7 = .ok (.aload_n 0, 1) := by decide +kernel
theorem dX1_setsIn_8 : decode cX1_setsIn 8 = .ok (.getfield 38, 3) := by decide +kernel
theorem dX1_setsIn_11 : decode cX1_setsIn 11 = .ok (.isub, 1) := by decide +kernel
theorem dX1_setsIn_12 : decode cX1_setsIn 12 = .ok (.invokestatic 116, 3) := by decide +kernel
theorem dX1_setsIn_15 : decode cX1_setsIn 15 = .ok (.ireturn, 1) := by decide +kernel
theorem dX1_pairsIn_0 : decode cX1_pairsIn 0 = .ok (.aload_n 0, 1) := by decide +kernel
theorem dX1_pairsIn_1 : decode cX1_pairsIn 1 = .ok (.getfield 41, 3) := by decide +kernel
theorem dX1_pairsIn_4 : decode cX1_pairsIn 4 = .ok (.iload_n 3, 1) := by decide +kernel
theorem dX1_pairsIn_5 : decode cX1_pairsIn 5 = .ok (.iaload, 1) := by decide +kernel
theorem dX1_pairsIn_6 : decode cX1_pairsIn 6 = .ok (.aload_n 0, 1) := by decide +kernel
theorem dX1_pairsIn_7 : decode cX1_pairsIn 7 = .ok (.getfield 38, 3) := by decide +kernel
theorem dX1_pairsIn_10 : decode cX1_pairsIn 10 = .ok (.isub, 1) := by decide +kernel
theorem dX1_pairsIn_11 : decode cX1_pairsIn 11 = .ok (.aload_n 0, 1) := by decide +kernel
theorem dX1_pairsIn_12 : decode cX1_pairsIn 12 = .ok (.getfield 41, 3) := by decide +kernel
theorem dX1_pairsIn_15 : decode cX1_pairsIn 15 = .ok (.iload_n 1, 1) := by decide +kernel
theorem dX1_pairsIn_16 : decode cX1_pairsIn 16 = .ok (.iaload, 1) := by decide +kernel
theorem dX1_pairsIn_17 : decode cX1_pairsIn 17 = .ok (.aload_n 0, 1) := by decide +kernel
theorem dX1_pairsIn_18 : decode cX1_pairsIn 18 = .ok (.getfield 38, 3) := by decide +kernel
theorem dX1_pairsIn_21 : decode cX1_pairsIn 21 = .ok (.isub, 1) := by decide +kernel
theorem dX1_pairsIn_22 : decode cX1_pairsIn 22 = .ok (.invokestatic 116, 3) := by decide +kernel
theorem dX1_pairsIn_25 : decode cX1_pairsIn 25 = .ok (.aload_n 0, 1) := by decide +kernel
theorem dX1_pairsIn_26 : decode cX1_pairsIn 26 = .ok (.getfield 41, 3) := by decide +kernel
theorem dX1_pairsIn_29 : decode cX1_pairsIn 29 = .ok (.iload_n 3, 1) := by decide +kernel
theorem dX1_pairsIn_30 : decode cX1_pairsIn 30 = .ok (.iaload, 1) := by decide +kernel
theorem dX1_pairsIn_31 : decode cX1_pairsIn 31 = .ok (.aload_n 0, 1) := by decide +kernel
theorem dX1_pairsIn_32 : decode cX1_pairsIn 32 = .ok (.getfield 41, 3) := by decide +kernel
theorem dX1_pairsIn_35 : decode cX1_pairsIn 35 = .ok (.iload_n 1, 1) := by decide +kernel
theorem dX1_pairsIn_36 : decode cX1_pairsIn 36 = .ok (.iaload, 1) := by decide +kernel
theorem dX1_pairsIn_37 : decode cX1_pairsIn 37 = .ok (.isub, 1) := by decide +kernel
theorem dX1_pairsIn_38 : decode cX1_pairsIn 38 = .ok (.aload_n 0, 1) := by decide +kernel
theorem dX1_pairsIn_39 : decode cX1_pairsIn 39 = .ok (.getfield 41, 3) := by decide +kernel
theorem dX1_pairsIn_42 : decode cX1_pairsIn 42 = .ok (.iload_n 2, 1) := by decide +kernel
theorem dX1_pairsIn_43 : decode cX1_pairsIn 43 = .ok (.iaload, 1) := by decide +kernel
theorem dX1_pairsIn_44 : decode cX1_pairsIn 44 = .ok (.aload_n 0, 1) := by decide +kernel
theorem dX1_pairsIn_45 : decode cX1_pairsIn 45 = .ok (.getfield 38, 3) := by decide +kernel
theorem dX1_pairsIn_48 : decode cX1_pairsIn 48 = .ok (.isub, 1) := by decide +kernel
theorem dX1_pairsIn_49 : decode cX1_pairsIn 49 = .ok (.invokestatic 116, 3) := by decide +kernel
theorem dX1_pairsIn_52 : decode cX1_pairsIn 52 = .ok (.imul, 1) := by decide +kernel
theorem dX1_pairsIn_53 : decode cX1_pairsIn 53 = .ok (.ireturn, 1) := by decide +kernel
theorem dX1_ways_0 : decode cX1_ways 0 = .ok (.iload_n 1, 1) := by decide +kernel
theorem dX1_ways_1 : decode cX1_ways 1 = .ok (.ifCond .lt 8, 3) := by decide +kernel
theorem dX1_ways_4 : decode cX1_ways 4 = .ok (.iload_n 1, 1) := by decide +kernel
theorem dX1_ways_5 : decode cX1_ways 5 = .ok (.iload_n 0, 1) := by decide +kernel
theorem dX1_ways_6 : decode cX1_ways 6 = .ok (.if_icmp .le 5, 3) := by decide +kernel
theorem dX1_ways_9 : decode cX1_ways 9 = .ok (.iconst 0, 1) := by decide +kernel
theorem dX1_ways_10 : decode cX1_ways 10 = .ok (.ireturn, 1) := by decide +kernel
theorem dX1_ways_11 : decode cX1_ways 11 = .ok (.iconst 1, 1) := by decide +kernel
theorem dX1_ways_12 : decode cX1_ways 12 = .ok (.istore_n 2, 1) := by decide +kernel
theorem dX1_ways_13 : decode cX1_ways 13 = .ok (.iconst 0, 1) := by decide +kernel
theorem dX1_ways_14 : decode cX1_ways 14 = .ok (.istore_n 3, 1) := by decide +kernel
theorem dX1_ways_15 : decode cX1_ways 15 = .ok (.iload_n 3, 1) := by decide +kernel
theorem dX1_ways_16 : decode cX1_ways 16 = .ok (.iload_n 1, 1) := by decide +kernel
theorem dX1_ways_17 : decode cX1_ways 17 = .ok (.if_icmp .ge 19, 3) := by decide +kernel
theorem dX1_ways_20 : decode cX1_ways 20 = .ok (.iload_n 2, 1) := by decide +kernel
theorem dX1_ways_21 : decode cX1_ways 21 = .ok (.iload_n 0, 1) := by decide +kernel
theorem dX1_ways_22 : decode cX1_ways 22 = .ok (.iload_n 3, 1) := by decide +kernel
theorem dX1_ways_23 : decode cX1_ways 23 = .ok (.isub, 1) := by decide +kernel
theorem dX1_ways_24 : decode cX1_ways 24 = .ok (.imul, 1) := by decide +kernel
theorem dX1_ways_25 : decode cX1_ways 25 = .ok (.iload_n 3, 1) := by decide +kernel
theorem dX1_ways_26 : decode cX1_ways 26 = .ok (.iconst 1, 1) := by decide +kernel
theorem dX1_ways_27 : decode cX1_ways 27 = .ok (.iadd, 1) := by decide +kernel
theorem dX1_ways_28 : decode cX1_ways 28 = .ok (.idiv, 1) := by decide +kernel
theorem dX1_ways_29 : decode cX1_ways 29 = .ok (.istore_n 2, 1) := by decide +kernel
theorem dX1_ways_30 : decode cX1_ways 30 = .ok (.iinc 3 1, 3) := by decide +kernel
theorem dX1_ways_33 : decode cX1_ways 33 = .ok (.goto (-18), 3) := by decide +kernel
theorem dX1_ways_36 : decode cX1_ways 36 = .ok (.iload_n 2, 1) := by decide +kernel
theorem dX1_ways_37 : decode cX1_ways 37 = .ok (.ireturn, 1) := by decide +kernel
theorem dX1_jointsIn_0 : decode cX1_jointsIn 0 = .ok (.aload_n 0, 1) := by decide +kernel
theorem dX1_jointsIn_1 : decode cX1_jointsIn 1 = .ok (.getfield 53, 3) := by decide +kernel
theorem dX1_jointsIn_4 : decode cX1_jointsIn 4 = .ok (.iload_n 3, 1) := by decide +kernel
theorem dX1_jointsIn_5 : decode cX1_jointsIn 5 = .ok (.aaload, 1) := by decide +kernel
theorem dX1_jointsIn_6 : decode cX1_jointsIn 6 = .ok (.astore 4, 2) := by decide +kernel
theorem dX1_jointsIn_8 : decode cX1_jointsIn 8 = .ok (.iconst 1, 1) := by decide +kernel
theorem dX1_jointsIn_9 : decode cX1_jointsIn 9 = .ok (.aload_n 0, 1) := by decide +kernel
theorem dX1_jointsIn_10 : decode cX1_jointsIn 10 = .ok (.getfield 41, 3) := by decide +kernel
theorem dX1_jointsIn_13 : decode cX1_jointsIn 13 = .ok (.iload_n 3, 1) := by decide +kernel
theorem dX1_jointsIn_14 : decode cX1_jointsIn 14 = .ok (.iaload, 1) := by decide +kernel
theorem dX1_jointsIn_15 : decode cX1_jointsIn 15 = .ok (.ishl, 1) := by decide +kernel
theorem dX1_jointsIn_16 : decode cX1_jointsIn 16 = .ok (.istore 5, 2) := by decide +kernel
theorem dX1_jointsIn_18 : decode cX1_jointsIn 18 = .ok (.iconst 0, 1) := by decide +kernel
theorem dX1_jointsIn_19 : decode cX1_jointsIn 19 = .ok (.istore 6, 2) := by decide +kernel
theorem dX1_jointsIn_21 : decode cX1_jointsIn 21 = .ok (.iconst 0, 1) := by decide +kernel
theorem dX1_jointsIn_22 : decode cX1_jointsIn 22 = .ok (.istore 7, 2) := by decide +kernel
theorem dX1_jointsIn_24 : decode cX1_jointsIn 24 = .ok (.iload 7, 2) := by decide +kernel
theorem dX1_jointsIn_26 : decode cX1_jointsIn 26 = .ok (.iload 5, 2) := by decide +kernel
theorem dX1_jointsIn_28 : decode cX1_jointsIn 28 = .ok (.if_icmp .ge 61, 3) := by decide +kernel
theorem dX1_jointsIn_31 : decode cX1_jointsIn 31 = .ok (.aload 4, 2) := by decide +kernel
theorem dX1_jointsIn_33 : decode cX1_jointsIn 33 = .ok (.iload 7, 2) := by decide +kernel
theorem dX1_jointsIn_35 : decode cX1_jointsIn 35 = .ok (.iaload, 1) := by decide +kernel
theorem dX1_jointsIn_36 : decode cX1_jointsIn 36 = .ok (.iload_n 1, 1) := by decide +kernel
theorem dX1_jointsIn_37 : decode cX1_jointsIn 37 = .ok (.if_icmp .eq 6, 3) := by decide +kernel
theorem dX1_jointsIn_40 : decode cX1_jointsIn 40 = .ok (.goto 43, 3) := by decide +kernel
theorem dX1_jointsIn_43 : decode cX1_jointsIn 43 = .ok (.iconst 0, 1) := by decide +kernel
theorem dX1_jointsIn_44 : decode cX1_jointsIn 44 = .ok (.istore 8, 2) := by decide +kernel
theorem dX1_jointsIn_46 : decode cX1_jointsIn 46 = .ok (.iload 8, 2) := by decide +kernel
theorem dX1_jointsIn_48 : decode cX1_jointsIn 48 = .ok (.iload 5, 2) := by decide +kernel
theorem dX1_jointsIn_50 : decode cX1_jointsIn 50 = .ok (.if_icmp .ge 33, 3) := by decide +kernel
theorem dX1_jointsIn_53 : decode cX1_jointsIn 53 = .ok (.aload 4, 2) := by decide +kernel
theorem dX1_jointsIn_55 : decode cX1_jointsIn 55 = .ok (.iload 8, 2) := by decide +kernel
theorem dX1_jointsIn_57 : decode cX1_jointsIn 57 = .ok (.iaload, 1) := by decide +kernel
theorem dX1_jointsIn_58 : decode cX1_jointsIn 58 = .ok (.iload_n 2, 1) := by decide +kernel
theorem dX1_jointsIn_59 : decode cX1_jointsIn 59 = .ok (.if_icmp .ne 18, 3) := by decide +kernel
theorem dX1_jointsIn_62 : decode cX1_jointsIn 62 = .ok (.iload 7, 2) := by decide +kernel
theorem dX1_jointsIn_64 : decode cX1_jointsIn 64 = .ok (.iload 8, 2) := by decide +kernel
theorem dX1_jointsIn_66 : decode cX1_jointsIn 66 = .ok (.iand, 1) := by decide +kernel
theorem dX1_jointsIn_67 : decode cX1_jointsIn 67 = .ok (.aload_n 0, 1) := by decide +kernel
theorem dX1_jointsIn_68 : decode cX1_jointsIn 68 = .ok (.getfield 38, 3) := by decide +kernel
theorem dX1_jointsIn_71 : decode cX1_jointsIn 71 = .ok (.if_icmp .ne 6, 3) := by decide +kernel
theorem dX1_jointsIn_74 : decode cX1_jointsIn 74 = .ok (.iinc 6 1, 3) := by decide +kernel
theorem dX1_jointsIn_77 : decode cX1_jointsIn 77 = .ok (.iinc 8 1, 3) := by decide +kernel
theorem dX1_jointsIn_80 : decode cX1_jointsIn 80 = .ok (.goto (-34), 3) := by decide +kernel
theorem dX1_jointsIn_83 : decode cX1_jointsIn 83 = .ok (.iinc 7 1, 3) := by decide +kernel
theorem dX1_jointsIn_86 : decode cX1_jointsIn 86 = .ok (.goto (-62), 3) := by decide +kernel
theorem dX1_jointsIn_89 : decode cX1_jointsIn 89 = .ok (.iload 6, 2) := by decide +kernel
theorem dX1_jointsIn_91 : decode cX1_jointsIn 91 = .ok (.ireturn, 1) := by decide +kernel
theorem dX1_tally_0 : decode cX1_tally 0 = .ok (.aload_n 0, 1) := by decide +kernel
theorem dX1_tally_1 : decode cX1_tally 1 = .ok (.iconst 0, 1) := by decide +kernel
theorem dX1_tally_2 : decode cX1_tally 2 = .ok (.putfield 27, 3) := by decide +kernel
theorem dX1_tally_5 : decode cX1_tally 5 = .ok (.iconst 0, 1) := by decide +kernel
theorem dX1_tally_6 : decode cX1_tally 6 = .ok (.istore 4, 2) := by decide +kernel
theorem dX1_tally_8 : decode cX1_tally 8 = .ok (.iload 4, 2) := by decide +kernel
theorem dX1_tally_10 : decode cX1_tally 10 = .ok (.aload_n 0, 1) := by decide +kernel
theorem dX1_tally_11 : decode cX1_tally 11 = .ok (.getfield 35, 3) := by decide +kernel
theorem dX1_tally_14 : decode cX1_tally 14 = .ok (.if_icmp .ge 17, 3) := by decide +kernel
theorem dX1_tally_17 : decode cX1_tally 17 = .ok (.aload_n 0, 1) := by decide +kernel
theorem dX1_tally_18 : decode cX1_tally 18 = .ok (.getfield 56, 3) := by decide +kernel
theorem dX1_tally_21 : decode cX1_tally 21 = .ok (.iload 4, 2) := by decide +kernel
theorem dX1_tally_23 : decode cX1_tally 23 = .ok (.iconst 0, 1) := by decide +kernel
theorem dX1_tally_24 : decode cX1_tally 24 = .ok (.iastore, 1) := by decide +kernel
theorem dX1_tally_25 : decode cX1_tally 25 = .ok (.iinc 4 1, 3) := by decide +kernel
theorem dX1_tally_28 : decode cX1_tally 28 = .ok (.goto (-20), 3) := by decide +kernel
theorem dX1_tally_31 : decode cX1_tally 31 = .ok (.iconst 0, 1) := by decide +kernel
theorem dX1_tally_32 : decode cX1_tally 32 = .ok (.istore 4, 2) := by decide +kernel
theorem dX1_tally_34 : decode cX1_tally 34 = .ok (.iload 4, 2) := by decide +kernel
theorem dX1_tally_36 : decode cX1_tally 36 = .ok (.iconst 1, 1) := by decide +kernel
theorem dX1_tally_37 : decode cX1_tally 37 = .ok (.aload_n 1, 1) := by decide +kernel
theorem dX1_tally_38 : decode cX1_tally 38 = .ok (.getfield 119, 3) := by decide +kernel
theorem dX1_tally_41 : decode cX1_tally 41 = .ok (.ishl, 1) := by decide +kernel
theorem dX1_tally_42 : decode cX1_tally 42 = .ok (.if_icmp .ge 94, 3) := by decide +kernel
theorem dX1_tally_45 : decode cX1_tally 45 = .ok (.iload 4, 2) := by decide +kernel
theorem dX1_tally_47 : decode cX1_tally 47 = .ok (.invokestatic 105, 3) := by decide +kernel
theorem dX1_tally_50 : decode cX1_tally 50 = .ok (.iload_n 3, 1) := by decide +kernel
theorem dX1_tally_51 : decode cX1_tally 51 = .ok (.if_icmp .ne 14, 3) := by decide +kernel
theorem dX1_tally_54 : decode cX1_tally 54 = .ok (.aload_n 0, 1) := by decide +kernel
theorem dX1_tally_55 : decode cX1_tally 55 = .ok (.aload_n 1, 1) := by decide +kernel
theorem dX1_tally_56 : decode cX1_tally 56 = .ok (.iload 4, 2) := by decide +kernel
theorem dX1_tally_58 : decode cX1_tally 58 = .ok (.iload_n 2, 1) := by decide +kernel
theorem dX1_tally_59 : decode cX1_tally 59 = .ok (.invokevirtual 70, 3) := by decide +kernel
theorem dX1_tally_62 : decode cX1_tally 62 = .ok (.goto 4, 3) := by decide +kernel
theorem dX1_tally_65 : decode cX1_tally 65 = .ok (.iconst (-1), 1) := by decide +kernel
theorem dX1_tally_66 : decode cX1_tally 66 = .ok (.istore 5, 2) := by decide +kernel
theorem dX1_tally_68 : decode cX1_tally 68 = .ok (.iload 5, 2) := by decide +kernel
theorem dX1_tally_70 : decode cX1_tally 70 = .ok (.iconst (-1), 1) := by decide +kernel
theorem dX1_tally_71 : decode cX1_tally 71 = .ok (.if_icmp .ne 6, 3) := by decide +kernel
theorem dX1_tally_74 : decode cX1_tally 74 = .ok (.goto 56, 3) := by decide +kernel
theorem dX1_tally_77 : decode cX1_tally 77 = .ok (.aload_n 0, 1) := by decide +kernel
theorem dX1_tally_78 : decode cX1_tally 78 = .ok (.getfield 56, 3) := by decide +kernel
theorem dX1_tally_81 : decode cX1_tally 81 = .ok (.iload 5, 2) := by decide +kernel
theorem dX1_tally_83 : decode cX1_tally 83 = .ok (.iaload, 1) := by decide +kernel
theorem dX1_tally_84 : decode cX1_tally 84 = .ok (.ifCond .ne 35, 3) := by decide +kernel
theorem dX1_tally_87 : decode cX1_tally 87 = .ok (.aload_n 0, 1) := by decide +kernel
theorem dX1_tally_88 : decode cX1_tally 88 = .ok (.getfield 27, 3) := by decide +kernel
theorem dX1_tally_91 : decode cX1_tally 91 = .ok (.aload_n 0, 1) := by decide +kernel
theorem dX1_tally_92 : decode cX1_tally 92 = .ok (.getfield 35, 3) := by decide +kernel
theorem dX1_tally_95 : decode cX1_tally 95 = .ok (.if_icmp .ge 24, 3) := by decide +kernel
theorem dX1_tally_98 : decode cX1_tally 98 = .ok (.aload_n 0, 1) := by decide +kernel
theorem dX1_tally_99 : decode cX1_tally 99 = .ok (.getfield 59, 3) := by decide +kernel
theorem dX1_tally_102 : decode cX1_tally 102 = .ok (.aload_n 0, 1) := by decide +kernel
theorem dX1_tally_103 : decode cX1_tally 103 = .ok (.getfield 27, 3) := by decide +kernel
theorem dX1_tally_106 : decode cX1_tally 106 = .ok (.iload 5, 2) := by decide +kernel
theorem dX1_tally_108 : decode cX1_tally 108 = .ok (.iastore, 1) := by decide +kernel
theorem dX1_tally_109 : decode cX1_tally 109 = .ok (.aload_n 0, 1) := by decide +kernel
theorem dX1_tally_110 : decode cX1_tally 110 = .ok (.dup, 1) := by decide +kernel
theorem dX1_tally_111 : decode cX1_tally 111 = .ok (.getfield 27, 3) := by decide +kernel
theorem dX1_tally_114 : decode cX1_tally 114 = .ok (.iconst 1, 1) := by decide +kernel
theorem dX1_tally_115 : decode cX1_tally 115 = .ok (.iadd, 1) := by decide +kernel
theorem dX1_tally_116 : decode cX1_tally 116 = .ok (.putfield 27, 3) := by decide +kernel
theorem dX1_tally_119 : decode cX1_tally 119 = .ok (.aload_n 0, 1) := by decide +kernel
theorem dX1_tally_120 : decode cX1_tally 120 = .ok (.getfield 56, 3) := by decide +kernel
theorem dX1_tally_123 : decode cX1_tally 123 = .ok (.iload 5, 2) := by decide +kernel
theorem dX1_tally_125 : decode cX1_tally 125 = .ok (.dup2, 1) := by decide +kernel
theorem dX1_tally_126 : decode cX1_tally 126 = .ok (.iaload, 1) := by decide +kernel
theorem dX1_tally_127 : decode cX1_tally 127 = .ok (.iconst 1, 1) := by decide +kernel
theorem dX1_tally_128 : decode cX1_tally 128 = .ok (.iadd, 1) := by decide +kernel
theorem dX1_tally_129 : decode cX1_tally 129 = .ok (.iastore, 1) := by decide +kernel
theorem dX1_tally_130 : decode cX1_tally 130 = .ok (.iinc 4 1, 3) := by decide +kernel
theorem dX1_tally_133 : decode cX1_tally 133 = .ok (.goto (-99), 3) := by decide +kernel
theorem dX1_tally_136 : decode cX1_tally 136 = .ok (.return_, 1) := by decide +kernel
theorem dX1_shareOf_0 : decode cX1_shareOf 0 = .ok (.aload_n 0, 1) := by decide +kernel
theorem dX1_shareOf_1 : decode cX1_shareOf 1 = .ok (.aload_n 2, 1) := by decide +kernel
theorem dX1_shareOf_2 : decode cX1_shareOf 2 = .ok (.iload_n 3, 1) := by decide +kernel
theorem dX1_shareOf_3 : decode cX1_shareOf 3 = .ok (.aload_n 0, 1) := by decide +kernel
theorem dX1_shareOf_4 : decode cX1_shareOf 4 = .ok (.getfield 41, 3) := by decide +kernel
theorem dX1_shareOf_7 : decode cX1_shareOf 7 = .ok (.iload_n 1, 1) := by decide +kernel
theorem dX1_shareOf_8 : decode cX1_shareOf 8 = .ok (.iaload, 1) := by decide +kernel
theorem dX1_shareOf_9 : decode cX1_shareOf 9 = .ok (.invokevirtual 120, 3) := by decide +kernel
theorem dX1_shareOf_12 : decode cX1_shareOf 12 = .ok (.aload 4, 2) := by decide +kernel
theorem dX1_shareOf_14 : decode cX1_shareOf 14 = .ok (.aload_n 0, 1) := by decide +kernel
theorem dX1_shareOf_15 : decode cX1_shareOf 15 = .ok (.getfield 56, 3) := by decide +kernel
theorem dX1_shareOf_18 : decode cX1_shareOf 18 = .ok (.iload_n 1, 1) := by decide +kernel
theorem dX1_shareOf_19 : decode cX1_shareOf 19 = .ok (.iaload, 1) := by decide +kernel
theorem dX1_shareOf_20 : decode cX1_shareOf 20 = .ok (.i2l, 1) := by decide +kernel
theorem dX1_shareOf_21 : decode cX1_shareOf 21 = .ok (.aload_n 0, 1) := by decide +kernel
theorem dX1_shareOf_22 : decode cX1_shareOf 22 = .ok (.aload_n 2, 1) := by decide +kernel
theorem dX1_shareOf_23 : decode cX1_shareOf 23 = .ok (.getfield 119, 3) := by decide +kernel
theorem dX1_shareOf_26 : decode cX1_shareOf 26 = .ok (.aload_n 0, 1) := by decide +kernel
theorem dX1_shareOf_27 : decode cX1_shareOf 27 = .ok (.getfield 41, 3) := by decide +kernel
theorem dX1_shareOf_30 : decode cX1_shareOf 30 = .ok (.iload_n 1, 1) := by decide +kernel
theorem dX1_shareOf_31 : decode cX1_shareOf 31 = .ok (.iaload, 1) := by decide +kernel
theorem dX1_shareOf_32 : decode cX1_shareOf 32 = .ok (.invokevirtual 124, 3) := by decide +kernel
theorem dX1_shareOf_35 : decode cX1_shareOf 35 = .ok (.i2l, 1) := by decide +kernel
theorem dX1_shareOf_36 : decode cX1_shareOf 36 = .ok (.invokevirtual 127, 3) := by decide +kernel
theorem dX1_shareOf_39 : decode cX1_shareOf 39 = .ok (.return_, 1) := by decide +kernel
theorem dX1_ranked_0 : decode cX1_ranked 0 = .ok (.aload_n 0, 1) := by decide +kernel
theorem dX1_ranked_1 : decode cX1_ranked 1 = .ok (.getfield 9, 3) := by decide +kernel
theorem dX1_ranked_4 : decode cX1_ranked 4 = .ok (.iload_n 1, 1) := by decide +kernel
theorem dX1_ranked_5 : decode cX1_ranked 5 = .ok (.iaload, 1) := by decide +kernel
theorem dX1_ranked_6 : decode cX1_ranked 6 = .ok (.istore_n 3, 1) := by decide +kernel
theorem dX1_ranked_7 : decode cX1_ranked 7 = .ok (.iload_n 3, 1) := by decide +kernel
theorem dX1_ranked_8 : decode cX1_ranked 8 = .ok (.aload_n 0, 1) := by decide +kernel
theorem dX1_ranked_9 : decode cX1_ranked 9 = .ok (.getfield 9, 3) := by decide +kernel
theorem dX1_ranked_12 : decode cX1_ranked 12 = .ok (.iload_n 1, 1) := by decide +kernel
theorem dX1_ranked_13 : decode cX1_ranked 13 = .ok (.iconst 1, 1) := by decide +kernel
theorem dX1_ranked_14 : decode cX1_ranked 14 = .ok (.iadd, 1) := by decide +kernel
theorem dX1_ranked_15 : decode cX1_ranked 15 = .ok (.iaload, 1) := by decide +kernel
theorem dX1_ranked_16 : decode cX1_ranked 16 = .ok (.if_icmp .ge 88, 3) := by decide +kernel
theorem dX1_ranked_19 : decode cX1_ranked 19 = .ok (.iconst 0, 1) := by decide +kernel
theorem dX1_ranked_20 : decode cX1_ranked 20 = .ok (.istore 4, 2) := by decide +kernel
theorem dX1_ranked_22 : decode cX1_ranked 22 = .ok (.aload_n 0, 1) := by decide +kernel
theorem dX1_ranked_23 : decode cX1_ranked 23 = .ok (.getfield 9, 3) := by decide +kernel
theorem dX1_ranked_26 : decode cX1_ranked 26 = .ok (.iload_n 1, 1) := by decide +kernel
theorem dX1_ranked_27 : decode cX1_ranked 27 = .ok (.iaload, 1) := by decide +kernel
theorem dX1_ranked_28 : decode cX1_ranked 28 = .ok (.istore 5, 2) := by decide +kernel
theorem dX1_ranked_30 : decode cX1_ranked 30 = .ok (.iload 5, 2) := by decide +kernel
theorem dX1_ranked_32 : decode cX1_ranked 32 = .ok (.aload_n 0, 1) := by decide +kernel
theorem dX1_ranked_33 : decode cX1_ranked 33 = .ok (.getfield 9, 3) := by decide +kernel
theorem dX1_ranked_36 : decode cX1_ranked 36 = .ok (.iload_n 1, 1) := by decide +kernel
theorem dX1_ranked_37 : decode cX1_ranked 37 = .ok (.iconst 1, 1) := by decide +kernel
theorem dX1_ranked_38 : decode cX1_ranked 38 = .ok (.iadd, 1) := by decide +kernel
theorem dX1_ranked_39 : decode cX1_ranked 39 = .ok (.iaload, 1) := by decide +kernel
theorem dX1_ranked_40 : decode cX1_ranked 40 = .ok (.if_icmp .ge 50, 3) := by decide +kernel
theorem dX1_ranked_43 : decode cX1_ranked 43 = .ok (.aload_n 0, 1) := by decide +kernel
theorem dX1_ranked_44 : decode cX1_ranked 44 = .ok (.getfield 56, 3) := by decide +kernel
theorem dX1_ranked_47 : decode cX1_ranked 47 = .ok (.iload 5, 2) := by decide +kernel
theorem dX1_ranked_49 : decode cX1_ranked 49 = .ok (.iaload, 1) := by decide +kernel
theorem dX1_ranked_50 : decode cX1_ranked 50 = .ok (.aload_n 0, 1) := by decide +kernel
theorem dX1_ranked_51 : decode cX1_ranked 51 = .ok (.getfield 56, 3) := by decide +kernel
theorem dX1_ranked_54 : decode cX1_ranked 54 = .ok (.iload_n 3, 1) := by decide +kernel
theorem dX1_ranked_55 : decode cX1_ranked 55 = .ok (.iaload, 1) := by decide +kernel
theorem dX1_ranked_56 : decode cX1_ranked 56 = .ok (.if_icmp .gt 25, 3) := by decide +kernel
theorem dX1_ranked_59 : decode cX1_ranked 59 = .ok (.aload_n 0, 1) := by decide +kernel
theorem dX1_ranked_60 : decode cX1_ranked 60 = .ok (.getfield 56, 3) := by decide +kernel
theorem dX1_ranked_63 : decode cX1_ranked 63 = .ok (.iload 5, 2) := by decide +kernel
theorem dX1_ranked_65 : decode cX1_ranked 65 = .ok (.iaload, 1) := by decide +kernel
theorem dX1_ranked_66 : decode cX1_ranked 66 = .ok (.aload_n 0, 1) := by decide +kernel
theorem dX1_ranked_67 : decode cX1_ranked 67 = .ok (.getfield 56, 3) := by decide +kernel
theorem dX1_ranked_70 : decode cX1_ranked 70 = .ok (.iload_n 3, 1) := by decide +kernel
theorem dX1_ranked_71 : decode cX1_ranked 71 = .ok (.iaload, 1) := by decide +kernel
theorem dX1_ranked_72 : decode cX1_ranked 72 = .ok (.if_icmp .ne 12, 3) := by decide +kernel
theorem dX1_ranked_75 : decode cX1_ranked 75 = .ok (.iload 5, 2) := by decide +kernel
theorem dX1_ranked_77 : decode cX1_ranked 77 = .ok (.iload_n 3, 1) := by decide +kernel
theorem dX1_ranked_78 : decode cX1_ranked 78 = .ok (.if_icmp .ge 6, 3) := by decide +kernel
theorem dX1_ranked_81 : decode cX1_ranked 81 = .ok (.iinc 4 1, 3) := by decide +kernel
theorem dX1_ranked_84 : decode cX1_ranked 84 = .ok (.iinc 5 1, 3) := by decide +kernel
theorem dX1_ranked_87 : decode cX1_ranked 87 = .ok (.goto (-57), 3) := by decide +kernel
theorem dX1_ranked_90 : decode cX1_ranked 90 = .ok (.iload 4, 2) := by decide +kernel
theorem dX1_ranked_92 : decode cX1_ranked 92 = .ok (.iload_n 2, 1) := by decide +kernel
theorem dX1_ranked_93 : decode cX1_ranked 93 = .ok (.if_icmp .ne 5, 3) := by decide +kernel
theorem dX1_ranked_96 : decode cX1_ranked 96 = .ok (.iload_n 3, 1) := by decide +kernel
theorem dX1_ranked_97 : decode cX1_ranked 97 = .ok (.ireturn, 1) := by decide +kernel
theorem dX1_ranked_98 : decode cX1_ranked 98 = .ok (.iinc 3 1, 3) := by decide +kernel
theorem dX1_ranked_101 : decode cX1_ranked 101 = .ok (.goto (-94), 3) := by decide +kernel
theorem dX1_ranked_104 : decode cX1_ranked 104 = .ok (.iconst (-1), 1) := by decide +kernel
theorem dX1_ranked_105 : decode cX1_ranked 105 = .ok (.ireturn, 1) := by decide +kernel
theorem dX2_init_0 : decode cX2_init 0 = .ok (.aload_n 0, 1) := by decide +kernel
theorem dX2_init_1 : decode cX2_init 1 = .ok (.invokespecial 1, 3) := by decide +kernel
theorem dX2_init_4 : decode cX2_init 4 = .ok (.aload_n 0, 1) := by decide +kernel
theorem dX2_init_5 : decode cX2_init 5 = .ok (.lconst 0, 1) := by decide +kernel
theorem dX2_init_6 : decode cX2_init 6 = .ok (.putfield 7, 3) := by decide +kernel
theorem dX2_init_9 : decode cX2_init 9 = .ok (.aload_n 0, 1) := by decide +kernel
theorem dX2_init_10 : decode cX2_init 10 = .ok (.lconst 1, 1) := by decide +kernel
theorem dX2_init_11 : decode cX2_init 11 = .ok (.putfield 13, 3) := by decide +kernel
theorem dX2_init_14 : decode cX2_init 14 = .ok (.return_, 1) := by decide +kernel
theorem dX2_become_0 : decode cX2_become 0 = .ok (.lload_n 3, 1) := by decide +kernel
theorem dX2_become_1 : decode cX2_become 1 = .ok (.lconst 1, 1) := by decide +kernel
theorem dX2_become_2 : decode cX2_become 2 = .ok (.lcmp, 1) := by decide +kernel
theorem dX2_become_3 : decode cX2_become 3 = .ok (.ifCond .ge 14, 3) := by decide +kernel
theorem dX2_become_6 : decode cX2_become 6 = .ok (.aload_n 0, 1) := by decide +kernel
theorem dX2_become_7 : decode cX2_become 7 = .ok (.lconst 0, 1) := by decide +kernel
theorem dX2_become_8 : decode cX2_become 8 = .ok (.putfield 7, 3) := by decide +kernel
theorem dX2_become_11 : decode cX2_become 11 = .ok (.aload_n 0, 1) := by decide +kernel
theorem dX2_become_12 : decode cX2_become 12 = .ok (.lconst 1, 1) := by decide +kernel
theorem dX2_become_13 : decode cX2_become 13 = .ok (.putfield 13, 3) := by decide +kernel
theorem dX2_become_16 : decode cX2_become 16 = .ok (.return_, 1) := by decide +kernel
theorem dX2_become_17 : decode cX2_become 17 = .ok (.lload_n 1, 1) := by decide +kernel
theorem dX2_become_18 : decode cX2_become 18 = .ok (.lload_n 3, 1) := by decide +kernel
theorem dX2_become_19 : decode cX2_become 19 = .ok (.invokestatic 16, 3) := by decide +kernel
theorem dX2_become_22 : decode cX2_become 22 = .ok (.lstore 5, 2) := by decide +kernel
theorem dX2_become_24 : decode cX2_become 24 = .ok (.aload_n 0, 1) := by decide +kernel
theorem dX2_become_25 : decode cX2_become 25 = .ok (.lload_n 1, 1) := by decide +kernel
theorem dX2_become_26 : decode cX2_become 26 = .ok (.lload 5, 2) := by decide +kernel
theorem dX2_become_28 : decode cX2_become 28 = .ok (.ldiv, 1) := by decide +kernel
theorem dX2_become_29 : decode cX2_become 29 = .ok (.putfield 7, 3) := by decide +kernel
theorem dX2_become_32 : decode cX2_become 32 = .ok (.aload_n 0, 1) := by decide +kernel
theorem dX2_become_33 : decode cX2_become 33 = .ok (.lload_n 3, 1) := by decide +kernel
theorem dX2_become_34 : decode cX2_become 34 = .ok (.lload 5, 2) := by decide +kernel
theorem dX2_become_36 : decode cX2_become 36 = .ok (.ldiv, 1) := by decide +kernel
theorem dX2_become_37 : decode cX2_become 37 = .ok (.putfield 13, 3) := by decide +kernel
theorem dX2_become_40 : decode cX2_become 40 = .ok (.return_, 1) := by decide +kernel
theorem dX2_times_0 : decode cX2_times 0 = .ok (.aload_n 0, 1) := by decide +kernel
theorem dX2_times_1 : decode cX2_times 1 = .ok (.getfield 7, 3) := by decide +kernel
theorem dX2_times_4 : decode cX2_times 4 = .ok (.lload_n 3, 1) := by decide +kernel
theorem dX2_times_5 : decode cX2_times 5 = .ok (.invokestatic 16, 3) := by decide +kernel
theorem dX2_times_8 : decode cX2_times 8 = .ok (.lstore 5, 2) := by decide +kernel
theorem dX2_times_10 : decode cX2_times 10 = .ok (.lload_n 1, 1) := by decide +kernel
theorem dX2_times_11 : decode cX2_times 11 = .ok (.aload_n 0, 1) := by decide +kernel
theorem dX2_times_12 : decode cX2_times 12 = .ok (.getfield 13, 3) := by decide +kernel
theorem dX2_times_15 : decode cX2_times 15 = .ok (.invokestatic 16, 3) := by decide +kernel
theorem dX2_times_18 : decode cX2_times 18 = .ok (.lstore 7, 2) := by decide +kernel
theorem dX2_times_20 : decode cX2_times 20 = .ok (.aload_n 0, 1) := by decide +kernel
theorem dX2_times_21 : decode cX2_times 21 = .ok (.getfield 7, 3) := by decide +kernel
theorem dX2_times_24 : decode cX2_times 24 = .ok (.lload 5, 2) := by decide +kernel
theorem dX2_times_26 : decode cX2_times 26 = .ok (.ldiv, 1) := by decide +kernel
theorem dX2_times_27 : decode cX2_times 27 = .ok (.lstore 9, 2) := by decide +kernel
theorem dX2_times_29 : decode cX2_times 29 = .ok (.lload_n 1, 1) := by decide +kernel
theorem dX2_times_30 : decode cX2_times 30 = .ok (.lload 7, 2) := by decide +kernel
theorem dX2_times_32 : decode cX2_times 32 = .ok (.ldiv, 1) := by decide +kernel
theorem dX2_times_33 : decode cX2_times 33 = .ok (.lstore 11, 2) := by decide +kernel
theorem dX2_times_35 : decode cX2_times 35 = .ok (.aload_n 0, 1) := by decide +kernel
theorem dX2_times_36 : decode cX2_times 36 = .ok (.getfield 13, 3) := by decide +kernel
theorem dX2_times_39 : decode cX2_times 39 = .ok (.lload 7, 2) := by decide +kernel
theorem dX2_times_41 : decode cX2_times 41 = .ok (.ldiv, 1) := by decide +kernel
theorem dX2_times_42 : decode cX2_times 42 = .ok (.lstore 13, 2) := by decide +kernel
theorem dX2_times_44 : decode cX2_times 44 = .ok (.lload_n 3, 1) := by decide +kernel
theorem dX2_times_45 : decode cX2_times 45 = .ok (.lload 5, 2) := by decide +kernel
theorem dX2_times_47 : decode cX2_times 47 = .ok (.ldiv, 1) := by decide +kernel
theorem dX2_times_48 : decode cX2_times 48 = .ok (.lstore 15, 2) := by decide +kernel
theorem dX2_times_50 : decode cX2_times 50 = .ok (.lload 9, 2) := by decide +kernel
theorem dX2_times_52 : decode cX2_times 52 = .ok (.lload 11, 2) := by decide +kernel
theorem dX2_times_54 : decode cX2_times 54 = .ok (.invokestatic 20, 3) := by decide +kernel
theorem dX2_times_57 : decode cX2_times 57 = .ok (.ifCond .ne 13, 3) := by decide +kernel
theorem dX2_times_60 : decode cX2_times 60 = .ok (.lload 13, 2) := by decide +kernel
theorem dX2_times_62 : decode cX2_times 62 = .ok (.lload 15, 2) := by decide +kernel
theorem dX2_times_64 : decode cX2_times 64 = .ok (.invokestatic 20, 3) := by decide +kernel
theorem dX2_times_67 : decode cX2_times 67 = .ok (.ifCond .eq 5, 3) := by decide +kernel
theorem dX2_times_70 : decode cX2_times 70 = .ok (.iconst 0, 1) := by decide +kernel
theorem dX2_times_71 : decode cX2_times 71 = .ok (.ireturn, 1) := by decide +kernel
theorem dX2_times_72 : decode cX2_times 72 = .ok (.lload 9, 2) := by decide +kernel
theorem dX2_times_74 : decode cX2_times 74 = .ok (.lload 11, 2) := by decide +kernel
theorem dX2_times_76 : decode cX2_times 76 = .ok (.lmul, 1) := by decide +kernel
theorem dX2_times_77 : decode cX2_times 77 = .ok (.lload 13, 2) := by decide +kernel
theorem dX2_times_79 : decode cX2_times 79 = .ok (.lload 15, 2) := by decide +kernel
theorem dX2_times_81 : decode cX2_times 81 = .ok (.lmul, 1) := by decide +kernel
theorem dX2_times_82 : decode cX2_times 82 = .ok (.invokestatic 16, 3) := by decide +kernel
theorem dX2_times_85 : decode cX2_times 85 = .ok (.lstore 17, 2) := by decide +kernel
theorem dX2_times_87 : decode cX2_times 87 = .ok (.aload_n 0, 1) := by decide +kernel
theorem dX2_times_88 : decode cX2_times 88 = .ok (.lload 9, 2) := by decide +kernel
theorem dX2_times_90 : decode cX2_times 90 = .ok (.lload 11, 2) := by decide +kernel
theorem dX2_times_92 : decode cX2_times 92 = .ok (.lmul, 1) := by decide +kernel
theorem dX2_times_93 : decode cX2_times 93 = .ok (.lload 17, 2) := by decide +kernel
theorem dX2_times_95 : decode cX2_times 95 = .ok (.ldiv, 1) := by decide +kernel
theorem dX2_times_96 : decode cX2_times 96 = .ok (.putfield 7, 3) := by decide +kernel
theorem dX2_times_99 : decode cX2_times 99 = .ok (.aload_n 0, 1) := by decide +kernel
theorem dX2_times_100 : decode cX2_times 100 = .ok (.lload 13, 2) := by decide +kernel
theorem dX2_times_102 : decode cX2_times 102 = .ok (.lload 15, 2) := by decide +kernel
theorem dX2_times_104 : decode cX2_times 104 = .ok (.lmul, 1) := by decide +kernel
theorem dX2_times_105 : decode cX2_times 105 = .ok (.lload 17, 2) := by decide +kernel
theorem dX2_times_107 : decode cX2_times 107 = .ok (.ldiv, 1) := by decide +kernel
theorem dX2_times_108 : decode cX2_times 108 = .ok (.putfield 13, 3) := by decide +kernel
theorem dX2_times_111 : decode cX2_times 111 = .ok (.iconst 1, 1) := by decide +kernel
theorem dX2_times_112 : decode cX2_times 112 = .ok (.ireturn, 1) := by decide +kernel
theorem dX2_part_0 : decode cX2_part 0 = .ok (.iload_n 1, 1) := by decide +kernel
theorem dX2_part_1 : decode cX2_part 1 = .ok (.ifCond .ne 10, 3) := by decide +kernel
theorem dX2_part_4 : decode cX2_part 4 = .ok (.aload_n 0, 1) := by decide +kernel
theorem dX2_part_5 : decode cX2_part 5 = .ok (.getfield 7, 3) := by decide +kernel
theorem dX2_part_8 : decode cX2_part 8 = .ok (.goto 7, 3) := by decide +kernel
theorem dX2_part_11 : decode cX2_part 11 = .ok (.aload_n 0, 1) := by decide +kernel
theorem dX2_part_12 : decode cX2_part 12 = .ok (.getfield 13, 3) := by decide +kernel
theorem dX2_part_15 : decode cX2_part 15 = .ok (.lreturn, 1) := by decide +kernel
theorem dX2_greatestIn_0 : decode cX2_greatestIn 0 = .ok (.lload_n 2, 1) := by decide +kernel
theorem dX2_greatestIn_1 : decode cX2_greatestIn 1 = .ok (.lconst 1, 1) := by decide +kernel
theorem dX2_greatestIn_2 : decode cX2_greatestIn 2 = .ok (.lcmp, 1) := by decide +kernel
theorem dX2_greatestIn_3 : decode cX2_greatestIn 3 = .ok (.ifCond .ge 5, 3) := by decide +kernel
theorem dX2_greatestIn_6 : decode cX2_greatestIn 6 = .ok (.lconst 1, 1) := by decide +kernel
theorem dX2_greatestIn_7 : decode cX2_greatestIn 7 = .ok (.lreturn, 1) := by decide +kernel
theorem dX2_greatestIn_8 : decode cX2_greatestIn 8 = .ok (.lload_n 2, 1) := by decide +kernel
theorem dX2_greatestIn_9 : decode cX2_greatestIn 9 = .ok (.lstore 4, 2) := by decide +kernel
theorem dX2_greatestIn_11 : decode cX2_greatestIn 11 = .ok (.lload_n 0, 1) := by decide +kernel
theorem dX2_greatestIn_12 : decode cX2_greatestIn 12 = .ok (.lload_n 2, 1) := by decide +kernel
theorem dX2_greatestIn_13 : decode cX2_greatestIn 13 = .ok (.lrem, 1) := by decide +kernel
theorem dX2_greatestIn_14 : decode cX2_greatestIn 14 = .ok (.lstore 6, 2) := by decide +kernel
theorem dX2_greatestIn_16 : decode cX2_greatestIn 16 = .ok (.lload 6, 2) := by decide +kernel
theorem dX2_greatestIn_18 : decode cX2_greatestIn 18 = .ok (.lconst 0, 1) := by decide +kernel
theorem dX2_greatestIn_19 : decode cX2_greatestIn 19 = .ok (.lcmp, 1) := by decide +kernel
theorem dX2_greatestIn_20 : decode cX2_greatestIn 20 = .ok (.ifCond .ge 9, 3) := by decide +kernel
theorem dX2_greatestIn_23 : decode cX2_greatestIn 23 = .ok (.lload 6, 2) := by decide +kernel
theorem dX2_greatestIn_25 : decode cX2_greatestIn 25 = .ok (.lneg, 1) := by decide +kernel
theorem dX2_greatestIn_26 : decode cX2_greatestIn 26 = .ok (.goto 5, 3) := by decide +kernel
theorem dX2_greatestIn_29 : decode cX2_greatestIn 29 = .ok (.lload 6, 2) := by decide +kernel
theorem dX2_greatestIn_31 : decode cX2_greatestIn 31 = .ok (.lstore 6, 2) := by decide +kernel
theorem dX2_greatestIn_33 : decode cX2_greatestIn 33 = .ok (.iconst 0, 1) := by decide +kernel
theorem dX2_greatestIn_34 : decode cX2_greatestIn 34 = .ok (.istore 8, 2) := by decide +kernel
theorem dX2_greatestIn_36 : decode cX2_greatestIn 36 = .ok (.iload 8, 2) := by decide +kernel
theorem dX2_greatestIn_38 : decode cX2_greatestIn 38 = .ok (.bipush 100, 2) := by decide +kernel
theorem dX2_greatestIn_40 : decode cX2_greatestIn 40 = .ok (.if_icmp .ge 31, 3) := by decide +kernel
theorem dX2_greatestIn_43 : decode cX2_greatestIn 43 = .ok (.lload 6, 2) := by decide +kernel
theorem dX2_greatestIn_45 : decode cX2_greatestIn 45 = .ok (.lconst 0, 1) := by decide +kernel
theorem dX2_greatestIn_46 : decode cX2_greatestIn 46 = .ok (.lcmp, 1) := by decide +kernel
theorem dX2_greatestIn_47 : decode cX2_greatestIn 47 = .ok (.ifCond .le 24, 3) := by decide +kernel
theorem dX2_greatestIn_50 : decode cX2_greatestIn 50 = .ok (.lload 4, 2) := by decide +kernel
theorem dX2_greatestIn_52 : decode cX2_greatestIn 52 = .ok (.lload 6, 2) := by decide +kernel
theorem dX2_greatestIn_54 : decode cX2_greatestIn 54 = .ok (.lrem, 1) := by decide +kernel
theorem dX2_greatestIn_55 : decode cX2_greatestIn 55 = .ok (.lstore 9, 2) := by decide +kernel
theorem dX2_greatestIn_57 : decode cX2_greatestIn 57 = .ok (.lload 6, 2) := by decide +kernel
theorem dX2_greatestIn_59 : decode cX2_greatestIn 59 = .ok (.lstore 4, 2) := by decide +kernel
theorem dX2_greatestIn_61 : decode cX2_greatestIn 61 = .ok (.lload 9, 2) := by decide +kernel
theorem dX2_greatestIn_63 : decode cX2_greatestIn 63 = .ok (.lstore 6, 2) := by decide +kernel
theorem dX2_greatestIn_65 : decode cX2_greatestIn 65 = .ok (.iinc 8 1, 3) := by decide +kernel
theorem dX2_greatestIn_68 : decode cX2_greatestIn 68 = .ok (.goto (-32), 3) := by decide +kernel
theorem dX2_greatestIn_71 : decode cX2_greatestIn 71 = .ok (.lload 4, 2) := by decide +kernel
theorem dX2_greatestIn_73 : decode cX2_greatestIn 73 = .ok (.lreturn, 1) := by decide +kernel
theorem dX2_isBeyond_0 : decode cX2_isBeyond 0 = .ok (.lload_n 0, 1) := by decide +kernel
theorem dX2_isBeyond_1 : decode cX2_isBeyond 1 = .ok (.lconst 0, 1) := by decide +kernel
theorem dX2_isBeyond_2 : decode cX2_isBeyond 2 = .ok (.lcmp, 1) := by decide +kernel
theorem dX2_isBeyond_3 : decode cX2_isBeyond 3 = .ok (.ifCond .eq 9, 3) := by decide +kernel
theorem dX2_isBeyond_6 : decode cX2_isBeyond 6 = .ok (.lload_n 2, 1) := by decide +kernel
theorem dX2_isBeyond_7 : decode cX2_isBeyond 7 = .ok (.lconst 0, 1) := by decide +kernel
theorem dX2_isBeyond_8 : decode cX2_isBeyond 8 = .ok (.lcmp, 1) := by decide +kernel
theorem dX2_isBeyond_9 : decode cX2_isBeyond 9 = .ok (.ifCond .ne 5, 3) := by decide +kernel
theorem dX2_isBeyond_12 : decode cX2_isBeyond 12 = .ok (.iconst 0, 1) := by decide +kernel
theorem dX2_isBeyond_13 : decode cX2_isBeyond 13 = .ok (.ireturn, 1) := by decide +kernel
theorem dX2_isBeyond_14 : decode cX2_isBeyond 14 = .ok (.lload_n 0, 1) := by decide +kernel
theorem dX2_isBeyond_15 : decode cX2_isBeyond 15 = .ok (.ldc2_w 24, 3) := by decide +kernel
theorem dX2_isBeyond_18 : decode cX2_isBeyond 18 = .ok (.lcmp, 1) := by decide +kernel
theorem dX2_isBeyond_19 : decode cX2_isBeyond 19 = .ok (.ifCond .ne 11, 3) := by decide +kernel
theorem dX2_isBeyond_22 : decode cX2_isBeyond 22 = .ok (.lload_n 2, 1) := by decide +kernel
theorem dX2_isBeyond_23 : decode cX2_isBeyond 23 = .ok (.ldc2_w 28, 3) := by decide +kernel
theorem dX2_isBeyond_26 : decode cX2_isBeyond 26 = .ok (.lcmp, 1) := by decide +kernel
theorem dX2_isBeyond_27 : decode cX2_isBeyond 27 = .ok (.ifCond .eq 19, 3) := by decide +kernel
theorem dX2_isBeyond_30 : decode cX2_isBeyond 30 = .ok (.lload_n 2, 1) := by decide +kernel
theorem dX2_isBeyond_31 : decode cX2_isBeyond 31 = .ok (.ldc2_w 24, 3) := by decide +kernel
theorem dX2_isBeyond_34 : decode cX2_isBeyond 34 = .ok (.lcmp, 1) := by decide +kernel
theorem dX2_isBeyond_35 : decode cX2_isBeyond 35 = .ok (.ifCond .ne 13, 3) := by decide +kernel
theorem dX2_isBeyond_38 : decode cX2_isBeyond 38 = .ok (.lload_n 0, 1) := by decide +kernel
theorem dX2_isBeyond_39 : decode cX2_isBeyond 39 = .ok (.ldc2_w 28, 3) := by decide +kernel
theorem dX2_isBeyond_42 : decode cX2_isBeyond 42 = .ok (.lcmp, 1) := by decide +kernel
theorem dX2_isBeyond_43 : decode cX2_isBeyond 43 = .ok (.ifCond .ne 5, 3) := by decide +kernel
theorem dX2_isBeyond_46 : decode cX2_isBeyond 46 = .ok (.iconst 1, 1) := by decide +kernel
theorem dX2_isBeyond_47 : decode cX2_isBeyond 47 = .ok (.ireturn, 1) := by decide +kernel
theorem dX2_isBeyond_48 : decode cX2_isBeyond 48 = .ok (.lload_n 0, 1) := by decide +kernel
theorem dX2_isBeyond_49 : decode cX2_isBeyond 49 = .ok (.lload_n 2, 1) := by decide +kernel
theorem dX2_isBeyond_50 : decode cX2_isBeyond 50 = .ok (.lmul, 1) := by decide +kernel
theorem dX2_isBeyond_51 : decode cX2_isBeyond 51 = .ok (.lload_n 2, 1) := by decide +kernel
theorem dX2_isBeyond_52 : decode cX2_isBeyond 52 = .ok (.ldiv, 1) := by decide +kernel
theorem dX2_isBeyond_53 : decode cX2_isBeyond 53 = .ok (.lload_n 0, 1) := by decide +kernel
theorem dX2_isBeyond_54 : decode cX2_isBeyond 54 = .ok (.lcmp, 1) := by decide +kernel
theorem dX2_isBeyond_55 : decode cX2_isBeyond 55 = .ok (.ifCond .eq 7, 3) := by decide +kernel
theorem dX2_isBeyond_58 : decode cX2_isBeyond 58 = .ok (.iconst 1, 1) := by decide +kernel
theorem dX2_isBeyond_59 : decode cX2_isBeyond 59 = .ok (.goto 4, 3) := by decide +kernel
theorem dX2_isBeyond_62 : decode cX2_isBeyond 62 = .ok (.iconst 0, 1) := by decide +kernel
theorem dX2_isBeyond_63 : decode cX2_isBeyond 63 = .ok (.ireturn, 1) := by decide +kernel
theorem dX2_isLess_0 : decode cX2_isLess 0 = .ok (.lload_n 0, 1) := by decide +kernel
theorem dX2_isLess_1 : decode cX2_isLess 1 = .ok (.lstore 8, 2) := by decide +kernel
theorem dX2_isLess_3 : decode cX2_isLess 3 = .ok (.lload_n 2, 1) := by decide +kernel
theorem dX2_isLess_4 : decode cX2_isLess 4 = .ok (.lstore 10, 2) := by decide +kernel
theorem dX2_isLess_6 : decode cX2_isLess 6 = .ok (.lload 4, 2) := by decide +kernel
theorem dX2_isLess_8 : decode cX2_isLess 8 = .ok (.lstore 12, 2) := by decide +kernel
theorem dX2_isLess_10 : decode cX2_isLess 10 = .ok (.lload 6, 2) := by decide +kernel
theorem dX2_isLess_12 : decode cX2_isLess 12 = .ok (.lstore 14, 2) := by decide +kernel
theorem dX2_isLess_14 : decode cX2_isLess 14 = .ok (.iconst 0, 1) := by decide +kernel
theorem dX2_isLess_15 : decode cX2_isLess 15 = .ok (.istore 16, 2) := by decide +kernel
theorem dX2_isLess_17 : decode cX2_isLess 17 = .ok (.iconst 0, 1) := by decide +kernel
theorem dX2_isLess_18 : decode cX2_isLess 18 = .ok (.istore 17, 2) := by decide +kernel
theorem dX2_isLess_20 : decode cX2_isLess 20 = .ok (.iload 17, 2) := by decide +kernel
theorem dX2_isLess_22 : decode cX2_isLess 22 = .ok (.sipush 200, 3) := by decide +kernel
theorem dX2_isLess_25 : decode cX2_isLess 25 = .ok (.if_icmp .ge 164, 3) := by decide +kernel
theorem dX2_isLess_28 : decode cX2_isLess 28 = .ok (.lload 10, 2) := by decide +kernel
theorem dX2_isLess_30 : decode cX2_isLess 30 = .ok (.lconst 0, 1) := by decide +kernel
theorem dX2_isLess_31 : decode cX2_isLess 31 = .ok (.lcmp, 1) := by decide +kernel
theorem dX2_isLess_32 : decode cX2_isLess 32 = .ok (.ifCond .le 157, 3) := by decide +kernel
theorem dX2_isLess_35 : decode cX2_isLess 35 = .ok (.lload 14, 2) := by decide +kernel
theorem dX2_isLess_37 : decode cX2_isLess 37 = .ok (.lconst 0, 1) := by decide +kernel
theorem dX2_isLess_38 : decode cX2_isLess 38 = .ok (.lcmp, 1) := by decide +kernel
theorem dX2_isLess_39 : decode cX2_isLess 39 = .ok (.ifCond .le 150, 3) := by decide +kernel
theorem dX2_isLess_42 : decode cX2_isLess 42 = .ok (.lload 8, 2) := by decide +kernel
theorem dX2_isLess_44 : decode cX2_isLess 44 = .ok (.lload 10, 2) := by decide +kernel
theorem dX2_isLess_46 : decode cX2_isLess 46 = .ok (.invokestatic 30, 3) := by decide +kernel
theorem dX2_isLess_49 : decode cX2_isLess 49 = .ok (.lstore 18, 2) := by decide +kernel
theorem dX2_isLess_51 : decode cX2_isLess 51 = .ok (.lload 12, 2) := by decide +kernel
theorem dX2_isLess_53 : decode cX2_isLess 53 = .ok (.lload 14, 2) := by decide +kernel
theorem dX2_isLess_55 : decode cX2_isLess 55 = .ok (.invokestatic 30, 3) := by decide +kernel
theorem dX2_isLess_58 : decode cX2_isLess 58 = .ok (.lstore 20, 2) := by decide +kernel
theorem dX2_isLess_60 : decode cX2_isLess 60 = .ok (.lload 18, 2) := by decide +kernel
theorem dX2_isLess_62 : decode cX2_isLess 62 = .ok (.lload 20, 2) := by decide +kernel
theorem dX2_isLess_64 : decode cX2_isLess 64 = .ok (.lcmp, 1) := by decide +kernel
theorem dX2_isLess_65 : decode cX2_isLess 65 = .ok (.ifCond .eq 27, 3) := by decide +kernel
theorem dX2_isLess_68 : decode cX2_isLess 68 = .ok (.lload 18, 2) := by decide +kernel
theorem dX2_isLess_70 : decode cX2_isLess 70 = .ok (.lload 20, 2) := by decide +kernel
theorem dX2_isLess_72 : decode cX2_isLess 72 = .ok (.lcmp, 1) := by decide +kernel
theorem dX2_isLess_73 : decode cX2_isLess 73 = .ok (.ifCond .ge 7, 3) := by decide +kernel
theorem dX2_isLess_76 : decode cX2_isLess 76 = .ok (.iconst 1, 1) := by decide +kernel
theorem dX2_isLess_77 : decode cX2_isLess 77 = .ok (.goto 4, 3) := by decide +kernel
theorem dX2_isLess_80 : decode cX2_isLess 80 = .ok (.iconst 0, 1) := by decide +kernel
theorem dX2_isLess_81 : decode cX2_isLess 81 = .ok (.iload 16, 2) := by decide +kernel
theorem dX2_isLess_83 : decode cX2_isLess 83 = .ok (.if_icmp .eq 7, 3) := by decide +kernel
theorem dX2_isLess_86 : decode cX2_isLess 86 = .ok (.iconst 1, 1) := by decide +kernel
theorem dX2_isLess_87 : decode cX2_isLess 87 = .ok (.goto 4, 3) := by decide +kernel
theorem dX2_isLess_90 : decode cX2_isLess 90 = .ok (.iconst 0, 1) := by decide +kernel
theorem dX2_isLess_91 : decode cX2_isLess 91 = .ok (.ireturn, 1) := by decide +kernel
theorem dX2_isLess_92 : decode cX2_isLess 92 = .ok (.lload 8, 2) := by decide +kernel
theorem dX2_isLess_94 : decode cX2_isLess 94 = .ok (.lload 10, 2) := by decide +kernel
theorem dX2_isLess_96 : decode cX2_isLess 96 = .ok (.invokestatic 35, 3) := by decide +kernel
theorem dX2_isLess_99 : decode cX2_isLess 99 = .ok (.lstore 22, 2) := by decide +kernel
theorem dX2_isLess_101 : decode cX2_isLess 101 = .ok (.lload 12, 2) := by decide +kernel
theorem dX2_isLess_103 : decode cX2_isLess 103 = .ok (.lload 14, 2) := by decide +kernel
theorem dX2_isLess_105 : decode cX2_isLess 105 = .ok (.invokestatic 35, 3) := by decide +kernel
theorem dX2_isLess_108 : decode cX2_isLess 108 = .ok (.lstore 24, 2) := by decide +kernel
theorem dX2_isLess_110 : decode cX2_isLess 110 = .ok (.lload 22, 2) := by decide +kernel
theorem dX2_isLess_112 : decode cX2_isLess 112 = .ok (.lconst 0, 1) := by decide +kernel
theorem dX2_isLess_113 : decode cX2_isLess 113 = .ok (.lcmp, 1) := by decide +kernel
theorem dX2_isLess_114 : decode cX2_isLess 114 = .ok (.ifCond .eq 10, 3) := by decide +kernel
theorem dX2_isLess_117 : decode cX2_isLess 117 = .ok (.lload 24, 2) := by decide +kernel
theorem dX2_isLess_119 : decode cX2_isLess 119 = .ok (.lconst 0, 1) := by decide +kernel
theorem dX2_isLess_120 : decode cX2_isLess 120 = .ok (.lcmp, 1) := by decide +kernel
theorem dX2_isLess_121 : decode cX2_isLess 121 = .ok (.ifCond .ne 34, 3) := by decide +kernel
theorem dX2_isLess_124 : decode cX2_isLess 124 = .ok (.lload 22, 2) := by decide +kernel
theorem dX2_isLess_126 : decode cX2_isLess 126 = .ok (.lload 24, 2) := by decide +kernel
theorem dX2_isLess_128 : decode cX2_isLess 128 = .ok (.lcmp, 1) := by decide +kernel
theorem dX2_isLess_129 : decode cX2_isLess 129 = .ok (.ifCond .eq 24, 3) := by decide +kernel
theorem dX2_isLess_132 : decode cX2_isLess 132 = .ok (.lload 22, 2) := by decide +kernel
theorem dX2_isLess_134 : decode cX2_isLess 134 = .ok (.lconst 0, 1) := by decide +kernel
theorem dX2_isLess_135 : decode cX2_isLess 135 = .ok (.lcmp, 1) := by decide +kernel
theorem dX2_isLess_136 : decode cX2_isLess 136 = .ok (.ifCond .ne 7, 3) := by decide +kernel
theorem dX2_isLess_139 : decode cX2_isLess 139 = .ok (.iconst 1, 1) := by decide +kernel
theorem dX2_isLess_140 : decode cX2_isLess 140 = .ok (.goto 4, 3) := by decide +kernel
theorem dX2_isLess_143 : decode cX2_isLess 143 = .ok (.iconst 0, 1) := by decide +kernel
theorem dX2_isLess_144 : decode cX2_isLess 144 = .ok (.iload 16, 2) := by decide +kernel
theorem dX2_isLess_146 : decode cX2_isLess 146 = .ok (.if_icmp .eq 7, 3) := by decide +kernel
theorem dX2_isLess_149 : decode cX2_isLess 149 = .ok (.iconst 1, 1) := by decide +kernel
theorem dX2_isLess_150 : decode cX2_isLess 150 = .ok (.goto 4, 3) := by decide +kernel
theorem dX2_isLess_153 : decode cX2_isLess 153 = .ok (.iconst 0, 1) := by decide +kernel
theorem dX2_isLess_154 : decode cX2_isLess 154 = .ok (.ireturn, 1) := by decide +kernel
theorem dX2_isLess_155 : decode cX2_isLess 155 = .ok (.lload 10, 2) := by decide +kernel
theorem dX2_isLess_157 : decode cX2_isLess 157 = .ok (.lstore 8, 2) := by decide +kernel
theorem dX2_isLess_159 : decode cX2_isLess 159 = .ok (.lload 22, 2) := by decide +kernel
theorem dX2_isLess_161 : decode cX2_isLess 161 = .ok (.lstore 10, 2) := by decide +kernel
theorem dX2_isLess_163 : decode cX2_isLess 163 = .ok (.lload 14, 2) := by decide +kernel
theorem dX2_isLess_165 : decode cX2_isLess 165 = .ok (.lstore 12, 2) := by decide +kernel
theorem dX2_isLess_167 : decode cX2_isLess 167 = .ok (.lload 24, 2) := by decide +kernel
theorem dX2_isLess_169 : decode cX2_isLess 169 = .ok (.lstore 14, 2) := by decide +kernel
theorem dX2_isLess_171 : decode cX2_isLess 171 = .ok (.iload 16, 2) := by decide +kernel
theorem dX2_isLess_173 : decode cX2_isLess 173 = .ok (.ifCond .ne 7, 3) := by decide +kernel
theorem dX2_isLess_176 : decode cX2_isLess 176 = .ok (.iconst 1, 1) := by decide +kernel
theorem dX2_isLess_177 : decode cX2_isLess 177 = .ok (.goto 4, 3) := by decide +kernel
theorem dX2_isLess_180 : decode cX2_isLess 180 = .ok (.iconst 0, 1) := by decide +kernel
theorem dX2_isLess_181 : decode cX2_isLess 181 = .ok (.istore 16, 2) := by decide +kernel
theorem dX2_isLess_183 : decode cX2_isLess 183 = .ok (.iinc 17 1, 3) := by decide +kernel
theorem dX2_isLess_186 : decode cX2_isLess 186 = .ok (.goto (-166), 3) := by decide +kernel
theorem dX2_isLess_189 : decode cX2_isLess 189 = .ok (.iconst 0, 1) := by decide +kernel
theorem dX2_isLess_190 : decode cX2_isLess 190 = .ok (.ireturn, 1) := by decide +kernel
theorem dX3_init_0 : decode cX3_init 0 = .ok (.aload_n 0, 1) := by decide +kernel
theorem dX3_init_1 : decode cX3_init 1 = .ok (.invokespecial 3, 3) := by decide +kernel
theorem dX3_init_4 : decode cX3_init 4 = .ok (.aload_n 0, 1) := by decide +kernel
theorem dX3_init_5 : decode cX3_init 5 = .ok (.iconst 0, 1) := by decide +kernel
theorem dX3_init_6 : decode cX3_init 6 = .ok (.putfield 9, 3) := by decide +kernel
theorem dX3_init_9 : decode cX3_init 9 = .ok (.aload_n 0, 1) := by decide +kernel
theorem dX3_init_10 : decode cX3_init 10 = .ok (.bipush 8, 2) := by decide +kernel
theorem dX3_init_12 : decode cX3_init 12 = .ok (.newarray .int, 2) := by decide +kernel
theorem dX3_init_14 : decode cX3_init 14 = .ok (.putfield 15, 3) := by decide +kernel
theorem dX3_init_17 : decode cX3_init 17 = .ok (.aload_n 0, 1) := by decide +kernel
theorem dX3_init_18 : decode cX3_init 18 = .ok (.bipush 8, 2) := by decide +kernel
theorem dX3_init_20 : decode cX3_init 20 = .ok (.newarray .int, 2) := by decide +kernel
theorem dX3_init_22 : decode cX3_init 22 = .ok (.putfield 19, 3) := by decide +kernel
theorem dX3_init_25 : decode cX3_init 25 = .ok (.return_, 1) := by decide +kernel
theorem dX3_startWith_0 : decode cX3_startWith 0 = .ok (.aload_n 0, 1) := by decide +kernel
theorem dX3_startWith_1 : decode cX3_startWith 1 = .ok (.iconst 0, 1) := by decide +kernel
theorem dX3_startWith_2 : decode cX3_startWith 2 = .ok (.iload_n 1, 1) := by decide +kernel
theorem dX3_startWith_3 : decode cX3_startWith 3 = .ok (.bipush 8, 2) := by decide +kernel
theorem dX3_startWith_5 : decode cX3_startWith 5 = .ok (.invokestatic 22, 3) := by decide +kernel
theorem dX3_startWith_8 : decode cX3_startWith 8 = .ok (.invokestatic 28, 3) := by decide +kernel
theorem dX3_startWith_11 : decode cX3_startWith 11 = .ok (.putfield 9, 3) := by decide +kernel
theorem dX3_startWith_14 : decode cX3_startWith 14 = .ok (.iconst 0, 1) := by decide +kernel
theorem dX3_startWith_15 : decode cX3_startWith 15 = .ok (.istore_n 2, 1) := by decide +kernel
theorem dX3_startWith_16 : decode cX3_startWith 16 = .ok (.iload_n 2, 1) := by decide +kernel
theorem dX3_startWith_17 : decode cX3_startWith 17 = .ok (.bipush 8, 2) := by decide +kernel
theorem dX3_startWith_19 : decode cX3_startWith 19 = .ok (.if_icmp .ge 16, 3) := by decide +kernel
theorem dX3_startWith_22 : decode cX3_startWith 22 = .ok (.aload_n 0, 1) := by decide +kernel
theorem dX3_startWith_23 : decode cX3_startWith 23 = .ok (.getfield 15, 3) := by decide +kernel
theorem dX3_startWith_26 : decode cX3_startWith 26 = .ok (.iload_n 2, 1) := by decide +kernel
theorem dX3_startWith_27 : decode cX3_startWith 27 = .ok (.iconst 0, 1) := by decide +kernel
theorem dX3_startWith_28 : decode cX3_startWith 28 = .ok (.iastore, 1) := by decide +kernel
theorem dX3_startWith_29 : decode cX3_startWith 29 = .ok (.iinc 2 1, 3) := by decide +kernel
theorem dX3_startWith_32 : decode cX3_startWith 32 = .ok (.goto (-16), 3) := by decide +kernel
theorem dX3_startWith_35 : decode cX3_startWith 35 = .ok (.return_, 1) := by decide +kernel
theorem dX3_become_0 : decode cX3_become 0 = .ok (.aload_n 0, 1) := by decide +kernel
theorem dX3_become_1 : decode cX3_become 1 = .ok (.aload_n 1, 1) := by decide +kernel
theorem dX3_become_2 : decode cX3_become 2 = .ok (.getfield 9, 3) := by decide +kernel
theorem dX3_become_5 : decode cX3_become 5 = .ok (.putfield 9, 3) := by decide +kernel
theorem dX3_become_8 : decode cX3_become 8 = .ok (.iconst 0, 1) := by decide +kernel
theorem dX3_become_9 : decode cX3_become 9 = .ok (.istore_n 2, 1) := by decide +kernel
theorem dX3_become_10 : decode cX3_become 10 = .ok (.iload_n 2, 1) := by decide +kernel
theorem dX3_become_11 : decode cX3_become 11 = .ok (.bipush 8, 2) := by decide +kernel
theorem dX3_become_13 : decode cX3_become 13 = .ok (.if_icmp .ge 21, 3) := by decide +kernel
theorem dX3_become_16 : decode cX3_become 16 = .ok (.aload_n 0, 1) := by decide +kernel
theorem dX3_become_17 : decode cX3_become 17 = .ok (.getfield 15, 3) := by decide +kernel
theorem dX3_become_20 : decode cX3_become 20 = .ok (.iload_n 2, 1) := by decide +kernel
theorem dX3_become_21 : decode cX3_become 21 = .ok (.aload_n 1, 1) := by decide +kernel
theorem dX3_become_22 : decode cX3_become 22 = .ok (.getfield 15, 3) := by decide +kernel
theorem dX3_become_25 : decode cX3_become 25 = .ok (.iload_n 2, 1) := by decide +kernel
theorem dX3_become_26 : decode cX3_become 26 = .ok (.iaload, 1) := by decide +kernel
theorem dX3_become_27 : decode cX3_become 27 = .ok (.iastore, 1) := by decide +kernel
theorem dX3_become_28 : decode cX3_become 28 = .ok (.iinc 2 1, 3) := by decide +kernel
theorem dX3_become_31 : decode cX3_become 31 = .ok (.goto (-21), 3) := by decide +kernel
theorem dX3_become_34 : decode cX3_become 34 = .ok (.return_, 1) := by decide +kernel
theorem dX3_unfold_0 : decode cX3_unfold 0 = .ok (.aload_n 0, 1) := by decide +kernel
theorem dX3_unfold_1 : decode cX3_unfold 1 = .ok (.iload_n 1, 1) := by decide +kernel
theorem dX3_unfold_2 : decode cX3_unfold 2 = .ok (.invokevirtual 31, 3) := by decide +kernel
theorem dX3_unfold_5 : decode cX3_unfold 5 = .ok (.iconst 1, 1) := by decide +kernel
theorem dX3_unfold_6 : decode cX3_unfold 6 = .ok (.istore_n 3, 1) := by decide +kernel
theorem dX3_unfold_7 : decode cX3_unfold 7 = .ok (.iload_n 3, 1) := by decide +kernel
theorem dX3_unfold_8 : decode cX3_unfold 8 = .ok (.aload_n 0, 1) := by decide +kernel
theorem dX3_unfold_9 : decode cX3_unfold 9 = .ok (.getfield 9, 3) := by decide +kernel
theorem dX3_unfold_12 : decode cX3_unfold 12 = .ok (.if_icmp .ge 47, 3) := by decide +kernel
theorem dX3_unfold_15 : decode cX3_unfold 15 = .ok (.iconst 0, 1) := by decide +kernel
theorem dX3_unfold_16 : decode cX3_unfold 16 = .ok (.istore 4, 2) := by decide +kernel
theorem dX3_unfold_18 : decode cX3_unfold 18 = .ok (.iload 4, 2) := by decide +kernel
theorem dX3_unfold_20 : decode cX3_unfold 20 = .ok (.iload_n 3, 1) := by decide +kernel
theorem dX3_unfold_21 : decode cX3_unfold 21 = .ok (.if_icmp .ge 32, 3) := by decide +kernel
theorem dX3_unfold_24 : decode cX3_unfold 24 = .ok (.aload_n 0, 1) := by decide +kernel
theorem dX3_unfold_25 : decode cX3_unfold 25 = .ok (.iload 4, 2) := by decide +kernel
theorem dX3_unfold_27 : decode cX3_unfold 27 = .ok (.iload_n 3, 1) := by decide +kernel
theorem dX3_unfold_28 : decode cX3_unfold 28 = .ok (.iload_n 2, 1) := by decide +kernel
theorem dX3_unfold_29 : decode cX3_unfold 29 = .ok (.iload 4, 2) := by decide +kernel
theorem dX3_unfold_31 : decode cX3_unfold 31 = .ok (.iload_n 3, 1) := by decide +kernel
theorem dX3_unfold_32 : decode cX3_unfold 32 = .ok (.invokestatic 35, 3) := by decide +kernel
theorem dX3_unfold_35 : decode cX3_unfold 35 = .ok (.iand, 1) := by decide +kernel
theorem dX3_unfold_36 : decode cX3_unfold 36 = .ok (.ifCond .eq 7, 3) := by decide +kernel
theorem dX3_unfold_39 : decode cX3_unfold 39 = .ok (.iconst 1, 1) := by decide +kernel
theorem dX3_unfold_40 : decode cX3_unfold 40 = .ok (.goto 4, 3) := by decide +kernel
theorem dX3_unfold_43 : decode cX3_unfold 43 = .ok (.iconst 0, 1) := by decide +kernel
theorem dX3_unfold_44 : decode cX3_unfold 44 = .ok (.invokevirtual 40, 3) := by decide +kernel
theorem dX3_unfold_47 : decode cX3_unfold 47 = .ok (.iinc 4 1, 3) := by decide +kernel
theorem dX3_unfold_50 : decode cX3_unfold 50 = .ok (.goto (-32), 3) := by decide +kernel
theorem dX3_unfold_53 : decode cX3_unfold 53 = .ok (.iinc 3 1, 3) := by decide +kernel
theorem dX3_unfold_56 : decode cX3_unfold 56 = .ok (.goto (-49), 3) := by decide +kernel
theorem dX3_unfold_59 : decode cX3_unfold 59 = .ok (.return_, 1) := by decide +kernel
theorem dX3_has_0 : decode cX3_has 0 = .ok (.iload_n 1, 1) := by decide +kernel
theorem dX3_has_1 : decode cX3_has 1 = .ok (.ifCond .lt 15, 3) := by decide +kernel
theorem dX3_has_4 : decode cX3_has 4 = .ok (.iload_n 1, 1) := by decide +kernel
theorem dX3_has_5 : decode cX3_has 5 = .ok (.aload_n 0, 1) := by decide +kernel
theorem dX3_has_6 : decode cX3_has 6 = .ok (.getfield 9, 3) := by decide +kernel
theorem dX3_has_9 : decode cX3_has 9 = .ok (.if_icmp .ge 7, 3) := by decide +kernel
theorem dX3_has_12 : decode cX3_has 12 = .ok (.iconst 1, 1) := by decide +kernel
theorem dX3_has_13 : decode cX3_has 13 = .ok (.goto 4, 3) := by decide +kernel
theorem dX3_has_16 : decode cX3_has 16 = .ok (.iconst 0, 1) := by decide +kernel
theorem dX3_has_17 : decode cX3_has 17 = .ok (.ireturn, 1) := by decide +kernel
theorem dX3_joins_0 : decode cX3_joins 0 = .ok (.aload_n 0, 1) := by decide +kernel
theorem dX3_joins_1 : decode cX3_joins 1 = .ok (.iload_n 1, 1) := by decide +kernel
theorem dX3_joins_2 : decode cX3_joins 2 = .ok (.invokevirtual 44, 3) := by decide +kernel
theorem dX3_joins_5 : decode cX3_joins 5 = .ok (.ifCond .eq 28, 3) := by decide +kernel
theorem dX3_joins_8 : decode cX3_joins 8 = .ok (.aload_n 0, 1) := by decide +kernel
theorem dX3_joins_9 : decode cX3_joins 9 = .ok (.iload_n 2, 1) := by decide +kernel
theorem dX3_joins_10 : decode cX3_joins 10 = .ok (.invokevirtual 44, 3) := by decide +kernel
theorem dX3_joins_13 : decode cX3_joins 13 = .ok (.ifCond .eq 20, 3) := by decide +kernel
theorem dX3_joins_16 : decode cX3_joins 16 = .ok (.aload_n 0, 1) := by decide +kernel
theorem dX3_joins_17 : decode cX3_joins 17 = .ok (.getfield 15, 3) := by decide +kernel
theorem dX3_joins_20 : decode cX3_joins 20 = .ok (.iload_n 1, 1) := by decide +kernel
theorem dX3_joins_21 : decode cX3_joins 21 = .ok (.iaload, 1) := by decide +kernel
theorem dX3_joins_22 : decode cX3_joins 22 = .ok (.iload_n 2, 1) := by decide +kernel
theorem dX3_joins_23 : decode cX3_joins 23 = .ok (.ishr, 1) := by decide +kernel
theorem dX3_joins_24 : decode cX3_joins 24 = .ok (.iconst 1, 1) := by decide +kernel
theorem dX3_joins_25 : decode cX3_joins 25 = .ok (.iand, 1) := by decide +kernel
theorem dX3_joins_26 : decode cX3_joins 26 = .ok (.ifCond .eq 7, 3) := by decide +kernel
theorem dX3_joins_29 : decode cX3_joins 29 = .ok (.iconst 1, 1) := by decide +kernel
theorem dX3_joins_30 : decode cX3_joins 30 = .ok (.goto 4, 3) := by decide +kernel
theorem dX3_joins_33 : decode cX3_joins 33 = .ok (.iconst 0, 1) := by decide +kernel
theorem dX3_joins_34 : decode cX3_joins 34 = .ok (.ireturn, 1) := by decide +kernel
theorem dX3_draw_0 : decode cX3_draw 0 = .ok (.aload_n 0, 1) := by decide +kernel
theorem dX3_draw_1 : decode cX3_draw 1 = .ok (.iload_n 1, 1) := by decide +kernel
theorem dX3_draw_2 : decode cX3_draw 2 = .ok (.invokevirtual 44, 3) := by decide +kernel
theorem dX3_draw_5 : decode cX3_draw 5 = .ok (.ifCond .eq 11, 3) := by decide +kernel
theorem dX3_draw_8 : decode cX3_draw 8 = .ok (.aload_n 0, 1) := by decide +kernel
theorem dX3_draw_9 : decode cX3_draw 9 = .ok (.iload_n 2, 1) := by decide +kernel
theorem dX3_draw_10 : decode cX3_draw 10 = .ok (.invokevirtual 44, 3) := by decide +kernel
theorem dX3_draw_13 : decode cX3_draw 13 = .ok (.ifCond .ne 4, 3) := by decide +kernel
theorem dX3_draw_16 : decode cX3_draw 16 = .ok (.return_, 1) := by decide +kernel
theorem dX3_draw_17 : decode cX3_draw 17 = .ok (.aload_n 0, 1) := by decide +kernel
theorem dX3_draw_18 : decode cX3_draw 18 = .ok (.getfield 15, 3) := by decide +kernel
theorem dX3_draw_21 : decode cX3_draw 21 = .ok (.iload_n 1, 1) := by decide +kernel
theorem dX3_draw_22 : decode cX3_draw 22 = .ok (.iload_n 3, 1) := by decide +kernel
theorem dX3_draw_23 : decode cX3_draw 23 = .ok (.ifCond .eq 16, 3) := by decide +kernel
theorem dX3_draw_26 : decode cX3_draw 26 = .ok (.aload_n 0, 1) := by decide +kernel
theorem dX3_draw_27 : decode cX3_draw 27 = .ok (.getfield 15, 3) := by decide +kernel
theorem dX3_draw_30 : decode cX3_draw 30 = .ok (.iload_n 1, 1) := by decide +kernel
theorem dX3_draw_31 : decode cX3_draw 31 = .ok (.iaload, 1) := by decide +kernel
theorem dX3_draw_32 : decode cX3_draw 32 = .ok (.iconst 1, 1) := by decide +kernel
theorem dX3_draw_33 : decode cX3_draw 33 = .ok (.iload_n 2, 1) := by decide +kernel
theorem dX3_draw_34 : decode cX3_draw 34 = .ok (.ishl, 1) := by decide +kernel
theorem dX3_draw_35 : decode cX3_draw 35 = .ok (.ior, 1) := by decide +kernel
theorem dX3_draw_36 : decode cX3_draw 36 = .ok (.goto 15, 3) := by decide +kernel
theorem dX3_draw_39 : decode cX3_draw 39 = .ok (.aload_n 0, 1) := by decide +kernel
theorem dX3_draw_40 : decode cX3_draw 40 = .ok (.getfield 15, 3) := by decide +kernel
theorem dX3_draw_43 : decode cX3_draw 43 = .ok (.iload_n 1, 1) := by decide +kernel
theorem dX3_draw_44 : decode cX3_draw 44 = .ok (.iaload, 1) := by decide +kernel
theorem dX3_draw_45 : decode cX3_draw 45 = .ok (.iconst 1, 1) := by decide +kernel
theorem dX3_draw_46 : decode cX3_draw 46 = .ok (.iload_n 2, 1) := by decide +kernel
theorem dX3_draw_47 : decode cX3_draw 47 = .ok (.ishl, 1) := by decide +kernel
theorem dX3_draw_48 : decode cX3_draw 48 = .ok (.iconst (-1), 1) := by decide +kernel
theorem dX3_draw_49 : decode cX3_draw 49 = .ok (.ixor, 1) := by decide +kernel
theorem dX3_draw_50 : decode cX3_draw 50 = .ok (.iand, 1) := by decide +kernel
theorem dX3_draw_51 : decode cX3_draw 51 = .ok (.iastore, 1) := by decide +kernel
theorem dX3_draw_52 : decode cX3_draw 52 = .ok (.aload_n 0, 1) := by decide +kernel
theorem dX3_draw_53 : decode cX3_draw 53 = .ok (.getfield 15, 3) := by decide +kernel
theorem dX3_draw_56 : decode cX3_draw 56 = .ok (.iload_n 2, 1) := by decide +kernel
theorem dX3_draw_57 : decode cX3_draw 57 = .ok (.iload_n 3, 1) := by decide +kernel
theorem dX3_draw_58 : decode cX3_draw 58 = .ok (.ifCond .eq 16, 3) := by decide +kernel
theorem dX3_draw_61 : decode cX3_draw 61 = .ok (.aload_n 0, 1) := by decide +kernel
theorem dX3_draw_62 : decode cX3_draw 62 = .ok (.getfield 15, 3) := by decide +kernel
theorem dX3_draw_65 : decode cX3_draw 65 = .ok (.iload_n 2, 1) := by decide +kernel
theorem dX3_draw_66 : decode cX3_draw 66 = .ok (.iaload, 1) := by decide +kernel
theorem dX3_draw_67 : decode cX3_draw 67 = .ok (.iconst 1, 1) := by decide +kernel
theorem dX3_draw_68 : decode cX3_draw 68 = .ok (.iload_n 1, 1) := by decide +kernel
theorem dX3_draw_69 : decode cX3_draw 69 = .ok (.ishl, 1) := by decide +kernel
theorem dX3_draw_70 : decode cX3_draw 70 = .ok (.ior, 1) := by decide +kernel
theorem dX3_draw_71 : decode cX3_draw 71 = .ok (.goto 15, 3) := by decide +kernel
theorem dX3_draw_74 : decode cX3_draw 74 = .ok (.aload_n 0, 1) := by decide +kernel
theorem dX3_draw_75 : decode cX3_draw 75 = .ok (.getfield 15, 3) := by decide +kernel
theorem dX3_draw_78 : decode cX3_draw 78 = .ok (.iload_n 2, 1) := by decide +kernel
theorem dX3_draw_79 : decode cX3_draw 79 = .ok (.iaload, 1) := by decide +kernel
theorem dX3_draw_80 : decode cX3_draw 80 = .ok (.iconst 1, 1) := by decide +kernel
theorem dX3_draw_81 : decode cX3_draw 81 = .ok (.iload_n 1, 1) := by decide +kernel
theorem dX3_draw_82 : decode cX3_draw 82 = .ok (.ishl, 1) := by decide +kernel
theorem dX3_draw_83 : decode cX3_draw 83 = .ok (.iconst (-1), 1) := by decide +kernel
theorem dX3_draw_84 : decode cX3_draw 84 = .ok (.ixor, 1) := by decide +kernel
theorem dX3_draw_85 : decode cX3_draw 85 = .ok (.iand, 1) := by decide +kernel
theorem dX3_draw_86 : decode cX3_draw 86 = .ok (.iastore, 1) := by decide +kernel
theorem dX3_draw_87 : decode cX3_draw 87 = .ok (.return_, 1) := by decide +kernel
theorem dX3_lines_0 : decode cX3_lines 0 = .ok (.iconst 0, 1) := by decide +kernel
theorem dX3_lines_1 : decode cX3_lines 1 = .ok (.istore_n 1, 1) := by decide +kernel
theorem dX3_lines_2 : decode cX3_lines 2 = .ok (.iconst 0, 1) := by decide +kernel
theorem dX3_lines_3 : decode cX3_lines 3 = .ok (.istore_n 2, 1) := by decide +kernel
theorem dX3_lines_4 : decode cX3_lines 4 = .ok (.iload_n 2, 1) := by decide +kernel
theorem dX3_lines_5 : decode cX3_lines 5 = .ok (.aload_n 0, 1) := by decide +kernel
theorem dX3_lines_6 : decode cX3_lines 6 = .ok (.getfield 9, 3) := by decide +kernel
theorem dX3_lines_9 : decode cX3_lines 9 = .ok (.if_icmp .ge 21, 3) := by decide +kernel
theorem dX3_lines_12 : decode cX3_lines 12 = .ok (.iload_n 1, 1) := by decide +kernel
theorem dX3_lines_13 : decode cX3_lines 13 = .ok (.aload_n 0, 1) := by decide +kernel
theorem dX3_lines_14 : decode cX3_lines 14 = .ok (.getfield 15, 3) := by decide +kernel
theorem dX3_lines_17 : decode cX3_lines 17 = .ok (.iload_n 2, 1) := by decide +kernel
theorem dX3_lines_18 : decode cX3_lines 18 = .ok (.iaload, 1) := by decide +kernel
theorem dX3_lines_19 : decode cX3_lines 19 = .ok (.invokestatic 48, 3) := by decide +kernel
theorem dX3_lines_22 : decode cX3_lines 22 = .ok (.iadd, 1) := by decide +kernel
theorem dX3_lines_23 : decode cX3_lines 23 = .ok (.istore_n 1, 1) := by decide +kernel
theorem dX3_lines_24 : decode cX3_lines 24 = .ok (.iinc 2 1, 3) := by decide +kernel
theorem dX3_lines_27 : decode cX3_lines 27 = .ok (.goto (-23), 3) := by decide +kernel
theorem dX3_lines_30 : decode cX3_lines 30 = .ok (.iload_n 1, 1) := by decide +kernel
theorem dX3_lines_31 : decode cX3_lines 31 = .ok (.iconst 2, 1) := by decide +kernel
theorem dX3_lines_32 : decode cX3_lines 32 = .ok (.idiv, 1) := by decide +kernel
theorem dX3_lines_33 : decode cX3_lines 33 = .ok (.ireturn, 1) := by decide +kernel
theorem dX3_mostLines_0 : decode cX3_mostLines 0 = .ok (.iconst 0, 1) := by decide +kernel
theorem dX3_mostLines_1 : decode cX3_mostLines 1 = .ok (.istore_n 1, 1) := by decide +kernel
theorem dX3_mostLines_2 : decode cX3_mostLines 2 = .ok (.iconst 0, 1) := by decide +kernel
theorem dX3_mostLines_3 : decode cX3_mostLines 3 = .ok (.istore_n 2, 1) := by decide +kernel
theorem dX3_mostLines_4 : decode cX3_mostLines 4 = .ok (.iload_n 2, 1) := by decide +kernel
theorem dX3_mostLines_5 : decode cX3_mostLines 5 = .ok (.aload_n 0, 1) := by decide +kernel
theorem dX3_mostLines_6 : decode cX3_mostLines 6 = .ok (.getfield 9, 3) := by decide +kernel
theorem dX3_mostLines_9 : decode cX3_mostLines 9 = .ok (.if_icmp .ge 23, 3) := by decide +kernel
theorem dX3_mostLines_12 : decode cX3_mostLines 12 = .ok (.iload_n 1, 1) := by decide +kernel
theorem dX3_mostLines_13 : decode cX3_mostLines 13 = .ok (.aload_n 0, 1) := by decide +kernel
theorem dX3_mostLines_14 : decode cX3_mostLines 14 = .ok (.getfield 15, 3) := by decide +kernel
theorem dX3_mostLines_17 : decode cX3_mostLines 17 = .ok (.iload_n 2, 1) := by decide +kernel
theorem dX3_mostLines_18 : decode cX3_mostLines 18 = .ok (.iaload, 1) := by decide +kernel
theorem dX3_mostLines_19 : decode cX3_mostLines 19 = .ok (.invokestatic 48, 3) := by decide +kernel
theorem dX3_mostLines_22 : decode cX3_mostLines 22 = .ok (.invokestatic 28, 3) := by decide +kernel
theorem dX3_mostLines_25 : decode cX3_mostLines 25 = .ok (.istore_n 1, 1) := by decide +kernel
theorem dX3_mostLines_26 : decode cX3_mostLines 26 = .ok (.iinc 2 1, 3) := by decide +kernel
theorem dX3_mostLines_29 : decode cX3_mostLines 29 = .ok (.goto (-25), 3) := by decide +kernel
theorem dX3_mostLines_32 : decode cX3_mostLines 32 = .ok (.iload_n 1, 1) := by decide +kernel
theorem dX3_mostLines_33 : decode cX3_mostLines 33 = .ok (.ireturn, 1) := by decide +kernel
theorem dX3_evenTriples_0 : decode cX3_evenTriples 0 = .ok (.iconst 0, 1) := by decide +kernel
theorem dX3_evenTriples_1 : decode cX3_evenTriples 1 = .ok (.istore_n 1, 1) := by decide +kernel
theorem dX3_evenTriples_2 : decode cX3_evenTriples 2 = .ok (.iconst 2, 1) := by decide +kernel
theorem dX3_evenTriples_3 : decode cX3_evenTriples 3 = .ok (.istore_n 2, 1) := by decide +kernel
theorem dX3_evenTriples_4 : decode cX3_evenTriples 4 = .ok (.iload_n 2, 1) := by decide +kernel
theorem dX3_evenTriples_5 : decode cX3_evenTriples 5 = .ok (.aload_n 0, 1) := by decide +kernel
theorem dX3_evenTriples_6 : decode cX3_evenTriples 6 = .ok (.getfield 9, 3) := by decide +kernel
theorem dX3_evenTriples_9 : decode cX3_evenTriples 9 = .ok (.if_icmp .ge 73, 3) := by decide +kernel
theorem dX3_evenTriples_12 : decode cX3_evenTriples 12 = .ok (.iconst 1, 1) := by decide +kernel
theorem dX3_evenTriples_13 : decode cX3_evenTriples 13 = .ok (.istore_n 3, 1) := by decide +kernel
theorem dX3_evenTriples_14 : decode cX3_evenTriples 14 = .ok (.iload_n 3, 1) := by decide +kernel
theorem dX3_evenTriples_15 : decode cX3_evenTriples 15 = .ok (.iload_n 2, 1) := by decide +kernel
theorem dX3_evenTriples_16 : decode cX3_evenTriples 16 = .ok (.if_icmp .ge 60, 3) := by decide +kernel
theorem dX3_evenTriples_19 : decode cX3_evenTriples 19 = .ok (.iconst 0, 1) := by decide +kernel
theorem dX3_evenTriples_20 : decode cX3_evenTriples 20 = .ok (.istore 4, 2) := by decide +kernel
theorem dX3_evenTriples_22 : decode cX3_evenTriples 22 = .ok (.iload 4, 2) := by decide +kernel
theorem dX3_evenTriples_24 : decode cX3_evenTriples 24 = .ok (.iload_n 3, 1) := by decide +kernel
theorem dX3_evenTriples_25 : decode cX3_evenTriples 25 = .ok (.if_icmp .ge 45, 3) := by decide +kernel
theorem dX3_evenTriples_28 : decode cX3_evenTriples 28 = .ok (.aload_n 0, 1) := by decide +kernel
theorem dX3_evenTriples_29 : decode cX3_evenTriples 29 = .ok (.iload 4, 2) := by decide +kernel
theorem dX3_evenTriples_31 : decode cX3_evenTriples 31 = .ok (.iload_n 3, 1) := by decide +kernel
theorem dX3_evenTriples_32 : decode cX3_evenTriples 32 = .ok (.invokevirtual 54, 3) := by decide +kernel
theorem dX3_evenTriples_35 : decode cX3_evenTriples 35 = .ok (.aload_n 0, 1) := by decide +kernel
theorem dX3_evenTriples_36 : decode cX3_evenTriples 36 = .ok (.iload 4, 2) := by decide +kernel
theorem dX3_evenTriples_38 : decode cX3_evenTriples 38 = .ok (.iload_n 2, 1) := by decide +kernel
theorem dX3_evenTriples_39 : decode cX3_evenTriples 39 = .ok (.invokevirtual 54, 3) := by decide +kernel
theorem dX3_evenTriples_42 : decode cX3_evenTriples 42 = .ok (.if_icmp .ne 22, 3) := by decide +kernel
theorem dX3_evenTriples_45 : decode cX3_evenTriples 45 = .ok (.aload_n 0, 1) := by decide +kernel
theorem dX3_evenTriples_46 : decode cX3_evenTriples 46 = .ok (.iload 4, 2) := by decide +kernel
theorem dX3_evenTriples_48 : decode cX3_evenTriples 48 = .ok (.iload_n 2, 1) := by decide +kernel
theorem dX3_evenTriples_49 : decode cX3_evenTriples 49 = .ok (.invokevirtual 54, 3) := by decide +kernel
theorem dX3_evenTriples_52 : decode cX3_evenTriples 52 = .ok (.aload_n 0, 1) := by decide +kernel
theorem dX3_evenTriples_53 : decode cX3_evenTriples 53 = .ok (.iload_n 3, 1) := by decide +kernel
theorem dX3_evenTriples_54 : decode cX3_evenTriples 54 = .ok (.iload_n 2, 1) := by decide +kernel
theorem dX3_evenTriples_55 : decode cX3_evenTriples 55 = .ok (.invokevirtual 54, 3) := by decide +kernel
theorem dX3_evenTriples_58 : decode cX3_evenTriples 58 = .ok (.if_icmp .ne 6, 3) := by decide +kernel
theorem dX3_evenTriples_61 : decode cX3_evenTriples 61 = .ok (.iinc 1 1, 3) := by decide +kernel
theorem dX3_evenTriples_64 : decode cX3_evenTriples 64 = .ok (.iinc 4 1, 3) := by decide +kernel
theorem dX3_evenTriples_67 : decode cX3_evenTriples 67 = .ok (.goto (-45), 3) := by decide +kernel
theorem dX3_evenTriples_70 : decode cX3_evenTriples 70 = .ok (.iinc 3 1, 3) := by decide +kernel
theorem dX3_evenTriples_73 : decode cX3_evenTriples 73 = .ok (.goto (-59), 3) := by decide +kernel
theorem dX3_evenTriples_76 : decode cX3_evenTriples 76 = .ok (.iinc 2 1, 3) := by decide +kernel
theorem dX3_evenTriples_79 : decode cX3_evenTriples 79 = .ok (.goto (-75), 3) := by decide +kernel
theorem dX3_evenTriples_82 : decode cX3_evenTriples 82 = .ok (.iload_n 1, 1) := by decide +kernel
theorem dX3_evenTriples_83 : decode cX3_evenTriples 83 = .ok (.ireturn, 1) := by decide +kernel
theorem dX3_codeOn_0 : decode cX3_codeOn 0 = .ok (.iconst 0, 1) := by decide +kernel
theorem dX3_codeOn_1 : decode cX3_codeOn 1 = .ok (.istore_n 3, 1) := by decide +kernel
theorem dX3_codeOn_2 : decode cX3_codeOn 2 = .ok (.aload_n 0, 1) := by decide +kernel
theorem dX3_codeOn_3 : decode cX3_codeOn 3 = .ok (.iload_n 2, 1) := by decide +kernel
theorem dX3_codeOn_4 : decode cX3_codeOn 4 = .ok (.invokevirtual 44, 3) := by decide +kernel
theorem dX3_codeOn_7 : decode cX3_codeOn 7 = .ok (.ifCond .eq 13, 3) := by decide +kernel
theorem dX3_codeOn_10 : decode cX3_codeOn 10 = .ok (.aload_n 0, 1) := by decide +kernel
theorem dX3_codeOn_11 : decode cX3_codeOn 11 = .ok (.getfield 19, 3) := by decide +kernel
theorem dX3_codeOn_14 : decode cX3_codeOn 14 = .ok (.iload_n 3, 1) := by decide +kernel
theorem dX3_codeOn_15 : decode cX3_codeOn 15 = .ok (.iload_n 2, 1) := by decide +kernel
theorem dX3_codeOn_16 : decode cX3_codeOn 16 = .ok (.iastore, 1) := by decide +kernel
theorem dX3_codeOn_17 : decode cX3_codeOn 17 = .ok (.iinc 3 1, 3) := by decide +kernel
theorem dX3_codeOn_20 : decode cX3_codeOn 20 = .ok (.iconst 0, 1) := by decide +kernel
theorem dX3_codeOn_21 : decode cX3_codeOn 21 = .ok (.istore 4, 2) := by decide +kernel
theorem dX3_codeOn_23 : decode cX3_codeOn 23 = .ok (.iload 4, 2) := by decide +kernel
theorem dX3_codeOn_25 : decode cX3_codeOn 25 = .ok (.aload_n 0, 1) := by decide +kernel
theorem dX3_codeOn_26 : decode cX3_codeOn 26 = .ok (.getfield 9, 3) := by decide +kernel
theorem dX3_codeOn_29 : decode cX3_codeOn 29 = .ok (.if_icmp .ge 41, 3) := by decide +kernel
theorem dX3_codeOn_32 : decode cX3_codeOn 32 = .ok (.iload 4, 2) := by decide +kernel
theorem dX3_codeOn_34 : decode cX3_codeOn 34 = .ok (.iload_n 2, 1) := by decide +kernel
theorem dX3_codeOn_35 : decode cX3_codeOn 35 = .ok (.if_icmp .eq 29, 3) := by decide +kernel
theorem dX3_codeOn_38 : decode cX3_codeOn 38 = .ok (.iload_n 1, 1) := by decide +kernel
theorem dX3_codeOn_39 : decode cX3_codeOn 39 = .ok (.iload 4, 2) := by decide +kernel
theorem dX3_codeOn_41 : decode cX3_codeOn 41 = .ok (.ishr, 1) := by decide +kernel
theorem dX3_codeOn_42 : decode cX3_codeOn 42 = .ok (.iconst 1, 1) := by decide +kernel
theorem dX3_codeOn_43 : decode cX3_codeOn 43 = .ok (.iand, 1) := by decide +kernel
theorem dX3_codeOn_44 : decode cX3_codeOn 44 = .ok (.ifCond .eq 20, 3) := by decide +kernel
theorem dX3_codeOn_47 : decode cX3_codeOn 47 = .ok (.iload_n 3, 1) := by decide +kernel
theorem dX3_codeOn_48 : decode cX3_codeOn 48 = .ok (.bipush 8, 2) := by decide +kernel
theorem dX3_codeOn_50 : decode cX3_codeOn 50 = .ok (.if_icmp .ge 14, 3) := by decide +kernel
theorem dX3_codeOn_53 : decode cX3_codeOn 53 = .ok (.aload_n 0, 1) := by decide +kernel
theorem dX3_codeOn_54 : decode cX3_codeOn 54 = .ok (.getfield 19, 3) := by decide +kernel
theorem dX3_codeOn_57 : decode cX3_codeOn 57 = .ok (.iload_n 3, 1) := by decide +kernel
theorem dX3_codeOn_58 : decode cX3_codeOn 58 = .ok (.iload 4, 2) := by decide +kernel
theorem dX3_codeOn_60 : decode cX3_codeOn 60 = .ok (.iastore, 1) := by decide +kernel
theorem dX3_codeOn_61 : decode cX3_codeOn 61 = .ok (.iinc 3 1, 3) := by decide +kernel
theorem dX3_codeOn_64 : decode cX3_codeOn 64 = .ok (.iinc 4 1, 3) := by decide +kernel
theorem dX3_codeOn_67 : decode cX3_codeOn 67 = .ok (.goto (-44), 3) := by decide +kernel
theorem dX3_codeOn_70 : decode cX3_codeOn 70 = .ok (.iconst 0, 1) := by decide +kernel
theorem dX3_codeOn_71 : decode cX3_codeOn 71 = .ok (.istore 4, 2) := by decide +kernel
theorem dX3_codeOn_73 : decode cX3_codeOn 73 = .ok (.iconst 1, 1) := by decide +kernel
theorem dX3_codeOn_74 : decode cX3_codeOn 74 = .ok (.istore 5, 2) := by decide +kernel
theorem dX3_codeOn_76 : decode cX3_codeOn 76 = .ok (.iload 5, 2) := by decide +kernel
theorem dX3_codeOn_78 : decode cX3_codeOn 78 = .ok (.iload_n 3, 1) := by decide +kernel
theorem dX3_codeOn_79 : decode cX3_codeOn 79 = .ok (.if_icmp .ge 62, 3) := by decide +kernel
theorem dX3_codeOn_82 : decode cX3_codeOn 82 = .ok (.iconst 0, 1) := by decide +kernel
theorem dX3_codeOn_83 : decode cX3_codeOn 83 = .ok (.istore 6, 2) := by decide +kernel
theorem dX3_codeOn_85 : decode cX3_codeOn 85 = .ok (.iload 6, 2) := by decide +kernel
theorem dX3_codeOn_87 : decode cX3_codeOn 87 = .ok (.iload 5, 2) := by decide +kernel
theorem dX3_codeOn_89 : decode cX3_codeOn 89 = .ok (.if_icmp .ge 46, 3) := by decide +kernel
theorem dX3_codeOn_92 : decode cX3_codeOn 92 = .ok (.aload_n 0, 1) := by decide +kernel
theorem dX3_codeOn_93 : decode cX3_codeOn 93 = .ok (.getfield 15, 3) := by decide +kernel
theorem dX3_codeOn_96 : decode cX3_codeOn 96 = .ok (.aload_n 0, 1) := by decide +kernel
theorem dX3_codeOn_97 : decode cX3_codeOn 97 = .ok (.getfield 19, 3) := by decide +kernel
theorem dX3_codeOn_100 : decode cX3_codeOn 100 = .ok (.iload 5, 2) := by decide +kernel
theorem dX3_codeOn_102 : decode cX3_codeOn 102 = .ok (.iaload, 1) := by decide +kernel
theorem dX3_codeOn_103 : decode cX3_codeOn 103 = .ok (.iaload, 1) := by decide +kernel
theorem dX3_codeOn_104 : decode cX3_codeOn 104 = .ok (.aload_n 0, 1) := by decide +kernel
theorem dX3_codeOn_105 : decode cX3_codeOn 105 = .ok (.getfield 19, 3) := by decide +kernel
theorem dX3_codeOn_108 : decode cX3_codeOn 108 = .ok (.iload 6, 2) := by decide +kernel
theorem dX3_codeOn_110 : decode cX3_codeOn 110 = .ok (.iaload, 1) := by decide +kernel
theorem dX3_codeOn_111 : decode cX3_codeOn 111 = .ok (.ishr, 1) := by decide +kernel
theorem dX3_codeOn_112 : decode cX3_codeOn 112 = .ok (.iconst 1, 1) := by decide +kernel
theorem dX3_codeOn_113 : decode cX3_codeOn 113 = .ok (.iand, 1) := by decide +kernel
theorem dX3_codeOn_114 : decode cX3_codeOn 114 = .ok (.ifCond .eq 15, 3) := by decide +kernel
theorem dX3_codeOn_117 : decode cX3_codeOn 117 = .ok (.iload 4, 2) := by decide +kernel
theorem dX3_codeOn_119 : decode cX3_codeOn 119 = .ok (.iload 6, 2) := by decide +kernel
theorem dX3_codeOn_121 : decode cX3_codeOn 121 = .ok (.iload 5, 2) := by decide +kernel
theorem dX3_codeOn_123 : decode cX3_codeOn 123 = .ok (.invokestatic 35, 3) := by decide +kernel
theorem dX3_codeOn_126 : decode cX3_codeOn 126 = .ok (.ior, 1) := by decide +kernel
theorem dX3_codeOn_127 : decode cX3_codeOn 127 = .ok (.istore 4, 2) := by decide +kernel
theorem dX3_codeOn_129 : decode cX3_codeOn 129 = .ok (.iinc 6 1, 3) := by decide +kernel
theorem dX3_codeOn_132 : decode cX3_codeOn 132 = .ok (.goto (-47), 3) := by decide +kernel
theorem dX3_codeOn_135 : decode cX3_codeOn 135 = .ok (.iinc 5 1, 3) := by decide +kernel
theorem dX3_codeOn_138 : decode cX3_codeOn 138 = .ok (.goto (-62), 3) := by decide +kernel
theorem dX3_codeOn_141 : decode cX3_codeOn 141 = .ok (.iload 4, 2) := by decide +kernel
theorem dX3_codeOn_143 : decode cX3_codeOn 143 = .ok (.ireturn, 1) := by decide +kernel
theorem dX3_mapsFrom_0 : decode cX3_mapsFrom 0 = .ok (.iconst 1, 1) := by decide +kernel
theorem dX3_mapsFrom_1 : decode cX3_mapsFrom 1 = .ok (.istore_n 2, 1) := by decide +kernel
theorem dX3_mapsFrom_2 : decode cX3_mapsFrom 2 = .ok (.iconst 0, 1) := by decide +kernel
theorem dX3_mapsFrom_3 : decode cX3_mapsFrom 3 = .ok (.istore_n 3, 1) := by decide +kernel
theorem dX3_mapsFrom_4 : decode cX3_mapsFrom 4 = .ok (.iload_n 3, 1) := by decide +kernel
theorem dX3_mapsFrom_5 : decode cX3_mapsFrom 5 = .ok (.aload_n 1, 1) := by decide +kernel
theorem dX3_mapsFrom_6 : decode cX3_mapsFrom 6 = .ok (.getfield 9, 3) := by decide +kernel
theorem dX3_mapsFrom_9 : decode cX3_mapsFrom 9 = .ok (.if_icmp .ge 16, 3) := by decide +kernel
theorem dX3_mapsFrom_12 : decode cX3_mapsFrom 12 = .ok (.iload_n 2, 1) := by decide +kernel
theorem dX3_mapsFrom_13 : decode cX3_mapsFrom 13 = .ok (.aload_n 0, 1) := by decide +kernel
theorem dX3_mapsFrom_14 : decode cX3_mapsFrom 14 = .ok (.getfield 9, 3) := by decide +kernel
theorem dX3_mapsFrom_17 : decode cX3_mapsFrom 17 = .ok (.imul, 1) := by decide +kernel
theorem dX3_mapsFrom_18 : decode cX3_mapsFrom 18 = .ok (.istore_n 2, 1) := by decide +kernel
theorem dX3_mapsFrom_19 : decode cX3_mapsFrom 19 = .ok (.iinc 3 1, 3) := by decide +kernel
theorem dX3_mapsFrom_22 : decode cX3_mapsFrom 22 = .ok (.goto (-18), 3) := by decide +kernel
theorem dX3_mapsFrom_25 : decode cX3_mapsFrom 25 = .ok (.iconst 0, 1) := by decide +kernel
theorem dX3_mapsFrom_26 : decode cX3_mapsFrom 26 = .ok (.istore_n 3, 1) := by decide +kernel
theorem dX3_mapsFrom_27 : decode cX3_mapsFrom 27 = .ok (.iconst 0, 1) := by decide +kernel
theorem dX3_mapsFrom_28 : decode cX3_mapsFrom 28 = .ok (.istore 4, 2) := by decide +kernel
theorem dX3_mapsFrom_30 : decode cX3_mapsFrom 30 = .ok (.iload 4, 2) := by decide +kernel
theorem dX3_mapsFrom_32 : decode cX3_mapsFrom 32 = .ok (.iload_n 2, 1) := by decide +kernel
theorem dX3_mapsFrom_33 : decode cX3_mapsFrom 33 = .ok (.if_icmp .ge 22, 3) := by decide +kernel
theorem dX3_mapsFrom_36 : decode cX3_mapsFrom 36 = .ok (.aload_n 0, 1) := by decide +kernel
theorem dX3_mapsFrom_37 : decode cX3_mapsFrom 37 = .ok (.aload_n 1, 1) := by decide +kernel
theorem dX3_mapsFrom_38 : decode cX3_mapsFrom 38 = .ok (.iload 4, 2) := by decide +kernel
theorem dX3_mapsFrom_40 : decode cX3_mapsFrom 40 = .ok (.invokevirtual 58, 3) := by decide +kernel
theorem dX3_mapsFrom_43 : decode cX3_mapsFrom 43 = .ok (.ifCond .eq 6, 3) := by decide +kernel
theorem dX3_mapsFrom_46 : decode cX3_mapsFrom 46 = .ok (.iinc 3 1, 3) := by decide +kernel
theorem dX3_mapsFrom_49 : decode cX3_mapsFrom 49 = .ok (.iinc 4 1, 3) := by decide +kernel
theorem dX3_mapsFrom_52 : decode cX3_mapsFrom 52 = .ok (.goto (-22), 3) := by decide +kernel
theorem dX3_mapsFrom_55 : decode cX3_mapsFrom 55 = .ok (.iload_n 3, 1) := by decide +kernel
theorem dX3_mapsFrom_56 : decode cX3_mapsFrom 56 = .ok (.ireturn, 1) := by decide +kernel
theorem dX3_keepsLines_0 : decode cX3_keepsLines 0 = .ok (.iload_n 2, 1) := by decide +kernel
theorem dX3_keepsLines_1 : decode cX3_keepsLines 1 = .ok (.istore_n 3, 1) := by decide +kernel
theorem dX3_keepsLines_2 : decode cX3_keepsLines 2 = .ok (.iconst 0, 1) := by decide +kernel
theorem dX3_keepsLines_3 : decode cX3_keepsLines 3 = .ok (.istore 4, 2) := by decide +kernel
theorem dX3_keepsLines_5 : decode cX3_keepsLines 5 = .ok (.iload 4, 2) := by decide +kernel
theorem dX3_keepsLines_7 : decode cX3_keepsLines 7 = .ok (.aload_n 1, 1) := by decide +kernel
theorem dX3_keepsLines_8 : decode cX3_keepsLines 8 = .ok (.getfield 9, 3) := by decide +kernel
theorem dX3_keepsLines_11 : decode cX3_keepsLines 11 = .ok (.if_icmp .ge 39, 3) := by decide +kernel
theorem dX3_keepsLines_14 : decode cX3_keepsLines 14 = .ok (.aload_n 0, 1) := by decide +kernel
theorem dX3_keepsLines_15 : decode cX3_keepsLines 15 = .ok (.getfield 9, 3) := by decide +kernel
theorem dX3_keepsLines_18 : decode cX3_keepsLines 18 = .ok (.iconst 1, 1) := by decide +kernel
theorem dX3_keepsLines_19 : decode cX3_keepsLines 19 = .ok (.if_icmp .ge 5, 3) := by decide +kernel
theorem dX3_keepsLines_22 : decode cX3_keepsLines 22 = .ok (.iconst 0, 1) := by decide +kernel
theorem dX3_keepsLines_23 : decode cX3_keepsLines 23 = .ok (.ireturn, 1) := by decide +kernel
theorem dX3_keepsLines_24 : decode cX3_keepsLines 24 = .ok (.aload_n 0, 1) := by decide +kernel
theorem dX3_keepsLines_25 : decode cX3_keepsLines 25 = .ok (.getfield 19, 3) := by decide +kernel
theorem dX3_keepsLines_28 : decode cX3_keepsLines 28 = .ok (.iload 4, 2) := by decide +kernel
theorem dX3_keepsLines_30 : decode cX3_keepsLines 30 = .ok (.iload_n 3, 1) := by decide +kernel
theorem dX3_keepsLines_31 : decode cX3_keepsLines 31 = .ok (.aload_n 0, 1) := by decide +kernel
theorem dX3_keepsLines_32 : decode cX3_keepsLines 32 = .ok (.getfield 9, 3) := by decide +kernel
theorem dX3_keepsLines_35 : decode cX3_keepsLines 35 = .ok (.irem, 1) := by decide +kernel
theorem dX3_keepsLines_36 : decode cX3_keepsLines 36 = .ok (.iastore, 1) := by decide +kernel
theorem dX3_keepsLines_37 : decode cX3_keepsLines 37 = .ok (.iload_n 3, 1) := by decide +kernel
theorem dX3_keepsLines_38 : decode cX3_keepsLines 38 = .ok (.aload_n 0, 1) := by decide +kernel
theorem dX3_keepsLines_39 : decode cX3_keepsLines 39 = .ok (.getfield 9, 3) := by decide +kernel
theorem dX3_keepsLines_42 : decode cX3_keepsLines 42 = .ok (.idiv, 1) := by decide +kernel
theorem dX3_keepsLines_43 : decode cX3_keepsLines 43 = .ok (.istore_n 3, 1) := by decide +kernel
theorem dX3_keepsLines_44 : decode cX3_keepsLines 44 = .ok (.iinc 4 1, 3) := by decide +kernel
theorem dX3_keepsLines_47 : decode cX3_keepsLines 47 = .ok (.goto (-42), 3) := by decide +kernel
theorem dX3_keepsLines_50 : decode cX3_keepsLines 50 = .ok (.iconst 1, 1) := by decide +kernel
theorem dX3_keepsLines_51 : decode cX3_keepsLines 51 = .ok (.istore 4, 2) := by decide +kernel
theorem dX3_keepsLines_53 : decode cX3_keepsLines 53 = .ok (.iload 4, 2) := by decide +kernel
theorem dX3_keepsLines_55 : decode cX3_keepsLines 55 = .ok (.aload_n 1, 1) := by decide +kernel
theorem dX3_keepsLines_56 : decode cX3_keepsLines 56 = .ok (.getfield 9, 3) := by decide +kernel
theorem dX3_keepsLines_59 : decode cX3_keepsLines 59 = .ok (.if_icmp .ge 63, 3) := by decide +kernel
theorem dX3_keepsLines_62 : decode cX3_keepsLines 62 = .ok (.iconst 0, 1) := by decide +kernel
theorem dX3_keepsLines_63 : decode cX3_keepsLines 63 = .ok (.istore 5, 2) := by decide +kernel
theorem dX3_keepsLines_65 : decode cX3_keepsLines 65 = .ok (.iload 5, 2) := by decide +kernel
theorem dX3_keepsLines_67 : decode cX3_keepsLines 67 = .ok (.iload 4, 2) := by decide +kernel
theorem dX3_keepsLines_69 : decode cX3_keepsLines 69 = .ok (.if_icmp .ge 47, 3) := by decide +kernel
theorem dX3_keepsLines_72 : decode cX3_keepsLines 72 = .ok (.aload_n 1, 1) := by decide +kernel
theorem dX3_keepsLines_73 : decode cX3_keepsLines 73 = .ok (.iload 5, 2) := by decide +kernel
theorem dX3_keepsLines_75 : decode cX3_keepsLines 75 = .ok (.iload 4, 2) := by decide +kernel
theorem dX3_keepsLines_77 : decode cX3_keepsLines 77 = .ok (.invokevirtual 54, 3) := by decide +kernel
theorem dX3_keepsLines_80 : decode cX3_keepsLines 80 = .ok (.ifCond .eq 30, 3) := by decide +kernel
theorem dX3_keepsLines_83 : decode cX3_keepsLines 83 = .ok (.aload_n 0, 1) := by decide +kernel
theorem dX3_keepsLines_84 : decode cX3_keepsLines 84 = .ok (.getfield 15, 3) := by decide +kernel
theorem dX3_keepsLines_87 : decode cX3_keepsLines 87 = .ok (.aload_n 0, 1) := by decide +kernel
theorem dX3_keepsLines_88 : decode cX3_keepsLines 88 = .ok (.getfield 19, 3) := by decide +kernel
theorem dX3_keepsLines_91 : decode cX3_keepsLines 91 = .ok (.iload 4, 2) := by decide +kernel
theorem dX3_keepsLines_93 : decode cX3_keepsLines 93 = .ok (.iaload, 1) := by decide +kernel
theorem dX3_keepsLines_94 : decode cX3_keepsLines 94 = .ok (.iaload, 1) := by decide +kernel
theorem dX3_keepsLines_95 : decode cX3_keepsLines 95 = .ok (.aload_n 0, 1) := by decide +kernel
theorem dX3_keepsLines_96 : decode cX3_keepsLines 96 = .ok (.getfield 19, 3) := by decide +kernel
theorem dX3_keepsLines_99 : decode cX3_keepsLines 99 = .ok (.iload 5, 2) := by decide +kernel
theorem dX3_keepsLines_101 : decode cX3_keepsLines 101 = .ok (.iaload, 1) := by decide +kernel
theorem dX3_keepsLines_102 : decode cX3_keepsLines 102 = .ok (.ishr, 1) := by decide +kernel
theorem dX3_keepsLines_103 : decode cX3_keepsLines 103 = .ok (.iconst 1, 1) := by decide +kernel
theorem dX3_keepsLines_104 : decode cX3_keepsLines 104 = .ok (.iand, 1) := by decide +kernel
theorem dX3_keepsLines_105 : decode cX3_keepsLines 105 = .ok (.ifCond .ne 5, 3) := by decide +kernel
theorem dX3_keepsLines_108 : decode cX3_keepsLines 108 = .ok (.iconst 0, 1) := by decide +kernel
theorem dX3_keepsLines_109 : decode cX3_keepsLines 109 = .ok (.ireturn, 1) := by decide +kernel
theorem dX3_keepsLines_110 : decode cX3_keepsLines 110 = .ok (.iinc 5 1, 3) := by decide +kernel
theorem dX3_keepsLines_113 : decode cX3_keepsLines 113 = .ok (.goto (-48), 3) := by decide +kernel
theorem dX3_keepsLines_116 : decode cX3_keepsLines 116 = .ok (.iinc 4 1, 3) := by decide +kernel
theorem dX3_keepsLines_119 : decode cX3_keepsLines 119 = .ok (.goto (-66), 3) := by decide +kernel
theorem dX3_keepsLines_122 : decode cX3_keepsLines 122 = .ok (.iconst 1, 1) := by decide +kernel
theorem dX3_keepsLines_123 : decode cX3_keepsLines 123 = .ok (.ireturn, 1) := by decide +kernel
theorem dX4_init_0 : decode cX4_init 0 = .ok (.aload_n 0, 1) := by decide +kernel
theorem dX4_init_1 : decode cX4_init 1 = .ok (.invokespecial 3, 3) := by decide +kernel
theorem dX4_init_4 : decode cX4_init 4 = .ok (.aload_n 0, 1) := by decide +kernel
theorem dX4_init_5 : decode cX4_init 5 = .ok (.bipush 12, 2) := by decide +kernel
theorem dX4_init_7 : decode cX4_init 7 = .ok (.anewarray 9, 3) := by decide +kernel
theorem dX4_init_10 : decode cX4_init 10 = .ok (.putfield 11, 3) := by decide +kernel
theorem dX4_init_13 : decode cX4_init 13 = .ok (.aload_n 0, 1) := by decide +kernel
theorem dX4_init_14 : decode cX4_init 14 = .ok (.iconst 0, 1) := by decide +kernel
theorem dX4_init_15 : decode cX4_init 15 = .ok (.putfield 17, 3) := by decide +kernel
theorem dX4_init_18 : decode cX4_init 18 = .ok (.aload_n 0, 1) := by decide +kernel
theorem dX4_init_19 : decode cX4_init 19 = .ok (.new 21, 3) := by decide +kernel
theorem dX4_init_22 : decode cX4_init 22 = .ok (.dup, 1) := by decide +kernel
theorem dX4_init_23 : decode cX4_init 23 = .ok (.invokespecial 23, 3) := by decide +kernel
theorem dX4_init_26 : decode cX4_init 26 = .ok (.putfield 24, 3) := by decide +kernel
theorem dX4_init_29 : decode cX4_init 29 = .ok (.aload_n 0, 1) := by decide +kernel
theorem dX4_init_30 : decode cX4_init 30 = .ok (.aload_n 1, 1) := by decide +kernel
theorem dX4_init_31 : decode cX4_init 31 = .ok (.putfield 28, 3) := by decide +kernel
theorem dX4_init_34 : decode cX4_init 34 = .ok (.iconst 0, 1) := by decide +kernel
theorem dX4_init_35 : decode cX4_init 35 = .ok (.istore_n 2, 1) := by decide +kernel
theorem dX4_init_36 : decode cX4_init 36 = .ok (.iload_n 2, 1) := by decide +kernel
theorem dX4_init_37 : decode cX4_init 37 = .ok (.bipush 12, 2) := by decide +kernel
theorem dX4_init_39 : decode cX4_init 39 = .ok (.if_icmp .ge 22, 3) := by decide +kernel
theorem dX4_init_42 : decode cX4_init 42 = .ok (.aload_n 0, 1) := by decide +kernel
theorem dX4_init_43 : decode cX4_init 43 = .ok (.getfield 11, 3) := by decide +kernel
theorem dX4_init_46 : decode cX4_init 46 = .ok (.iload_n 2, 1) := by decide +kernel
theorem dX4_init_47 : decode cX4_init 47 = .ok (.new 9, 3) := by decide +kernel
theorem dX4_init_50 : decode cX4_init 50 = .ok (.dup, 1) := by decide +kernel
theorem dX4_init_51 : decode cX4_init 51 = .ok (.invokespecial 32, 3) := by decide +kernel
theorem dX4_init_54 : decode cX4_init 54 = .ok (.aastore, 1) := by decide +kernel
theorem dX4_init_55 : decode cX4_init 55 = .ok (.iinc 2 1, 3) := by decide +kernel
theorem dX4_init_58 : decode cX4_init 58 = .ok (.goto (-22), 3) := by decide +kernel
theorem dX4_init_61 : decode cX4_init 61 = .ok (.return_, 1) := by decide +kernel
theorem dX4_outcome_0 : decode cX4_outcome 0 = .ok (.aload_n 0, 1) := by decide +kernel
theorem dX4_outcome_1 : decode cX4_outcome 1 = .ok (.getfield 11, 3) := by decide +kernel
theorem dX4_outcome_4 : decode cX4_outcome 4 = .ok (.iconst 0, 1) := by decide +kernel
theorem dX4_outcome_5 : decode cX4_outcome 5 = .ok (.aaload, 1) := by decide +kernel
theorem dX4_outcome_6 : decode cX4_outcome 6 = .ok (.getfield 33, 3) := by decide +kernel
theorem dX4_outcome_9 : decode cX4_outcome 9 = .ok (.ifCond .ne 13, 3) := by decide +kernel
theorem dX4_outcome_12 : decode cX4_outcome 12 = .ok (.aload_n 0, 1) := by decide +kernel
theorem dX4_outcome_13 : decode cX4_outcome 13 = .ok (.getfield 11, 3) := by decide +kernel
theorem dX4_outcome_16 : decode cX4_outcome 16 = .ok (.iconst 0, 1) := by decide +kernel
theorem dX4_outcome_17 : decode cX4_outcome 17 = .ok (.aaload, 1) := by decide +kernel
theorem dX4_outcome_18 : decode cX4_outcome 18 = .ok (.iconst 1, 1) := by decide +kernel
theorem dX4_outcome_19 : decode cX4_outcome 19 = .ok (.invokevirtual 36, 3) := by decide +kernel
theorem dX4_outcome_22 : decode cX4_outcome 22 = .ok (.aload_n 0, 1) := by decide +kernel
theorem dX4_outcome_23 : decode cX4_outcome 23 = .ok (.getfield 11, 3) := by decide +kernel
theorem dX4_outcome_26 : decode cX4_outcome 26 = .ok (.iconst 0, 1) := by decide +kernel
theorem dX4_outcome_27 : decode cX4_outcome 27 = .ok (.aaload, 1) := by decide +kernel
theorem dX4_outcome_28 : decode cX4_outcome 28 = .ok (.areturn, 1) := by decide +kernel
theorem dX4_workOut_0 : decode cX4_workOut 0 = .ok (.aload_n 0, 1) := by decide +kernel
theorem dX4_workOut_1 : decode cX4_workOut 1 = .ok (.iconst 0, 1) := by decide +kernel
theorem dX4_workOut_2 : decode cX4_workOut 2 = .ok (.putfield 17, 3) := by decide +kernel
theorem dX4_workOut_5 : decode cX4_workOut 5 = .ok (.iconst 0, 1) := by decide +kernel
theorem dX4_workOut_6 : decode cX4_workOut 6 = .ok (.istore_n 2, 1) := by decide +kernel
theorem dX4_workOut_7 : decode cX4_workOut 7 = .ok (.iload_n 2, 1) := by decide +kernel
theorem dX4_workOut_8 : decode cX4_workOut 8 = .ok (.aload_n 1, 1) := by decide +kernel
theorem dX4_workOut_9 : decode cX4_workOut 9 = .ok (.getfield 40, 3) := by decide +kernel
theorem dX4_workOut_12 : decode cX4_workOut 12 = .ok (.if_icmp .ge 223, 3) := by decide +kernel
theorem dX4_workOut_15 : decode cX4_workOut 15 = .ok (.aload_n 1, 1) := by decide +kernel
theorem dX4_workOut_16 : decode cX4_workOut 16 = .ok (.getfield 45, 3) := by decide +kernel
theorem dX4_workOut_19 : decode cX4_workOut 19 = .ok (.iload_n 2, 1) := by decide +kernel
theorem dX4_workOut_20 : decode cX4_workOut 20 = .ok (.iaload, 1) := by decide +kernel
theorem dX4_workOut_21 : decode cX4_workOut 21 = .ok (.istore_n 3, 1) := by decide +kernel
theorem dX4_workOut_22 : decode cX4_workOut 22 = .ok (.iload_n 3, 1) := by decide +kernel
theorem dX4_workOut_23 : decode cX4_workOut 23 = .ok (.bipush 43, 2) := by decide +kernel
theorem dX4_workOut_25 : decode cX4_workOut 25 = .ok (.if_icmp .ne 7, 3) := by decide +kernel
theorem dX4_workOut_28 : decode cX4_workOut 28 = .ok (.iconst 0, 1) := by decide +kernel
theorem dX4_workOut_29 : decode cX4_workOut 29 = .ok (.goto 24, 3) := by decide +kernel
theorem dX4_workOut_32 : decode cX4_workOut 32 = .ok (.iload_n 3, 1) := by decide +kernel
theorem dX4_workOut_33 : decode cX4_workOut 33 = .ok (.bipush 45, 2) := by decide +kernel
theorem dX4_workOut_35 : decode cX4_workOut 35 = .ok (.if_icmp .ne 7, 3) := by decide +kernel
theorem dX4_workOut_38 : decode cX4_workOut 38 = .ok (.iconst 1, 1) := by decide +kernel
theorem dX4_workOut_39 : decode cX4_workOut 39 = .ok (.goto 14, 3) := by decide +kernel
theorem dX4_workOut_42 : decode cX4_workOut 42 = .ok (.iload_n 3, 1) := by decide +kernel
theorem dX4_workOut_43 : decode cX4_workOut 43 = .ok (.bipush 42, 2) := by decide +kernel
theorem dX4_workOut_45 : decode cX4_workOut 45 = .ok (.if_icmp .ne 7, 3) := by decide +kernel
theorem dX4_workOut_48 : decode cX4_workOut 48 = .ok (.iconst 2, 1) := by decide +kernel
theorem dX4_workOut_49 : decode cX4_workOut 49 = .ok (.goto 4, 3) := by decide +kernel
theorem dX4_workOut_52 : decode cX4_workOut 52 = .ok (.iconst (-1), 1) := by decide +kernel
theorem dX4_workOut_53 : decode cX4_workOut 53 = .ok (.istore 4, 2) := by decide +kernel
theorem dX4_workOut_55 : decode cX4_workOut 55 = .ok (.iconst 0, 1) := by decide +kernel
theorem dX4_workOut_56 : decode cX4_workOut 56 = .ok (.istore 5, 2) := by decide +kernel
theorem dX4_workOut_58 : decode cX4_workOut 58 = .ok (.iload 4, 2) := by decide +kernel
theorem dX4_workOut_60 : decode cX4_workOut 60 = .ok (.iconst (-1), 1) := by decide +kernel
theorem dX4_workOut_61 : decode cX4_workOut 61 = .ok (.if_icmp .eq 66, 3) := by decide +kernel
theorem dX4_workOut_64 : decode cX4_workOut 64 = .ok (.aload_n 0, 1) := by decide +kernel
theorem dX4_workOut_65 : decode cX4_workOut 65 = .ok (.getfield 17, 3) := by decide +kernel
theorem dX4_workOut_68 : decode cX4_workOut 68 = .ok (.iconst 1, 1) := by decide +kernel
theorem dX4_workOut_69 : decode cX4_workOut 69 = .ok (.if_icmp .le 58, 3) := by decide +kernel
theorem dX4_workOut_72 : decode cX4_workOut 72 = .ok (.aload_n 0, 1) := by decide +kernel
theorem dX4_workOut_73 : decode cX4_workOut 73 = .ok (.dup, 1) := by decide +kernel
theorem dX4_workOut_74 : decode cX4_workOut 74 = .ok (.getfield 17, 3) := by decide +kernel
theorem dX4_workOut_77 : decode cX4_workOut 77 = .ok (.iconst 1, 1) := by decide +kernel
theorem dX4_workOut_78 : decode cX4_workOut 78 = .ok (.isub, 1) := by decide +kernel
theorem dX4_workOut_79 : decode cX4_workOut 79 = .ok (.putfield 17, 3) := by decide +kernel
theorem dX4_workOut_82 : decode cX4_workOut 82 = .ok (.aload_n 0, 1) := by decide +kernel
theorem dX4_workOut_83 : decode cX4_workOut 83 = .ok (.getfield 28, 3) := by decide +kernel
theorem dX4_workOut_86 : decode cX4_workOut 86 = .ok (.aload_n 0, 1) := by decide +kernel
theorem dX4_workOut_87 : decode cX4_workOut 87 = .ok (.getfield 11, 3) := by decide +kernel
theorem dX4_workOut_90 : decode cX4_workOut 90 = .ok (.aload_n 0, 1) := by decide +kernel
theorem dX4_workOut_91 : decode cX4_workOut 91 = .ok (.getfield 17, 3) := by decide +kernel
theorem dX4_workOut_94 : decode cX4_workOut 94 = .ok (.iconst 1, 1) := by decide +kernel
theorem dX4_workOut_95 : decode cX4_workOut 95 = .ok (.isub, 1) := by decide +kernel
theorem dX4_workOut_96 : decode cX4_workOut 96 = .ok (.aaload, 1) := by decide +kernel
theorem dX4_workOut_97 : decode cX4_workOut 97 = .ok (.aload_n 0, 1) := by decide +kernel
theorem dX4_workOut_98 : decode cX4_workOut 98 = .ok (.getfield 11, 3) := by decide +kernel
theorem dX4_workOut_101 : decode cX4_workOut 101 = .ok (.aload_n 0, 1) := by decide +kernel
theorem dX4_workOut_102 : decode cX4_workOut 102 = .ok (.getfield 17, 3) := by decide +kernel
theorem dX4_workOut_105 : decode cX4_workOut 105 = .ok (.aaload, 1) := by decide +kernel
theorem dX4_workOut_106 : decode cX4_workOut 106 = .ok (.iload 4, 2) := by decide +kernel
theorem dX4_workOut_108 : decode cX4_workOut 108 = .ok (.aload_n 0, 1) := by decide +kernel
theorem dX4_workOut_109 : decode cX4_workOut 109 = .ok (.getfield 11, 3) := by decide +kernel
theorem dX4_workOut_112 : decode cX4_workOut 112 = .ok (.aload_n 0, 1) := by decide +kernel
theorem dX4_workOut_113 : decode cX4_workOut 113 = .ok (.getfield 17, 3) := by decide +kernel
theorem dX4_workOut_116 : decode cX4_workOut 116 = .ok (.iconst 1, 1) := by decide +kernel
theorem dX4_workOut_117 : decode cX4_workOut 117 = .ok (.isub, 1) := by decide +kernel
theorem dX4_workOut_118 : decode cX4_workOut 118 = .ok (.aaload, 1) := by decide +kernel
theorem dX4_workOut_119 : decode cX4_workOut 119 = .ok (.invokevirtual 49, 3) := by decide +kernel
theorem dX4_workOut_122 : decode cX4_workOut 122 = .ok (.istore 5, 2) := by decide +kernel
theorem dX4_workOut_124 : decode cX4_workOut 124 = .ok (.goto 67, 3) := by decide +kernel
theorem dX4_workOut_127 : decode cX4_workOut 127 = .ok (.iload_n 3, 1) := by decide +kernel
theorem dX4_workOut_128 : decode cX4_workOut 128 = .ok (.bipush 123, 2) := by decide +kernel
theorem dX4_workOut_130 : decode cX4_workOut 130 = .ok (.if_icmp .ne 44, 3) := by decide +kernel
theorem dX4_workOut_133 : decode cX4_workOut 133 = .ok (.aload_n 0, 1) := by decide +kernel
theorem dX4_workOut_134 : decode cX4_workOut 134 = .ok (.getfield 17, 3) := by decide +kernel
theorem dX4_workOut_137 : decode cX4_workOut 137 = .ok (.ifCond .le 37, 3) := by decide +kernel
theorem dX4_workOut_140 : decode cX4_workOut 140 = .ok (.aload_n 0, 1) := by decide +kernel
theorem dX4_workOut_141 : decode cX4_workOut 141 = .ok (.getfield 28, 3) := by decide +kernel
theorem dX4_workOut_144 : decode cX4_workOut 144 = .ok (.aload_n 0, 1) := by decide +kernel
theorem dX4_workOut_145 : decode cX4_workOut 145 = .ok (.getfield 11, 3) := by decide +kernel
theorem dX4_workOut_148 : decode cX4_workOut 148 = .ok (.aload_n 0, 1) := by decide +kernel
theorem dX4_workOut_149 : decode cX4_workOut 149 = .ok (.getfield 17, 3) := by decide +kernel
theorem dX4_workOut_152 : decode cX4_workOut 152 = .ok (.iconst 1, 1) := by decide +kernel
theorem dX4_workOut_153 : decode cX4_workOut 153 = .ok (.isub, 1) := by decide +kernel
theorem dX4_workOut_154 : decode cX4_workOut 154 = .ok (.aaload, 1) := by decide +kernel
theorem dX4_workOut_155 : decode cX4_workOut 155 = .ok (.aload_n 0, 1) := by decide +kernel
theorem dX4_workOut_156 : decode cX4_workOut 156 = .ok (.getfield 11, 3) := by decide +kernel
theorem dX4_workOut_159 : decode cX4_workOut 159 = .ok (.aload_n 0, 1) := by decide +kernel
theorem dX4_workOut_160 : decode cX4_workOut 160 = .ok (.getfield 17, 3) := by decide +kernel
theorem dX4_workOut_163 : decode cX4_workOut 163 = .ok (.iconst 1, 1) := by decide +kernel
theorem dX4_workOut_164 : decode cX4_workOut 164 = .ok (.isub, 1) := by decide +kernel
theorem dX4_workOut_165 : decode cX4_workOut 165 = .ok (.aaload, 1) := by decide +kernel
theorem dX4_workOut_166 : decode cX4_workOut 166 = .ok (.invokevirtual 55, 3) := by decide +kernel
theorem dX4_workOut_169 : decode cX4_workOut 169 = .ok (.istore 5, 2) := by decide +kernel
theorem dX4_workOut_171 : decode cX4_workOut 171 = .ok (.goto 20, 3) := by decide +kernel
theorem dX4_workOut_174 : decode cX4_workOut 174 = .ok (.aload_n 0, 1) := by decide +kernel
theorem dX4_workOut_175 : decode cX4_workOut 175 = .ok (.iload_n 3, 1) := by decide +kernel
theorem dX4_workOut_176 : decode cX4_workOut 176 = .ok (.aload_n 1, 1) := by decide +kernel
theorem dX4_workOut_177 : decode cX4_workOut 177 = .ok (.getfield 59, 3) := by decide +kernel
theorem dX4_workOut_180 : decode cX4_workOut 180 = .ok (.iload_n 2, 1) := by decide +kernel
theorem dX4_workOut_181 : decode cX4_workOut 181 = .ok (.iaload, 1) := by decide +kernel
theorem dX4_workOut_182 : decode cX4_workOut 182 = .ok (.aload_n 1, 1) := by decide +kernel
theorem dX4_workOut_183 : decode cX4_workOut 183 = .ok (.getfield 62, 3) := by decide +kernel
theorem dX4_workOut_186 : decode cX4_workOut 186 = .ok (.iload_n 2, 1) := by decide +kernel
theorem dX4_workOut_187 : decode cX4_workOut 187 = .ok (.iaload, 1) := by decide +kernel
theorem dX4_workOut_188 : decode cX4_workOut 188 = .ok (.invokevirtual 65, 3) := by decide +kernel
theorem dX4_workOut_191 : decode cX4_workOut 191 = .ok (.iload 5, 2) := by decide +kernel
theorem dX4_workOut_193 : decode cX4_workOut 193 = .ok (.ifCond .eq 36, 3) := by decide +kernel
theorem dX4_workOut_196 : decode cX4_workOut 196 = .ok (.iload 5, 2) := by decide +kernel
theorem dX4_workOut_198 : decode cX4_workOut 198 = .ok (.bipush (-2), 2) := by decide +kernel
theorem dX4_workOut_200 : decode cX4_workOut 200 = .ok (.if_icmp .ne 7, 3) := by decide +kernel
theorem dX4_workOut_203 : decode cX4_workOut 203 = .ok (.iconst 3, 1) := by decide +kernel
theorem dX4_workOut_204 : decode cX4_workOut 204 = .ok (.goto 15, 3) := by decide +kernel
theorem dX4_workOut_207 : decode cX4_workOut 207 = .ok (.iload 5, 2) := by decide +kernel
theorem dX4_workOut_209 : decode cX4_workOut 209 = .ok (.bipush (-4), 2) := by decide +kernel
theorem dX4_workOut_211 : decode cX4_workOut 211 = .ok (.if_icmp .ne 7, 3) := by decide +kernel
theorem dX4_workOut_214 : decode cX4_workOut 214 = .ok (.iconst 4, 1) := by decide +kernel
theorem dX4_workOut_215 : decode cX4_workOut 215 = .ok (.goto 4, 3) := by decide +kernel
theorem dX4_workOut_218 : decode cX4_workOut 218 = .ok (.iconst 5, 1) := by decide +kernel
theorem dX4_workOut_219 : decode cX4_workOut 219 = .ok (.aload_n 1, 1) := by decide +kernel
theorem dX4_workOut_220 : decode cX4_workOut 220 = .ok (.getfield 69, 3) := by decide +kernel
theorem dX4_workOut_223 : decode cX4_workOut 223 = .ok (.iload_n 2, 1) := by decide +kernel
theorem dX4_workOut_224 : decode cX4_workOut 224 = .ok (.iaload, 1) := by decide +kernel
theorem dX4_workOut_225 : decode cX4_workOut 225 = .ok (.invokestatic 72, 3) := by decide +kernel
theorem dX4_workOut_228 : decode cX4_workOut 228 = .ok (.ireturn, 1) := by decide +kernel
theorem dX4_workOut_229 : decode cX4_workOut 229 = .ok (.iinc 2 1, 3) := by decide +kernel
theorem dX4_workOut_232 : decode cX4_workOut 232 = .ok (.goto (-225), 3) := by decide +kernel
theorem dX4_workOut_235 : decode cX4_workOut 235 = .ok (.iconst 0, 1) := by decide +kernel
theorem dX4_workOut_236 : decode cX4_workOut 236 = .ok (.ireturn, 1) := by decide +kernel
theorem dX4_pileOne_0 : decode cX4_pileOne 0 = .ok (.aload_n 0, 1) := by decide +kernel
theorem dX4_pileOne_1 : decode cX4_pileOne 1 = .ok (.getfield 17, 3) := by decide +kernel
theorem dX4_pileOne_4 : decode cX4_pileOne 4 = .ok (.bipush 12, 2) := by decide +kernel
theorem dX4_pileOne_6 : decode cX4_pileOne 6 = .ok (.if_icmp .lt 4, 3) := by decide +kernel
theorem dX4_pileOne_9 : decode cX4_pileOne 9 = .ok (.return_, 1) := by decide +kernel
theorem dX4_pileOne_10 : decode cX4_pileOne 10 = .ok (.iload_n 1, 1) := by decide +kernel
theorem dX4_pileOne_11 : decode cX4_pileOne 11 = .ok (.bipush 48, 2) := by decide +kernel
theorem dX4_pileOne_13 : decode cX4_pileOne 13 = .ok (.if_icmp .ne 7, 3) := by decide +kernel
theorem dX4_pileOne_16 : decode cX4_pileOne 16 = .ok (.iconst 1, 1) := by decide +kernel
theorem dX4_pileOne_17 : decode cX4_pileOne 17 = .ok (.goto 4, 3) := by decide +kernel
theorem dX4_pileOne_20 : decode cX4_pileOne 20 = .ok (.iconst 0, 1) := by decide +kernel
theorem dX4_pileOne_21 : decode cX4_pileOne 21 = .ok (.istore 4, 2) := by decide +kernel
theorem dX4_pileOne_23 : decode cX4_pileOne 23 = .ok (.aload_n 0, 1) := by decide +kernel
theorem dX4_pileOne_24 : decode cX4_pileOne 24 = .ok (.getfield 24, 3) := by decide +kernel
theorem dX4_pileOne_27 : decode cX4_pileOne 27 = .ok (.iload 4, 2) := by decide +kernel
theorem dX4_pileOne_29 : decode cX4_pileOne 29 = .ok (.ifCond .eq 8, 3) := by decide +kernel
theorem dX4_pileOne_32 : decode cX4_pileOne 32 = .ok (.iload_n 2, 1) := by decide +kernel
theorem dX4_pileOne_33 : decode cX4_pileOne 33 = .ok (.i2l, 1) := by decide +kernel
theorem dX4_pileOne_34 : decode cX4_pileOne 34 = .ok (.goto 4, 3) := by decide +kernel
theorem dX4_pileOne_37 : decode cX4_pileOne 37 = .ok (.lconst 1, 1) := by decide +kernel
theorem dX4_pileOne_38 : decode cX4_pileOne 38 = .ok (.iload 4, 2) := by decide +kernel
theorem dX4_pileOne_40 : decode cX4_pileOne 40 = .ok (.ifCond .eq 8, 3) := by decide +kernel
theorem dX4_pileOne_43 : decode cX4_pileOne 43 = .ok (.iload_n 3, 1) := by decide +kernel
theorem dX4_pileOne_44 : decode cX4_pileOne 44 = .ok (.i2l, 1) := by decide +kernel
theorem dX4_pileOne_45 : decode cX4_pileOne 45 = .ok (.goto 4, 3) := by decide +kernel
theorem dX4_pileOne_48 : decode cX4_pileOne 48 = .ok (.lconst 1, 1) := by decide +kernel
theorem dX4_pileOne_49 : decode cX4_pileOne 49 = .ok (.invokevirtual 76, 3) := by decide +kernel
theorem dX4_pileOne_52 : decode cX4_pileOne 52 = .ok (.aload_n 0, 1) := by decide +kernel
theorem dX4_pileOne_53 : decode cX4_pileOne 53 = .ok (.getfield 11, 3) := by decide +kernel
theorem dX4_pileOne_56 : decode cX4_pileOne 56 = .ok (.aload_n 0, 1) := by decide +kernel
theorem dX4_pileOne_57 : decode cX4_pileOne 57 = .ok (.getfield 17, 3) := by decide +kernel
theorem dX4_pileOne_60 : decode cX4_pileOne 60 = .ok (.aaload, 1) := by decide +kernel
theorem dX4_pileOne_61 : decode cX4_pileOne 61 = .ok (.astore 5, 2) := by decide +kernel
theorem dX4_pileOne_63 : decode cX4_pileOne 63 = .ok (.aload 5, 2) := by decide +kernel
theorem dX4_pileOne_65 : decode cX4_pileOne 65 = .ok (.invokevirtual 80, 3) := by decide +kernel
theorem dX4_pileOne_68 : decode cX4_pileOne 68 = .ok (.aload 5, 2) := by decide +kernel
theorem dX4_pileOne_70 : decode cX4_pileOne 70 = .ok (.iload 4, 2) := by decide +kernel
theorem dX4_pileOne_72 : decode cX4_pileOne 72 = .ok (.ifCond .eq 7, 3) := by decide +kernel
theorem dX4_pileOne_75 : decode cX4_pileOne 75 = .ok (.iconst 0, 1) := by decide +kernel
theorem dX4_pileOne_76 : decode cX4_pileOne 76 = .ok (.goto 4, 3) := by decide +kernel
theorem dX4_pileOne_79 : decode cX4_pileOne 79 = .ok (.iload_n 2, 1) := by decide +kernel
theorem dX4_pileOne_80 : decode cX4_pileOne 80 = .ok (.aload_n 0, 1) := by decide +kernel
theorem dX4_pileOne_81 : decode cX4_pileOne 81 = .ok (.getfield 24, 3) := by decide +kernel
theorem dX4_pileOne_84 : decode cX4_pileOne 84 = .ok (.invokevirtual 83, 3) := by decide +kernel
theorem dX4_pileOne_87 : decode cX4_pileOne 87 = .ok (.aload 5, 2) := by decide +kernel
theorem dX4_pileOne_89 : decode cX4_pileOne 89 = .ok (.iload 4, 2) := by decide +kernel
theorem dX4_pileOne_91 : decode cX4_pileOne 91 = .ok (.ifCond .eq 7, 3) := by decide +kernel
theorem dX4_pileOne_94 : decode cX4_pileOne 94 = .ok (.iconst 0, 1) := by decide +kernel
theorem dX4_pileOne_95 : decode cX4_pileOne 95 = .ok (.goto 14, 3) := by decide +kernel
theorem dX4_pileOne_98 : decode cX4_pileOne 98 = .ok (.iload_n 1, 1) := by decide +kernel
theorem dX4_pileOne_99 : decode cX4_pileOne 99 = .ok (.bipush 60, 2) := by decide +kernel
theorem dX4_pileOne_101 : decode cX4_pileOne 101 = .ok (.if_icmp .ne 7, 3) := by decide +kernel
theorem dX4_pileOne_104 : decode cX4_pileOne 104 = .ok (.iconst 2, 1) := by decide +kernel
theorem dX4_pileOne_105 : decode cX4_pileOne 105 = .ok (.goto 4, 3) := by decide +kernel
theorem dX4_pileOne_108 : decode cX4_pileOne 108 = .ok (.iconst 1, 1) := by decide +kernel
theorem dX4_pileOne_109 : decode cX4_pileOne 109 = .ok (.putfield 33, 3) := by decide +kernel
theorem dX4_pileOne_112 : decode cX4_pileOne 112 = .ok (.aload_n 0, 1) := by decide +kernel
theorem dX4_pileOne_113 : decode cX4_pileOne 113 = .ok (.dup, 1) := by decide +kernel
theorem dX4_pileOne_114 : decode cX4_pileOne 114 = .ok (.getfield 17, 3) := by decide +kernel
theorem dX4_pileOne_117 : decode cX4_pileOne 117 = .ok (.iconst 1, 1) := by decide +kernel
theorem dX4_pileOne_118 : decode cX4_pileOne 118 = .ok (.iadd, 1) := by decide +kernel
theorem dX4_pileOne_119 : decode cX4_pileOne 119 = .ok (.putfield 17, 3) := by decide +kernel
theorem dX4_pileOne_122 : decode cX4_pileOne 122 = .ok (.return_, 1) := by decide +kernel
theorem dX5_init_0 : decode cX5_init 0 = .ok (.aload_n 0, 1) := by decide +kernel
theorem dX5_init_1 : decode cX5_init 1 = .ok (.invokespecial 3, 3) := by decide +kernel
theorem dX5_init_4 : decode cX5_init 4 = .ok (.aload_n 0, 1) := by decide +kernel
theorem dX5_init_5 : decode cX5_init 5 = .ok (.iconst 4, 1) := by decide +kernel
theorem dX5_init_6 : decode cX5_init 6 = .ok (.newarray .boolean, 2) := by decide +kernel
theorem dX5_init_8 : decode cX5_init 8 = .ok (.putfield 9, 3) := by decide +kernel
theorem dX5_init_11 : decode cX5_init 11 = .ok (.aload_n 0, 1) := by decide +kernel
theorem dX5_init_12 : decode cX5_init 12 = .ok (.iconst 4, 1) := by decide +kernel
theorem dX5_init_13 : decode cX5_init 13 = .ok (.anewarray 15, 3) := by decide +kernel
theorem dX5_init_16 : decode cX5_init 16 = .ok (.putfield 17, 3) := by decide +kernel
theorem dX5_init_19 : decode cX5_init 19 = .ok (.iconst 0, 1) := by decide +kernel
theorem dX5_init_20 : decode cX5_init 20 = .ok (.istore_n 1, 1) := by decide +kernel
theorem dX5_init_21 : decode cX5_init 21 = .ok (.iload_n 1, 1) := by decide +kernel
theorem dX5_init_22 : decode cX5_init 22 = .ok (.iconst 4, 1) := by decide +kernel
theorem dX5_init_23 : decode cX5_init 23 = .ok (.if_icmp .ge 22, 3) := by decide +kernel
theorem dX5_init_26 : decode cX5_init 26 = .ok (.aload_n 0, 1) := by decide +kernel
theorem dX5_init_27 : decode cX5_init 27 = .ok (.getfield 17, 3) := by decide +kernel
theorem dX5_init_30 : decode cX5_init 30 = .ok (.iload_n 1, 1) := by decide +kernel
theorem dX5_init_31 : decode cX5_init 31 = .ok (.new 15, 3) := by decide +kernel
theorem dX5_init_34 : decode cX5_init 34 = .ok (.dup, 1) := by decide +kernel
theorem dX5_init_35 : decode cX5_init 35 = .ok (.invokespecial 21, 3) := by decide +kernel
theorem dX5_init_38 : decode cX5_init 38 = .ok (.aastore, 1) := by decide +kernel
theorem dX5_init_39 : decode cX5_init 39 = .ok (.iinc 1 1, 3) := by decide +kernel
theorem dX5_init_42 : decode cX5_init 42 = .ok (.goto (-21), 3) := by decide +kernel
theorem dX5_init_45 : decode cX5_init 45 = .ok (.return_, 1) := by decide +kernel
theorem dX5_become_0 : decode cX5_become 0 = .ok (.iconst 0, 1) := by decide +kernel
theorem dX5_become_1 : decode cX5_become 1 = .ok (.istore_n 2, 1) := by decide +kernel
theorem dX5_become_2 : decode cX5_become 2 = .ok (.iload_n 2, 1) := by decide +kernel
theorem dX5_become_3 : decode cX5_become 3 = .ok (.iconst 4, 1) := by decide +kernel
theorem dX5_become_4 : decode cX5_become 4 = .ok (.if_icmp .ge 36, 3) := by decide +kernel
theorem dX5_become_7 : decode cX5_become 7 = .ok (.aload_n 0, 1) := by decide +kernel
theorem dX5_become_8 : decode cX5_become 8 = .ok (.getfield 9, 3) := by decide +kernel
theorem dX5_become_11 : decode cX5_become 11 = .ok (.iload_n 2, 1) := by decide +kernel
theorem dX5_become_12 : decode cX5_become 12 = .ok (.aload_n 1, 1) := by decide +kernel
theorem dX5_become_13 : decode cX5_become 13 = .ok (.getfield 9, 3) := by decide +kernel
theorem dX5_become_16 : decode cX5_become 16 = .ok (.iload_n 2, 1) := by decide +kernel
theorem dX5_become_17 : decode cX5_become 17 = .ok (.baload, 1) := by decide +kernel
theorem dX5_become_18 : decode cX5_become 18 = .ok (.bastore, 1) := by decide +kernel
theorem dX5_become_19 : decode cX5_become 19 = .ok (.aload_n 0, 1) := by decide +kernel
theorem dX5_become_20 : decode cX5_become 20 = .ok (.getfield 17, 3) := by decide +kernel
theorem dX5_become_23 : decode cX5_become 23 = .ok (.iload_n 2, 1) := by decide +kernel
theorem dX5_become_24 : decode cX5_become 24 = .ok (.aaload, 1) := by decide +kernel
theorem dX5_become_25 : decode cX5_become 25 = .ok (.aload_n 1, 1) := by decide +kernel
theorem dX5_become_26 : decode cX5_become 26 = .ok (.getfield 17, 3) := by decide +kernel
theorem dX5_become_29 : decode cX5_become 29 = .ok (.iload_n 2, 1) := by decide +kernel
theorem dX5_become_30 : decode cX5_become 30 = .ok (.aaload, 1) := by decide +kernel
theorem dX5_become_31 : decode cX5_become 31 = .ok (.invokevirtual 22, 3) := by decide +kernel
theorem dX5_become_34 : decode cX5_become 34 = .ok (.iinc 2 1, 3) := by decide +kernel
theorem dX5_become_37 : decode cX5_become 37 = .ok (.goto (-35), 3) := by decide +kernel
theorem dX5_become_40 : decode cX5_become 40 = .ok (.return_, 1) := by decide +kernel
theorem dX5_put_0 : decode cX5_put 0 = .ok (.aload_n 0, 1) := by decide +kernel
theorem dX5_put_1 : decode cX5_put 1 = .ok (.getfield 9, 3) := by decide +kernel
theorem dX5_put_4 : decode cX5_put 4 = .ok (.iload_n 1, 1) := by decide +kernel
theorem dX5_put_5 : decode cX5_put 5 = .ok (.iconst 1, 1) := by decide +kernel
theorem dX5_put_6 : decode cX5_put 6 = .ok (.bastore, 1) := by decide +kernel
theorem dX5_put_7 : decode cX5_put 7 = .ok (.aload_n 0, 1) := by decide +kernel
theorem dX5_put_8 : decode cX5_put 8 = .ok (.getfield 17, 3) := by decide +kernel
theorem dX5_put_11 : decode cX5_put 11 = .ok (.iload_n 1, 1) := by decide +kernel
theorem dX5_put_12 : decode cX5_put 12 = .ok (.aaload, 1) := by decide +kernel
theorem dX5_put_13 : decode cX5_put 13 = .ok (.aload_n 2, 1) := by decide +kernel
theorem dX5_put_14 : decode cX5_put 14 = .ok (.invokevirtual 22, 3) := by decide +kernel
theorem dX5_put_17 : decode cX5_put 17 = .ok (.aload_n 2, 1) := by decide +kernel
theorem dX5_put_18 : decode cX5_put 18 = .ok (.invokevirtual 26, 3) := by decide +kernel
theorem dX5_put_21 : decode cX5_put 21 = .ok (.ireturn, 1) := by decide +kernel
theorem dX5_drop_0 : decode cX5_drop 0 = .ok (.aload_n 0, 1) := by decide +kernel
theorem dX5_drop_1 : decode cX5_drop 1 = .ok (.getfield 9, 3) := by decide +kernel
theorem dX5_drop_4 : decode cX5_drop 4 = .ok (.iload_n 1, 1) := by decide +kernel
theorem dX5_drop_5 : decode cX5_drop 5 = .ok (.iconst 0, 1) := by decide +kernel
theorem dX5_drop_6 : decode cX5_drop 6 = .ok (.bastore, 1) := by decide +kernel
theorem dX5_drop_7 : decode cX5_drop 7 = .ok (.aload_n 0, 1) := by decide +kernel
theorem dX5_drop_8 : decode cX5_drop 8 = .ok (.getfield 17, 3) := by decide +kernel
theorem dX5_drop_11 : decode cX5_drop 11 = .ok (.iload_n 1, 1) := by decide +kernel
theorem dX5_drop_12 : decode cX5_drop 12 = .ok (.aaload, 1) := by decide +kernel
theorem dX5_drop_13 : decode cX5_drop 13 = .ok (.invokevirtual 30, 3) := by decide +kernel
theorem dX5_drop_16 : decode cX5_drop 16 = .ok (.return_, 1) := by decide +kernel
theorem dX5_held_0 : decode cX5_held 0 = .ok (.iconst 0, 1) := by decide +kernel
theorem dX5_held_1 : decode cX5_held 1 = .ok (.istore_n 1, 1) := by decide +kernel
theorem dX5_held_2 : decode cX5_held 2 = .ok (.iconst 0, 1) := by decide +kernel
theorem dX5_held_3 : decode cX5_held 3 = .ok (.istore_n 2, 1) := by decide +kernel
theorem dX5_held_4 : decode cX5_held 4 = .ok (.iload_n 2, 1) := by decide +kernel
theorem dX5_held_5 : decode cX5_held 5 = .ok (.iconst 4, 1) := by decide +kernel
theorem dX5_held_6 : decode cX5_held 6 = .ok (.if_icmp .ge 21, 3) := by decide +kernel
theorem dX5_held_9 : decode cX5_held 9 = .ok (.aload_n 0, 1) := by decide +kernel
theorem dX5_held_10 : decode cX5_held 10 = .ok (.getfield 9, 3) := by decide +kernel
theorem dX5_held_13 : decode cX5_held 13 = .ok (.iload_n 2, 1) := by decide +kernel
theorem dX5_held_14 : decode cX5_held 14 = .ok (.baload, 1) := by decide +kernel
theorem dX5_held_15 : decode cX5_held 15 = .ok (.ifCond .eq 6, 3) := by decide +kernel
theorem dX5_held_18 : decode cX5_held 18 = .ok (.iinc 1 1, 3) := by decide +kernel
theorem dX5_held_21 : decode cX5_held 21 = .ok (.iinc 2 1, 3) := by decide +kernel
theorem dX5_held_24 : decode cX5_held 24 = .ok (.goto (-20), 3) := by decide +kernel
theorem dX5_held_27 : decode cX5_held 27 = .ok (.iload_n 1, 1) := by decide +kernel
theorem dX5_held_28 : decode cX5_held 28 = .ok (.ireturn, 1) := by decide +kernel
theorem dX5_terms_0 : decode cX5_terms 0 = .ok (.iconst 0, 1) := by decide +kernel
theorem dX5_terms_1 : decode cX5_terms 1 = .ok (.istore_n 1, 1) := by decide +kernel
theorem dX5_terms_2 : decode cX5_terms 2 = .ok (.iconst 0, 1) := by decide +kernel
theorem dX5_terms_3 : decode cX5_terms 3 = .ok (.istore_n 2, 1) := by decide +kernel
theorem dX5_terms_4 : decode cX5_terms 4 = .ok (.iload_n 2, 1) := by decide +kernel
theorem dX5_terms_5 : decode cX5_terms 5 = .ok (.iconst 4, 1) := by decide +kernel
theorem dX5_terms_6 : decode cX5_terms 6 = .ok (.if_icmp .ge 21, 3) := by decide +kernel
theorem dX5_terms_9 : decode cX5_terms 9 = .ok (.iload_n 1, 1) := by decide +kernel
theorem dX5_terms_10 : decode cX5_terms 10 = .ok (.aload_n 0, 1) := by decide +kernel
theorem dX5_terms_11 : decode cX5_terms 11 = .ok (.getfield 17, 3) := by decide +kernel
theorem dX5_terms_14 : decode cX5_terms 14 = .ok (.iload_n 2, 1) := by decide +kernel
theorem dX5_terms_15 : decode cX5_terms 15 = .ok (.aaload, 1) := by decide +kernel
theorem dX5_terms_16 : decode cX5_terms 16 = .ok (.invokevirtual 26, 3) := by decide +kernel
theorem dX5_terms_19 : decode cX5_terms 19 = .ok (.iadd, 1) := by decide +kernel
theorem dX5_terms_20 : decode cX5_terms 20 = .ok (.istore_n 1, 1) := by decide +kernel
theorem dX5_terms_21 : decode cX5_terms 21 = .ok (.iinc 2 1, 3) := by decide +kernel
theorem dX5_terms_24 : decode cX5_terms 24 = .ok (.goto (-20), 3) := by decide +kernel
theorem dX5_terms_27 : decode cX5_terms 27 = .ok (.iload_n 1, 1) := by decide +kernel
theorem dX5_terms_28 : decode cX5_terms 28 = .ok (.ireturn, 1) := by decide +kernel
theorem dX6_init_0 : decode cX6_init 0 = .ok (.aload_n 0, 1) := by decide +kernel
theorem dX6_init_1 : decode cX6_init 1 = .ok (.invokespecial 3, 3) := by decide +kernel
theorem dX6_init_4 : decode cX6_init 4 = .ok (.aload_n 0, 1) := by decide +kernel
theorem dX6_init_5 : decode cX6_init 5 = .ok (.iconst 0, 1) := by decide +kernel
theorem dX6_init_6 : decode cX6_init 6 = .ok (.putfield 9, 3) := by decide +kernel
theorem dX6_init_9 : decode cX6_init 9 = .ok (.aload_n 0, 1) := by decide +kernel
theorem dX6_init_10 : decode cX6_init 10 = .ok (.bipush 29, 2) := by decide +kernel
theorem dX6_init_12 : decode cX6_init 12 = .ok (.newarray .long, 2) := by decide +kernel
theorem dX6_init_14 : decode cX6_init 14 = .ok (.putfield 15, 3) := by decide +kernel
theorem dX6_init_17 : decode cX6_init 17 = .ok (.aload_n 0, 1) := by decide +kernel
theorem dX6_init_18 : decode cX6_init 18 = .ok (.bipush 29, 2) := by decide +kernel
theorem dX6_init_20 : decode cX6_init 20 = .ok (.newarray .long, 2) := by decide +kernel
theorem dX6_init_22 : decode cX6_init 22 = .ok (.putfield 19, 3) := by decide +kernel
theorem dX6_init_25 : decode cX6_init 25 = .ok (.aload_n 0, 1) := by decide +kernel
theorem dX6_init_26 : decode cX6_init 26 = .ok (.invokevirtual 22, 3) := by decide +kernel
theorem dX6_init_29 : decode cX6_init 29 = .ok (.return_, 1) := by decide +kernel
theorem dX6_empty_0 : decode cX6_empty 0 = .ok (.aload_n 0, 1) := by decide +kernel
theorem dX6_empty_1 : decode cX6_empty 1 = .ok (.iconst 0, 1) := by decide +kernel
theorem dX6_empty_2 : decode cX6_empty 2 = .ok (.putfield 9, 3) := by decide +kernel
theorem dX6_empty_5 : decode cX6_empty 5 = .ok (.iconst 0, 1) := by decide +kernel
theorem dX6_empty_6 : decode cX6_empty 6 = .ok (.istore_n 1, 1) := by decide +kernel
theorem dX6_empty_7 : decode cX6_empty 7 = .ok (.iload_n 1, 1) := by decide +kernel
theorem dX6_empty_8 : decode cX6_empty 8 = .ok (.bipush 29, 2) := by decide +kernel
theorem dX6_empty_10 : decode cX6_empty 10 = .ok (.if_icmp .ge 23, 3) := by decide +kernel
theorem dX6_empty_13 : decode cX6_empty 13 = .ok (.aload_n 0, 1) := by decide +kernel
theorem dX6_empty_14 : decode cX6_empty 14 = .ok (.getfield 15, 3) := by decide +kernel
theorem dX6_empty_17 : decode cX6_empty 17 = .ok (.iload_n 1, 1) := by decide +kernel
theorem dX6_empty_18 : decode cX6_empty 18 = .ok (.lconst 0, 1) := by decide +kernel
theorem dX6_empty_19 : decode cX6_empty 19 = .ok (.lastore, 1) := by decide +kernel
theorem dX6_empty_20 : decode cX6_empty 20 = .ok (.aload_n 0, 1) := by decide +kernel
theorem dX6_empty_21 : decode cX6_empty 21 = .ok (.getfield 19, 3) := by decide +kernel
theorem dX6_empty_24 : decode cX6_empty 24 = .ok (.iload_n 1, 1) := by decide +kernel
theorem dX6_empty_25 : decode cX6_empty 25 = .ok (.lconst 1, 1) := by decide +kernel
theorem dX6_empty_26 : decode cX6_empty 26 = .ok (.lastore, 1) := by decide +kernel
theorem dX6_empty_27 : decode cX6_empty 27 = .ok (.iinc 1 1, 3) := by decide +kernel
theorem dX6_empty_30 : decode cX6_empty 30 = .ok (.goto (-23), 3) := by decide +kernel
theorem dX6_empty_33 : decode cX6_empty 33 = .ok (.return_, 1) := by decide +kernel
theorem dX6_become_0 : decode cX6_become 0 = .ok (.aload_n 0, 1) := by decide +kernel
theorem dX6_become_1 : decode cX6_become 1 = .ok (.aload_n 1, 1) := by decide +kernel
theorem dX6_become_2 : decode cX6_become 2 = .ok (.getfield 9, 3) := by decide +kernel
theorem dX6_become_5 : decode cX6_become 5 = .ok (.putfield 9, 3) := by decide +kernel
theorem dX6_become_8 : decode cX6_become 8 = .ok (.iconst 0, 1) := by decide +kernel
theorem dX6_become_9 : decode cX6_become 9 = .ok (.istore_n 2, 1) := by decide +kernel
theorem dX6_become_10 : decode cX6_become 10 = .ok (.iload_n 2, 1) := by decide +kernel
theorem dX6_become_11 : decode cX6_become 11 = .ok (.bipush 29, 2) := by decide +kernel
theorem dX6_become_13 : decode cX6_become 13 = .ok (.if_icmp .ge 33, 3) := by decide +kernel
theorem dX6_become_16 : decode cX6_become 16 = .ok (.aload_n 0, 1) := by decide +kernel
theorem dX6_become_17 : decode cX6_become 17 = .ok (.getfield 15, 3) := by decide +kernel
theorem dX6_become_20 : decode cX6_become 20 = .ok (.iload_n 2, 1) := by decide +kernel
theorem dX6_become_21 : decode cX6_become 21 = .ok (.aload_n 1, 1) := by decide +kernel
theorem dX6_become_22 : decode cX6_become 22 = .ok (.getfield 15, 3) := by decide +kernel
theorem dX6_become_25 : decode cX6_become 25 = .ok (.iload_n 2, 1) := by decide +kernel
theorem dX6_become_26 : decode cX6_become 26 = .ok (.laload, 1) := by decide +kernel
theorem dX6_become_27 : decode cX6_become 27 = .ok (.lastore, 1) := by decide +kernel
theorem dX6_become_28 : decode cX6_become 28 = .ok (.aload_n 0, 1) := by decide +kernel
theorem dX6_become_29 : decode cX6_become 29 = .ok (.getfield 19, 3) := by decide +kernel
theorem dX6_become_32 : decode cX6_become 32 = .ok (.iload_n 2, 1) := by decide +kernel
theorem dX6_become_33 : decode cX6_become 33 = .ok (.aload_n 1, 1) := by decide +kernel
theorem dX6_become_34 : decode cX6_become 34 = .ok (.getfield 19, 3) := by decide +kernel
theorem dX6_become_37 : decode cX6_become 37 = .ok (.iload_n 2, 1) := by decide +kernel
theorem dX6_become_38 : decode cX6_become 38 = .ok (.laload, 1) := by decide +kernel
theorem dX6_become_39 : decode cX6_become 39 = .ok (.lastore, 1) := by decide +kernel
theorem dX6_become_40 : decode cX6_become 40 = .ok (.iinc 2 1, 3) := by decide +kernel
theorem dX6_become_43 : decode cX6_become 43 = .ok (.goto (-33), 3) := by decide +kernel
theorem dX6_become_46 : decode cX6_become 46 = .ok (.return_, 1) := by decide +kernel
theorem dX6_terms_0 : decode cX6_terms 0 = .ok (.iconst 0, 1) := by decide +kernel
theorem dX6_terms_1 : decode cX6_terms 1 = .ok (.istore_n 1, 1) := by decide +kernel
theorem dX6_terms_2 : decode cX6_terms 2 = .ok (.iconst 0, 1) := by decide +kernel
theorem dX6_terms_3 : decode cX6_terms 3 = .ok (.istore_n 2, 1) := by decide +kernel
theorem dX6_terms_4 : decode cX6_terms 4 = .ok (.iload_n 2, 1) := by decide +kernel
theorem dX6_terms_5 : decode cX6_terms 5 = .ok (.bipush 29, 2) := by decide +kernel
theorem dX6_terms_7 : decode cX6_terms 7 = .ok (.if_icmp .ge 23, 3) := by decide +kernel
theorem dX6_terms_10 : decode cX6_terms 10 = .ok (.aload_n 0, 1) := by decide +kernel
theorem dX6_terms_11 : decode cX6_terms 11 = .ok (.getfield 15, 3) := by decide +kernel
theorem dX6_terms_14 : decode cX6_terms 14 = .ok (.iload_n 2, 1) := by decide +kernel
theorem dX6_terms_15 : decode cX6_terms 15 = .ok (.laload, 1) := by decide +kernel
theorem dX6_terms_16 : decode cX6_terms 16 = .ok (.lconst 0, 1) := by decide +kernel
theorem dX6_terms_17 : decode cX6_terms 17 = .ok (.lcmp, 1) := by decide +kernel
theorem dX6_terms_18 : decode cX6_terms 18 = .ok (.ifCond .eq 6, 3) := by decide +kernel
theorem dX6_terms_21 : decode cX6_terms 21 = .ok (.iinc 1 1, 3) := by decide +kernel
theorem dX6_terms_24 : decode cX6_terms 24 = .ok (.iinc 2 1, 3) := by decide +kernel
theorem dX6_terms_27 : decode cX6_terms 27 = .ok (.goto (-23), 3) := by decide +kernel
theorem dX6_terms_30 : decode cX6_terms 30 = .ok (.iload_n 1, 1) := by decide +kernel
theorem dX6_terms_31 : decode cX6_terms 31 = .ok (.ireturn, 1) := by decide +kernel
theorem dX6_numberOfTerm_0 : decode cX6_numberOfTerm 0 = .ok (.iconst 0, 1) := by decide +kernel
theorem dX6_numberOfTerm_1 : decode cX6_numberOfTerm 1 = .ok (.istore_n 2, 1) := by decide +kernel
theorem dX6_numberOfTerm_2 : decode cX6_numberOfTerm 2 = .ok (.iconst 0, 1) := by decide +kernel
theorem dX6_numberOfTerm_3 : decode cX6_numberOfTerm 3 = .ok (.istore_n 3, 1) := by decide +kernel
theorem dX6_numberOfTerm_4 : decode cX6_numberOfTerm 4 = .ok (.iload_n 3, 1) := by decide +kernel
theorem dX6_numberOfTerm_5 : decode cX6_numberOfTerm 5 = .ok (.bipush 29, 2) := by decide +kernel
theorem dX6_numberOfTerm_7 : decode cX6_numberOfTerm 7 = .ok (.if_icmp .ge 30, 3) := by decide +kernel
theorem dX6_numberOfTerm_10 : decode cX6_numberOfTerm 10 = .ok (.aload_n 0, 1) := by decide +kernel
theorem dX6_numberOfTerm_11 : decode cX6_numberOfTerm 11 = .ok (.getfield 15, 3) := by decide +kernel
theorem dX6_numberOfTerm_14 : decode cX6_numberOfTerm 14 = .ok (.iload_n 3, 1) := by decide +kernel
theorem dX6_numberOfTerm_15 : decode cX6_numberOfTerm 15 = .ok (.laload, 1) := by decide +kernel
theorem dX6_numberOfTerm_16 : decode cX6_numberOfTerm 16 = .ok (.lconst 0, 1) := by decide +kernel
theorem dX6_numberOfTerm_17 : decode cX6_numberOfTerm 17 = .ok (.lcmp, 1) := by decide +kernel
theorem dX6_numberOfTerm_18 : decode cX6_numberOfTerm 18 = .ok (.ifCond .eq 13, 3) := by decide +kernel
theorem dX6_numberOfTerm_21 : decode cX6_numberOfTerm 21 = .ok (.iload_n 2, 1) := by decide +kernel
theorem dX6_numberOfTerm_22 : decode cX6_numberOfTerm 22 = .ok (.iload_n 1, 1) := by decide +kernel
theorem dX6_numberOfTerm_23 : decode cX6_numberOfTerm 23 = .ok (.if_icmp .ne 5, 3) := by decide +kernel
theorem dX6_numberOfTerm_26 : decode cX6_numberOfTerm 26 = .ok (.iload_n 3, 1) := by decide +kernel
theorem dX6_numberOfTerm_27 : decode cX6_numberOfTerm 27 = .ok (.ireturn, 1) := by decide +kernel
theorem dX6_numberOfTerm_28 : decode cX6_numberOfTerm 28 = .ok (.iinc 2 1, 3) := by decide +kernel
theorem dX6_numberOfTerm_31 : decode cX6_numberOfTerm 31 = .ok (.iinc 3 1, 3) := by decide +kernel
