theorem dX6_numberOfTerm_34 : decode cX6_numberOfTerm 34 = .ok (.goto (-30), 3) := by decide +kernel
theorem dX6_numberOfTerm_37 : decode cX6_numberOfTerm 37 = .ok (.iconst (-1), 1) := by decide +kernel
theorem dX6_numberOfTerm_38 : decode cX6_numberOfTerm 38 = .ok (.ireturn, 1) := by decide +kernel
theorem dX6_take_0 : decode cX6_take 0 = .ok (.iload_n 1, 1) := by decide +kernel
theorem dX6_take_1 : decode cX6_take 1 = .ok (.ifCond .lt 29, 3) := by decide +kernel
theorem dX6_take_4 : decode cX6_take 4 = .ok (.iload_n 1, 1) := by decide +kernel
theorem dX6_take_5 : decode cX6_take 5 = .ok (.bipush 29, 2) := by decide +kernel
theorem dX6_take_7 : decode cX6_take 7 = .ok (.if_icmp .ge 23, 3) := by decide +kernel
theorem dX6_take_10 : decode cX6_take 10 = .ok (.aload_n 0, 1) := by decide +kernel
theorem dX6_take_11 : decode cX6_take 11 = .ok (.getfield 15, 3) := by decide +kernel
theorem dX6_take_14 : decode cX6_take 14 = .ok (.iload_n 1, 1) := by decide +kernel
theorem dX6_take_15 : decode cX6_take 15 = .ok (.aload_n 2, 1) := by decide +kernel
theorem dX6_take_16 : decode cX6_take 16 = .ok (.getfield 25, 3) := by decide +kernel
theorem dX6_take_19 : decode cX6_take 19 = .ok (.lastore, 1) := by decide +kernel
theorem dX6_take_20 : decode cX6_take 20 = .ok (.aload_n 0, 1) := by decide +kernel
theorem dX6_take_21 : decode cX6_take 21 = .ok (.getfield 19, 3) := by decide +kernel
theorem dX6_take_24 : decode cX6_take 24 = .ok (.iload_n 1, 1) := by decide +kernel
theorem dX6_take_25 : decode cX6_take 25 = .ok (.aload_n 2, 1) := by decide +kernel
theorem dX6_take_26 : decode cX6_take 26 = .ok (.getfield 30, 3) := by decide +kernel
theorem dX6_take_29 : decode cX6_take 29 = .ok (.lastore, 1) := by decide +kernel
theorem dX6_take_30 : decode cX6_take 30 = .ok (.return_, 1) := by decide +kernel
theorem dX6_add_0 : decode cX6_add 0 = .ok (.iload_n 1, 1) := by decide +kernel
theorem dX6_add_1 : decode cX6_add 1 = .ok (.ifCond .lt 9, 3) := by decide +kernel
theorem dX6_add_4 : decode cX6_add 4 = .ok (.iload_n 1, 1) := by decide +kernel
theorem dX6_add_5 : decode cX6_add 5 = .ok (.bipush 29, 2) := by decide +kernel
theorem dX6_add_7 : decode cX6_add 7 = .ok (.if_icmp .lt 5, 3) := by decide +kernel
theorem dX6_add_10 : decode cX6_add 10 = .ok (.iconst 0, 1) := by decide +kernel
theorem dX6_add_11 : decode cX6_add 11 = .ok (.ireturn, 1) := by decide +kernel
theorem dX6_add_12 : decode cX6_add 12 = .ok (.aload_n 0, 1) := by decide +kernel
theorem dX6_add_13 : decode cX6_add 13 = .ok (.getfield 19, 3) := by decide +kernel
theorem dX6_add_16 : decode cX6_add 16 = .ok (.iload_n 1, 1) := by decide +kernel
theorem dX6_add_17 : decode cX6_add 17 = .ok (.laload, 1) := by decide +kernel
theorem dX6_add_18 : decode cX6_add 18 = .ok (.aload_n 2, 1) := by decide +kernel
theorem dX6_add_19 : decode cX6_add 19 = .ok (.getfield 30, 3) := by decide +kernel
theorem dX6_add_22 : decode cX6_add 22 = .ok (.invokestatic 32, 3) := by decide +kernel
theorem dX6_add_25 : decode cX6_add 25 = .ok (.lstore_n 3, 1) := by decide +kernel
theorem dX6_add_26 : decode cX6_add 26 = .ok (.aload_n 2, 1) := by decide +kernel
theorem dX6_add_27 : decode cX6_add 27 = .ok (.getfield 30, 3) := by decide +kernel
theorem dX6_add_30 : decode cX6_add 30 = .ok (.lload_n 3, 1) := by decide +kernel
theorem dX6_add_31 : decode cX6_add 31 = .ok (.ldiv, 1) := by decide +kernel
theorem dX6_add_32 : decode cX6_add 32 = .ok (.lstore 5, 2) := by decide +kernel
theorem dX6_add_34 : decode cX6_add 34 = .ok (.aload_n 0, 1) := by decide +kernel
theorem dX6_add_35 : decode cX6_add 35 = .ok (.getfield 19, 3) := by decide +kernel
theorem dX6_add_38 : decode cX6_add 38 = .ok (.iload_n 1, 1) := by decide +kernel
theorem dX6_add_39 : decode cX6_add 39 = .ok (.laload, 1) := by decide +kernel
theorem dX6_add_40 : decode cX6_add 40 = .ok (.lload_n 3, 1) := by decide +kernel
theorem dX6_add_41 : decode cX6_add 41 = .ok (.ldiv, 1) := by decide +kernel
theorem dX6_add_42 : decode cX6_add 42 = .ok (.lstore 7, 2) := by decide +kernel
theorem dX6_add_44 : decode cX6_add 44 = .ok (.aload_n 0, 1) := by decide +kernel
theorem dX6_add_45 : decode cX6_add 45 = .ok (.getfield 15, 3) := by decide +kernel
theorem dX6_add_48 : decode cX6_add 48 = .ok (.iload_n 1, 1) := by decide +kernel
theorem dX6_add_49 : decode cX6_add 49 = .ok (.laload, 1) := by decide +kernel
theorem dX6_add_50 : decode cX6_add 50 = .ok (.lload 5, 2) := by decide +kernel
theorem dX6_add_52 : decode cX6_add 52 = .ok (.invokestatic 36, 3) := by decide +kernel
theorem dX6_add_55 : decode cX6_add 55 = .ok (.ifCond .ne 29, 3) := by decide +kernel
theorem dX6_add_58 : decode cX6_add 58 = .ok (.aload_n 2, 1) := by decide +kernel
theorem dX6_add_59 : decode cX6_add 59 = .ok (.getfield 25, 3) := by decide +kernel
theorem dX6_add_62 : decode cX6_add 62 = .ok (.lload 7, 2) := by decide +kernel
theorem dX6_add_64 : decode cX6_add 64 = .ok (.invokestatic 36, 3) := by decide +kernel
theorem dX6_add_67 : decode cX6_add 67 = .ok (.ifCond .ne 17, 3) := by decide +kernel
theorem dX6_add_70 : decode cX6_add 70 = .ok (.aload_n 0, 1) := by decide +kernel
theorem dX6_add_71 : decode cX6_add 71 = .ok (.getfield 19, 3) := by decide +kernel
theorem dX6_add_74 : decode cX6_add 74 = .ok (.iload_n 1, 1) := by decide +kernel
theorem dX6_add_75 : decode cX6_add 75 = .ok (.laload, 1) := by decide +kernel
theorem dX6_add_76 : decode cX6_add 76 = .ok (.lload 5, 2) := by decide +kernel
theorem dX6_add_78 : decode cX6_add 78 = .ok (.invokestatic 36, 3) := by decide +kernel
theorem dX6_add_81 : decode cX6_add 81 = .ok (.ifCond .eq 5, 3) := by decide +kernel
theorem dX6_add_84 : decode cX6_add 84 = .ok (.iconst 0, 1) := by decide +kernel
theorem dX6_add_85 : decode cX6_add 85 = .ok (.ireturn, 1) := by decide +kernel
theorem dX6_add_86 : decode cX6_add 86 = .ok (.aload_n 0, 1) := by decide +kernel
theorem dX6_add_87 : decode cX6_add 87 = .ok (.getfield 15, 3) := by decide +kernel
theorem dX6_add_90 : decode cX6_add 90 = .ok (.iload_n 1, 1) := by decide +kernel
theorem dX6_add_91 : decode cX6_add 91 = .ok (.laload, 1) := by decide +kernel
theorem dX6_add_92 : decode cX6_add 92 = .ok (.lload 5, 2) := by decide +kernel
theorem dX6_add_94 : decode cX6_add 94 = .ok (.lmul, 1) := by decide +kernel
theorem dX6_add_95 : decode cX6_add 95 = .ok (.lstore 9, 2) := by decide +kernel
theorem dX6_add_97 : decode cX6_add 97 = .ok (.aload_n 2, 1) := by decide +kernel
theorem dX6_add_98 : decode cX6_add 98 = .ok (.getfield 25, 3) := by decide +kernel
theorem dX6_add_101 : decode cX6_add 101 = .ok (.lload 7, 2) := by decide +kernel
theorem dX6_add_103 : decode cX6_add 103 = .ok (.lmul, 1) := by decide +kernel
theorem dX6_add_104 : decode cX6_add 104 = .ok (.lstore 11, 2) := by decide +kernel
theorem dX6_add_106 : decode cX6_add 106 = .ok (.lload 9, 2) := by decide +kernel
theorem dX6_add_108 : decode cX6_add 108 = .ok (.lload 11, 2) := by decide +kernel
theorem dX6_add_110 : decode cX6_add 110 = .ok (.ladd, 1) := by decide +kernel
theorem dX6_add_111 : decode cX6_add 111 = .ok (.lstore 13, 2) := by decide +kernel
theorem dX6_add_113 : decode cX6_add 113 = .ok (.lload 9, 2) := by decide +kernel
theorem dX6_add_115 : decode cX6_add 115 = .ok (.lload 13, 2) := by decide +kernel
theorem dX6_add_117 : decode cX6_add 117 = .ok (.lxor, 1) := by decide +kernel
theorem dX6_add_118 : decode cX6_add 118 = .ok (.lload 11, 2) := by decide +kernel
theorem dX6_add_120 : decode cX6_add 120 = .ok (.lload 13, 2) := by decide +kernel
theorem dX6_add_122 : decode cX6_add 122 = .ok (.lxor, 1) := by decide +kernel
theorem dX6_add_123 : decode cX6_add 123 = .ok (.land, 1) := by decide +kernel
theorem dX6_add_124 : decode cX6_add 124 = .ok (.lconst 0, 1) := by decide +kernel
theorem dX6_add_125 : decode cX6_add 125 = .ok (.lcmp, 1) := by decide +kernel
theorem dX6_add_126 : decode cX6_add 126 = .ok (.ifCond .ge 5, 3) := by decide +kernel
theorem dX6_add_129 : decode cX6_add 129 = .ok (.iconst 0, 1) := by decide +kernel
theorem dX6_add_130 : decode cX6_add 130 = .ok (.ireturn, 1) := by decide +kernel
theorem dX6_add_131 : decode cX6_add 131 = .ok (.aload_n 0, 1) := by decide +kernel
theorem dX6_add_132 : decode cX6_add 132 = .ok (.getfield 19, 3) := by decide +kernel
theorem dX6_add_135 : decode cX6_add 135 = .ok (.iload_n 1, 1) := by decide +kernel
theorem dX6_add_136 : decode cX6_add 136 = .ok (.laload, 1) := by decide +kernel
theorem dX6_add_137 : decode cX6_add 137 = .ok (.lload 5, 2) := by decide +kernel
theorem dX6_add_139 : decode cX6_add 139 = .ok (.lmul, 1) := by decide +kernel
theorem dX6_add_140 : decode cX6_add 140 = .ok (.lstore 15, 2) := by decide +kernel
theorem dX6_add_142 : decode cX6_add 142 = .ok (.lload 13, 2) := by decide +kernel
theorem dX6_add_144 : decode cX6_add 144 = .ok (.lload 15, 2) := by decide +kernel
theorem dX6_add_146 : decode cX6_add 146 = .ok (.invokestatic 32, 3) := by decide +kernel
theorem dX6_add_149 : decode cX6_add 149 = .ok (.lstore_n 3, 1) := by decide +kernel
theorem dX6_add_150 : decode cX6_add 150 = .ok (.aload_n 0, 1) := by decide +kernel
theorem dX6_add_151 : decode cX6_add 151 = .ok (.getfield 15, 3) := by decide +kernel
theorem dX6_add_154 : decode cX6_add 154 = .ok (.iload_n 1, 1) := by decide +kernel
theorem dX6_add_155 : decode cX6_add 155 = .ok (.lload 13, 2) := by decide +kernel
theorem dX6_add_157 : decode cX6_add 157 = .ok (.lload_n 3, 1) := by decide +kernel
theorem dX6_add_158 : decode cX6_add 158 = .ok (.ldiv, 1) := by decide +kernel
theorem dX6_add_159 : decode cX6_add 159 = .ok (.lastore, 1) := by decide +kernel
theorem dX6_add_160 : decode cX6_add 160 = .ok (.aload_n 0, 1) := by decide +kernel
theorem dX6_add_161 : decode cX6_add 161 = .ok (.getfield 19, 3) := by decide +kernel
theorem dX6_add_164 : decode cX6_add 164 = .ok (.iload_n 1, 1) := by decide +kernel
theorem dX6_add_165 : decode cX6_add 165 = .ok (.lload 15, 2) := by decide +kernel
theorem dX6_add_167 : decode cX6_add 167 = .ok (.lload_n 3, 1) := by decide +kernel
theorem dX6_add_168 : decode cX6_add 168 = .ok (.ldiv, 1) := by decide +kernel
theorem dX6_add_169 : decode cX6_add 169 = .ok (.lastore, 1) := by decide +kernel
theorem dX6_add_170 : decode cX6_add 170 = .ok (.iconst 1, 1) := by decide +kernel
theorem dX6_add_171 : decode cX6_add 171 = .ok (.ireturn, 1) := by decide +kernel
theorem dX6_settle_0 : decode cX6_settle 0 = .ok (.aload_n 0, 1) := by decide +kernel
theorem dX6_settle_1 : decode cX6_settle 1 = .ok (.aload_n 0, 1) := by decide +kernel
theorem dX6_settle_2 : decode cX6_settle 2 = .ok (.invokevirtual 40, 3) := by decide +kernel
theorem dX6_settle_5 : decode cX6_settle 5 = .ok (.ifCond .ne 7, 3) := by decide +kernel
theorem dX6_settle_8 : decode cX6_settle 8 = .ok (.iconst 0, 1) := by decide +kernel
theorem dX6_settle_9 : decode cX6_settle 9 = .ok (.goto 4, 3) := by decide +kernel
theorem dX6_settle_12 : decode cX6_settle 12 = .ok (.iload_n 1, 1) := by decide +kernel
theorem dX6_settle_13 : decode cX6_settle 13 = .ok (.putfield 9, 3) := by decide +kernel
theorem dX6_settle_16 : decode cX6_settle 16 = .ok (.return_, 1) := by decide +kernel
theorem dX6_extremeOf_0 : decode cX6_extremeOf 0 = .ok (.iload_n 1, 1) := by decide +kernel
theorem dX6_extremeOf_1 : decode cX6_extremeOf 1 = .ok (.istore 4, 2) := by decide +kernel
theorem dX6_extremeOf_3 : decode cX6_extremeOf 3 = .ok (.iload_n 1, 1) := by decide +kernel
theorem dX6_extremeOf_4 : decode cX6_extremeOf 4 = .ok (.iconst 1, 1) := by decide +kernel
theorem dX6_extremeOf_5 : decode cX6_extremeOf 5 = .ok (.iadd, 1) := by decide +kernel
theorem dX6_extremeOf_6 : decode cX6_extremeOf 6 = .ok (.istore 5, 2) := by decide +kernel
theorem dX6_extremeOf_8 : decode cX6_extremeOf 8 = .ok (.iload 5, 2) := by decide +kernel
theorem dX6_extremeOf_10 : decode cX6_extremeOf 10 = .ok (.iload_n 2, 1) := by decide +kernel
theorem dX6_extremeOf_11 : decode cX6_extremeOf 11 = .ok (.if_icmp .ge 96, 3) := by decide +kernel
theorem dX6_extremeOf_14 : decode cX6_extremeOf 14 = .ok (.aload_n 0, 1) := by decide +kernel
theorem dX6_extremeOf_15 : decode cX6_extremeOf 15 = .ok (.getfield 15, 3) := by decide +kernel
theorem dX6_extremeOf_18 : decode cX6_extremeOf 18 = .ok (.iload 5, 2) := by decide +kernel
theorem dX6_extremeOf_20 : decode cX6_extremeOf 20 = .ok (.laload, 1) := by decide +kernel
theorem dX6_extremeOf_21 : decode cX6_extremeOf 21 = .ok (.aload_n 0, 1) := by decide +kernel
theorem dX6_extremeOf_22 : decode cX6_extremeOf 22 = .ok (.getfield 19, 3) := by decide +kernel
theorem dX6_extremeOf_25 : decode cX6_extremeOf 25 = .ok (.iload 5, 2) := by decide +kernel
theorem dX6_extremeOf_27 : decode cX6_extremeOf 27 = .ok (.laload, 1) := by decide +kernel
theorem dX6_extremeOf_28 : decode cX6_extremeOf 28 = .ok (.aload_n 0, 1) := by decide +kernel
theorem dX6_extremeOf_29 : decode cX6_extremeOf 29 = .ok (.getfield 15, 3) := by decide +kernel
theorem dX6_extremeOf_32 : decode cX6_extremeOf 32 = .ok (.iload 4, 2) := by decide +kernel
theorem dX6_extremeOf_34 : decode cX6_extremeOf 34 = .ok (.laload, 1) := by decide +kernel
theorem dX6_extremeOf_35 : decode cX6_extremeOf 35 = .ok (.aload_n 0, 1) := by decide +kernel
theorem dX6_extremeOf_36 : decode cX6_extremeOf 36 = .ok (.getfield 19, 3) := by decide +kernel
theorem dX6_extremeOf_39 : decode cX6_extremeOf 39 = .ok (.iload 4, 2) := by decide +kernel
theorem dX6_extremeOf_41 : decode cX6_extremeOf 41 = .ok (.laload, 1) := by decide +kernel
theorem dX6_extremeOf_42 : decode cX6_extremeOf 42 = .ok (.invokestatic 44, 3) := by decide +kernel
theorem dX6_extremeOf_45 : decode cX6_extremeOf 45 = .ok (.istore 6, 2) := by decide +kernel
theorem dX6_extremeOf_47 : decode cX6_extremeOf 47 = .ok (.aload_n 0, 1) := by decide +kernel
theorem dX6_extremeOf_48 : decode cX6_extremeOf 48 = .ok (.getfield 15, 3) := by decide +kernel
theorem dX6_extremeOf_51 : decode cX6_extremeOf 51 = .ok (.iload 4, 2) := by decide +kernel
theorem dX6_extremeOf_53 : decode cX6_extremeOf 53 = .ok (.laload, 1) := by decide +kernel
theorem dX6_extremeOf_54 : decode cX6_extremeOf 54 = .ok (.aload_n 0, 1) := by decide +kernel
theorem dX6_extremeOf_55 : decode cX6_extremeOf 55 = .ok (.getfield 19, 3) := by decide +kernel
theorem dX6_extremeOf_58 : decode cX6_extremeOf 58 = .ok (.iload 4, 2) := by decide +kernel
theorem dX6_extremeOf_60 : decode cX6_extremeOf 60 = .ok (.laload, 1) := by decide +kernel
theorem dX6_extremeOf_61 : decode cX6_extremeOf 61 = .ok (.aload_n 0, 1) := by decide +kernel
theorem dX6_extremeOf_62 : decode cX6_extremeOf 62 = .ok (.getfield 15, 3) := by decide +kernel
theorem dX6_extremeOf_65 : decode cX6_extremeOf 65 = .ok (.iload 5, 2) := by decide +kernel
theorem dX6_extremeOf_67 : decode cX6_extremeOf 67 = .ok (.laload, 1) := by decide +kernel
theorem dX6_extremeOf_68 : decode cX6_extremeOf 68 = .ok (.aload_n 0, 1) := by decide +kernel
theorem dX6_extremeOf_69 : decode cX6_extremeOf 69 = .ok (.getfield 19, 3) := by decide +kernel
theorem dX6_extremeOf_72 : decode cX6_extremeOf 72 = .ok (.iload 5, 2) := by decide +kernel
theorem dX6_extremeOf_74 : decode cX6_extremeOf 74 = .ok (.laload, 1) := by decide +kernel
theorem dX6_extremeOf_75 : decode cX6_extremeOf 75 = .ok (.invokestatic 44, 3) := by decide +kernel
theorem dX6_extremeOf_78 : decode cX6_extremeOf 78 = .ok (.istore 7, 2) := by decide +kernel
theorem dX6_extremeOf_80 : decode cX6_extremeOf 80 = .ok (.iload_n 3, 1) := by decide +kernel
theorem dX6_extremeOf_81 : decode cX6_extremeOf 81 = .ok (.ifCond .eq 11, 3) := by decide +kernel
theorem dX6_extremeOf_84 : decode cX6_extremeOf 84 = .ok (.iload 7, 2) := by decide +kernel
theorem dX6_extremeOf_86 : decode cX6_extremeOf 86 = .ok (.ifCond .eq 15, 3) := by decide +kernel
theorem dX6_extremeOf_89 : decode cX6_extremeOf 89 = .ok (.goto 8, 3) := by decide +kernel
theorem dX6_extremeOf_92 : decode cX6_extremeOf 92 = .ok (.iload 6, 2) := by decide +kernel
theorem dX6_extremeOf_94 : decode cX6_extremeOf 94 = .ok (.ifCond .eq 7, 3) := by decide +kernel
theorem dX6_extremeOf_97 : decode cX6_extremeOf 97 = .ok (.iload 5, 2) := by decide +kernel
theorem dX6_extremeOf_99 : decode cX6_extremeOf 99 = .ok (.istore 4, 2) := by decide +kernel
theorem dX6_extremeOf_101 : decode cX6_extremeOf 101 = .ok (.iinc 5 1, 3) := by decide +kernel
theorem dX6_extremeOf_104 : decode cX6_extremeOf 104 = .ok (.goto (-96), 3) := by decide +kernel
theorem dX6_extremeOf_107 : decode cX6_extremeOf 107 = .ok (.iload 4, 2) := by decide +kernel
theorem dX6_extremeOf_109 : decode cX6_extremeOf 109 = .ok (.ireturn, 1) := by decide +kernel
theorem dX7_init_0 : decode cX7_init 0 = .ok (.aload_n 0, 1) := by decide +kernel
theorem dX7_init_1 : decode cX7_init 1 = .ok (.invokespecial 3, 3) := by decide +kernel
theorem dX7_init_4 : decode cX7_init 4 = .ok (.aload_n 0, 1) := by decide +kernel
theorem dX7_init_5 : decode cX7_init 5 = .ok (.bipush 60, 2) := by decide +kernel
theorem dX7_init_7 : decode cX7_init 7 = .ok (.newarray .int, 2) := by decide +kernel
theorem dX7_init_9 : decode cX7_init 9 = .ok (.putfield 9, 3) := by decide +kernel
theorem dX7_init_12 : decode cX7_init 12 = .ok (.aload_n 0, 1) := by decide +kernel
theorem dX7_init_13 : decode cX7_init 13 = .ok (.iconst 0, 1) := by decide +kernel
theorem dX7_init_14 : decode cX7_init 14 = .ok (.putfield 15, 3) := by decide +kernel
theorem dX7_init_17 : decode cX7_init 17 = .ok (.aload_n 0, 1) := by decide +kernel
theorem dX7_init_18 : decode cX7_init 18 = .ok (.iconst 0, 1) := by decide +kernel
theorem dX7_init_19 : decode cX7_init 19 = .ok (.putfield 19, 3) := by decide +kernel
theorem dX7_init_22 : decode cX7_init 22 = .ok (.aload_n 0, 1) := by decide +kernel
theorem dX7_init_23 : decode cX7_init 23 = .ok (.bipush 60, 2) := by decide +kernel
theorem dX7_init_25 : decode cX7_init 25 = .ok (.newarray .int, 2) := by decide +kernel
theorem dX7_init_27 : decode cX7_init 27 = .ok (.putfield 22, 3) := by decide +kernel
theorem dX7_init_30 : decode cX7_init 30 = .ok (.aload_n 0, 1) := by decide +kernel
theorem dX7_init_31 : decode cX7_init 31 = .ok (.bipush 60, 2) := by decide +kernel
theorem dX7_init_33 : decode cX7_init 33 = .ok (.newarray .int, 2) := by decide +kernel
theorem dX7_init_35 : decode cX7_init 35 = .ok (.putfield 25, 3) := by decide +kernel
theorem dX7_init_38 : decode cX7_init 38 = .ok (.aload_n 0, 1) := by decide +kernel
theorem dX7_init_39 : decode cX7_init 39 = .ok (.bipush 60, 2) := by decide +kernel
theorem dX7_init_41 : decode cX7_init 41 = .ok (.newarray .int, 2) := by decide +kernel
theorem dX7_init_43 : decode cX7_init 43 = .ok (.putfield 28, 3) := by decide +kernel
theorem dX7_init_46 : decode cX7_init 46 = .ok (.aload_n 0, 1) := by decide +kernel
theorem dX7_init_47 : decode cX7_init 47 = .ok (.bipush 60, 2) := by decide +kernel
theorem dX7_init_49 : decode cX7_init 49 = .ok (.newarray .int, 2) := by decide +kernel
theorem dX7_init_51 : decode cX7_init 51 = .ok (.putfield 31, 3) := by decide +kernel
theorem dX7_init_54 : decode cX7_init 54 = .ok (.aload_n 0, 1) := by decide +kernel
theorem dX7_init_55 : decode cX7_init 55 = .ok (.iconst 0, 1) := by decide +kernel
theorem dX7_init_56 : decode cX7_init 56 = .ok (.putfield 34, 3) := by decide +kernel
theorem dX7_init_59 : decode cX7_init 59 = .ok (.aload_n 0, 1) := by decide +kernel
theorem dX7_init_60 : decode cX7_init 60 = .ok (.iconst 0, 1) := by decide +kernel
theorem dX7_init_61 : decode cX7_init 61 = .ok (.putfield 37, 3) := by decide +kernel
theorem dX7_init_64 : decode cX7_init 64 = .ok (.aload_n 0, 1) := by decide +kernel
theorem dX7_init_65 : decode cX7_init 65 = .ok (.iconst 4, 1) := by decide +kernel
theorem dX7_init_66 : decode cX7_init 66 = .ok (.newarray .int, 2) := by decide +kernel
theorem dX7_init_68 : decode cX7_init 68 = .ok (.putfield 40, 3) := by decide +kernel
theorem dX7_init_71 : decode cX7_init 71 = .ok (.aload_n 0, 1) := by decide +kernel
theorem dX7_init_72 : decode cX7_init 72 = .ok (.iconst 4, 1) := by decide +kernel
theorem dX7_init_73 : decode cX7_init 73 = .ok (.newarray .int, 2) := by decide +kernel
theorem dX7_init_75 : decode cX7_init 75 = .ok (.putfield 43, 3) := by decide +kernel
theorem dX7_init_78 : decode cX7_init 78 = .ok (.aload_n 0, 1) := by decide +kernel
theorem dX7_init_79 : decode cX7_init 79 = .ok (.iconst 4, 1) := by decide +kernel
theorem dX7_init_80 : decode cX7_init 80 = .ok (.newarray .int, 2) := by decide +kernel
theorem dX7_init_82 : decode cX7_init 82 = .ok (.putfield 46, 3) := by decide +kernel
theorem dX7_init_85 : decode cX7_init 85 = .ok (.aload_n 0, 1) := by decide +kernel
theorem dX7_init_86 : decode cX7_init 86 = .ok (.aload_n 1, 1) := by decide +kernel
theorem dX7_init_87 : decode cX7_init 87 = .ok (.putfield 49, 3) := by decide +kernel
theorem dX7_init_90 : decode cX7_init 90 = .ok (.aload_n 0, 1) := by decide +kernel
theorem dX7_init_91 : decode cX7_init 91 = .ok (.aload_n 2, 1) := by decide +kernel
theorem dX7_init_92 : decode cX7_init 92 = .ok (.putfield 53, 3) := by decide +kernel
theorem dX7_init_95 : decode cX7_init 95 = .ok (.return_, 1) := by decide +kernel
theorem dX7_takeApart_0 : decode cX7_takeApart 0 = .ok (.aload_n 0, 1) := by decide +kernel
theorem dX7_takeApart_1 : decode cX7_takeApart 1 = .ok (.invokevirtual 56, 3) := by decide +kernel
theorem dX7_takeApart_4 : decode cX7_takeApart 4 = .ok (.istore_n 1, 1) := by decide +kernel
theorem dX7_takeApart_5 : decode cX7_takeApart 5 = .ok (.iload_n 1, 1) := by decide +kernel
theorem dX7_takeApart_6 : decode cX7_takeApart 6 = .ok (.iconst (-1), 1) := by decide +kernel
theorem dX7_takeApart_7 : decode cX7_takeApart 7 = .ok (.if_icmp .eq 9, 3) := by decide +kernel
theorem dX7_takeApart_10 : decode cX7_takeApart 10 = .ok (.iconst 1, 1) := by decide +kernel
theorem dX7_takeApart_11 : decode cX7_takeApart 11 = .ok (.iload_n 1, 1) := by decide +kernel
theorem dX7_takeApart_12 : decode cX7_takeApart 12 = .ok (.invokestatic 60, 3) := by decide +kernel
theorem dX7_takeApart_15 : decode cX7_takeApart 15 = .ok (.ireturn, 1) := by decide +kernel
theorem dX7_takeApart_16 : decode cX7_takeApart 16 = .ok (.iconst 0, 1) := by decide +kernel
theorem dX7_takeApart_17 : decode cX7_takeApart 17 = .ok (.istore_n 2, 1) := by decide +kernel
theorem dX7_takeApart_18 : decode cX7_takeApart 18 = .ok (.iload_n 2, 1) := by decide +kernel
theorem dX7_takeApart_19 : decode cX7_takeApart 19 = .ok (.aload_n 0, 1) := by decide +kernel
theorem dX7_takeApart_20 : decode cX7_takeApart 20 = .ok (.getfield 19, 3) := by decide +kernel
theorem dX7_takeApart_23 : decode cX7_takeApart 23 = .ok (.if_icmp .ge 52, 3) := by decide +kernel
theorem dX7_takeApart_26 : decode cX7_takeApart 26 = .ok (.aload_n 0, 1) := by decide +kernel
theorem dX7_takeApart_27 : decode cX7_takeApart 27 = .ok (.getfield 22, 3) := by decide +kernel
theorem dX7_takeApart_30 : decode cX7_takeApart 30 = .ok (.iload_n 2, 1) := by decide +kernel
theorem dX7_takeApart_31 : decode cX7_takeApart 31 = .ok (.iaload, 1) := by decide +kernel
theorem dX7_takeApart_32 : decode cX7_takeApart 32 = .ok (.bipush 91, 2) := by decide +kernel
theorem dX7_takeApart_34 : decode cX7_takeApart 34 = .ok (.if_icmp .eq 14, 3) := by decide +kernel
theorem dX7_takeApart_37 : decode cX7_takeApart 37 = .ok (.aload_n 0, 1) := by decide +kernel
theorem dX7_takeApart_38 : decode cX7_takeApart 38 = .ok (.getfield 22, 3) := by decide +kernel
theorem dX7_takeApart_41 : decode cX7_takeApart 41 = .ok (.iload_n 2, 1) := by decide +kernel
theorem dX7_takeApart_42 : decode cX7_takeApart 42 = .ok (.iaload, 1) := by decide +kernel
theorem dX7_takeApart_43 : decode cX7_takeApart 43 = .ok (.bipush 60, 2) := by decide +kernel
theorem dX7_takeApart_45 : decode cX7_takeApart 45 = .ok (.if_icmp .ne 24, 3) := by decide +kernel
theorem dX7_takeApart_48 : decode cX7_takeApart 48 = .ok (.aload_n 0, 1) := by decide +kernel
theorem dX7_takeApart_49 : decode cX7_takeApart 49 = .ok (.getfield 28, 3) := by decide +kernel
theorem dX7_takeApart_52 : decode cX7_takeApart 52 = .ok (.iload_n 2, 1) := by decide +kernel
theorem dX7_takeApart_53 : decode cX7_takeApart 53 = .ok (.iaload, 1) := by decide +kernel
theorem dX7_takeApart_54 : decode cX7_takeApart 54 = .ok (.iconst (-1), 1) := by decide +kernel
theorem dX7_takeApart_55 : decode cX7_takeApart 55 = .ok (.if_icmp .ne 14, 3) := by decide +kernel
theorem dX7_takeApart_58 : decode cX7_takeApart 58 = .ok (.iconst 2, 1) := by decide +kernel
theorem dX7_takeApart_59 : decode cX7_takeApart 59 = .ok (.aload_n 0, 1) := by decide +kernel
theorem dX7_takeApart_60 : decode cX7_takeApart 60 = .ok (.getfield 25, 3) := by decide +kernel
theorem dX7_takeApart_63 : decode cX7_takeApart 63 = .ok (.iload_n 2, 1) := by decide +kernel
theorem dX7_takeApart_64 : decode cX7_takeApart 64 = .ok (.iaload, 1) := by decide +kernel
theorem dX7_takeApart_65 : decode cX7_takeApart 65 = .ok (.invokestatic 60, 3) := by decide +kernel
theorem dX7_takeApart_68 : decode cX7_takeApart 68 = .ok (.ireturn, 1) := by decide +kernel
theorem dX7_takeApart_69 : decode cX7_takeApart 69 = .ok (.iinc 2 1, 3) := by decide +kernel
theorem dX7_takeApart_72 : decode cX7_takeApart 72 = .ok (.goto (-54), 3) := by decide +kernel
theorem dX7_takeApart_75 : decode cX7_takeApart 75 = .ok (.iconst 0, 1) := by decide +kernel
theorem dX7_takeApart_76 : decode cX7_takeApart 76 = .ok (.ireturn, 1) := by decide +kernel
theorem dX7_faultOf_0 : decode cX7_faultOf 0 = .ok (.sipush (-1000), 3) := by decide +kernel
theorem dX7_faultOf_3 : decode cX7_faultOf 3 = .ok (.iload_n 0, 1) := by decide +kernel
theorem dX7_faultOf_4 : decode cX7_faultOf 4 = .ok (.imul, 1) := by decide +kernel
theorem dX7_faultOf_5 : decode cX7_faultOf 5 = .ok (.iload_n 1, 1) := by decide +kernel
theorem dX7_faultOf_6 : decode cX7_faultOf 6 = .ok (.isub, 1) := by decide +kernel
theorem dX7_faultOf_7 : decode cX7_faultOf 7 = .ok (.ireturn, 1) := by decide +kernel
theorem dX7_takeAll_0 : decode cX7_takeAll 0 = .ok (.aload_n 0, 1) := by decide +kernel
theorem dX7_takeAll_1 : decode cX7_takeAll 1 = .ok (.iconst 0, 1) := by decide +kernel
theorem dX7_takeAll_2 : decode cX7_takeAll 2 = .ok (.putfield 34, 3) := by decide +kernel
theorem dX7_takeAll_5 : decode cX7_takeAll 5 = .ok (.aload_n 0, 1) := by decide +kernel
theorem dX7_takeAll_6 : decode cX7_takeAll 6 = .ok (.iconst 0, 1) := by decide +kernel
theorem dX7_takeAll_7 : decode cX7_takeAll 7 = .ok (.putfield 19, 3) := by decide +kernel
theorem dX7_takeAll_10 : decode cX7_takeAll 10 = .ok (.aload_n 0, 1) := by decide +kernel
theorem dX7_takeAll_11 : decode cX7_takeAll 11 = .ok (.iconst 0, 1) := by decide +kernel
theorem dX7_takeAll_12 : decode cX7_takeAll 12 = .ok (.iconst (-1), 1) := by decide +kernel
theorem dX7_takeAll_13 : decode cX7_takeAll 13 = .ok (.invokevirtual 64, 3) := by decide +kernel
theorem dX7_takeAll_16 : decode cX7_takeAll 16 = .ok (.iconst 0, 1) := by decide +kernel
theorem dX7_takeAll_17 : decode cX7_takeAll 17 = .ok (.istore_n 1, 1) := by decide +kernel
theorem dX7_takeAll_18 : decode cX7_takeAll 18 = .ok (.iconst 0, 1) := by decide +kernel
theorem dX7_takeAll_19 : decode cX7_takeAll 19 = .ok (.istore_n 2, 1) := by decide +kernel
theorem dX7_takeAll_20 : decode cX7_takeAll 20 = .ok (.iload_n 2, 1) := by decide +kernel
theorem dX7_takeAll_21 : decode cX7_takeAll 21 = .ok (.bipush 60, 2) := by decide +kernel
theorem dX7_takeAll_23 : decode cX7_takeAll 23 = .ok (.if_icmp .ge 124, 3) := by decide +kernel
theorem dX7_takeAll_26 : decode cX7_takeAll 26 = .ok (.aload_n 0, 1) := by decide +kernel
theorem dX7_takeAll_27 : decode cX7_takeAll 27 = .ok (.getfield 34, 3) := by decide +kernel
theorem dX7_takeAll_30 : decode cX7_takeAll 30 = .ok (.aload_n 0, 1) := by decide +kernel
theorem dX7_takeAll_31 : decode cX7_takeAll 31 = .ok (.getfield 15, 3) := by decide +kernel
theorem dX7_takeAll_34 : decode cX7_takeAll 34 = .ok (.if_icmp .ge 113, 3) := by decide +kernel
theorem dX7_takeAll_37 : decode cX7_takeAll 37 = .ok (.aload_n 0, 1) := by decide +kernel
theorem dX7_takeAll_38 : decode cX7_takeAll 38 = .ok (.getfield 9, 3) := by decide +kernel
theorem dX7_takeAll_41 : decode cX7_takeAll 41 = .ok (.aload_n 0, 1) := by decide +kernel
theorem dX7_takeAll_42 : decode cX7_takeAll 42 = .ok (.getfield 34, 3) := by decide +kernel
theorem dX7_takeAll_45 : decode cX7_takeAll 45 = .ok (.iaload, 1) := by decide +kernel
theorem dX7_takeAll_46 : decode cX7_takeAll 46 = .ok (.istore_n 3, 1) := by decide +kernel
theorem dX7_takeAll_47 : decode cX7_takeAll 47 = .ok (.iload_n 3, 1) := by decide +kernel
theorem dX7_takeAll_48 : decode cX7_takeAll 48 = .ok (.bipush 40, 2) := by decide +kernel
theorem dX7_takeAll_50 : decode cX7_takeAll 50 = .ok (.if_icmp .eq 9, 3) := by decide +kernel
theorem dX7_takeAll_53 : decode cX7_takeAll 53 = .ok (.iload_n 3, 1) := by decide +kernel
theorem dX7_takeAll_54 : decode cX7_takeAll 54 = .ok (.bipush 123, 2) := by decide +kernel
theorem dX7_takeAll_56 : decode cX7_takeAll 56 = .ok (.if_icmp .ne 7, 3) := by decide +kernel
theorem dX7_takeAll_59 : decode cX7_takeAll 59 = .ok (.iconst 1, 1) := by decide +kernel
theorem dX7_takeAll_60 : decode cX7_takeAll 60 = .ok (.goto 4, 3) := by decide +kernel
theorem dX7_takeAll_63 : decode cX7_takeAll 63 = .ok (.iconst 0, 1) := by decide +kernel
theorem dX7_takeAll_64 : decode cX7_takeAll 64 = .ok (.istore 4, 2) := by decide +kernel
theorem dX7_takeAll_66 : decode cX7_takeAll 66 = .ok (.iload_n 1, 1) := by decide +kernel
theorem dX7_takeAll_67 : decode cX7_takeAll 67 = .ok (.ifCond .eq 11, 3) := by decide +kernel
theorem dX7_takeAll_70 : decode cX7_takeAll 70 = .ok (.aload_n 0, 1) := by decide +kernel
theorem dX7_takeAll_71 : decode cX7_takeAll 71 = .ok (.iload_n 3, 1) := by decide +kernel
theorem dX7_takeAll_72 : decode cX7_takeAll 72 = .ok (.invokevirtual 68, 3) := by decide +kernel
theorem dX7_takeAll_75 : decode cX7_takeAll 75 = .ok (.goto 20, 3) := by decide +kernel
theorem dX7_takeAll_78 : decode cX7_takeAll 78 = .ok (.iload 4, 2) := by decide +kernel
theorem dX7_takeAll_80 : decode cX7_takeAll 80 = .ok (.ifCond .eq 10, 3) := by decide +kernel
theorem dX7_takeAll_83 : decode cX7_takeAll 83 = .ok (.aload_n 0, 1) := by decide +kernel
theorem dX7_takeAll_84 : decode cX7_takeAll 84 = .ok (.invokevirtual 72, 3) := by decide +kernel
theorem dX7_takeAll_87 : decode cX7_takeAll 87 = .ok (.goto 8, 3) := by decide +kernel
theorem dX7_takeAll_90 : decode cX7_takeAll 90 = .ok (.aload_n 0, 1) := by decide +kernel
theorem dX7_takeAll_91 : decode cX7_takeAll 91 = .ok (.iload_n 3, 1) := by decide +kernel
theorem dX7_takeAll_92 : decode cX7_takeAll 92 = .ok (.invokevirtual 75, 3) := by decide +kernel
theorem dX7_takeAll_95 : decode cX7_takeAll 95 = .ok (.istore 5, 2) := by decide +kernel
theorem dX7_takeAll_97 : decode cX7_takeAll 97 = .ok (.iload 5, 2) := by decide +kernel
theorem dX7_takeAll_99 : decode cX7_takeAll 99 = .ok (.iconst (-1), 1) := by decide +kernel
theorem dX7_takeAll_100 : decode cX7_takeAll 100 = .ok (.if_icmp .eq 6, 3) := by decide +kernel
theorem dX7_takeAll_103 : decode cX7_takeAll 103 = .ok (.iload 5, 2) := by decide +kernel
theorem dX7_takeAll_105 : decode cX7_takeAll 105 = .ok (.ireturn, 1) := by decide +kernel
theorem dX7_takeAll_106 : decode cX7_takeAll 106 = .ok (.iload_n 1, 1) := by decide +kernel
theorem dX7_takeAll_107 : decode cX7_takeAll 107 = .ok (.ifCond .eq 23, 3) := by decide +kernel
theorem dX7_takeAll_110 : decode cX7_takeAll 110 = .ok (.iload_n 3, 1) := by decide +kernel
theorem dX7_takeAll_111 : decode cX7_takeAll 111 = .ok (.bipush 41, 2) := by decide +kernel
theorem dX7_takeAll_113 : decode cX7_takeAll 113 = .ok (.if_icmp .eq 9, 3) := by decide +kernel
theorem dX7_takeAll_116 : decode cX7_takeAll 116 = .ok (.iload_n 3, 1) := by decide +kernel
theorem dX7_takeAll_117 : decode cX7_takeAll 117 = .ok (.bipush 125, 2) := by decide +kernel
theorem dX7_takeAll_119 : decode cX7_takeAll 119 = .ok (.if_icmp .ne 7, 3) := by decide +kernel
theorem dX7_takeAll_122 : decode cX7_takeAll 122 = .ok (.iconst 1, 1) := by decide +kernel
theorem dX7_takeAll_123 : decode cX7_takeAll 123 = .ok (.goto 17, 3) := by decide +kernel
theorem dX7_takeAll_126 : decode cX7_takeAll 126 = .ok (.iconst 0, 1) := by decide +kernel
theorem dX7_takeAll_127 : decode cX7_takeAll 127 = .ok (.goto 13, 3) := by decide +kernel
theorem dX7_takeAll_130 : decode cX7_takeAll 130 = .ok (.iload 4, 2) := by decide +kernel
theorem dX7_takeAll_132 : decode cX7_takeAll 132 = .ok (.ifCond .ne 7, 3) := by decide +kernel
theorem dX7_takeAll_135 : decode cX7_takeAll 135 = .ok (.iconst 1, 1) := by decide +kernel
theorem dX7_takeAll_136 : decode cX7_takeAll 136 = .ok (.goto 4, 3) := by decide +kernel
theorem dX7_takeAll_139 : decode cX7_takeAll 139 = .ok (.iconst 0, 1) := by decide +kernel
theorem dX7_takeAll_140 : decode cX7_takeAll 140 = .ok (.istore_n 1, 1) := by decide +kernel
theorem dX7_takeAll_141 : decode cX7_takeAll 141 = .ok (.iinc 2 1, 3) := by decide +kernel
theorem dX7_takeAll_144 : decode cX7_takeAll 144 = .ok (.goto (-124), 3) := by decide +kernel
theorem dX7_takeAll_147 : decode cX7_takeAll 147 = .ok (.aload_n 0, 1) := by decide +kernel
theorem dX7_takeAll_148 : decode cX7_takeAll 148 = .ok (.invokevirtual 78, 3) := by decide +kernel
theorem dX7_takeAll_151 : decode cX7_takeAll 151 = .ok (.iload_n 1, 1) := by decide +kernel
theorem dX7_takeAll_152 : decode cX7_takeAll 152 = .ok (.ifCond .eq 14, 3) := by decide +kernel
theorem dX7_takeAll_155 : decode cX7_takeAll 155 = .ok (.aload_n 0, 1) := by decide +kernel
theorem dX7_takeAll_156 : decode cX7_takeAll 156 = .ok (.getfield 37, 3) := by decide +kernel
theorem dX7_takeAll_159 : decode cX7_takeAll 159 = .ok (.ifCond .ne 7, 3) := by decide +kernel
theorem dX7_takeAll_162 : decode cX7_takeAll 162 = .ok (.iconst (-1), 1) := by decide +kernel
theorem dX7_takeAll_163 : decode cX7_takeAll 163 = .ok (.goto 7, 3) := by decide +kernel
theorem dX7_takeAll_166 : decode cX7_takeAll 166 = .ok (.aload_n 0, 1) := by decide +kernel
theorem dX7_takeAll_167 : decode cX7_takeAll 167 = .ok (.getfield 15, 3) := by decide +kernel
theorem dX7_takeAll_170 : decode cX7_takeAll 170 = .ok (.ireturn, 1) := by decide +kernel
theorem dX7_startLevel_0 : decode cX7_startLevel 0 = .ok (.aload_n 0, 1) := by decide +kernel
theorem dX7_startLevel_1 : decode cX7_startLevel 1 = .ok (.iload_n 1, 1) := by decide +kernel
theorem dX7_startLevel_2 : decode cX7_startLevel 2 = .ok (.putfield 37, 3) := by decide +kernel
theorem dX7_startLevel_5 : decode cX7_startLevel 5 = .ok (.aload_n 0, 1) := by decide +kernel
theorem dX7_startLevel_6 : decode cX7_startLevel 6 = .ok (.getfield 40, 3) := by decide +kernel
theorem dX7_startLevel_9 : decode cX7_startLevel 9 = .ok (.iload_n 1, 1) := by decide +kernel
theorem dX7_startLevel_10 : decode cX7_startLevel 10 = .ok (.iload_n 2, 1) := by decide +kernel
theorem dX7_startLevel_11 : decode cX7_startLevel 11 = .ok (.iastore, 1) := by decide +kernel
theorem dX7_startLevel_12 : decode cX7_startLevel 12 = .ok (.aload_n 0, 1) := by decide +kernel
theorem dX7_startLevel_13 : decode cX7_startLevel 13 = .ok (.getfield 43, 3) := by decide +kernel
theorem dX7_startLevel_16 : decode cX7_startLevel 16 = .ok (.iload_n 1, 1) := by decide +kernel
theorem dX7_startLevel_17 : decode cX7_startLevel 17 = .ok (.iconst (-1), 1) := by decide +kernel
theorem dX7_startLevel_18 : decode cX7_startLevel 18 = .ok (.iastore, 1) := by decide +kernel
theorem dX7_startLevel_19 : decode cX7_startLevel 19 = .ok (.aload_n 0, 1) := by decide +kernel
theorem dX7_startLevel_20 : decode cX7_startLevel 20 = .ok (.getfield 46, 3) := by decide +kernel
theorem dX7_startLevel_23 : decode cX7_startLevel 23 = .ok (.iload_n 1, 1) := by decide +kernel
theorem dX7_startLevel_24 : decode cX7_startLevel 24 = .ok (.iconst (-1), 1) := by decide +kernel
theorem dX7_startLevel_25 : decode cX7_startLevel 25 = .ok (.iastore, 1) := by decide +kernel
theorem dX7_startLevel_26 : decode cX7_startLevel 26 = .ok (.return_, 1) := by decide +kernel
theorem dX7_takeOpening_0 : decode cX7_takeOpening 0 = .ok (.aload_n 0, 1) := by decide +kernel
theorem dX7_takeOpening_1 : decode cX7_takeOpening 1 = .ok (.getfield 37, 3) := by decide +kernel
theorem dX7_takeOpening_4 : decode cX7_takeOpening 4 = .ok (.iconst 3, 1) := by decide +kernel
theorem dX7_takeOpening_5 : decode cX7_takeOpening 5 = .ok (.if_icmp .lt 8, 3) := by decide +kernel
theorem dX7_takeOpening_8 : decode cX7_takeOpening 8 = .ok (.aload_n 0, 1) := by decide +kernel
theorem dX7_takeOpening_9 : decode cX7_takeOpening 9 = .ok (.getfield 34, 3) := by decide +kernel
theorem dX7_takeOpening_12 : decode cX7_takeOpening 12 = .ok (.ireturn, 1) := by decide +kernel
theorem dX7_takeOpening_13 : decode cX7_takeOpening 13 = .ok (.aload_n 0, 1) := by decide +kernel
theorem dX7_takeOpening_14 : decode cX7_takeOpening 14 = .ok (.aload_n 0, 1) := by decide +kernel
theorem dX7_takeOpening_15 : decode cX7_takeOpening 15 = .ok (.getfield 37, 3) := by decide +kernel
theorem dX7_takeOpening_18 : decode cX7_takeOpening 18 = .ok (.iconst 1, 1) := by decide +kernel
theorem dX7_takeOpening_19 : decode cX7_takeOpening 19 = .ok (.iadd, 1) := by decide +kernel
theorem dX7_takeOpening_20 : decode cX7_takeOpening 20 = .ok (.aload_n 0, 1) := by decide +kernel
theorem dX7_takeOpening_21 : decode cX7_takeOpening 21 = .ok (.getfield 34, 3) := by decide +kernel
theorem dX7_takeOpening_24 : decode cX7_takeOpening 24 = .ok (.invokevirtual 64, 3) := by decide +kernel
theorem dX7_takeOpening_27 : decode cX7_takeOpening 27 = .ok (.aload_n 0, 1) := by decide +kernel
theorem dX7_takeOpening_28 : decode cX7_takeOpening 28 = .ok (.dup, 1) := by decide +kernel
theorem dX7_takeOpening_29 : decode cX7_takeOpening 29 = .ok (.getfield 34, 3) := by decide +kernel
theorem dX7_takeOpening_32 : decode cX7_takeOpening 32 = .ok (.iconst 1, 1) := by decide +kernel
theorem dX7_takeOpening_33 : decode cX7_takeOpening 33 = .ok (.iadd, 1) := by decide +kernel
theorem dX7_takeOpening_34 : decode cX7_takeOpening 34 = .ok (.putfield 34, 3) := by decide +kernel
theorem dX7_takeOpening_37 : decode cX7_takeOpening 37 = .ok (.iconst (-1), 1) := by decide +kernel
theorem dX7_takeOpening_38 : decode cX7_takeOpening 38 = .ok (.ireturn, 1) := by decide +kernel
theorem dX7_takeBehindOne_0 : decode cX7_takeBehindOne 0 = .ok (.aload_n 0, 1) := by decide +kernel
theorem dX7_takeBehindOne_1 : decode cX7_takeBehindOne 1 = .ok (.getfield 37, 3) := by decide +kernel
theorem dX7_takeBehindOne_4 : decode cX7_takeBehindOne 4 = .ok (.ifCond .le 20, 3) := by decide +kernel
theorem dX7_takeBehindOne_7 : decode cX7_takeBehindOne 7 = .ok (.aload_n 0, 1) := by decide +kernel
theorem dX7_takeBehindOne_8 : decode cX7_takeBehindOne 8 = .ok (.getfield 9, 3) := by decide +kernel
theorem dX7_takeBehindOne_11 : decode cX7_takeBehindOne 11 = .ok (.aload_n 0, 1) := by decide +kernel
theorem dX7_takeBehindOne_12 : decode cX7_takeBehindOne 12 = .ok (.getfield 40, 3) := by decide +kernel
theorem dX7_takeBehindOne_15 : decode cX7_takeBehindOne 15 = .ok (.aload_n 0, 1) := by decide +kernel
theorem dX7_takeBehindOne_16 : decode cX7_takeBehindOne 16 = .ok (.getfield 37, 3) := by decide +kernel
theorem dX7_takeBehindOne_19 : decode cX7_takeBehindOne 19 = .ok (.iaload, 1) := by decide +kernel
theorem dX7_takeBehindOne_20 : decode cX7_takeBehindOne 20 = .ok (.iaload, 1) := by decide +kernel
theorem dX7_takeBehindOne_21 : decode cX7_takeBehindOne 21 = .ok (.goto 4, 3) := by decide +kernel
theorem dX7_takeBehindOne_24 : decode cX7_takeBehindOne 24 = .ok (.iconst (-1), 1) := by decide +kernel
theorem dX7_takeBehindOne_25 : decode cX7_takeBehindOne 25 = .ok (.istore_n 2, 1) := by decide +kernel
theorem dX7_takeBehindOne_26 : decode cX7_takeBehindOne 26 = .ok (.iload_n 2, 1) := by decide +kernel
theorem dX7_takeBehindOne_27 : decode cX7_takeBehindOne 27 = .ok (.bipush 40, 2) := by decide +kernel
theorem dX7_takeBehindOne_29 : decode cX7_takeBehindOne 29 = .ok (.if_icmp .ne 9, 3) := by decide +kernel
theorem dX7_takeBehindOne_32 : decode cX7_takeBehindOne 32 = .ok (.iload_n 1, 1) := by decide +kernel
theorem dX7_takeBehindOne_33 : decode cX7_takeBehindOne 33 = .ok (.bipush 41, 2) := by decide +kernel
theorem dX7_takeBehindOne_35 : decode cX7_takeBehindOne 35 = .ok (.if_icmp .eq 15, 3) := by decide +kernel
theorem dX7_takeBehindOne_38 : decode cX7_takeBehindOne 38 = .ok (.iload_n 2, 1) := by decide +kernel
theorem dX7_takeBehindOne_39 : decode cX7_takeBehindOne 39 = .ok (.bipush 123, 2) := by decide +kernel
theorem dX7_takeBehindOne_41 : decode cX7_takeBehindOne 41 = .ok (.if_icmp .ne 13, 3) := by decide +kernel
theorem dX7_takeBehindOne_44 : decode cX7_takeBehindOne 44 = .ok (.iload_n 1, 1) := by decide +kernel
theorem dX7_takeBehindOne_45 : decode cX7_takeBehindOne 45 = .ok (.bipush 125, 2) := by decide +kernel
theorem dX7_takeBehindOne_47 : decode cX7_takeBehindOne 47 = .ok (.if_icmp .ne 7, 3) := by decide +kernel
theorem dX7_takeBehindOne_50 : decode cX7_takeBehindOne 50 = .ok (.iconst 1, 1) := by decide +kernel
theorem dX7_takeBehindOne_51 : decode cX7_takeBehindOne 51 = .ok (.goto 4, 3) := by decide +kernel
theorem dX7_takeBehindOne_54 : decode cX7_takeBehindOne 54 = .ok (.iconst 0, 1) := by decide +kernel
theorem dX7_takeBehindOne_55 : decode cX7_takeBehindOne 55 = .ok (.istore_n 3, 1) := by decide +kernel
theorem dX7_takeBehindOne_56 : decode cX7_takeBehindOne 56 = .ok (.iload_n 3, 1) := by decide +kernel
theorem dX7_takeBehindOne_57 : decode cX7_takeBehindOne 57 = .ok (.ifCond .ne 26, 3) := by decide +kernel
theorem dX7_takeBehindOne_60 : decode cX7_takeBehindOne 60 = .ok (.iload_n 1, 1) := by decide +kernel
theorem dX7_takeBehindOne_61 : decode cX7_takeBehindOne 61 = .ok (.bipush 43, 2) := by decide +kernel
theorem dX7_takeBehindOne_63 : decode cX7_takeBehindOne 63 = .ok (.if_icmp .eq 20, 3) := by decide +kernel
theorem dX7_takeBehindOne_66 : decode cX7_takeBehindOne 66 = .ok (.iload_n 1, 1) := by decide +kernel
theorem dX7_takeBehindOne_67 : decode cX7_takeBehindOne 67 = .ok (.bipush 45, 2) := by decide +kernel
theorem dX7_takeBehindOne_69 : decode cX7_takeBehindOne 69 = .ok (.if_icmp .eq 14, 3) := by decide +kernel
theorem dX7_takeBehindOne_72 : decode cX7_takeBehindOne 72 = .ok (.iload_n 1, 1) := by decide +kernel
theorem dX7_takeBehindOne_73 : decode cX7_takeBehindOne 73 = .ok (.bipush 42, 2) := by decide +kernel
theorem dX7_takeBehindOne_75 : decode cX7_takeBehindOne 75 = .ok (.if_icmp .eq 8, 3) := by decide +kernel
theorem dX7_takeBehindOne_78 : decode cX7_takeBehindOne 78 = .ok (.aload_n 0, 1) := by decide +kernel
theorem dX7_takeBehindOne_79 : decode cX7_takeBehindOne 79 = .ok (.getfield 34, 3) := by decide +kernel
theorem dX7_takeBehindOne_82 : decode cX7_takeBehindOne 82 = .ok (.ireturn, 1) := by decide +kernel
theorem dX7_takeBehindOne_83 : decode cX7_takeBehindOne 83 = .ok (.iload_n 1, 1) := by decide +kernel
theorem dX7_takeBehindOne_84 : decode cX7_takeBehindOne 84 = .ok (.bipush 42, 2) := by decide +kernel
theorem dX7_takeBehindOne_86 : decode cX7_takeBehindOne 86 = .ok (.if_icmp .ne 19, 3) := by decide +kernel
theorem dX7_takeBehindOne_89 : decode cX7_takeBehindOne 89 = .ok (.aload_n 0, 1) := by decide +kernel
theorem dX7_takeBehindOne_90 : decode cX7_takeBehindOne 90 = .ok (.getfield 46, 3) := by decide +kernel
theorem dX7_takeBehindOne_93 : decode cX7_takeBehindOne 93 = .ok (.aload_n 0, 1) := by decide +kernel
theorem dX7_takeBehindOne_94 : decode cX7_takeBehindOne 94 = .ok (.getfield 37, 3) := by decide +kernel
theorem dX7_takeBehindOne_97 : decode cX7_takeBehindOne 97 = .ok (.aload_n 0, 1) := by decide +kernel
theorem dX7_takeBehindOne_98 : decode cX7_takeBehindOne 98 = .ok (.getfield 34, 3) := by decide +kernel
theorem dX7_takeBehindOne_101 : decode cX7_takeBehindOne 101 = .ok (.iastore, 1) := by decide +kernel
theorem dX7_takeBehindOne_102 : decode cX7_takeBehindOne 102 = .ok (.goto 7, 3) := by decide +kernel
theorem dX7_takeBehindOne_105 : decode cX7_takeBehindOne 105 = .ok (.aload_n 0, 1) := by decide +kernel
theorem dX7_takeBehindOne_106 : decode cX7_takeBehindOne 106 = .ok (.invokevirtual 78, 3) := by decide +kernel
theorem dX7_takeBehindOne_109 : decode cX7_takeBehindOne 109 = .ok (.iload_n 1, 1) := by decide +kernel
theorem dX7_takeBehindOne_110 : decode cX7_takeBehindOne 110 = .ok (.bipush 43, 2) := by decide +kernel
theorem dX7_takeBehindOne_112 : decode cX7_takeBehindOne 112 = .ok (.if_icmp .eq 9, 3) := by decide +kernel
theorem dX7_takeBehindOne_115 : decode cX7_takeBehindOne 115 = .ok (.iload_n 1, 1) := by decide +kernel
theorem dX7_takeBehindOne_116 : decode cX7_takeBehindOne 116 = .ok (.bipush 45, 2) := by decide +kernel
theorem dX7_takeBehindOne_118 : decode cX7_takeBehindOne 118 = .ok (.if_icmp .ne 16, 3) := by decide +kernel
theorem dX7_takeBehindOne_121 : decode cX7_takeBehindOne 121 = .ok (.aload_n 0, 1) := by decide +kernel
theorem dX7_takeBehindOne_122 : decode cX7_takeBehindOne 122 = .ok (.getfield 43, 3) := by decide +kernel
theorem dX7_takeBehindOne_125 : decode cX7_takeBehindOne 125 = .ok (.aload_n 0, 1) := by decide +kernel
theorem dX7_takeBehindOne_126 : decode cX7_takeBehindOne 126 = .ok (.getfield 37, 3) := by decide +kernel
theorem dX7_takeBehindOne_129 : decode cX7_takeBehindOne 129 = .ok (.aload_n 0, 1) := by decide +kernel
theorem dX7_takeBehindOne_130 : decode cX7_takeBehindOne 130 = .ok (.getfield 34, 3) := by decide +kernel
theorem dX7_takeBehindOne_133 : decode cX7_takeBehindOne 133 = .ok (.iastore, 1) := by decide +kernel
theorem dX7_takeBehindOne_134 : decode cX7_takeBehindOne 134 = .ok (.iload_n 3, 1) := by decide +kernel
theorem dX7_takeBehindOne_135 : decode cX7_takeBehindOne 135 = .ok (.ifCond .eq 8, 3) := by decide +kernel
theorem dX7_takeBehindOne_138 : decode cX7_takeBehindOne 138 = .ok (.aload_n 0, 1) := by decide +kernel
theorem dX7_takeBehindOne_139 : decode cX7_takeBehindOne 139 = .ok (.iload_n 2, 1) := by decide +kernel
theorem dX7_takeBehindOne_140 : decode cX7_takeBehindOne 140 = .ok (.invokevirtual 81, 3) := by decide +kernel
theorem dX7_takeBehindOne_143 : decode cX7_takeBehindOne 143 = .ok (.aload_n 0, 1) := by decide +kernel
theorem dX7_takeBehindOne_144 : decode cX7_takeBehindOne 144 = .ok (.dup, 1) := by decide +kernel
theorem dX7_takeBehindOne_145 : decode cX7_takeBehindOne 145 = .ok (.getfield 34, 3) := by decide +kernel
theorem dX7_takeBehindOne_148 : decode cX7_takeBehindOne 148 = .ok (.iconst 1, 1) := by decide +kernel
theorem dX7_takeBehindOne_149 : decode cX7_takeBehindOne 149 = .ok (.iadd, 1) := by decide +kernel
theorem dX7_takeBehindOne_150 : decode cX7_takeBehindOne 150 = .ok (.putfield 34, 3) := by decide +kernel
theorem dX7_takeBehindOne_153 : decode cX7_takeBehindOne 153 = .ok (.iconst (-1), 1) := by decide +kernel
theorem dX7_takeBehindOne_154 : decode cX7_takeBehindOne 154 = .ok (.ireturn, 1) := by decide +kernel
theorem dX7_endLevel_0 : decode cX7_endLevel 0 = .ok (.iload_n 1, 1) := by decide +kernel
theorem dX7_endLevel_1 : decode cX7_endLevel 1 = .ok (.bipush 123, 2) := by decide +kernel
theorem dX7_endLevel_3 : decode cX7_endLevel 3 = .ok (.if_icmp .ne 19, 3) := by decide +kernel
theorem dX7_endLevel_6 : decode cX7_endLevel 6 = .ok (.aload_n 0, 1) := by decide +kernel
theorem dX7_endLevel_7 : decode cX7_endLevel 7 = .ok (.iload_n 1, 1) := by decide +kernel
theorem dX7_endLevel_8 : decode cX7_endLevel 8 = .ok (.aload_n 0, 1) := by decide +kernel
theorem dX7_endLevel_9 : decode cX7_endLevel 9 = .ok (.getfield 40, 3) := by decide +kernel
theorem dX7_endLevel_12 : decode cX7_endLevel 12 = .ok (.aload_n 0, 1) := by decide +kernel
theorem dX7_endLevel_13 : decode cX7_endLevel 13 = .ok (.getfield 37, 3) := by decide +kernel
theorem dX7_endLevel_16 : decode cX7_endLevel 16 = .ok (.iaload, 1) := by decide +kernel
theorem dX7_endLevel_17 : decode cX7_endLevel 17 = .ok (.iconst 0, 1) := by decide +kernel
theorem dX7_endLevel_18 : decode cX7_endLevel 18 = .ok (.iconst 0, 1) := by decide +kernel
theorem dX7_endLevel_19 : decode cX7_endLevel 19 = .ok (.invokevirtual 85, 3) := by decide +kernel
theorem dX7_endLevel_22 : decode cX7_endLevel 22 = .ok (.aload_n 0, 1) := by decide +kernel
theorem dX7_endLevel_23 : decode cX7_endLevel 23 = .ok (.aload_n 0, 1) := by decide +kernel
theorem dX7_endLevel_24 : decode cX7_endLevel 24 = .ok (.getfield 37, 3) := by decide +kernel
theorem dX7_endLevel_27 : decode cX7_endLevel 27 = .ok (.iconst 1, 1) := by decide +kernel
theorem dX7_endLevel_28 : decode cX7_endLevel 28 = .ok (.isub, 1) := by decide +kernel
theorem dX7_endLevel_29 : decode cX7_endLevel 29 = .ok (.iconst 0, 1) := by decide +kernel
theorem dX7_endLevel_30 : decode cX7_endLevel 30 = .ok (.invokestatic 89, 3) := by decide +kernel
theorem dX7_endLevel_33 : decode cX7_endLevel 33 = .ok (.putfield 37, 3) := by decide +kernel
theorem dX7_endLevel_36 : decode cX7_endLevel 36 = .ok (.aload_n 0, 1) := by decide +kernel
theorem dX7_endLevel_37 : decode cX7_endLevel 37 = .ok (.invokevirtual 94, 3) := by decide +kernel
theorem dX7_endLevel_40 : decode cX7_endLevel 40 = .ok (.return_, 1) := by decide +kernel
theorem dX7_endOne_0 : decode cX7_endOne 0 = .ok (.aload_n 0, 1) := by decide +kernel
theorem dX7_endOne_1 : decode cX7_endOne 1 = .ok (.getfield 46, 3) := by decide +kernel
theorem dX7_endOne_4 : decode cX7_endOne 4 = .ok (.aload_n 0, 1) := by decide +kernel
theorem dX7_endOne_5 : decode cX7_endOne 5 = .ok (.getfield 37, 3) := by decide +kernel
theorem dX7_endOne_8 : decode cX7_endOne 8 = .ok (.iaload, 1) := by decide +kernel
theorem dX7_endOne_9 : decode cX7_endOne 9 = .ok (.iconst (-1), 1) := by decide +kernel
theorem dX7_endOne_10 : decode cX7_endOne 10 = .ok (.if_icmp .eq 30, 3) := by decide +kernel
theorem dX7_endOne_13 : decode cX7_endOne 13 = .ok (.aload_n 0, 1) := by decide +kernel
theorem dX7_endOne_14 : decode cX7_endOne 14 = .ok (.bipush 42, 2) := by decide +kernel
theorem dX7_endOne_16 : decode cX7_endOne 16 = .ok (.aload_n 0, 1) := by decide +kernel
theorem dX7_endOne_17 : decode cX7_endOne 17 = .ok (.getfield 46, 3) := by decide +kernel
theorem dX7_endOne_20 : decode cX7_endOne 20 = .ok (.aload_n 0, 1) := by decide +kernel
theorem dX7_endOne_21 : decode cX7_endOne 21 = .ok (.getfield 37, 3) := by decide +kernel
theorem dX7_endOne_24 : decode cX7_endOne 24 = .ok (.iaload, 1) := by decide +kernel
theorem dX7_endOne_25 : decode cX7_endOne 25 = .ok (.iconst 0, 1) := by decide +kernel
theorem dX7_endOne_26 : decode cX7_endOne 26 = .ok (.iconst 0, 1) := by decide +kernel
theorem dX7_endOne_27 : decode cX7_endOne 27 = .ok (.invokevirtual 85, 3) := by decide +kernel
theorem dX7_endOne_30 : decode cX7_endOne 30 = .ok (.aload_n 0, 1) := by decide +kernel
theorem dX7_endOne_31 : decode cX7_endOne 31 = .ok (.getfield 46, 3) := by decide +kernel
theorem dX7_endOne_34 : decode cX7_endOne 34 = .ok (.aload_n 0, 1) := by decide +kernel
theorem dX7_endOne_35 : decode cX7_endOne 35 = .ok (.getfield 37, 3) := by decide +kernel
theorem dX7_endOne_38 : decode cX7_endOne 38 = .ok (.iconst (-1), 1) := by decide +kernel
theorem dX7_endOne_39 : decode cX7_endOne 39 = .ok (.iastore, 1) := by decide +kernel
theorem dX7_endOne_40 : decode cX7_endOne 40 = .ok (.return_, 1) := by decide +kernel
theorem dX7_endProduct_0 : decode cX7_endProduct 0 = .ok (.aload_n 0, 1) := by decide +kernel
theorem dX7_endProduct_1 : decode cX7_endProduct 1 = .ok (.getfield 43, 3) := by decide +kernel
theorem dX7_endProduct_4 : decode cX7_endProduct 4 = .ok (.aload_n 0, 1) := by decide +kernel
theorem dX7_endProduct_5 : decode cX7_endProduct 5 = .ok (.getfield 37, 3) := by decide +kernel
theorem dX7_endProduct_8 : decode cX7_endProduct 8 = .ok (.iaload, 1) := by decide +kernel
theorem dX7_endProduct_9 : decode cX7_endProduct 9 = .ok (.iconst (-1), 1) := by decide +kernel
theorem dX7_endProduct_10 : decode cX7_endProduct 10 = .ok (.if_icmp .eq 42, 3) := by decide +kernel
theorem dX7_endProduct_13 : decode cX7_endProduct 13 = .ok (.aload_n 0, 1) := by decide +kernel
theorem dX7_endProduct_14 : decode cX7_endProduct 14 = .ok (.aload_n 0, 1) := by decide +kernel
theorem dX7_endProduct_15 : decode cX7_endProduct 15 = .ok (.getfield 9, 3) := by decide +kernel
theorem dX7_endProduct_18 : decode cX7_endProduct 18 = .ok (.aload_n 0, 1) := by decide +kernel
theorem dX7_endProduct_19 : decode cX7_endProduct 19 = .ok (.getfield 43, 3) := by decide +kernel
theorem dX7_endProduct_22 : decode cX7_endProduct 22 = .ok (.aload_n 0, 1) := by decide +kernel
theorem dX7_endProduct_23 : decode cX7_endProduct 23 = .ok (.getfield 37, 3) := by decide +kernel
theorem dX7_endProduct_26 : decode cX7_endProduct 26 = .ok (.iaload, 1) := by decide +kernel
theorem dX7_endProduct_27 : decode cX7_endProduct 27 = .ok (.iaload, 1) := by decide +kernel
theorem dX7_endProduct_28 : decode cX7_endProduct 28 = .ok (.aload_n 0, 1) := by decide +kernel
theorem dX7_endProduct_29 : decode cX7_endProduct 29 = .ok (.getfield 43, 3) := by decide +kernel
theorem dX7_endProduct_32 : decode cX7_endProduct 32 = .ok (.aload_n 0, 1) := by decide +kernel
theorem dX7_endProduct_33 : decode cX7_endProduct 33 = .ok (.getfield 37, 3) := by decide +kernel
theorem dX7_endProduct_36 : decode cX7_endProduct 36 = .ok (.iaload, 1) := by decide +kernel
theorem dX7_endProduct_37 : decode cX7_endProduct 37 = .ok (.iconst 0, 1) := by decide +kernel
theorem dX7_endProduct_38 : decode cX7_endProduct 38 = .ok (.iconst 0, 1) := by decide +kernel
theorem dX7_endProduct_39 : decode cX7_endProduct 39 = .ok (.invokevirtual 85, 3) := by decide +kernel
theorem dX7_endProduct_42 : decode cX7_endProduct 42 = .ok (.aload_n 0, 1) := by decide +kernel
theorem dX7_endProduct_43 : decode cX7_endProduct 43 = .ok (.getfield 43, 3) := by decide +kernel
theorem dX7_endProduct_46 : decode cX7_endProduct 46 = .ok (.aload_n 0, 1) := by decide +kernel
theorem dX7_endProduct_47 : decode cX7_endProduct 47 = .ok (.getfield 37, 3) := by decide +kernel
theorem dX7_endProduct_50 : decode cX7_endProduct 50 = .ok (.iconst (-1), 1) := by decide +kernel
theorem dX7_endProduct_51 : decode cX7_endProduct 51 = .ok (.iastore, 1) := by decide +kernel
theorem dX7_endProduct_52 : decode cX7_endProduct 52 = .ok (.return_, 1) := by decide +kernel
theorem dX7_order_0 : decode cX7_order 0 = .ok (.aload_n 0, 1) := by decide +kernel
theorem dX7_order_1 : decode cX7_order 1 = .ok (.getfield 19, 3) := by decide +kernel
theorem dX7_order_4 : decode cX7_order 4 = .ok (.bipush 60, 2) := by decide +kernel
theorem dX7_order_6 : decode cX7_order 6 = .ok (.if_icmp .ge 54, 3) := by decide +kernel
theorem dX7_order_9 : decode cX7_order 9 = .ok (.aload_n 0, 1) := by decide +kernel
theorem dX7_order_10 : decode cX7_order 10 = .ok (.getfield 22, 3) := by decide +kernel
theorem dX7_order_13 : decode cX7_order 13 = .ok (.aload_n 0, 1) := by decide +kernel
theorem dX7_order_14 : decode cX7_order 14 = .ok (.getfield 19, 3) := by decide +kernel
theorem dX7_order_17 : decode cX7_order 17 = .ok (.iload_n 1, 1) := by decide +kernel
theorem dX7_order_18 : decode cX7_order 18 = .ok (.iastore, 1) := by decide +kernel
theorem dX7_order_19 : decode cX7_order 19 = .ok (.aload_n 0, 1) := by decide +kernel
theorem dX7_order_20 : decode cX7_order 20 = .ok (.getfield 25, 3) := by decide +kernel
theorem dX7_order_23 : decode cX7_order 23 = .ok (.aload_n 0, 1) := by decide +kernel
theorem dX7_order_24 : decode cX7_order 24 = .ok (.getfield 19, 3) := by decide +kernel
theorem dX7_order_27 : decode cX7_order 27 = .ok (.iload_n 2, 1) := by decide +kernel
theorem dX7_order_28 : decode cX7_order 28 = .ok (.iastore, 1) := by decide +kernel
theorem dX7_order_29 : decode cX7_order 29 = .ok (.aload_n 0, 1) := by decide +kernel
theorem dX7_order_30 : decode cX7_order 30 = .ok (.getfield 28, 3) := by decide +kernel
theorem dX7_order_33 : decode cX7_order 33 = .ok (.aload_n 0, 1) := by decide +kernel
theorem dX7_order_34 : decode cX7_order 34 = .ok (.getfield 19, 3) := by decide +kernel
theorem dX7_order_37 : decode cX7_order 37 = .ok (.iload_n 3, 1) := by decide +kernel
theorem dX7_order_38 : decode cX7_order 38 = .ok (.iastore, 1) := by decide +kernel
theorem dX7_order_39 : decode cX7_order 39 = .ok (.aload_n 0, 1) := by decide +kernel
theorem dX7_order_40 : decode cX7_order 40 = .ok (.getfield 31, 3) := by decide +kernel
theorem dX7_order_43 : decode cX7_order 43 = .ok (.aload_n 0, 1) := by decide +kernel
theorem dX7_order_44 : decode cX7_order 44 = .ok (.getfield 19, 3) := by decide +kernel
theorem dX7_order_47 : decode cX7_order 47 = .ok (.iload 4, 2) := by decide +kernel
theorem dX7_order_49 : decode cX7_order 49 = .ok (.iastore, 1) := by decide +kernel
theorem dX7_order_50 : decode cX7_order 50 = .ok (.aload_n 0, 1) := by decide +kernel
theorem dX7_order_51 : decode cX7_order 51 = .ok (.dup, 1) := by decide +kernel
theorem dX7_order_52 : decode cX7_order 52 = .ok (.getfield 19, 3) := by decide +kernel
theorem dX7_order_55 : decode cX7_order 55 = .ok (.iconst 1, 1) := by decide +kernel
theorem dX7_order_56 : decode cX7_order 56 = .ok (.iadd, 1) := by decide +kernel
theorem dX7_order_57 : decode cX7_order 57 = .ok (.putfield 19, 3) := by decide +kernel
theorem dX7_order_60 : decode cX7_order 60 = .ok (.return_, 1) := by decide +kernel
theorem dX7_takeOne_0 : decode cX7_takeOne 0 = .ok (.iload_n 1, 1) := by decide +kernel
theorem dX7_takeOne_1 : decode cX7_takeOne 1 = .ok (.bipush 91, 2) := by decide +kernel
theorem dX7_takeOne_3 : decode cX7_takeOne 3 = .ok (.if_icmp .ne 16, 3) := by decide +kernel
theorem dX7_takeOne_6 : decode cX7_takeOne 6 = .ok (.aload_n 0, 1) := by decide +kernel
theorem dX7_takeOne_7 : decode cX7_takeOne 7 = .ok (.bipush 93, 2) := by decide +kernel
theorem dX7_takeOne_9 : decode cX7_takeOne 9 = .ok (.aload_n 0, 1) := by decide +kernel
theorem dX7_takeOne_10 : decode cX7_takeOne 10 = .ok (.getfield 49, 3) := by decide +kernel
theorem dX7_takeOne_13 : decode cX7_takeOne 13 = .ok (.invokevirtual 97, 3) := by decide +kernel
theorem dX7_takeOne_16 : decode cX7_takeOne 16 = .ok (.goto 26, 3) := by decide +kernel
theorem dX7_takeOne_19 : decode cX7_takeOne 19 = .ok (.iload_n 1, 1) := by decide +kernel
theorem dX7_takeOne_20 : decode cX7_takeOne 20 = .ok (.bipush 60, 2) := by decide +kernel
theorem dX7_takeOne_22 : decode cX7_takeOne 22 = .ok (.if_icmp .ne 16, 3) := by decide +kernel
theorem dX7_takeOne_25 : decode cX7_takeOne 25 = .ok (.aload_n 0, 1) := by decide +kernel
theorem dX7_takeOne_26 : decode cX7_takeOne 26 = .ok (.bipush 62, 2) := by decide +kernel
theorem dX7_takeOne_28 : decode cX7_takeOne 28 = .ok (.aload_n 0, 1) := by decide +kernel
theorem dX7_takeOne_29 : decode cX7_takeOne 29 = .ok (.getfield 53, 3) := by decide +kernel
theorem dX7_takeOne_32 : decode cX7_takeOne 32 = .ok (.invokevirtual 97, 3) := by decide +kernel
theorem dX7_takeOne_35 : decode cX7_takeOne 35 = .ok (.goto 7, 3) := by decide +kernel
theorem dX7_takeOne_38 : decode cX7_takeOne 38 = .ok (.aload_n 0, 1) := by decide +kernel
theorem dX7_takeOne_39 : decode cX7_takeOne 39 = .ok (.invokevirtual 101, 3) := by decide +kernel
theorem dX7_takeOne_42 : decode cX7_takeOne 42 = .ok (.istore_n 2, 1) := by decide +kernel
theorem dX7_takeOne_43 : decode cX7_takeOne 43 = .ok (.iload_n 2, 1) := by decide +kernel
theorem dX7_takeOne_44 : decode cX7_takeOne 44 = .ok (.iconst (-1), 1) := by decide +kernel
theorem dX7_takeOne_45 : decode cX7_takeOne 45 = .ok (.if_icmp .ne 7, 3) := by decide +kernel
theorem dX7_takeOne_48 : decode cX7_takeOne 48 = .ok (.aload_n 0, 1) := by decide +kernel
theorem dX7_takeOne_49 : decode cX7_takeOne 49 = .ok (.invokevirtual 94, 3) := by decide +kernel
theorem dX7_takeOne_52 : decode cX7_takeOne 52 = .ok (.iload_n 2, 1) := by decide +kernel
theorem dX7_takeOne_53 : decode cX7_takeOne 53 = .ok (.ireturn, 1) := by decide +kernel
theorem dX7_takeNet_0 : decode cX7_takeNet 0 = .ok (.aload_n 0, 1) := by decide +kernel
theorem dX7_takeNet_1 : decode cX7_takeNet 1 = .ok (.getfield 34, 3) := by decide +kernel
theorem dX7_takeNet_4 : decode cX7_takeNet 4 = .ok (.iconst 1, 1) := by decide +kernel
theorem dX7_takeNet_5 : decode cX7_takeNet 5 = .ok (.iadd, 1) := by decide +kernel
theorem dX7_takeNet_6 : decode cX7_takeNet 6 = .ok (.istore_n 3, 1) := by decide +kernel
theorem dX7_takeNet_7 : decode cX7_takeNet 7 = .ok (.aload_n 0, 1) := by decide +kernel
theorem dX7_takeNet_8 : decode cX7_takeNet 8 = .ok (.iload_n 3, 1) := by decide +kernel
theorem dX7_takeNet_9 : decode cX7_takeNet 9 = .ok (.invokevirtual 104, 3) := by decide +kernel
theorem dX7_takeNet_12 : decode cX7_takeNet 12 = .ok (.istore 4, 2) := by decide +kernel
theorem dX7_takeNet_14 : decode cX7_takeNet 14 = .ok (.iload_n 3, 1) := by decide +kernel
theorem dX7_takeNet_15 : decode cX7_takeNet 15 = .ok (.iload 4, 2) := by decide +kernel
theorem dX7_takeNet_17 : decode cX7_takeNet 17 = .ok (.bipush 9, 2) := by decide +kernel
theorem dX7_takeNet_19 : decode cX7_takeNet 19 = .ok (.invokestatic 107, 3) := by decide +kernel
theorem dX7_takeNet_22 : decode cX7_takeNet 22 = .ok (.istore 5, 2) := by decide +kernel
theorem dX7_takeNet_24 : decode cX7_takeNet 24 = .ok (.iload 5, 2) := by decide +kernel
theorem dX7_takeNet_26 : decode cX7_takeNet 26 = .ok (.iconst (-1), 1) := by decide +kernel
theorem dX7_takeNet_27 : decode cX7_takeNet 27 = .ok (.if_icmp .eq 6, 3) := by decide +kernel
theorem dX7_takeNet_30 : decode cX7_takeNet 30 = .ok (.iload 5, 2) := by decide +kernel
theorem dX7_takeNet_32 : decode cX7_takeNet 32 = .ok (.ireturn, 1) := by decide +kernel
theorem dX7_takeNet_33 : decode cX7_takeNet 33 = .ok (.iload 4, 2) := by decide +kernel
theorem dX7_takeNet_35 : decode cX7_takeNet 35 = .ok (.aload_n 0, 1) := by decide +kernel
theorem dX7_takeNet_36 : decode cX7_takeNet 36 = .ok (.getfield 15, 3) := by decide +kernel
theorem dX7_takeNet_39 : decode cX7_takeNet 39 = .ok (.if_icmp .ge 14, 3) := by decide +kernel
theorem dX7_takeNet_42 : decode cX7_takeNet 42 = .ok (.aload_n 0, 1) := by decide +kernel
theorem dX7_takeNet_43 : decode cX7_takeNet 43 = .ok (.getfield 9, 3) := by decide +kernel
theorem dX7_takeNet_46 : decode cX7_takeNet 46 = .ok (.iload 4, 2) := by decide +kernel
theorem dX7_takeNet_48 : decode cX7_takeNet 48 = .ok (.iaload, 1) := by decide +kernel
theorem dX7_takeNet_49 : decode cX7_takeNet 49 = .ok (.iload_n 1, 1) := by decide +kernel
theorem dX7_takeNet_50 : decode cX7_takeNet 50 = .ok (.if_icmp .eq 6, 3) := by decide +kernel
theorem dX7_takeNet_53 : decode cX7_takeNet 53 = .ok (.iload 4, 2) := by decide +kernel
theorem dX7_takeNet_55 : decode cX7_takeNet 55 = .ok (.ireturn, 1) := by decide +kernel
theorem dX7_takeNet_56 : decode cX7_takeNet 56 = .ok (.aload_n 0, 1) := by decide +kernel
theorem dX7_takeNet_57 : decode cX7_takeNet 57 = .ok (.aload_n 0, 1) := by decide +kernel
theorem dX7_takeNet_58 : decode cX7_takeNet 58 = .ok (.getfield 9, 3) := by decide +kernel
theorem dX7_takeNet_61 : decode cX7_takeNet 61 = .ok (.aload_n 0, 1) := by decide +kernel
theorem dX7_takeNet_62 : decode cX7_takeNet 62 = .ok (.getfield 34, 3) := by decide +kernel
theorem dX7_takeNet_65 : decode cX7_takeNet 65 = .ok (.iaload, 1) := by decide +kernel
theorem dX7_takeNet_66 : decode cX7_takeNet 66 = .ok (.aload_n 0, 1) := by decide +kernel
theorem dX7_takeNet_67 : decode cX7_takeNet 67 = .ok (.getfield 34, 3) := by decide +kernel
theorem dX7_takeNet_70 : decode cX7_takeNet 70 = .ok (.aload_n 0, 1) := by decide +kernel
theorem dX7_takeNet_71 : decode cX7_takeNet 71 = .ok (.iload_n 3, 1) := by decide +kernel
theorem dX7_takeNet_72 : decode cX7_takeNet 72 = .ok (.iload 4, 2) := by decide +kernel
theorem dX7_takeNet_74 : decode cX7_takeNet 74 = .ok (.aload_n 2, 1) := by decide +kernel
theorem dX7_takeNet_75 : decode cX7_takeNet 75 = .ok (.invokevirtual 111, 3) := by decide +kernel
theorem dX7_takeNet_78 : decode cX7_takeNet 78 = .ok (.iconst 0, 1) := by decide +kernel
theorem dX7_takeNet_79 : decode cX7_takeNet 79 = .ok (.invokevirtual 85, 3) := by decide +kernel
theorem dX7_takeNet_82 : decode cX7_takeNet 82 = .ok (.aload_n 0, 1) := by decide +kernel
theorem dX7_takeNet_83 : decode cX7_takeNet 83 = .ok (.iload 4, 2) := by decide +kernel
theorem dX7_takeNet_85 : decode cX7_takeNet 85 = .ok (.iconst 1, 1) := by decide +kernel
theorem dX7_takeNet_86 : decode cX7_takeNet 86 = .ok (.iadd, 1) := by decide +kernel
theorem dX7_takeNet_87 : decode cX7_takeNet 87 = .ok (.putfield 34, 3) := by decide +kernel
theorem dX7_takeNet_90 : decode cX7_takeNet 90 = .ok (.iconst (-1), 1) := by decide +kernel
theorem dX7_takeNet_91 : decode cX7_takeNet 91 = .ok (.ireturn, 1) := by decide +kernel
theorem dX7_takeFraction_0 : decode cX7_takeFraction 0 = .ok (.aload_n 0, 1) := by decide +kernel
theorem dX7_takeFraction_1 : decode cX7_takeFraction 1 = .ok (.aload_n 0, 1) := by decide +kernel
theorem dX7_takeFraction_2 : decode cX7_takeFraction 2 = .ok (.getfield 34, 3) := by decide +kernel
theorem dX7_takeFraction_5 : decode cX7_takeFraction 5 = .ok (.invokevirtual 104, 3) := by decide +kernel
theorem dX7_takeFraction_8 : decode cX7_takeFraction 8 = .ok (.istore_n 1, 1) := by decide +kernel
theorem dX7_takeFraction_9 : decode cX7_takeFraction 9 = .ok (.aload_n 0, 1) := by decide +kernel
theorem dX7_takeFraction_10 : decode cX7_takeFraction 10 = .ok (.getfield 34, 3) := by decide +kernel
theorem dX7_takeFraction_13 : decode cX7_takeFraction 13 = .ok (.iload_n 1, 1) := by decide +kernel
theorem dX7_takeFraction_14 : decode cX7_takeFraction 14 = .ok (.iconst 3, 1) := by decide +kernel
theorem dX7_takeFraction_15 : decode cX7_takeFraction 15 = .ok (.invokestatic 107, 3) := by decide +kernel
theorem dX7_takeFraction_18 : decode cX7_takeFraction 18 = .ok (.istore_n 2, 1) := by decide +kernel
theorem dX7_takeFraction_19 : decode cX7_takeFraction 19 = .ok (.iload_n 2, 1) := by decide +kernel
theorem dX7_takeFraction_20 : decode cX7_takeFraction 20 = .ok (.iconst (-1), 1) := by decide +kernel
theorem dX7_takeFraction_21 : decode cX7_takeFraction 21 = .ok (.if_icmp .eq 5, 3) := by decide +kernel
theorem dX7_takeFraction_24 : decode cX7_takeFraction 24 = .ok (.iload_n 2, 1) := by decide +kernel
theorem dX7_takeFraction_25 : decode cX7_takeFraction 25 = .ok (.ireturn, 1) := by decide +kernel
theorem dX7_takeFraction_26 : decode cX7_takeFraction 26 = .ok (.aload_n 0, 1) := by decide +kernel
theorem dX7_takeFraction_27 : decode cX7_takeFraction 27 = .ok (.aload_n 0, 1) := by decide +kernel
theorem dX7_takeFraction_28 : decode cX7_takeFraction 28 = .ok (.getfield 34, 3) := by decide +kernel
theorem dX7_takeFraction_31 : decode cX7_takeFraction 31 = .ok (.iload_n 1, 1) := by decide +kernel
theorem dX7_takeFraction_32 : decode cX7_takeFraction 32 = .ok (.invokevirtual 115, 3) := by decide +kernel
theorem dX7_takeFraction_35 : decode cX7_takeFraction 35 = .ok (.istore_n 3, 1) := by decide +kernel
theorem dX7_takeFraction_36 : decode cX7_takeFraction 36 = .ok (.iconst 1, 1) := by decide +kernel
theorem dX7_takeFraction_37 : decode cX7_takeFraction 37 = .ok (.istore 4, 2) := by decide +kernel
theorem dX7_takeFraction_39 : decode cX7_takeFraction 39 = .ok (.iload_n 1, 1) := by decide +kernel
theorem dX7_takeFraction_40 : decode cX7_takeFraction 40 = .ok (.aload_n 0, 1) := by decide +kernel
theorem dX7_takeFraction_41 : decode cX7_takeFraction 41 = .ok (.getfield 15, 3) := by decide +kernel
theorem dX7_takeFraction_44 : decode cX7_takeFraction 44 = .ok (.if_icmp .ge 58, 3) := by decide +kernel
theorem dX7_takeFraction_47 : decode cX7_takeFraction 47 = .ok (.aload_n 0, 1) := by decide +kernel
theorem dX7_takeFraction_48 : decode cX7_takeFraction 48 = .ok (.getfield 9, 3) := by decide +kernel
theorem dX7_takeFraction_51 : decode cX7_takeFraction 51 = .ok (.iload_n 1, 1) := by decide +kernel
theorem dX7_takeFraction_52 : decode cX7_takeFraction 52 = .ok (.iaload, 1) := by decide +kernel
theorem dX7_takeFraction_53 : decode cX7_takeFraction 53 = .ok (.bipush 47, 2) := by decide +kernel
theorem dX7_takeFraction_55 : decode cX7_takeFraction 55 = .ok (.if_icmp .ne 47, 3) := by decide +kernel
theorem dX7_takeFraction_58 : decode cX7_takeFraction 58 = .ok (.iload_n 1, 1) := by decide +kernel
theorem dX7_takeFraction_59 : decode cX7_takeFraction 59 = .ok (.iconst 1, 1) := by decide +kernel
theorem dX7_takeFraction_60 : decode cX7_takeFraction 60 = .ok (.iadd, 1) := by decide +kernel
theorem dX7_takeFraction_61 : decode cX7_takeFraction 61 = .ok (.istore 5, 2) := by decide +kernel
theorem dX7_takeFraction_63 : decode cX7_takeFraction 63 = .ok (.aload_n 0, 1) := by decide +kernel
theorem dX7_takeFraction_64 : decode cX7_takeFraction 64 = .ok (.iload 5, 2) := by decide +kernel
theorem dX7_takeFraction_66 : decode cX7_takeFraction 66 = .ok (.invokevirtual 104, 3) := by decide +kernel
theorem dX7_takeFraction_69 : decode cX7_takeFraction 69 = .ok (.istore_n 1, 1) := by decide +kernel
theorem dX7_takeFraction_70 : decode cX7_takeFraction 70 = .ok (.iload 5, 2) := by decide +kernel
theorem dX7_takeFraction_72 : decode cX7_takeFraction 72 = .ok (.iload_n 1, 1) := by decide +kernel
theorem dX7_takeFraction_73 : decode cX7_takeFraction 73 = .ok (.iconst 3, 1) := by decide +kernel
theorem dX7_takeFraction_74 : decode cX7_takeFraction 74 = .ok (.invokestatic 107, 3) := by decide +kernel
theorem dX7_takeFraction_77 : decode cX7_takeFraction 77 = .ok (.istore_n 2, 1) := by decide +kernel
theorem dX7_takeFraction_78 : decode cX7_takeFraction 78 = .ok (.iload_n 2, 1) := by decide +kernel
theorem dX7_takeFraction_79 : decode cX7_takeFraction 79 = .ok (.iconst (-1), 1) := by decide +kernel
theorem dX7_takeFraction_80 : decode cX7_takeFraction 80 = .ok (.if_icmp .eq 5, 3) := by decide +kernel
theorem dX7_takeFraction_83 : decode cX7_takeFraction 83 = .ok (.iload_n 2, 1) := by decide +kernel
theorem dX7_takeFraction_84 : decode cX7_takeFraction 84 = .ok (.ireturn, 1) := by decide +kernel
theorem dX7_takeFraction_85 : decode cX7_takeFraction 85 = .ok (.aload_n 0, 1) := by decide +kernel
theorem dX7_takeFraction_86 : decode cX7_takeFraction 86 = .ok (.iload 5, 2) := by decide +kernel
theorem dX7_takeFraction_88 : decode cX7_takeFraction 88 = .ok (.iload_n 1, 1) := by decide +kernel
theorem dX7_takeFraction_89 : decode cX7_takeFraction 89 = .ok (.invokevirtual 115, 3) := by decide +kernel
theorem dX7_takeFraction_92 : decode cX7_takeFraction 92 = .ok (.istore 4, 2) := by decide +kernel
theorem dX7_takeFraction_94 : decode cX7_takeFraction 94 = .ok (.iload 4, 2) := by decide +kernel
theorem dX7_takeFraction_96 : decode cX7_takeFraction 96 = .ok (.ifCond .ne 6, 3) := by decide +kernel
theorem dX7_takeFraction_99 : decode cX7_takeFraction 99 = .ok (.iload 5, 2) := by decide +kernel
theorem dX7_takeFraction_101 : decode cX7_takeFraction 101 = .ok (.ireturn, 1) := by decide +kernel
theorem dX7_takeFraction_102 : decode cX7_takeFraction 102 = .ok (.aload_n 0, 1) := by decide +kernel
theorem dX7_takeFraction_103 : decode cX7_takeFraction 103 = .ok (.bipush 48, 2) := by decide +kernel
theorem dX7_takeFraction_105 : decode cX7_takeFraction 105 = .ok (.aload_n 0, 1) := by decide +kernel
theorem dX7_takeFraction_106 : decode cX7_takeFraction 106 = .ok (.getfield 34, 3) := by decide +kernel
theorem dX7_takeFraction_109 : decode cX7_takeFraction 109 = .ok (.iload_n 3, 1) := by decide +kernel
theorem dX7_takeFraction_110 : decode cX7_takeFraction 110 = .ok (.iload 4, 2) := by decide +kernel
theorem dX7_takeFraction_112 : decode cX7_takeFraction 112 = .ok (.invokevirtual 85, 3) := by decide +kernel
theorem dX7_takeFraction_115 : decode cX7_takeFraction 115 = .ok (.aload_n 0, 1) := by decide +kernel
theorem dX7_takeFraction_116 : decode cX7_takeFraction 116 = .ok (.iload_n 1, 1) := by decide +kernel
theorem dX7_takeFraction_117 : decode cX7_takeFraction 117 = .ok (.putfield 34, 3) := by decide +kernel
theorem dX7_takeFraction_120 : decode cX7_takeFraction 120 = .ok (.iconst (-1), 1) := by decide +kernel
theorem dX7_takeFraction_121 : decode cX7_takeFraction 121 = .ok (.ireturn, 1) := by decide +kernel
theorem dX7_endOfFigures_0 : decode cX7_endOfFigures 0 = .ok (.iload_n 1, 1) := by decide +kernel
theorem dX7_endOfFigures_1 : decode cX7_endOfFigures 1 = .ok (.istore_n 2, 1) := by decide +kernel
theorem dX7_endOfFigures_2 : decode cX7_endOfFigures 2 = .ok (.iload_n 2, 1) := by decide +kernel
theorem dX7_endOfFigures_3 : decode cX7_endOfFigures 3 = .ok (.aload_n 0, 1) := by decide +kernel
theorem dX7_endOfFigures_4 : decode cX7_endOfFigures 4 = .ok (.getfield 15, 3) := by decide +kernel
theorem dX7_endOfFigures_7 : decode cX7_endOfFigures 7 = .ok (.if_icmp .ge 31, 3) := by decide +kernel
theorem dX7_endOfFigures_10 : decode cX7_endOfFigures 10 = .ok (.aload_n 0, 1) := by decide +kernel
theorem dX7_endOfFigures_11 : decode cX7_endOfFigures 11 = .ok (.getfield 9, 3) := by decide +kernel
theorem dX7_endOfFigures_14 : decode cX7_endOfFigures 14 = .ok (.iload_n 2, 1) := by decide +kernel
theorem dX7_endOfFigures_15 : decode cX7_endOfFigures 15 = .ok (.iaload, 1) := by decide +kernel
theorem dX7_endOfFigures_16 : decode cX7_endOfFigures 16 = .ok (.bipush 48, 2) := by decide +kernel
theorem dX7_endOfFigures_18 : decode cX7_endOfFigures 18 = .ok (.if_icmp .lt 20, 3) := by decide +kernel
theorem dX7_endOfFigures_21 : decode cX7_endOfFigures 21 = .ok (.aload_n 0, 1) := by decide +kernel
theorem dX7_endOfFigures_22 : decode cX7_endOfFigures 22 = .ok (.getfield 9, 3) := by decide +kernel
theorem dX7_endOfFigures_25 : decode cX7_endOfFigures 25 = .ok (.iload_n 2, 1) := by decide +kernel
theorem dX7_endOfFigures_26 : decode cX7_endOfFigures 26 = .ok (.iaload, 1) := by decide +kernel
theorem dX7_endOfFigures_27 : decode cX7_endOfFigures 27 = .ok (.bipush 57, 2) := by decide +kernel
theorem dX7_endOfFigures_29 : decode cX7_endOfFigures 29 = .ok (.if_icmp .gt 9, 3) := by decide +kernel
theorem dX7_endOfFigures_32 : decode cX7_endOfFigures 32 = .ok (.iinc 2 1, 3) := by decide +kernel
theorem dX7_endOfFigures_35 : decode cX7_endOfFigures 35 = .ok (.goto (-33), 3) := by decide +kernel
theorem dX7_endOfFigures_38 : decode cX7_endOfFigures 38 = .ok (.iload_n 2, 1) := by decide +kernel
theorem dX7_endOfFigures_39 : decode cX7_endOfFigures 39 = .ok (.ireturn, 1) := by decide +kernel
theorem dX7_badFigure_0 : decode cX7_badFigure 0 = .ok (.iload_n 1, 1) := by decide +kernel
theorem dX7_badFigure_1 : decode cX7_badFigure 1 = .ok (.iload_n 0, 1) := by decide +kernel
theorem dX7_badFigure_2 : decode cX7_badFigure 2 = .ok (.if_icmp .ne 5, 3) := by decide +kernel
theorem dX7_badFigure_5 : decode cX7_badFigure 5 = .ok (.iload_n 0, 1) := by decide +kernel
theorem dX7_badFigure_6 : decode cX7_badFigure 6 = .ok (.ireturn, 1) := by decide +kernel
theorem dX7_badFigure_7 : decode cX7_badFigure 7 = .ok (.iload_n 1, 1) := by decide +kernel
theorem dX7_badFigure_8 : decode cX7_badFigure 8 = .ok (.iload_n 0, 1) := by decide +kernel
theorem dX7_badFigure_9 : decode cX7_badFigure 9 = .ok (.isub, 1) := by decide +kernel
theorem dX7_badFigure_10 : decode cX7_badFigure 10 = .ok (.iload_n 2, 1) := by decide +kernel
theorem dX7_badFigure_11 : decode cX7_badFigure 11 = .ok (.if_icmp .le 9, 3) := by decide +kernel
theorem dX7_badFigure_14 : decode cX7_badFigure 14 = .ok (.iload_n 0, 1) := by decide +kernel
theorem dX7_badFigure_15 : decode cX7_badFigure 15 = .ok (.iload_n 2, 1) := by decide +kernel
theorem dX7_badFigure_16 : decode cX7_badFigure 16 = .ok (.iadd, 1) := by decide +kernel
theorem dX7_badFigure_17 : decode cX7_badFigure 17 = .ok (.goto 4, 3) := by decide +kernel
theorem dX7_badFigure_20 : decode cX7_badFigure 20 = .ok (.iconst (-1), 1) := by decide +kernel
theorem dX7_badFigure_21 : decode cX7_badFigure 21 = .ok (.ireturn, 1) := by decide +kernel
theorem dX7_numberOf_0 : decode cX7_numberOf 0 = .ok (.iconst 0, 1) := by decide +kernel
theorem dX7_numberOf_1 : decode cX7_numberOf 1 = .ok (.istore_n 3, 1) := by decide +kernel
theorem dX7_numberOf_2 : decode cX7_numberOf 2 = .ok (.iload_n 1, 1) := by decide +kernel
theorem dX7_numberOf_3 : decode cX7_numberOf 3 = .ok (.istore 4, 2) := by decide +kernel
theorem dX7_numberOf_5 : decode cX7_numberOf 5 = .ok (.iload 4, 2) := by decide +kernel
theorem dX7_numberOf_7 : decode cX7_numberOf 7 = .ok (.iload_n 2, 1) := by decide +kernel
theorem dX7_numberOf_8 : decode cX7_numberOf 8 = .ok (.if_icmp .ge 25, 3) := by decide +kernel
theorem dX7_numberOf_11 : decode cX7_numberOf 11 = .ok (.iload_n 3, 1) := by decide +kernel
theorem dX7_numberOf_12 : decode cX7_numberOf 12 = .ok (.bipush 10, 2) := by decide +kernel
theorem dX7_numberOf_14 : decode cX7_numberOf 14 = .ok (.imul, 1) := by decide +kernel
theorem dX7_numberOf_15 : decode cX7_numberOf 15 = .ok (.aload_n 0, 1) := by decide +kernel
theorem dX7_numberOf_16 : decode cX7_numberOf 16 = .ok (.getfield 9, 3) := by decide +kernel
theorem dX7_numberOf_19 : decode cX7_numberOf 19 = .ok (.iload 4, 2) := by decide +kernel
theorem dX7_numberOf_21 : decode cX7_numberOf 21 = .ok (.iaload, 1) := by decide +kernel
theorem dX7_numberOf_22 : decode cX7_numberOf 22 = .ok (.iadd, 1) := by decide +kernel
theorem dX7_numberOf_23 : decode cX7_numberOf 23 = .ok (.bipush 48, 2) := by decide +kernel
theorem dX7_numberOf_25 : decode cX7_numberOf 25 = .ok (.isub, 1) := by decide +kernel
theorem dX7_numberOf_26 : decode cX7_numberOf 26 = .ok (.istore_n 3, 1) := by decide +kernel
theorem dX7_numberOf_27 : decode cX7_numberOf 27 = .ok (.iinc 4 1, 3) := by decide +kernel
theorem dX7_numberOf_30 : decode cX7_numberOf 30 = .ok (.goto (-25), 3) := by decide +kernel
theorem dX7_numberOf_33 : decode cX7_numberOf 33 = .ok (.iload_n 3, 1) := by decide +kernel
theorem dX7_numberOf_34 : decode cX7_numberOf 34 = .ok (.ireturn, 1) := by decide +kernel
theorem dX7_netOf_0 : decode cX7_netOf 0 = .ok (.aload_n 0, 1) := by decide +kernel
theorem dX7_netOf_1 : decode cX7_netOf 1 = .ok (.getfield 9, 3) := by decide +kernel
theorem dX7_netOf_4 : decode cX7_netOf 4 = .ok (.iload_n 1, 1) := by decide +kernel
theorem dX7_netOf_5 : decode cX7_netOf 5 = .ok (.iaload, 1) := by decide +kernel
theorem dX7_netOf_6 : decode cX7_netOf 6 = .ok (.bipush 48, 2) := by decide +kernel
theorem dX7_netOf_8 : decode cX7_netOf 8 = .ok (.isub, 1) := by decide +kernel
theorem dX7_netOf_9 : decode cX7_netOf 9 = .ok (.istore 4, 2) := by decide +kernel
theorem dX7_netOf_11 : decode cX7_netOf 11 = .ok (.aload_n 3, 1) := by decide +kernel
theorem dX7_netOf_12 : decode cX7_netOf 12 = .ok (.iload 4, 2) := by decide +kernel
theorem dX7_netOf_14 : decode cX7_netOf 14 = .ok (.invokevirtual 118, 3) := by decide +kernel
theorem dX7_netOf_17 : decode cX7_netOf 17 = .ok (.ifCond .eq 11, 3) := by decide +kernel
theorem dX7_netOf_20 : decode cX7_netOf 20 = .ok (.iload_n 2, 1) := by decide +kernel
theorem dX7_netOf_21 : decode cX7_netOf 21 = .ok (.iload_n 1, 1) := by decide +kernel
theorem dX7_netOf_22 : decode cX7_netOf 22 = .ok (.isub, 1) := by decide +kernel
theorem dX7_netOf_23 : decode cX7_netOf 23 = .ok (.iconst 2, 1) := by decide +kernel
theorem dX7_netOf_24 : decode cX7_netOf 24 = .ok (.irem, 1) := by decide +kernel
theorem dX7_netOf_25 : decode cX7_netOf 25 = .ok (.ifCond .ne 5, 3) := by decide +kernel
theorem dX7_netOf_28 : decode cX7_netOf 28 = .ok (.iconst (-1), 1) := by decide +kernel
theorem dX7_netOf_29 : decode cX7_netOf 29 = .ok (.ireturn, 1) := by decide +kernel
theorem dX7_netOf_30 : decode cX7_netOf 30 = .ok (.iconst 0, 1) := by decide +kernel
theorem dX7_netOf_31 : decode cX7_netOf 31 = .ok (.istore 5, 2) := by decide +kernel
theorem dX7_netOf_33 : decode cX7_netOf 33 = .ok (.iload_n 1, 1) := by decide +kernel
theorem dX7_netOf_34 : decode cX7_netOf 34 = .ok (.iconst 1, 1) := by decide +kernel
theorem dX7_netOf_35 : decode cX7_netOf 35 = .ok (.iadd, 1) := by decide +kernel
theorem dX7_netOf_36 : decode cX7_netOf 36 = .ok (.istore 6, 2) := by decide +kernel
theorem dX7_netOf_38 : decode cX7_netOf 38 = .ok (.iload 6, 2) := by decide +kernel
theorem dX7_netOf_40 : decode cX7_netOf 40 = .ok (.iconst 1, 1) := by decide +kernel
theorem dX7_netOf_41 : decode cX7_netOf 41 = .ok (.iadd, 1) := by decide +kernel
theorem dX7_netOf_42 : decode cX7_netOf 42 = .ok (.iload_n 2, 1) := by decide +kernel
theorem dX7_netOf_43 : decode cX7_netOf 43 = .ok (.if_icmp .ge 70, 3) := by decide +kernel
theorem dX7_netOf_46 : decode cX7_netOf 46 = .ok (.aload_n 0, 1) := by decide +kernel
theorem dX7_netOf_47 : decode cX7_netOf 47 = .ok (.getfield 9, 3) := by decide +kernel
theorem dX7_netOf_50 : decode cX7_netOf 50 = .ok (.iload 6, 2) := by decide +kernel
theorem dX7_netOf_52 : decode cX7_netOf 52 = .ok (.iaload, 1) := by decide +kernel
theorem dX7_netOf_53 : decode cX7_netOf 53 = .ok (.bipush 48, 2) := by decide +kernel
theorem dX7_netOf_55 : decode cX7_netOf 55 = .ok (.isub, 1) := by decide +kernel
theorem dX7_netOf_56 : decode cX7_netOf 56 = .ok (.istore 7, 2) := by decide +kernel
theorem dX7_netOf_58 : decode cX7_netOf 58 = .ok (.aload_n 0, 1) := by decide +kernel
theorem dX7_netOf_59 : decode cX7_netOf 59 = .ok (.getfield 9, 3) := by decide +kernel
theorem dX7_netOf_62 : decode cX7_netOf 62 = .ok (.iload 6, 2) := by decide +kernel
theorem dX7_netOf_64 : decode cX7_netOf 64 = .ok (.iconst 1, 1) := by decide +kernel
theorem dX7_netOf_65 : decode cX7_netOf 65 = .ok (.iadd, 1) := by decide +kernel
theorem dX7_netOf_66 : decode cX7_netOf 66 = .ok (.iaload, 1) := by decide +kernel
theorem dX7_netOf_67 : decode cX7_netOf 67 = .ok (.bipush 48, 2) := by decide +kernel
theorem dX7_netOf_69 : decode cX7_netOf 69 = .ok (.isub, 1) := by decide +kernel
theorem dX7_netOf_70 : decode cX7_netOf 70 = .ok (.istore 8, 2) := by decide +kernel
theorem dX7_netOf_72 : decode cX7_netOf 72 = .ok (.iload 7, 2) := by decide +kernel
theorem dX7_netOf_74 : decode cX7_netOf 74 = .ok (.iload 8, 2) := by decide +kernel
theorem dX7_netOf_76 : decode cX7_netOf 76 = .ok (.if_icmp .eq 17, 3) := by decide +kernel
theorem dX7_netOf_79 : decode cX7_netOf 79 = .ok (.iload 7, 2) := by decide +kernel
theorem dX7_netOf_81 : decode cX7_netOf 81 = .ok (.iload 4, 2) := by decide +kernel
theorem dX7_netOf_83 : decode cX7_netOf 83 = .ok (.if_icmp .ge 10, 3) := by decide +kernel
theorem dX7_netOf_86 : decode cX7_netOf 86 = .ok (.iload 8, 2) := by decide +kernel
theorem dX7_netOf_88 : decode cX7_netOf 88 = .ok (.iload 4, 2) := by decide +kernel
theorem dX7_netOf_90 : decode cX7_netOf 90 = .ok (.if_icmp .lt 5, 3) := by decide +kernel
theorem dX7_netOf_93 : decode cX7_netOf 93 = .ok (.iconst (-1), 1) := by decide +kernel
theorem dX7_netOf_94 : decode cX7_netOf 94 = .ok (.ireturn, 1) := by decide +kernel
theorem dX7_netOf_95 : decode cX7_netOf 95 = .ok (.iload 5, 2) := by decide +kernel
theorem dX7_netOf_97 : decode cX7_netOf 97 = .ok (.iload 7, 2) := by decide +kernel
theorem dX7_netOf_99 : decode cX7_netOf 99 = .ok (.iload 8, 2) := by decide +kernel
theorem dX7_netOf_101 : decode cX7_netOf 101 = .ok (.invokestatic 124, 3) := by decide +kernel
theorem dX7_netOf_104 : decode cX7_netOf 104 = .ok (.ior, 1) := by decide +kernel
theorem dX7_netOf_105 : decode cX7_netOf 105 = .ok (.istore 5, 2) := by decide +kernel
theorem dX7_netOf_107 : decode cX7_netOf 107 = .ok (.iinc 6 2, 3) := by decide +kernel
theorem dX7_netOf_110 : decode cX7_netOf 110 = .ok (.goto (-72), 3) := by decide +kernel
theorem dX7_netOf_113 : decode cX7_netOf 113 = .ok (.aload_n 3, 1) := by decide +kernel
theorem dX7_netOf_114 : decode cX7_netOf 114 = .ok (.getfield 127, 3) := by decide +kernel
theorem dX7_netOf_117 : decode cX7_netOf 117 = .ok (.iload 4, 2) := by decide +kernel
theorem dX7_netOf_119 : decode cX7_netOf 119 = .ok (.aaload, 1) := by decide +kernel
theorem dX7_netOf_120 : decode cX7_netOf 120 = .ok (.iload 5, 2) := by decide +kernel
theorem dX7_netOf_122 : decode cX7_netOf 122 = .ok (.iaload, 1) := by decide +kernel
theorem dX7_netOf_123 : decode cX7_netOf 123 = .ok (.ireturn, 1) := by decide +kernel
theorem dX8_init_0 : decode cX8_init 0 = .ok (.aload_n 0, 1) := by decide +kernel
theorem dX8_init_1 : decode cX8_init 1 = .ok (.invokespecial 5, 3) := by decide +kernel
theorem dX8_init_4 : decode cX8_init 4 = .ok (.aload_n 0, 1) := by decide +kernel
theorem dX8_init_5 : decode cX8_init 5 = .ok (.new 11, 3) := by decide +kernel
theorem dX8_init_8 : decode cX8_init 8 = .ok (.dup, 1) := by decide +kernel
theorem dX8_init_9 : decode cX8_init 9 = .ok (.iconst 0, 1) := by decide +kernel
theorem dX8_init_10 : decode cX8_init 10 = .ok (.bipush 19, 2) := by decide +kernel
theorem dX8_init_12 : decode cX8_init 12 = .ok (.invokespecial 13, 3) := by decide +kernel
theorem dX8_init_15 : decode cX8_init 15 = .ok (.putfield 16, 3) := by decide +kernel
theorem dX8_init_18 : decode cX8_init 18 = .ok (.aload_n 0, 1) := by decide +kernel
theorem dX8_init_19 : decode cX8_init 19 = .ok (.new 11, 3) := by decide +kernel
theorem dX8_init_22 : decode cX8_init 22 = .ok (.dup, 1) := by decide +kernel
theorem dX8_init_23 : decode cX8_init 23 = .ok (.iconst 1, 1) := by decide +kernel
theorem dX8_init_24 : decode cX8_init 24 = .ok (.bipush 29, 2) := by decide +kernel
theorem dX8_init_26 : decode cX8_init 26 = .ok (.invokespecial 13, 3) := by decide +kernel
theorem dX8_init_29 : decode cX8_init 29 = .ok (.putfield 20, 3) := by decide +kernel
theorem dX8_init_32 : decode cX8_init 32 = .ok (.aload_n 0, 1) := by decide +kernel
theorem dX8_init_33 : decode cX8_init 33 = .ok (.new 23, 3) := by decide +kernel
theorem dX8_init_36 : decode cX8_init 36 = .ok (.dup, 1) := by decide +kernel
theorem dX8_init_37 : decode cX8_init 37 = .ok (.aload_n 0, 1) := by decide +kernel
theorem dX8_init_38 : decode cX8_init 38 = .ok (.getfield 16, 3) := by decide +kernel
theorem dX8_init_41 : decode cX8_init 41 = .ok (.aload_n 0, 1) := by decide +kernel
theorem dX8_init_42 : decode cX8_init 42 = .ok (.getfield 20, 3) := by decide +kernel
theorem dX8_init_45 : decode cX8_init 45 = .ok (.invokespecial 25, 3) := by decide +kernel
theorem dX8_init_48 : decode cX8_init 48 = .ok (.putfield 28, 3) := by decide +kernel
theorem dX8_init_51 : decode cX8_init 51 = .ok (.aload_n 0, 1) := by decide +kernel
theorem dX8_init_52 : decode cX8_init 52 = .ok (.new 32, 3) := by decide +kernel
theorem dX8_init_55 : decode cX8_init 55 = .ok (.dup, 1) := by decide +kernel
theorem dX8_init_56 : decode cX8_init 56 = .ok (.aload_n 0, 1) := by decide +kernel
theorem dX8_init_57 : decode cX8_init 57 = .ok (.getfield 16, 3) := by decide +kernel
theorem dX8_init_60 : decode cX8_init 60 = .ok (.aload_n 0, 1) := by decide +kernel
theorem dX8_init_61 : decode cX8_init 61 = .ok (.getfield 20, 3) := by decide +kernel
theorem dX8_init_64 : decode cX8_init 64 = .ok (.invokespecial 34, 3) := by decide +kernel
theorem dX8_init_67 : decode cX8_init 67 = .ok (.putfield 35, 3) := by decide +kernel
theorem dX8_init_70 : decode cX8_init 70 = .ok (.aload_n 0, 1) := by decide +kernel
theorem dX8_init_71 : decode cX8_init 71 = .ok (.new 39, 3) := by decide +kernel
theorem dX8_init_74 : decode cX8_init 74 = .ok (.dup, 1) := by decide +kernel
theorem dX8_init_75 : decode cX8_init 75 = .ok (.aload_n 0, 1) := by decide +kernel
theorem dX8_init_76 : decode cX8_init 76 = .ok (.getfield 28, 3) := by decide +kernel
theorem dX8_init_79 : decode cX8_init 79 = .ok (.invokespecial 41, 3) := by decide +kernel
theorem dX8_init_82 : decode cX8_init 82 = .ok (.putfield 44, 3) := by decide +kernel
theorem dX8_init_85 : decode cX8_init 85 = .ok (.aload_n 0, 1) := by decide +kernel
theorem dX8_init_86 : decode cX8_init 86 = .ok (.new 48, 3) := by decide +kernel
theorem dX8_init_89 : decode cX8_init 89 = .ok (.dup, 1) := by decide +kernel
theorem dX8_init_90 : decode cX8_init 90 = .ok (.invokespecial 50, 3) := by decide +kernel
theorem dX8_init_93 : decode cX8_init 93 = .ok (.putfield 51, 3) := by decide +kernel
theorem dX8_init_96 : decode cX8_init 96 = .ok (.aload_n 0, 1) := by decide +kernel
theorem dX8_init_97 : decode cX8_init 97 = .ok (.new 55, 3) := by decide +kernel
theorem dX8_init_100 : decode cX8_init 100 = .ok (.dup, 1) := by decide +kernel
theorem dX8_init_101 : decode cX8_init 101 = .ok (.invokespecial 57, 3) := by decide +kernel
theorem dX8_init_104 : decode cX8_init 104 = .ok (.putfield 58, 3) := by decide +kernel
theorem dX8_init_107 : decode cX8_init 107 = .ok (.aload_n 0, 1) := by decide +kernel
theorem dX8_init_108 : decode cX8_init 108 = .ok (.new 62, 3) := by decide +kernel
theorem dX8_init_111 : decode cX8_init 111 = .ok (.dup, 1) := by decide +kernel
theorem dX8_init_112 : decode cX8_init 112 = .ok (.invokespecial 64, 3) := by decide +kernel
theorem dX8_init_115 : decode cX8_init 115 = .ok (.putfield 65, 3) := by decide +kernel
theorem dX8_init_118 : decode cX8_init 118 = .ok (.aload_n 0, 1) := by decide +kernel
theorem dX8_init_119 : decode cX8_init 119 = .ok (.new 69, 3) := by decide +kernel
theorem dX8_init_122 : decode cX8_init 122 = .ok (.dup, 1) := by decide +kernel
theorem dX8_init_123 : decode cX8_init 123 = .ok (.invokespecial 71, 3) := by decide +kernel
theorem dX8_init_126 : decode cX8_init 126 = .ok (.putfield 72, 3) := by decide +kernel
theorem dX8_init_129 : decode cX8_init 129 = .ok (.aload_n 0, 1) := by decide +kernel
theorem dX8_init_130 : decode cX8_init 130 = .ok (.new 62, 3) := by decide +kernel
theorem dX8_init_133 : decode cX8_init 133 = .ok (.dup, 1) := by decide +kernel
theorem dX8_init_134 : decode cX8_init 134 = .ok (.invokespecial 64, 3) := by decide +kernel
theorem dX8_init_137 : decode cX8_init 137 = .ok (.putfield 76, 3) := by decide +kernel
theorem dX8_init_140 : decode cX8_init 140 = .ok (.aload_n 0, 1) := by decide +kernel
theorem dX8_init_141 : decode cX8_init 141 = .ok (.new 69, 3) := by decide +kernel
theorem dX8_init_144 : decode cX8_init 144 = .ok (.dup, 1) := by decide +kernel
theorem dX8_init_145 : decode cX8_init 145 = .ok (.invokespecial 71, 3) := by decide +kernel
theorem dX8_init_148 : decode cX8_init 148 = .ok (.putfield 79, 3) := by decide +kernel
theorem dX8_init_151 : decode cX8_init 151 = .ok (.aload_n 0, 1) := by decide +kernel
theorem dX8_init_152 : decode cX8_init 152 = .ok (.iconst 0, 1) := by decide +kernel
theorem dX8_init_153 : decode cX8_init 153 = .ok (.putfield 82, 3) := by decide +kernel
theorem dX8_init_156 : decode cX8_init 156 = .ok (.return_, 1) := by decide +kernel
theorem dX8_flag_0 : decode cX8_flag 0 = .ok (.aload_n 0, 1) := by decide +kernel
theorem dX8_flag_1 : decode cX8_flag 1 = .ok (.getfield 16, 3) := by decide +kernel
theorem dX8_flag_4 : decode cX8_flag 4 = .ok (.iload_n 1, 1) := by decide +kernel
theorem dX8_flag_5 : decode cX8_flag 5 = .ok (.invokevirtual 86, 3) := by decide +kernel
theorem dX8_flag_8 : decode cX8_flag 8 = .ok (.ifCond .eq 12, 3) := by decide +kernel
theorem dX8_flag_11 : decode cX8_flag 11 = .ok (.iload_n 2, 1) := by decide +kernel
theorem dX8_flag_12 : decode cX8_flag 12 = .ok (.ifCond .lt 8, 3) := by decide +kernel
theorem dX8_flag_15 : decode cX8_flag 15 = .ok (.iload_n 2, 1) := by decide +kernel
theorem dX8_flag_16 : decode cX8_flag 16 = .ok (.iconst 4, 1) := by decide +kernel
theorem dX8_flag_17 : decode cX8_flag 17 = .ok (.if_icmp .le 5, 3) := by decide +kernel
theorem dX8_flag_20 : decode cX8_flag 20 = .ok (.iconst (-1), 1) := by decide +kernel
theorem dX8_flag_21 : decode cX8_flag 21 = .ok (.ireturn, 1) := by decide +kernel
theorem dX8_flag_22 : decode cX8_flag 22 = .ok (.iload_n 2, 1) := by decide +kernel
theorem dX8_flag_23 : decode cX8_flag 23 = .ok (.tableswitch 71 0 3 #[29, 39, 49, 62], 29) := by decide +kernel
theorem dX8_flag_52 : decode cX8_flag 52 = .ok (.aload_n 0, 1) := by decide +kernel
theorem dX8_flag_53 : decode cX8_flag 53 = .ok (.getfield 16, 3) := by decide +kernel
theorem dX8_flag_56 : decode cX8_flag 56 = .ok (.getfield 90, 3) := by decide +kernel
theorem dX8_flag_59 : decode cX8_flag 59 = .ok (.iload_n 1, 1) := by decide +kernel
theorem dX8_flag_60 : decode cX8_flag 60 = .ok (.iaload, 1) := by decide +kernel
theorem dX8_flag_61 : decode cX8_flag 61 = .ok (.ireturn, 1) := by decide +kernel
theorem dX8_flag_62 : decode cX8_flag 62 = .ok (.aload_n 0, 1) := by decide +kernel
theorem dX8_flag_63 : decode cX8_flag 63 = .ok (.getfield 16, 3) := by decide +kernel
theorem dX8_flag_66 : decode cX8_flag 66 = .ok (.getfield 94, 3) := by decide +kernel
theorem dX8_flag_69 : decode cX8_flag 69 = .ok (.iload_n 1, 1) := by decide +kernel
theorem dX8_flag_70 : decode cX8_flag 70 = .ok (.iaload, 1) := by decide +kernel
theorem dX8_flag_71 : decode cX8_flag 71 = .ok (.ireturn, 1) := by decide +kernel
theorem dX8_flag_72 : decode cX8_flag 72 = .ok (.aload_n 0, 1) := by decide +kernel
theorem dX8_flag_73 : decode cX8_flag 73 = .ok (.getfield 16, 3) := by decide +kernel
theorem dX8_flag_76 : decode cX8_flag 76 = .ok (.getfield 94, 3) := by decide +kernel
theorem dX8_flag_79 : decode cX8_flag 79 = .ok (.iload_n 1, 1) := by decide +kernel
theorem dX8_flag_80 : decode cX8_flag 80 = .ok (.iaload, 1) := by decide +kernel
theorem dX8_flag_81 : decode cX8_flag 81 = .ok (.invokestatic 97, 3) := by decide +kernel
theorem dX8_flag_84 : decode cX8_flag 84 = .ok (.ireturn, 1) := by decide +kernel
theorem dX8_flag_85 : decode cX8_flag 85 = .ok (.aload_n 0, 1) := by decide +kernel
theorem dX8_flag_86 : decode cX8_flag 86 = .ok (.getfield 16, 3) := by decide +kernel
theorem dX8_flag_89 : decode cX8_flag 89 = .ok (.iload_n 1, 1) := by decide +kernel
theorem dX8_flag_90 : decode cX8_flag 90 = .ok (.invokevirtual 103, 3) := by decide +kernel
theorem dX8_flag_93 : decode cX8_flag 93 = .ok (.ireturn, 1) := by decide +kernel
theorem dX8_flag_94 : decode cX8_flag 94 = .ok (.aload_n 0, 1) := by decide +kernel
theorem dX8_flag_95 : decode cX8_flag 95 = .ok (.getfield 16, 3) := by decide +kernel
theorem dX8_flag_98 : decode cX8_flag 98 = .ok (.iload_n 1, 1) := by decide +kernel
theorem dX8_flag_99 : decode cX8_flag 99 = .ok (.invokevirtual 106, 3) := by decide +kernel
theorem dX8_flag_102 : decode cX8_flag 102 = .ok (.ireturn, 1) := by decide +kernel
theorem dX8_rooted_0 : decode cX8_rooted 0 = .ok (.aload_n 0, 1) := by decide +kernel
theorem dX8_rooted_1 : decode cX8_rooted 1 = .ok (.getfield 20, 3) := by decide +kernel
theorem dX8_rooted_4 : decode cX8_rooted 4 = .ok (.iload_n 1, 1) := by decide +kernel
theorem dX8_rooted_5 : decode cX8_rooted 5 = .ok (.invokevirtual 86, 3) := by decide +kernel
theorem dX8_rooted_8 : decode cX8_rooted 8 = .ok (.ifCond .eq 12, 3) := by decide +kernel
theorem dX8_rooted_11 : decode cX8_rooted 11 = .ok (.iload_n 2, 1) := by decide +kernel
theorem dX8_rooted_12 : decode cX8_rooted 12 = .ok (.ifCond .lt 8, 3) := by decide +kernel
theorem dX8_rooted_15 : decode cX8_rooted 15 = .ok (.iload_n 2, 1) := by decide +kernel
theorem dX8_rooted_16 : decode cX8_rooted 16 = .ok (.iconst 4, 1) := by decide +kernel
theorem dX8_rooted_17 : decode cX8_rooted 17 = .ok (.if_icmp .le 5, 3) := by decide +kernel
theorem dX8_rooted_20 : decode cX8_rooted 20 = .ok (.iconst (-1), 1) := by decide +kernel
theorem dX8_rooted_21 : decode cX8_rooted 21 = .ok (.ireturn, 1) := by decide +kernel
theorem dX8_rooted_22 : decode cX8_rooted 22 = .ok (.iload_n 2, 1) := by decide +kernel
theorem dX8_rooted_23 : decode cX8_rooted 23 = .ok (.tableswitch 77 0 3 #[29, 39, 49, 67], 29) := by decide +kernel
theorem dX8_rooted_52 : decode cX8_rooted 52 = .ok (.aload_n 0, 1) := by decide +kernel
theorem dX8_rooted_53 : decode cX8_rooted 53 = .ok (.getfield 20, 3) := by decide +kernel
theorem dX8_rooted_56 : decode cX8_rooted 56 = .ok (.getfield 90, 3) := by decide +kernel
theorem dX8_rooted_59 : decode cX8_rooted 59 = .ok (.iload_n 1, 1) := by decide +kernel
theorem dX8_rooted_60 : decode cX8_rooted 60 = .ok (.iaload, 1) := by decide +kernel
theorem dX8_rooted_61 : decode cX8_rooted 61 = .ok (.ireturn, 1) := by decide +kernel
theorem dX8_rooted_62 : decode cX8_rooted 62 = .ok (.aload_n 0, 1) := by decide +kernel
theorem dX8_rooted_63 : decode cX8_rooted 63 = .ok (.getfield 20, 3) := by decide +kernel
theorem dX8_rooted_66 : decode cX8_rooted 66 = .ok (.getfield 94, 3) := by decide +kernel
theorem dX8_rooted_69 : decode cX8_rooted 69 = .ok (.iload_n 1, 1) := by decide +kernel
theorem dX8_rooted_70 : decode cX8_rooted 70 = .ok (.iaload, 1) := by decide +kernel
theorem dX8_rooted_71 : decode cX8_rooted 71 = .ok (.ireturn, 1) := by decide +kernel
theorem dX8_rooted_72 : decode cX8_rooted 72 = .ok (.aload_n 0, 1) := by decide +kernel
theorem dX8_rooted_73 : decode cX8_rooted 73 = .ok (.getfield 20, 3) := by decide +kernel
theorem dX8_rooted_76 : decode cX8_rooted 76 = .ok (.getfield 109, 3) := by decide +kernel
theorem dX8_rooted_79 : decode cX8_rooted 79 = .ok (.iload_n 1, 1) := by decide +kernel
theorem dX8_rooted_80 : decode cX8_rooted 80 = .ok (.aaload, 1) := by decide +kernel
theorem dX8_rooted_81 : decode cX8_rooted 81 = .ok (.getfield 113, 3) := by decide +kernel
theorem dX8_rooted_84 : decode cX8_rooted 84 = .ok (.iconst 0, 1) := by decide +kernel
theorem dX8_rooted_85 : decode cX8_rooted 85 = .ok (.iaload, 1) := by decide +kernel
theorem dX8_rooted_86 : decode cX8_rooted 86 = .ok (.invokestatic 97, 3) := by decide +kernel
theorem dX8_rooted_89 : decode cX8_rooted 89 = .ok (.ireturn, 1) := by decide +kernel
theorem dX8_rooted_90 : decode cX8_rooted 90 = .ok (.aload_n 0, 1) := by decide +kernel
theorem dX8_rooted_91 : decode cX8_rooted 91 = .ok (.getfield 28, 3) := by decide +kernel
theorem dX8_rooted_94 : decode cX8_rooted 94 = .ok (.getfield 116, 3) := by decide +kernel
theorem dX8_rooted_97 : decode cX8_rooted 97 = .ok (.iload_n 1, 1) := by decide +kernel
theorem dX8_rooted_98 : decode cX8_rooted 98 = .ok (.iaload, 1) := by decide +kernel
theorem dX8_rooted_99 : decode cX8_rooted 99 = .ok (.ireturn, 1) := by decide +kernel
theorem dX8_rooted_100 : decode cX8_rooted 100 = .ok (.aload_n 0, 1) := by decide +kernel
theorem dX8_rooted_101 : decode cX8_rooted 101 = .ok (.getfield 28, 3) := by decide +kernel
theorem dX8_rooted_104 : decode cX8_rooted 104 = .ok (.getfield 119, 3) := by decide +kernel
theorem dX8_rooted_107 : decode cX8_rooted 107 = .ok (.iload_n 1, 1) := by decide +kernel
theorem dX8_rooted_108 : decode cX8_rooted 108 = .ok (.iaload, 1) := by decide +kernel
theorem dX8_rooted_109 : decode cX8_rooted 109 = .ok (.ireturn, 1) := by decide +kernel
theorem dX8_alike_0 : decode cX8_alike 0 = .ok (.iload_n 1, 1) := by decide +kernel
theorem dX8_alike_1 : decode cX8_alike 1 = .ok (.ifCond .lt 8, 3) := by decide +kernel
theorem dX8_alike_4 : decode cX8_alike 4 = .ok (.iload_n 1, 1) := by decide +kernel
theorem dX8_alike_5 : decode cX8_alike 5 = .ok (.iconst 1, 1) := by decide +kernel
theorem dX8_alike_6 : decode cX8_alike 6 = .ok (.if_icmp .le 5, 3) := by decide +kernel
theorem dX8_alike_9 : decode cX8_alike 9 = .ok (.iconst (-1), 1) := by decide +kernel
theorem dX8_alike_10 : decode cX8_alike 10 = .ok (.ireturn, 1) := by decide +kernel
theorem dX8_alike_11 : decode cX8_alike 11 = .ok (.iload_n 1, 1) := by decide +kernel
theorem dX8_alike_12 : decode cX8_alike 12 = .ok (.iconst 1, 1) := by decide +kernel
theorem dX8_alike_13 : decode cX8_alike 13 = .ok (.if_icmp .ne 10, 3) := by decide +kernel
theorem dX8_alike_16 : decode cX8_alike 16 = .ok (.aload_n 0, 1) := by decide +kernel
theorem dX8_alike_17 : decode cX8_alike 17 = .ok (.getfield 20, 3) := by decide +kernel
theorem dX8_alike_20 : decode cX8_alike 20 = .ok (.goto 7, 3) := by decide +kernel
theorem dX8_alike_23 : decode cX8_alike 23 = .ok (.aload_n 0, 1) := by decide +kernel
theorem dX8_alike_24 : decode cX8_alike 24 = .ok (.getfield 16, 3) := by decide +kernel
theorem dX8_alike_27 : decode cX8_alike 27 = .ok (.astore 4, 2) := by decide +kernel
theorem dX8_alike_29 : decode cX8_alike 29 = .ok (.aload 4, 2) := by decide +kernel
theorem dX8_alike_31 : decode cX8_alike 31 = .ok (.iload_n 2, 1) := by decide +kernel
theorem dX8_alike_32 : decode cX8_alike 32 = .ok (.invokevirtual 122, 3) := by decide +kernel
theorem dX8_alike_35 : decode cX8_alike 35 = .ok (.ifCond .ne 5, 3) := by decide +kernel
theorem dX8_alike_38 : decode cX8_alike 38 = .ok (.iconst (-1), 1) := by decide +kernel
theorem dX8_alike_39 : decode cX8_alike 39 = .ok (.ireturn, 1) := by decide +kernel
theorem dX8_alike_40 : decode cX8_alike 40 = .ok (.iload_n 3, 1) := by decide +kernel
theorem dX8_alike_41 : decode cX8_alike 41 = .ok (.ifCond .lt 11, 3) := by decide +kernel
theorem dX8_alike_44 : decode cX8_alike 44 = .ok (.iload_n 3, 1) := by decide +kernel
theorem dX8_alike_45 : decode cX8_alike 45 = .ok (.iload_n 2, 1) := by decide +kernel
theorem dX8_alike_46 : decode cX8_alike 46 = .ok (.invokestatic 125, 3) := by decide +kernel
theorem dX8_alike_49 : decode cX8_alike 49 = .ok (.if_icmp .lt 6, 3) := by decide +kernel
theorem dX8_alike_52 : decode cX8_alike 52 = .ok (.bipush (-2), 2) := by decide +kernel
theorem dX8_alike_54 : decode cX8_alike 54 = .ok (.ireturn, 1) := by decide +kernel
theorem dX8_alike_55 : decode cX8_alike 55 = .ok (.aload 4, 2) := by decide +kernel
theorem dX8_alike_57 : decode cX8_alike 57 = .ok (.getfield 128, 3) := by decide +kernel
theorem dX8_alike_60 : decode cX8_alike 60 = .ok (.iload_n 2, 1) := by decide +kernel
theorem dX8_alike_61 : decode cX8_alike 61 = .ok (.aaload, 1) := by decide +kernel
theorem dX8_alike_62 : decode cX8_alike 62 = .ok (.iload_n 3, 1) := by decide +kernel
theorem dX8_alike_63 : decode cX8_alike 63 = .ok (.iaload, 1) := by decide +kernel
theorem dX8_alike_64 : decode cX8_alike 64 = .ok (.ireturn, 1) := by decide +kernel
theorem dX8_inside_0 : decode cX8_inside 0 = .ok (.aload_n 0, 1) := by decide +kernel
theorem dX8_inside_1 : decode cX8_inside 1 = .ok (.aload_n 0, 1) := by decide +kernel
theorem dX8_inside_2 : decode cX8_inside 2 = .ok (.getfield 16, 3) := by decide +kernel
theorem dX8_inside_5 : decode cX8_inside 5 = .ok (.iconst 0, 1) := by decide +kernel
theorem dX8_inside_6 : decode cX8_inside 6 = .ok (.iload_n 1, 1) := by decide +kernel
theorem dX8_inside_7 : decode cX8_inside 7 = .ok (.iload_n 2, 1) := by decide +kernel
theorem dX8_inside_8 : decode cX8_inside 8 = .ok (.iload_n 3, 1) := by decide +kernel
theorem dX8_inside_9 : decode cX8_inside 9 = .ok (.invokevirtual 132, 3) := by decide +kernel
theorem dX8_inside_12 : decode cX8_inside 12 = .ok (.lreturn, 1) := by decide +kernel
theorem dX8_joint_0 : decode cX8_joint 0 = .ok (.aload_n 0, 1) := by decide +kernel
theorem dX8_joint_1 : decode cX8_joint 1 = .ok (.aload_n 0, 1) := by decide +kernel
theorem dX8_joint_2 : decode cX8_joint 2 = .ok (.getfield 16, 3) := by decide +kernel
theorem dX8_joint_5 : decode cX8_joint 5 = .ok (.iload_n 1, 1) := by decide +kernel
theorem dX8_joint_6 : decode cX8_joint 6 = .ok (.iload_n 2, 1) := by decide +kernel
theorem dX8_joint_7 : decode cX8_joint 7 = .ok (.iload_n 3, 1) := by decide +kernel
theorem dX8_joint_8 : decode cX8_joint 8 = .ok (.iload 4, 2) := by decide +kernel
theorem dX8_joint_10 : decode cX8_joint 10 = .ok (.invokevirtual 132, 3) := by decide +kernel
theorem dX8_joint_13 : decode cX8_joint 13 = .ok (.lreturn, 1) := by decide +kernel
theorem dX8_jointRooted_0 : decode cX8_jointRooted 0 = .ok (.aload_n 0, 1) := by decide +kernel
theorem dX8_jointRooted_1 : decode cX8_jointRooted 1 = .ok (.aload_n 0, 1) := by decide +kernel
theorem dX8_jointRooted_2 : decode cX8_jointRooted 2 = .ok (.getfield 20, 3) := by decide +kernel
theorem dX8_jointRooted_5 : decode cX8_jointRooted 5 = .ok (.iload_n 1, 1) := by decide +kernel
theorem dX8_jointRooted_6 : decode cX8_jointRooted 6 = .ok (.iload_n 2, 1) := by decide +kernel
theorem dX8_jointRooted_7 : decode cX8_jointRooted 7 = .ok (.iload_n 3, 1) := by decide +kernel
theorem dX8_jointRooted_8 : decode cX8_jointRooted 8 = .ok (.iload 4, 2) := by decide +kernel
theorem dX8_jointRooted_10 : decode cX8_jointRooted 10 = .ok (.invokevirtual 132, 3) := by decide +kernel
theorem dX8_jointRooted_13 : decode cX8_jointRooted 13 = .ok (.lreturn, 1) := by decide +kernel
theorem dX8_jointPart_0 : decode cX8_jointPart 0 = .ok (.aload_n 1, 1) := by decide +kernel
theorem dX8_jointPart_1 : decode cX8_jointPart 1 = .ok (.iload_n 2, 1) := by decide +kernel
theorem dX8_jointPart_2 : decode cX8_jointPart 2 = .ok (.invokevirtual 86, 3) := by decide +kernel
theorem dX8_jointPart_5 : decode cX8_jointPart 5 = .ok (.ifCond .eq 44, 3) := by decide +kernel
theorem dX8_jointPart_8 : decode cX8_jointPart 8 = .ok (.aload_n 1, 1) := by decide +kernel
theorem dX8_jointPart_9 : decode cX8_jointPart 9 = .ok (.iload_n 3, 1) := by decide +kernel
theorem dX8_jointPart_10 : decode cX8_jointPart 10 = .ok (.invokevirtual 86, 3) := by decide +kernel
theorem dX8_jointPart_13 : decode cX8_jointPart 13 = .ok (.ifCond .eq 36, 3) := by decide +kernel
theorem dX8_jointPart_16 : decode cX8_jointPart 16 = .ok (.aload_n 1, 1) := by decide +kernel
theorem dX8_jointPart_17 : decode cX8_jointPart 17 = .ok (.iload 4, 2) := by decide +kernel
theorem dX8_jointPart_19 : decode cX8_jointPart 19 = .ok (.invokevirtual 86, 3) := by decide +kernel
theorem dX8_jointPart_22 : decode cX8_jointPart 22 = .ok (.ifCond .eq 27, 3) := by decide +kernel
theorem dX8_jointPart_25 : decode cX8_jointPart 25 = .ok (.iload 5, 2) := by decide +kernel
theorem dX8_jointPart_27 : decode cX8_jointPart 27 = .ok (.invokestatic 136, 3) := by decide +kernel
theorem dX8_jointPart_30 : decode cX8_jointPart 30 = .ok (.ifCond .eq 19, 3) := by decide +kernel
theorem dX8_jointPart_33 : decode cX8_jointPart 33 = .ok (.aload_n 1, 1) := by decide +kernel
theorem dX8_jointPart_34 : decode cX8_jointPart 34 = .ok (.getfield 90, 3) := by decide +kernel
theorem dX8_jointPart_37 : decode cX8_jointPart 37 = .ok (.iload 4, 2) := by decide +kernel
theorem dX8_jointPart_39 : decode cX8_jointPart 39 = .ok (.iaload, 1) := by decide +kernel
theorem dX8_jointPart_40 : decode cX8_jointPart 40 = .ok (.aload_n 1, 1) := by decide +kernel
theorem dX8_jointPart_41 : decode cX8_jointPart 41 = .ok (.iload_n 2, 1) := by decide +kernel
theorem dX8_jointPart_42 : decode cX8_jointPart 42 = .ok (.iload_n 3, 1) := by decide +kernel
theorem dX8_jointPart_43 : decode cX8_jointPart 43 = .ok (.invokevirtual 139, 3) := by decide +kernel
theorem dX8_jointPart_46 : decode cX8_jointPart 46 = .ok (.if_icmp .ge 7, 3) := by decide +kernel
theorem dX8_jointPart_49 : decode cX8_jointPart 49 = .ok (.ldc2_w 143, 3) := by decide +kernel
theorem dX8_jointPart_52 : decode cX8_jointPart 52 = .ok (.lreturn, 1) := by decide +kernel
theorem dX8_jointPart_53 : decode cX8_jointPart 53 = .ok (.aload_n 0, 1) := by decide +kernel
theorem dX8_jointPart_54 : decode cX8_jointPart 54 = .ok (.getfield 51, 3) := by decide +kernel
theorem dX8_jointPart_57 : decode cX8_jointPart 57 = .ok (.aload_n 1, 1) := by decide +kernel
theorem dX8_jointPart_58 : decode cX8_jointPart 58 = .ok (.iload_n 2, 1) := by decide +kernel
theorem dX8_jointPart_59 : decode cX8_jointPart 59 = .ok (.iload_n 3, 1) := by decide +kernel
theorem dX8_jointPart_60 : decode cX8_jointPart 60 = .ok (.iload 4, 2) := by decide +kernel
theorem dX8_jointPart_62 : decode cX8_jointPart 62 = .ok (.invokevirtual 145, 3) := by decide +kernel
theorem dX8_jointPart_65 : decode cX8_jointPart 65 = .ok (.i2l, 1) := by decide +kernel
theorem dX8_jointPart_66 : decode cX8_jointPart 66 = .ok (.aload_n 1, 1) := by decide +kernel
theorem dX8_jointPart_67 : decode cX8_jointPart 67 = .ok (.iload_n 2, 1) := by decide +kernel
theorem dX8_jointPart_68 : decode cX8_jointPart 68 = .ok (.iload_n 3, 1) := by decide +kernel
theorem dX8_jointPart_69 : decode cX8_jointPart 69 = .ok (.iload 4, 2) := by decide +kernel
theorem dX8_jointPart_71 : decode cX8_jointPart 71 = .ok (.invokevirtual 149, 3) := by decide +kernel
theorem dX8_jointPart_74 : decode cX8_jointPart 74 = .ok (.i2l, 1) := by decide +kernel
theorem dX8_jointPart_75 : decode cX8_jointPart 75 = .ok (.invokevirtual 152, 3) := by decide +kernel
theorem dX8_jointPart_78 : decode cX8_jointPart 78 = .ok (.aload_n 0, 1) := by decide +kernel
theorem dX8_jointPart_79 : decode cX8_jointPart 79 = .ok (.getfield 51, 3) := by decide +kernel
theorem dX8_jointPart_82 : decode cX8_jointPart 82 = .ok (.iload 5, 2) := by decide +kernel
theorem dX8_jointPart_84 : decode cX8_jointPart 84 = .ok (.invokevirtual 156, 3) := by decide +kernel
theorem dX8_jointPart_87 : decode cX8_jointPart 87 = .ok (.lreturn, 1) := by decide +kernel
theorem dX8_points_0 : decode cX8_points 0 = .ok (.iload_n 1, 1) := by decide +kernel
theorem dX8_points_1 : decode cX8_points 1 = .ok (.ifCond .lt 9, 3) := by decide +kernel
theorem dX8_points_4 : decode cX8_points 4 = .ok (.iload_n 1, 1) := by decide +kernel
theorem dX8_points_5 : decode cX8_points 5 = .ok (.bipush 8, 2) := by decide +kernel
theorem dX8_points_7 : decode cX8_points 7 = .ok (.if_icmp .le 6, 3) := by decide +kernel
theorem dX8_points_10 : decode cX8_points 10 = .ok (.bipush (-2), 2) := by decide +kernel
theorem dX8_points_12 : decode cX8_points 12 = .ok (.ireturn, 1) := by decide +kernel
theorem dX8_points_13 : decode cX8_points 13 = .ok (.aload_n 0, 1) := by decide +kernel
theorem dX8_points_14 : decode cX8_points 14 = .ok (.getfield 65, 3) := by decide +kernel
theorem dX8_points_17 : decode cX8_points 17 = .ok (.getfield 160, 3) := by decide +kernel
theorem dX8_points_20 : decode cX8_points 20 = .ok (.istore_n 2, 1) := by decide +kernel
theorem dX8_points_21 : decode cX8_points 21 = .ok (.aload_n 0, 1) := by decide +kernel
theorem dX8_points_22 : decode cX8_points 22 = .ok (.getfield 65, 3) := by decide +kernel
theorem dX8_points_25 : decode cX8_points 25 = .ok (.iload_n 1, 1) := by decide +kernel
theorem dX8_points_26 : decode cX8_points 26 = .ok (.invokevirtual 164, 3) := by decide +kernel
theorem dX8_points_29 : decode cX8_points 29 = .ok (.iload_n 2, 1) := by decide +kernel
theorem dX8_points_30 : decode cX8_points 30 = .ok (.ireturn, 1) := by decide +kernel
theorem dX8_line_0 : decode cX8_line 0 = .ok (.aload_n 0, 1) := by decide +kernel
theorem dX8_line_1 : decode cX8_line 1 = .ok (.getfield 65, 3) := by decide +kernel
theorem dX8_line_4 : decode cX8_line 4 = .ok (.iload_n 1, 1) := by decide +kernel
theorem dX8_line_5 : decode cX8_line 5 = .ok (.invokevirtual 168, 3) := by decide +kernel
theorem dX8_line_8 : decode cX8_line 8 = .ok (.ifCond .eq 14, 3) := by decide +kernel
theorem dX8_line_11 : decode cX8_line 11 = .ok (.aload_n 0, 1) := by decide +kernel
theorem dX8_line_12 : decode cX8_line 12 = .ok (.getfield 65, 3) := by decide +kernel
theorem dX8_line_15 : decode cX8_line 15 = .ok (.iload_n 2, 1) := by decide +kernel
theorem dX8_line_16 : decode cX8_line 16 = .ok (.invokevirtual 168, 3) := by decide +kernel
theorem dX8_line_19 : decode cX8_line 19 = .ok (.ifCond .ne 5, 3) := by decide +kernel
theorem dX8_line_22 : decode cX8_line 22 = .ok (.iconst (-1), 1) := by decide +kernel
theorem dX8_line_23 : decode cX8_line 23 = .ok (.ireturn, 1) := by decide +kernel
theorem dX8_line_24 : decode cX8_line 24 = .ok (.iload_n 3, 1) := by decide +kernel
theorem dX8_line_25 : decode cX8_line 25 = .ok (.ifCond .lt 13, 3) := by decide +kernel
theorem dX8_line_28 : decode cX8_line 28 = .ok (.iload_n 3, 1) := by decide +kernel
theorem dX8_line_29 : decode cX8_line 29 = .ok (.iconst 1, 1) := by decide +kernel
theorem dX8_line_30 : decode cX8_line 30 = .ok (.if_icmp .gt 8, 3) := by decide +kernel
theorem dX8_line_33 : decode cX8_line 33 = .ok (.iload_n 1, 1) := by decide +kernel
theorem dX8_line_34 : decode cX8_line 34 = .ok (.iload_n 2, 1) := by decide +kernel
theorem dX8_line_35 : decode cX8_line 35 = .ok (.if_icmp .ne 6, 3) := by decide +kernel
theorem dX8_line_38 : decode cX8_line 38 = .ok (.bipush (-2), 2) := by decide +kernel
theorem dX8_line_40 : decode cX8_line 40 = .ok (.ireturn, 1) := by decide +kernel
theorem dX8_line_41 : decode cX8_line 41 = .ok (.aload_n 0, 1) := by decide +kernel
theorem dX8_line_42 : decode cX8_line 42 = .ok (.getfield 65, 3) := by decide +kernel
theorem dX8_line_45 : decode cX8_line 45 = .ok (.iload_n 1, 1) := by decide +kernel
theorem dX8_line_46 : decode cX8_line 46 = .ok (.iload_n 2, 1) := by decide +kernel
theorem dX8_line_47 : decode cX8_line 47 = .ok (.invokevirtual 169, 3) := by decide +kernel
theorem dX8_line_50 : decode cX8_line 50 = .ok (.ifCond .eq 7, 3) := by decide +kernel
theorem dX8_line_53 : decode cX8_line 53 = .ok (.iconst 1, 1) := by decide +kernel
theorem dX8_line_54 : decode cX8_line 54 = .ok (.goto 4, 3) := by decide +kernel
theorem dX8_line_57 : decode cX8_line 57 = .ok (.iconst 0, 1) := by decide +kernel
theorem dX8_line_58 : decode cX8_line 58 = .ok (.istore 4, 2) := by decide +kernel
theorem dX8_line_60 : decode cX8_line 60 = .ok (.aload_n 0, 1) := by decide +kernel
theorem dX8_line_61 : decode cX8_line 61 = .ok (.getfield 65, 3) := by decide +kernel
theorem dX8_line_64 : decode cX8_line 64 = .ok (.iload_n 1, 1) := by decide +kernel
theorem dX8_line_65 : decode cX8_line 65 = .ok (.iload_n 2, 1) := by decide +kernel
theorem dX8_line_66 : decode cX8_line 66 = .ok (.iload_n 3, 1) := by decide +kernel
theorem dX8_line_67 : decode cX8_line 67 = .ok (.iconst 1, 1) := by decide +kernel
theorem dX8_line_68 : decode cX8_line 68 = .ok (.if_icmp .ne 7, 3) := by decide +kernel
theorem dX8_line_71 : decode cX8_line 71 = .ok (.iconst 1, 1) := by decide +kernel
theorem dX8_line_72 : decode cX8_line 72 = .ok (.goto 4, 3) := by decide +kernel
theorem dX8_line_75 : decode cX8_line 75 = .ok (.iconst 0, 1) := by decide +kernel
theorem dX8_line_76 : decode cX8_line 76 = .ok (.invokevirtual 173, 3) := by decide +kernel
theorem dX8_line_79 : decode cX8_line 79 = .ok (.iload 4, 2) := by decide +kernel
theorem dX8_line_81 : decode cX8_line 81 = .ok (.ireturn, 1) := by decide +kernel
theorem dX8_told_0 : decode cX8_told 0 = .ok (.iload_n 1, 1) := by decide +kernel
theorem dX8_told_1 : decode cX8_told 1 = .ok (.tableswitch 63 0 3 #[31, 39, 47, 55], 31) := by decide +kernel
theorem dX8_told_32 : decode cX8_told 32 = .ok (.aload_n 0, 1) := by decide +kernel
theorem dX8_told_33 : decode cX8_told 33 = .ok (.getfield 65, 3) := by decide +kernel
theorem dX8_told_36 : decode cX8_told 36 = .ok (.getfield 160, 3) := by decide +kernel
theorem dX8_told_39 : decode cX8_told 39 = .ok (.ireturn, 1) := by decide +kernel
theorem dX8_told_40 : decode cX8_told 40 = .ok (.aload_n 0, 1) := by decide +kernel
theorem dX8_told_41 : decode cX8_told 41 = .ok (.getfield 65, 3) := by decide +kernel
theorem dX8_told_44 : decode cX8_told 44 = .ok (.invokevirtual 177, 3) := by decide +kernel
theorem dX8_told_47 : decode cX8_told 47 = .ok (.ireturn, 1) := by decide +kernel
theorem dX8_told_48 : decode cX8_told 48 = .ok (.aload_n 0, 1) := by decide +kernel
theorem dX8_told_49 : decode cX8_told 49 = .ok (.getfield 65, 3) := by decide +kernel
theorem dX8_told_52 : decode cX8_told 52 = .ok (.invokevirtual 181, 3) := by decide +kernel
theorem dX8_told_55 : decode cX8_told 55 = .ok (.ireturn, 1) := by decide +kernel
theorem dX8_told_56 : decode cX8_told 56 = .ok (.aload_n 0, 1) := by decide +kernel
theorem dX8_told_57 : decode cX8_told 57 = .ok (.getfield 65, 3) := by decide +kernel
theorem dX8_told_60 : decode cX8_told 60 = .ok (.invokevirtual 184, 3) := by decide +kernel
theorem dX8_told_63 : decode cX8_told 63 = .ok (.ireturn, 1) := by decide +kernel
theorem dX8_told_64 : decode cX8_told 64 = .ok (.iconst (-1), 1) := by decide +kernel
theorem dX8_told_65 : decode cX8_told 65 = .ok (.ireturn, 1) := by decide +kernel
theorem dX8_beside_0 : decode cX8_beside 0 = .ok (.aload_n 0, 1) := by decide +kernel
theorem dX8_beside_1 : decode cX8_beside 1 = .ok (.getfield 65, 3) := by decide +kernel
theorem dX8_beside_4 : decode cX8_beside 4 = .ok (.iload_n 1, 1) := by decide +kernel
theorem dX8_beside_5 : decode cX8_beside 5 = .ok (.invokevirtual 168, 3) := by decide +kernel
theorem dX8_beside_8 : decode cX8_beside 8 = .ok (.ifCond .eq 15, 3) := by decide +kernel
theorem dX8_beside_11 : decode cX8_beside 11 = .ok (.aload_n 0, 1) := by decide +kernel
theorem dX8_beside_12 : decode cX8_beside 12 = .ok (.getfield 65, 3) := by decide +kernel
theorem dX8_beside_15 : decode cX8_beside 15 = .ok (.getfield 113, 3) := by decide +kernel
theorem dX8_beside_18 : decode cX8_beside 18 = .ok (.iload_n 1, 1) := by decide +kernel
theorem dX8_beside_19 : decode cX8_beside 19 = .ok (.iaload, 1) := by decide +kernel
theorem dX8_beside_20 : decode cX8_beside 20 = .ok (.goto 4, 3) := by decide +kernel
theorem dX8_beside_23 : decode cX8_beside 23 = .ok (.iconst (-1), 1) := by decide +kernel
theorem dX8_beside_24 : decode cX8_beside 24 = .ok (.ireturn, 1) := by decide +kernel
theorem dX8_share_0 : decode cX8_share 0 = .ok (.aload_n 0, 1) := by decide +kernel
theorem dX8_share_1 : decode cX8_share 1 = .ok (.getfield 16, 3) := by decide +kernel
theorem dX8_share_4 : decode cX8_share 4 = .ok (.iload_n 1, 1) := by decide +kernel
theorem dX8_share_5 : decode cX8_share 5 = .ok (.invokevirtual 86, 3) := by decide +kernel
theorem dX8_share_8 : decode cX8_share 8 = .ok (.ifCond .eq 29, 3) := by decide +kernel
theorem dX8_share_11 : decode cX8_share 11 = .ok (.iload_n 2, 1) := by decide +kernel
theorem dX8_share_12 : decode cX8_share 12 = .ok (.invokestatic 136, 3) := by decide +kernel
theorem dX8_share_15 : decode cX8_share 15 = .ok (.ifCond .eq 22, 3) := by decide +kernel
theorem dX8_share_18 : decode cX8_share 18 = .ok (.aload_n 0, 1) := by decide +kernel
theorem dX8_share_19 : decode cX8_share 19 = .ok (.getfield 65, 3) := by decide +kernel
theorem dX8_share_22 : decode cX8_share 22 = .ok (.getfield 160, 3) := by decide +kernel
theorem dX8_share_25 : decode cX8_share 25 = .ok (.aload_n 0, 1) := by decide +kernel
theorem dX8_share_26 : decode cX8_share 26 = .ok (.getfield 16, 3) := by decide +kernel
theorem dX8_share_29 : decode cX8_share 29 = .ok (.getfield 90, 3) := by decide +kernel
theorem dX8_share_32 : decode cX8_share 32 = .ok (.iload_n 1, 1) := by decide +kernel
theorem dX8_share_33 : decode cX8_share 33 = .ok (.iaload, 1) := by decide +kernel
theorem dX8_share_34 : decode cX8_share 34 = .ok (.if_icmp .ge 7, 3) := by decide +kernel
theorem dX8_share_37 : decode cX8_share 37 = .ok (.ldc2_w 143, 3) := by decide +kernel
theorem dX8_share_40 : decode cX8_share 40 = .ok (.lreturn, 1) := by decide +kernel
theorem dX8_share_41 : decode cX8_share 41 = .ok (.aload_n 0, 1) := by decide +kernel
theorem dX8_share_42 : decode cX8_share 42 = .ok (.getfield 16, 3) := by decide +kernel
theorem dX8_share_45 : decode cX8_share 45 = .ok (.iload_n 1, 1) := by decide +kernel
theorem dX8_share_46 : decode cX8_share 46 = .ok (.aload_n 0, 1) := by decide +kernel
theorem dX8_share_47 : decode cX8_share 47 = .ok (.getfield 65, 3) := by decide +kernel
theorem dX8_share_50 : decode cX8_share 50 = .ok (.iconst (-1), 1) := by decide +kernel
theorem dX8_share_51 : decode cX8_share 51 = .ok (.aload_n 0, 1) := by decide +kernel
theorem dX8_share_52 : decode cX8_share 52 = .ok (.getfield 51, 3) := by decide +kernel
theorem dX8_share_55 : decode cX8_share 55 = .ok (.invokevirtual 187, 3) := by decide +kernel
theorem dX8_share_58 : decode cX8_share 58 = .ok (.aload_n 0, 1) := by decide +kernel
theorem dX8_share_59 : decode cX8_share 59 = .ok (.getfield 51, 3) := by decide +kernel
theorem dX8_share_62 : decode cX8_share 62 = .ok (.iload_n 2, 1) := by decide +kernel
theorem dX8_share_63 : decode cX8_share 63 = .ok (.invokevirtual 156, 3) := by decide +kernel
theorem dX8_share_66 : decode cX8_share 66 = .ok (.lreturn, 1) := by decide +kernel
theorem dX8_shareAt_0 : decode cX8_shareAt 0 = .ok (.aload_n 0, 1) := by decide +kernel
theorem dX8_shareAt_1 : decode cX8_shareAt 1 = .ok (.getfield 65, 3) := by decide +kernel
theorem dX8_shareAt_4 : decode cX8_shareAt 4 = .ok (.iload_n 1, 1) := by decide +kernel
theorem dX8_shareAt_5 : decode cX8_shareAt 5 = .ok (.invokevirtual 168, 3) := by decide +kernel
theorem dX8_shareAt_8 : decode cX8_shareAt 8 = .ok (.ifCond .eq 40, 3) := by decide +kernel
theorem dX8_shareAt_11 : decode cX8_shareAt 11 = .ok (.aload_n 0, 1) := by decide +kernel
theorem dX8_shareAt_12 : decode cX8_shareAt 12 = .ok (.getfield 20, 3) := by decide +kernel
theorem dX8_shareAt_15 : decode cX8_shareAt 15 = .ok (.iload_n 2, 1) := by decide +kernel
theorem dX8_shareAt_16 : decode cX8_shareAt 16 = .ok (.invokevirtual 86, 3) := by decide +kernel
theorem dX8_shareAt_19 : decode cX8_shareAt 19 = .ok (.ifCond .eq 29, 3) := by decide +kernel
theorem dX8_shareAt_22 : decode cX8_shareAt 22 = .ok (.iload_n 3, 1) := by decide +kernel
theorem dX8_shareAt_23 : decode cX8_shareAt 23 = .ok (.invokestatic 136, 3) := by decide +kernel
theorem dX8_shareAt_26 : decode cX8_shareAt 26 = .ok (.ifCond .eq 22, 3) := by decide +kernel
theorem dX8_shareAt_29 : decode cX8_shareAt 29 = .ok (.aload_n 0, 1) := by decide +kernel
theorem dX8_shareAt_30 : decode cX8_shareAt 30 = .ok (.getfield 65, 3) := by decide +kernel
theorem dX8_shareAt_33 : decode cX8_shareAt 33 = .ok (.getfield 160, 3) := by decide +kernel
theorem dX8_shareAt_36 : decode cX8_shareAt 36 = .ok (.aload_n 0, 1) := by decide +kernel
theorem dX8_shareAt_37 : decode cX8_shareAt 37 = .ok (.getfield 20, 3) := by decide +kernel
theorem dX8_shareAt_40 : decode cX8_shareAt 40 = .ok (.getfield 90, 3) := by decide +kernel
theorem dX8_shareAt_43 : decode cX8_shareAt 43 = .ok (.iload_n 2, 1) := by decide +kernel
theorem dX8_shareAt_44 : decode cX8_shareAt 44 = .ok (.iaload, 1) := by decide +kernel
theorem dX8_shareAt_45 : decode cX8_shareAt 45 = .ok (.if_icmp .ge 7, 3) := by decide +kernel
theorem dX8_shareAt_48 : decode cX8_shareAt 48 = .ok (.ldc2_w 143, 3) := by decide +kernel
theorem dX8_shareAt_51 : decode cX8_shareAt 51 = .ok (.lreturn, 1) := by decide +kernel
theorem dX8_shareAt_52 : decode cX8_shareAt 52 = .ok (.aload_n 0, 1) := by decide +kernel
theorem dX8_shareAt_53 : decode cX8_shareAt 53 = .ok (.getfield 20, 3) := by decide +kernel
theorem dX8_shareAt_56 : decode cX8_shareAt 56 = .ok (.iload_n 2, 1) := by decide +kernel
theorem dX8_shareAt_57 : decode cX8_shareAt 57 = .ok (.aload_n 0, 1) := by decide +kernel
theorem dX8_shareAt_58 : decode cX8_shareAt 58 = .ok (.getfield 65, 3) := by decide +kernel
theorem dX8_shareAt_61 : decode cX8_shareAt 61 = .ok (.iload_n 1, 1) := by decide +kernel
theorem dX8_shareAt_62 : decode cX8_shareAt 62 = .ok (.aload_n 0, 1) := by decide +kernel
theorem dX8_shareAt_63 : decode cX8_shareAt 63 = .ok (.getfield 51, 3) := by decide +kernel
theorem dX8_shareAt_66 : decode cX8_shareAt 66 = .ok (.invokevirtual 187, 3) := by decide +kernel
theorem dX8_shareAt_69 : decode cX8_shareAt 69 = .ok (.aload_n 0, 1) := by decide +kernel
theorem dX8_shareAt_70 : decode cX8_shareAt 70 = .ok (.getfield 51, 3) := by decide +kernel
theorem dX8_shareAt_73 : decode cX8_shareAt 73 = .ok (.iload_n 3, 1) := by decide +kernel
theorem dX8_shareAt_74 : decode cX8_shareAt 74 = .ok (.invokevirtual 156, 3) := by decide +kernel
theorem dX8_shareAt_77 : decode cX8_shareAt 77 = .ok (.lreturn, 1) := by decide +kernel
theorem dX8_maps_0 : decode cX8_maps 0 = .ok (.aload_n 0, 1) := by decide +kernel
theorem dX8_maps_1 : decode cX8_maps 1 = .ok (.getfield 16, 3) := by decide +kernel
theorem dX8_maps_4 : decode cX8_maps 4 = .ok (.iload_n 1, 1) := by decide +kernel
theorem dX8_maps_5 : decode cX8_maps 5 = .ok (.invokevirtual 86, 3) := by decide +kernel
theorem dX8_maps_8 : decode cX8_maps 8 = .ok (.ifCond .eq 22, 3) := by decide +kernel
theorem dX8_maps_11 : decode cX8_maps 11 = .ok (.aload_n 0, 1) := by decide +kernel
theorem dX8_maps_12 : decode cX8_maps 12 = .ok (.getfield 65, 3) := by decide +kernel
theorem dX8_maps_15 : decode cX8_maps 15 = .ok (.aload_n 0, 1) := by decide +kernel
theorem dX8_maps_16 : decode cX8_maps 16 = .ok (.getfield 16, 3) := by decide +kernel
theorem dX8_maps_19 : decode cX8_maps 19 = .ok (.getfield 109, 3) := by decide +kernel
theorem dX8_maps_22 : decode cX8_maps 22 = .ok (.iload_n 1, 1) := by decide +kernel
theorem dX8_maps_23 : decode cX8_maps 23 = .ok (.aaload, 1) := by decide +kernel
theorem dX8_maps_24 : decode cX8_maps 24 = .ok (.invokevirtual 191, 3) := by decide +kernel
theorem dX8_maps_27 : decode cX8_maps 27 = .ok (.goto 4, 3) := by decide +kernel
theorem dX8_maps_30 : decode cX8_maps 30 = .ok (.iconst (-1), 1) := by decide +kernel
theorem dX8_maps_31 : decode cX8_maps 31 = .ok (.ireturn, 1) := by decide +kernel
theorem dX8_rank_0 : decode cX8_rank 0 = .ok (.aload_n 0, 1) := by decide +kernel
theorem dX8_rank_1 : decode cX8_rank 1 = .ok (.getfield 16, 3) := by decide +kernel
theorem dX8_rank_4 : decode cX8_rank 4 = .ok (.iload_n 1, 1) := by decide +kernel
theorem dX8_rank_5 : decode cX8_rank 5 = .ok (.invokevirtual 122, 3) := by decide +kernel
theorem dX8_rank_8 : decode cX8_rank 8 = .ok (.ifCond .eq 19, 3) := by decide +kernel
theorem dX8_rank_11 : decode cX8_rank 11 = .ok (.iload_n 2, 1) := by decide +kernel
theorem dX8_rank_12 : decode cX8_rank 12 = .ok (.ifCond .lt 15, 3) := by decide +kernel
theorem dX8_rank_15 : decode cX8_rank 15 = .ok (.iload_n 2, 1) := by decide +kernel
theorem dX8_rank_16 : decode cX8_rank 16 = .ok (.aload_n 0, 1) := by decide +kernel
theorem dX8_rank_17 : decode cX8_rank 17 = .ok (.getfield 16, 3) := by decide +kernel
theorem dX8_rank_20 : decode cX8_rank 20 = .ok (.iload_n 1, 1) := by decide +kernel
theorem dX8_rank_21 : decode cX8_rank 21 = .ok (.invokevirtual 195, 3) := by decide +kernel
theorem dX8_rank_24 : decode cX8_rank 24 = .ok (.if_icmp .lt 5, 3) := by decide +kernel
theorem dX8_rank_27 : decode cX8_rank 27 = .ok (.iconst (-1), 1) := by decide +kernel
theorem dX8_rank_28 : decode cX8_rank 28 = .ok (.ireturn, 1) := by decide +kernel
theorem dX8_rank_29 : decode cX8_rank 29 = .ok (.aload_n 0, 1) := by decide +kernel
theorem dX8_rank_30 : decode cX8_rank 30 = .ok (.getfield 65, 3) := by decide +kernel
theorem dX8_rank_33 : decode cX8_rank 33 = .ok (.getfield 160, 3) := by decide +kernel
theorem dX8_rank_36 : decode cX8_rank 36 = .ok (.iload_n 1, 1) := by decide +kernel
theorem dX8_rank_37 : decode cX8_rank 37 = .ok (.if_icmp .ge 6, 3) := by decide +kernel
theorem dX8_rank_40 : decode cX8_rank 40 = .ok (.bipush (-3), 2) := by decide +kernel
theorem dX8_rank_42 : decode cX8_rank 42 = .ok (.ireturn, 1) := by decide +kernel
theorem dX8_rank_43 : decode cX8_rank 43 = .ok (.aload_n 0, 1) := by decide +kernel
theorem dX8_rank_44 : decode cX8_rank 44 = .ok (.getfield 16, 3) := by decide +kernel
theorem dX8_rank_47 : decode cX8_rank 47 = .ok (.aload_n 0, 1) := by decide +kernel
theorem dX8_rank_48 : decode cX8_rank 48 = .ok (.getfield 65, 3) := by decide +kernel
theorem dX8_rank_51 : decode cX8_rank 51 = .ok (.iconst (-1), 1) := by decide +kernel
theorem dX8_rank_52 : decode cX8_rank 52 = .ok (.iload_n 1, 1) := by decide +kernel
theorem dX8_rank_53 : decode cX8_rank 53 = .ok (.invokevirtual 198, 3) := by decide +kernel
theorem dX8_rank_56 : decode cX8_rank 56 = .ok (.aload_n 0, 1) := by decide +kernel
theorem dX8_rank_57 : decode cX8_rank 57 = .ok (.getfield 16, 3) := by decide +kernel
theorem dX8_rank_60 : decode cX8_rank 60 = .ok (.iload_n 1, 1) := by decide +kernel
theorem dX8_rank_61 : decode cX8_rank 61 = .ok (.iload_n 2, 1) := by decide +kernel
theorem dX8_rank_62 : decode cX8_rank 62 = .ok (.invokevirtual 202, 3) := by decide +kernel
theorem dX8_rank_65 : decode cX8_rank 65 = .ok (.ireturn, 1) := by decide +kernel
theorem dX8_found_0 : decode cX8_found 0 = .ok (.aload_n 0, 1) := by decide +kernel
theorem dX8_found_1 : decode cX8_found 1 = .ok (.getfield 16, 3) := by decide +kernel
theorem dX8_found_4 : decode cX8_found 4 = .ok (.iload_n 1, 1) := by decide +kernel
theorem dX8_found_5 : decode cX8_found 5 = .ok (.invokevirtual 122, 3) := by decide +kernel
theorem dX8_found_8 : decode cX8_found 8 = .ok (.ifCond .eq 8, 3) := by decide +kernel
theorem dX8_found_11 : decode cX8_found 11 = .ok (.iload_n 2, 1) := by decide +kernel
theorem dX8_found_12 : decode cX8_found 12 = .ok (.iconst (-1), 1) := by decide +kernel
theorem dX8_found_13 : decode cX8_found 13 = .ok (.if_icmp .ge 5, 3) := by decide +kernel
theorem dX8_found_16 : decode cX8_found 16 = .ok (.iconst (-1), 1) := by decide +kernel
theorem dX8_found_17 : decode cX8_found 17 = .ok (.ireturn, 1) := by decide +kernel
theorem dX8_found_18 : decode cX8_found 18 = .ok (.aload_n 0, 1) := by decide +kernel
theorem dX8_found_19 : decode cX8_found 19 = .ok (.getfield 65, 3) := by decide +kernel
theorem dX8_found_22 : decode cX8_found 22 = .ok (.getfield 160, 3) := by decide +kernel
theorem dX8_found_25 : decode cX8_found 25 = .ok (.iload_n 1, 1) := by decide +kernel
theorem dX8_found_26 : decode cX8_found 26 = .ok (.if_icmp .ge 6, 3) := by decide +kernel
theorem dX8_found_29 : decode cX8_found 29 = .ok (.bipush (-3), 2) := by decide +kernel
theorem dX8_found_31 : decode cX8_found 31 = .ok (.ireturn, 1) := by decide +kernel
theorem dX8_found_32 : decode cX8_found 32 = .ok (.aload_n 0, 1) := by decide +kernel
theorem dX8_found_33 : decode cX8_found 33 = .ok (.getfield 16, 3) := by decide +kernel
theorem dX8_found_36 : decode cX8_found 36 = .ok (.aload_n 0, 1) := by decide +kernel
theorem dX8_found_37 : decode cX8_found 37 = .ok (.getfield 65, 3) := by decide +kernel
theorem dX8_found_40 : decode cX8_found 40 = .ok (.iconst (-1), 1) := by decide +kernel
theorem dX8_found_41 : decode cX8_found 41 = .ok (.iload_n 1, 1) := by decide +kernel
theorem dX8_found_42 : decode cX8_found 42 = .ok (.invokevirtual 198, 3) := by decide +kernel
theorem dX8_found_45 : decode cX8_found 45 = .ok (.iload_n 2, 1) := by decide +kernel
theorem dX8_found_46 : decode cX8_found 46 = .ok (.iconst (-1), 1) := by decide +kernel
theorem dX8_found_47 : decode cX8_found 47 = .ok (.if_icmp .ne 11, 3) := by decide +kernel
theorem dX8_found_50 : decode cX8_found 50 = .ok (.aload_n 0, 1) := by decide +kernel
theorem dX8_found_51 : decode cX8_found 51 = .ok (.getfield 16, 3) := by decide +kernel
theorem dX8_found_54 : decode cX8_found 54 = .ok (.getfield 205, 3) := by decide +kernel
theorem dX8_found_57 : decode cX8_found 57 = .ok (.ireturn, 1) := by decide +kernel
theorem dX8_found_58 : decode cX8_found 58 = .ok (.iload_n 2, 1) := by decide +kernel
theorem dX8_found_59 : decode cX8_found 59 = .ok (.aload_n 0, 1) := by decide +kernel
theorem dX8_found_60 : decode cX8_found 60 = .ok (.getfield 16, 3) := by decide +kernel
theorem dX8_found_63 : decode cX8_found 63 = .ok (.getfield 205, 3) := by decide +kernel
theorem dX8_found_66 : decode cX8_found 66 = .ok (.if_icmp .ge 15, 3) := by decide +kernel
theorem dX8_found_69 : decode cX8_found 69 = .ok (.aload_n 0, 1) := by decide +kernel
theorem dX8_found_70 : decode cX8_found 70 = .ok (.getfield 16, 3) := by decide +kernel
theorem dX8_found_73 : decode cX8_found 73 = .ok (.getfield 208, 3) := by decide +kernel
theorem dX8_found_76 : decode cX8_found 76 = .ok (.iload_n 2, 1) := by decide +kernel
theorem dX8_found_77 : decode cX8_found 77 = .ok (.iaload, 1) := by decide +kernel
theorem dX8_found_78 : decode cX8_found 78 = .ok (.goto 5, 3) := by decide +kernel
theorem dX8_found_81 : decode cX8_found 81 = .ok (.bipush (-5), 2) := by decide +kernel
theorem dX8_found_83 : decode cX8_found 83 = .ok (.ireturn, 1) := by decide +kernel
theorem dX8_feed_0 : decode cX8_feed 0 = .ok (.iload_n 1, 1) := by decide +kernel
theorem dX8_feed_1 : decode cX8_feed 1 = .ok (.ifCond .lt 9, 3) := by decide +kernel
theorem dX8_feed_4 : decode cX8_feed 4 = .ok (.iload_n 1, 1) := by decide +kernel
theorem dX8_feed_5 : decode cX8_feed 5 = .ok (.bipush 127, 2) := by decide +kernel
theorem dX8_feed_7 : decode cX8_feed 7 = .ok (.if_icmp .le 6, 3) := by decide +kernel
theorem dX8_feed_10 : decode cX8_feed 10 = .ok (.bipush (-2), 2) := by decide +kernel
theorem dX8_feed_12 : decode cX8_feed 12 = .ok (.ireturn, 1) := by decide +kernel
theorem dX8_feed_13 : decode cX8_feed 13 = .ok (.aload_n 0, 1) := by decide +kernel
theorem dX8_feed_14 : decode cX8_feed 14 = .ok (.getfield 35, 3) := by decide +kernel
theorem dX8_feed_17 : decode cX8_feed 17 = .ok (.getfield 211, 3) := by decide +kernel
theorem dX8_feed_20 : decode cX8_feed 20 = .ok (.bipush 60, 2) := by decide +kernel
theorem dX8_feed_22 : decode cX8_feed 22 = .ok (.if_icmp .lt 6, 3) := by decide +kernel
theorem dX8_feed_25 : decode cX8_feed 25 = .ok (.bipush (-4), 2) := by decide +kernel
theorem dX8_feed_27 : decode cX8_feed 27 = .ok (.ireturn, 1) := by decide +kernel
theorem dX8_feed_28 : decode cX8_feed 28 = .ok (.aload_n 0, 1) := by decide +kernel
theorem dX8_feed_29 : decode cX8_feed 29 = .ok (.getfield 35, 3) := by decide +kernel
theorem dX8_feed_32 : decode cX8_feed 32 = .ok (.getfield 214, 3) := by decide +kernel
theorem dX8_feed_35 : decode cX8_feed 35 = .ok (.aload_n 0, 1) := by decide +kernel
theorem dX8_feed_36 : decode cX8_feed 36 = .ok (.getfield 35, 3) := by decide +kernel
theorem dX8_feed_39 : decode cX8_feed 39 = .ok (.getfield 211, 3) := by decide +kernel
theorem dX8_feed_42 : decode cX8_feed 42 = .ok (.iload_n 1, 1) := by decide +kernel
theorem dX8_feed_43 : decode cX8_feed 43 = .ok (.iastore, 1) := by decide +kernel
theorem dX8_feed_44 : decode cX8_feed 44 = .ok (.aload_n 0, 1) := by decide +kernel
theorem dX8_feed_45 : decode cX8_feed 45 = .ok (.getfield 35, 3) := by decide +kernel
theorem dX8_feed_48 : decode cX8_feed 48 = .ok (.dup, 1) := by decide +kernel
theorem dX8_feed_49 : decode cX8_feed 49 = .ok (.getfield 211, 3) := by decide +kernel
theorem dX8_feed_52 : decode cX8_feed 52 = .ok (.iconst 1, 1) := by decide +kernel
theorem dX8_feed_53 : decode cX8_feed 53 = .ok (.iadd, 1) := by decide +kernel
theorem dX8_feed_54 : decode cX8_feed 54 = .ok (.putfield 211, 3) := by decide +kernel
theorem dX8_feed_57 : decode cX8_feed 57 = .ok (.aload_n 0, 1) := by decide +kernel
theorem dX8_feed_58 : decode cX8_feed 58 = .ok (.getfield 35, 3) := by decide +kernel
theorem dX8_feed_61 : decode cX8_feed 61 = .ok (.getfield 211, 3) := by decide +kernel
theorem dX8_feed_64 : decode cX8_feed 64 = .ok (.ireturn, 1) := by decide +kernel
theorem dX8_read_0 : decode cX8_read 0 = .ok (.iload_n 1, 1) := by decide +kernel
theorem dX8_read_1 : decode cX8_read 1 = .ok (.invokestatic 217, 3) := by decide +kernel
theorem dX8_read_4 : decode cX8_read 4 = .ok (.ifCond .ne 5, 3) := by decide +kernel
theorem dX8_read_7 : decode cX8_read 7 = .ok (.iconst (-1), 1) := by decide +kernel
theorem dX8_read_8 : decode cX8_read 8 = .ok (.ireturn, 1) := by decide +kernel
theorem dX8_read_9 : decode cX8_read 9 = .ok (.aload_n 0, 1) := by decide +kernel
theorem dX8_read_10 : decode cX8_read 10 = .ok (.getfield 35, 3) := by decide +kernel
theorem dX8_read_13 : decode cX8_read 13 = .ok (.invokevirtual 220, 3) := by decide +kernel
theorem dX8_read_16 : decode cX8_read 16 = .ok (.istore_n 2, 1) := by decide +kernel
theorem dX8_read_17 : decode cX8_read 17 = .ok (.iload_n 2, 1) := by decide +kernel
theorem dX8_read_18 : decode cX8_read 18 = .ok (.ifCond .ne 15, 3) := by decide +kernel
theorem dX8_read_21 : decode cX8_read 21 = .ok (.aload_n 0, 1) := by decide +kernel
theorem dX8_read_22 : decode cX8_read 22 = .ok (.getfield 44, 3) := by decide +kernel
theorem dX8_read_25 : decode cX8_read 25 = .ok (.aload_n 0, 1) := by decide +kernel
theorem dX8_read_26 : decode cX8_read 26 = .ok (.getfield 35, 3) := by decide +kernel
theorem dX8_read_29 : decode cX8_read 29 = .ok (.invokevirtual 223, 3) := by decide +kernel
theorem dX8_read_32 : decode cX8_read 32 = .ok (.istore_n 2, 1) := by decide +kernel
theorem dX8_read_33 : decode cX8_read 33 = .ok (.aload_n 0, 1) := by decide +kernel
theorem dX8_read_34 : decode cX8_read 34 = .ok (.getfield 35, 3) := by decide +kernel
theorem dX8_read_37 : decode cX8_read 37 = .ok (.iconst 0, 1) := by decide +kernel
theorem dX8_read_38 : decode cX8_read 38 = .ok (.putfield 211, 3) := by decide +kernel
theorem dX8_read_41 : decode cX8_read 41 = .ok (.iload_n 2, 1) := by decide +kernel
theorem dX8_read_42 : decode cX8_read 42 = .ok (.ifCond .eq 5, 3) := by decide +kernel
theorem dX8_read_45 : decode cX8_read 45 = .ok (.iload_n 2, 1) := by decide +kernel
theorem dX8_read_46 : decode cX8_read 46 = .ok (.ireturn, 1) := by decide +kernel
theorem dX8_read_47 : decode cX8_read 47 = .ok (.aload_n 0, 1) := by decide +kernel
theorem dX8_read_48 : decode cX8_read 48 = .ok (.getfield 72, 3) := by decide +kernel
theorem dX8_read_51 : decode cX8_read 51 = .ok (.iload_n 1, 1) := by decide +kernel
theorem dX8_read_52 : decode cX8_read 52 = .ok (.aload_n 0, 1) := by decide +kernel
theorem dX8_read_53 : decode cX8_read 53 = .ok (.getfield 44, 3) := by decide +kernel
theorem dX8_read_56 : decode cX8_read 56 = .ok (.invokevirtual 227, 3) := by decide +kernel
theorem dX8_read_59 : decode cX8_read 59 = .ok (.invokevirtual 231, 3) := by decide +kernel
theorem dX8_read_62 : decode cX8_read 62 = .ok (.ireturn, 1) := by decide +kernel
theorem dX8_clear_0 : decode cX8_clear 0 = .ok (.iload_n 1, 1) := by decide +kernel
theorem dX8_clear_1 : decode cX8_clear 1 = .ok (.invokestatic 217, 3) := by decide +kernel
theorem dX8_clear_4 : decode cX8_clear 4 = .ok (.ifCond .ne 5, 3) := by decide +kernel
theorem dX8_clear_7 : decode cX8_clear 7 = .ok (.iconst (-1), 1) := by decide +kernel
theorem dX8_clear_8 : decode cX8_clear 8 = .ok (.ireturn, 1) := by decide +kernel
theorem dX8_clear_9 : decode cX8_clear 9 = .ok (.aload_n 0, 1) := by decide +kernel
theorem dX8_clear_10 : decode cX8_clear 10 = .ok (.getfield 72, 3) := by decide +kernel
theorem dX8_clear_13 : decode cX8_clear 13 = .ok (.getfield 235, 3) := by decide +kernel
theorem dX8_clear_16 : decode cX8_clear 16 = .ok (.iload_n 1, 1) := by decide +kernel
theorem dX8_clear_17 : decode cX8_clear 17 = .ok (.aaload, 1) := by decide +kernel
theorem dX8_clear_18 : decode cX8_clear 18 = .ok (.invokevirtual 239, 3) := by decide +kernel
theorem dX8_clear_21 : decode cX8_clear 21 = .ok (.istore_n 2, 1) := by decide +kernel
theorem dX8_clear_22 : decode cX8_clear 22 = .ok (.aload_n 0, 1) := by decide +kernel
theorem dX8_clear_23 : decode cX8_clear 23 = .ok (.getfield 72, 3) := by decide +kernel
theorem dX8_clear_26 : decode cX8_clear 26 = .ok (.iload_n 1, 1) := by decide +kernel
theorem dX8_clear_27 : decode cX8_clear 27 = .ok (.invokevirtual 242, 3) := by decide +kernel
theorem dX8_clear_30 : decode cX8_clear 30 = .ok (.iload_n 2, 1) := by decide +kernel
theorem dX8_clear_31 : decode cX8_clear 31 = .ok (.ireturn, 1) := by decide +kernel
theorem dX8_sum_0 : decode cX8_sum 0 = .ok (.iload_n 1, 1) := by decide +kernel
theorem dX8_sum_1 : decode cX8_sum 1 = .ok (.invokestatic 217, 3) := by decide +kernel
theorem dX8_sum_4 : decode cX8_sum 4 = .ok (.ifCond .eq 12, 3) := by decide +kernel
theorem dX8_sum_7 : decode cX8_sum 7 = .ok (.iload_n 2, 1) := by decide +kernel
theorem dX8_sum_8 : decode cX8_sum 8 = .ok (.ifCond .lt 8, 3) := by decide +kernel
theorem dX8_sum_11 : decode cX8_sum 11 = .ok (.iload_n 2, 1) := by decide +kernel
theorem dX8_sum_12 : decode cX8_sum 12 = .ok (.iconst 2, 1) := by decide +kernel
theorem dX8_sum_13 : decode cX8_sum 13 = .ok (.if_icmp .le 5, 3) := by decide +kernel
theorem dX8_sum_16 : decode cX8_sum 16 = .ok (.iconst (-1), 1) := by decide +kernel
theorem dX8_sum_17 : decode cX8_sum 17 = .ok (.ireturn, 1) := by decide +kernel
theorem dX8_sum_18 : decode cX8_sum 18 = .ok (.aload_n 0, 1) := by decide +kernel
theorem dX8_sum_19 : decode cX8_sum 19 = .ok (.getfield 72, 3) := by decide +kernel
theorem dX8_sum_22 : decode cX8_sum 22 = .ok (.getfield 245, 3) := by decide +kernel
theorem dX8_sum_25 : decode cX8_sum 25 = .ok (.iload_n 1, 1) := by decide +kernel
theorem dX8_sum_26 : decode cX8_sum 26 = .ok (.baload, 1) := by decide +kernel
theorem dX8_sum_27 : decode cX8_sum 27 = .ok (.ifCond .ne 6, 3) := by decide +kernel
theorem dX8_sum_30 : decode cX8_sum 30 = .ok (.bipush (-3), 2) := by decide +kernel
theorem dX8_sum_32 : decode cX8_sum 32 = .ok (.ireturn, 1) := by decide +kernel
theorem dX8_sum_33 : decode cX8_sum 33 = .ok (.aload_n 0, 1) := by decide +kernel
theorem dX8_sum_34 : decode cX8_sum 34 = .ok (.getfield 72, 3) := by decide +kernel
theorem dX8_sum_37 : decode cX8_sum 37 = .ok (.getfield 235, 3) := by decide +kernel
theorem dX8_sum_40 : decode cX8_sum 40 = .ok (.iload_n 1, 1) := by decide +kernel
theorem dX8_sum_41 : decode cX8_sum 41 = .ok (.aaload, 1) := by decide +kernel
theorem dX8_sum_42 : decode cX8_sum 42 = .ok (.astore_n 3, 1) := by decide +kernel
theorem dX8_sum_43 : decode cX8_sum 43 = .ok (.iload_n 2, 1) := by decide +kernel
theorem dX8_sum_44 : decode cX8_sum 44 = .ok (.ifCond .ne 8, 3) := by decide +kernel
theorem dX8_sum_47 : decode cX8_sum 47 = .ok (.aload_n 3, 1) := by decide +kernel
theorem dX8_sum_48 : decode cX8_sum 48 = .ok (.invokevirtual 239, 3) := by decide +kernel
theorem dX8_sum_51 : decode cX8_sum 51 = .ok (.ireturn, 1) := by decide +kernel
theorem dX8_sum_52 : decode cX8_sum 52 = .ok (.iload_n 2, 1) := by decide +kernel
theorem dX8_sum_53 : decode cX8_sum 53 = .ok (.iconst 1, 1) := by decide +kernel
theorem dX8_sum_54 : decode cX8_sum 54 = .ok (.if_icmp .ne 17, 3) := by decide +kernel
theorem dX8_sum_57 : decode cX8_sum 57 = .ok (.aload_n 3, 1) := by decide +kernel
theorem dX8_sum_58 : decode cX8_sum 58 = .ok (.getfield 249, 3) := by decide +kernel
theorem dX8_sum_61 : decode cX8_sum 61 = .ok (.iconst 2, 1) := by decide +kernel
theorem dX8_sum_62 : decode cX8_sum 62 = .ok (.if_icmp .ne 7, 3) := by decide +kernel
theorem dX8_sum_65 : decode cX8_sum 65 = .ok (.iconst 1, 1) := by decide +kernel
theorem dX8_sum_66 : decode cX8_sum 66 = .ok (.goto 4, 3) := by decide +kernel
theorem dX8_sum_69 : decode cX8_sum 69 = .ok (.iconst 0, 1) := by decide +kernel
theorem dX8_sum_70 : decode cX8_sum 70 = .ok (.ireturn, 1) := by decide +kernel
theorem dX8_sum_71 : decode cX8_sum 71 = .ok (.aload_n 3, 1) := by decide +kernel
theorem dX8_sum_72 : decode cX8_sum 72 = .ok (.invokevirtual 239, 3) := by decide +kernel
theorem dX8_sum_75 : decode cX8_sum 75 = .ok (.ifCond .ne 8, 3) := by decide +kernel
theorem dX8_sum_78 : decode cX8_sum 78 = .ok (.bipush (-5), 2) := by decide +kernel
theorem dX8_sum_80 : decode cX8_sum 80 = .ok (.goto 15, 3) := by decide +kernel
theorem dX8_sum_83 : decode cX8_sum 83 = .ok (.aload_n 0, 1) := by decide +kernel
theorem dX8_sum_84 : decode cX8_sum 84 = .ok (.getfield 28, 3) := by decide +kernel
theorem dX8_sum_87 : decode cX8_sum 87 = .ok (.aload_n 3, 1) := by decide +kernel
theorem dX8_sum_88 : decode cX8_sum 88 = .ok (.aload_n 3, 1) := by decide +kernel
theorem dX8_sum_89 : decode cX8_sum 89 = .ok (.getfield 249, 3) := by decide +kernel
theorem dX8_sum_92 : decode cX8_sum 92 = .ok (.invokevirtual 252, 3) := by decide +kernel
theorem dX8_sum_95 : decode cX8_sum 95 = .ok (.ireturn, 1) := by decide +kernel
theorem dX8_term_0 : decode cX8_term 0 = .ok (.iload_n 1, 1) := by decide +kernel
theorem dX8_term_1 : decode cX8_term 1 = .ok (.invokestatic 217, 3) := by decide +kernel
theorem dX8_term_4 : decode cX8_term 4 = .ok (.ifCond .eq 7, 3) := by decide +kernel
theorem dX8_term_7 : decode cX8_term 7 = .ok (.iload_n 2, 1) := by decide +kernel
theorem dX8_term_8 : decode cX8_term 8 = .ok (.ifCond .ge 5, 3) := by decide +kernel
theorem dX8_term_11 : decode cX8_term 11 = .ok (.iconst (-1), 1) := by decide +kernel
theorem dX8_term_12 : decode cX8_term 12 = .ok (.ireturn, 1) := by decide +kernel
theorem dX8_term_13 : decode cX8_term 13 = .ok (.aload_n 0, 1) := by decide +kernel
theorem dX8_term_14 : decode cX8_term 14 = .ok (.getfield 72, 3) := by decide +kernel
theorem dX8_term_17 : decode cX8_term 17 = .ok (.getfield 245, 3) := by decide +kernel
theorem dX8_term_20 : decode cX8_term 20 = .ok (.iload_n 1, 1) := by decide +kernel
theorem dX8_term_21 : decode cX8_term 21 = .ok (.baload, 1) := by decide +kernel
theorem dX8_term_22 : decode cX8_term 22 = .ok (.ifCond .eq 19, 3) := by decide +kernel
theorem dX8_term_25 : decode cX8_term 25 = .ok (.aload_n 0, 1) := by decide +kernel
theorem dX8_term_26 : decode cX8_term 26 = .ok (.getfield 72, 3) := by decide +kernel
theorem dX8_term_29 : decode cX8_term 29 = .ok (.getfield 235, 3) := by decide +kernel
theorem dX8_term_32 : decode cX8_term 32 = .ok (.iload_n 1, 1) := by decide +kernel
theorem dX8_term_33 : decode cX8_term 33 = .ok (.aaload, 1) := by decide +kernel
theorem dX8_term_34 : decode cX8_term 34 = .ok (.iload_n 2, 1) := by decide +kernel
theorem dX8_term_35 : decode cX8_term 35 = .ok (.invokevirtual 256, 3) := by decide +kernel
theorem dX8_term_38 : decode cX8_term 38 = .ok (.goto 5, 3) := by decide +kernel
theorem dX8_term_41 : decode cX8_term 41 = .ok (.bipush (-3), 2) := by decide +kernel
theorem dX8_term_43 : decode cX8_term 43 = .ok (.ireturn, 1) := by decide +kernel
theorem dX8_coefficient_0 : decode cX8_coefficient 0 = .ok (.iload_n 1, 1) := by decide +kernel
theorem dX8_coefficient_1 : decode cX8_coefficient 1 = .ok (.invokestatic 217, 3) := by decide +kernel
theorem dX8_coefficient_4 : decode cX8_coefficient 4 = .ok (.ifCond .eq 22, 3) := by decide +kernel
theorem dX8_coefficient_7 : decode cX8_coefficient 7 = .ok (.iload_n 3, 1) := by decide +kernel
theorem dX8_coefficient_8 : decode cX8_coefficient 8 = .ok (.invokestatic 136, 3) := by decide +kernel
theorem dX8_coefficient_11 : decode cX8_coefficient 11 = .ok (.ifCond .eq 15, 3) := by decide +kernel
theorem dX8_coefficient_14 : decode cX8_coefficient 14 = .ok (.aload_n 0, 1) := by decide +kernel
theorem dX8_coefficient_15 : decode cX8_coefficient 15 = .ok (.getfield 72, 3) := by decide +kernel
theorem dX8_coefficient_18 : decode cX8_coefficient 18 = .ok (.getfield 245, 3) := by decide +kernel
theorem dX8_coefficient_21 : decode cX8_coefficient 21 = .ok (.iload_n 1, 1) := by decide +kernel
theorem dX8_coefficient_22 : decode cX8_coefficient 22 = .ok (.baload, 1) := by decide +kernel
theorem dX8_coefficient_23 : decode cX8_coefficient 23 = .ok (.ifCond .ne 7, 3) := by decide +kernel
theorem dX8_coefficient_26 : decode cX8_coefficient 26 = .ok (.ldc2_w 143, 3) := by decide +kernel
theorem dX8_coefficient_29 : decode cX8_coefficient 29 = .ok (.lreturn, 1) := by decide +kernel
theorem dX8_coefficient_30 : decode cX8_coefficient 30 = .ok (.aload_n 0, 1) := by decide +kernel
theorem dX8_coefficient_31 : decode cX8_coefficient 31 = .ok (.getfield 72, 3) := by decide +kernel
theorem dX8_coefficient_34 : decode cX8_coefficient 34 = .ok (.getfield 235, 3) := by decide +kernel
theorem dX8_coefficient_37 : decode cX8_coefficient 37 = .ok (.iload_n 1, 1) := by decide +kernel
theorem dX8_coefficient_38 : decode cX8_coefficient 38 = .ok (.aaload, 1) := by decide +kernel
theorem dX8_coefficient_39 : decode cX8_coefficient 39 = .ok (.astore 4, 2) := by decide +kernel
theorem dX8_coefficient_41 : decode cX8_coefficient 41 = .ok (.aload 4, 2) := by decide +kernel
theorem dX8_coefficient_43 : decode cX8_coefficient 43 = .ok (.iload_n 2, 1) := by decide +kernel
theorem dX8_coefficient_44 : decode cX8_coefficient 44 = .ok (.invokevirtual 256, 3) := by decide +kernel
theorem dX8_coefficient_47 : decode cX8_coefficient 47 = .ok (.istore 5, 2) := by decide +kernel
theorem dX8_coefficient_49 : decode cX8_coefficient 49 = .ok (.iload 5, 2) := by decide +kernel
theorem dX8_coefficient_51 : decode cX8_coefficient 51 = .ok (.iconst (-1), 1) := by decide +kernel
theorem dX8_coefficient_52 : decode cX8_coefficient 52 = .ok (.if_icmp .ne 7, 3) := by decide +kernel
theorem dX8_coefficient_55 : decode cX8_coefficient 55 = .ok (.ldc2_w 143, 3) := by decide +kernel
theorem dX8_coefficient_58 : decode cX8_coefficient 58 = .ok (.lreturn, 1) := by decide +kernel
theorem dX8_coefficient_59 : decode cX8_coefficient 59 = .ok (.iload_n 3, 1) := by decide +kernel
theorem dX8_coefficient_60 : decode cX8_coefficient 60 = .ok (.ifCond .ne 14, 3) := by decide +kernel
theorem dX8_coefficient_63 : decode cX8_coefficient 63 = .ok (.aload 4, 2) := by decide +kernel
theorem dX8_coefficient_65 : decode cX8_coefficient 65 = .ok (.getfield 259, 3) := by decide +kernel
theorem dX8_coefficient_68 : decode cX8_coefficient 68 = .ok (.iload 5, 2) := by decide +kernel
theorem dX8_coefficient_70 : decode cX8_coefficient 70 = .ok (.laload, 1) := by decide +kernel
theorem dX8_coefficient_71 : decode cX8_coefficient 71 = .ok (.goto 11, 3) := by decide +kernel
theorem dX8_coefficient_74 : decode cX8_coefficient 74 = .ok (.aload 4, 2) := by decide +kernel
theorem dX8_coefficient_76 : decode cX8_coefficient 76 = .ok (.getfield 263, 3) := by decide +kernel
theorem dX8_coefficient_79 : decode cX8_coefficient 79 = .ok (.iload 5, 2) := by decide +kernel
theorem dX8_coefficient_81 : decode cX8_coefficient 81 = .ok (.laload, 1) := by decide +kernel
theorem dX8_coefficient_82 : decode cX8_coefficient 82 = .ok (.lreturn, 1) := by decide +kernel
theorem dX8_makes_0 : decode cX8_makes 0 = .ok (.iload_n 1, 1) := by decide +kernel
theorem dX8_makes_1 : decode cX8_makes 1 = .ok (.invokestatic 217, 3) := by decide +kernel
theorem dX8_makes_4 : decode cX8_makes 4 = .ok (.ifCond .eq 27, 3) := by decide +kernel
theorem dX8_makes_7 : decode cX8_makes 7 = .ok (.iload_n 2, 1) := by decide +kernel
theorem dX8_makes_8 : decode cX8_makes 8 = .ok (.invokestatic 217, 3) := by decide +kernel
theorem dX8_makes_11 : decode cX8_makes 11 = .ok (.ifCond .eq 20, 3) := by decide +kernel
theorem dX8_makes_14 : decode cX8_makes 14 = .ok (.iload 4, 2) := by decide +kernel
theorem dX8_makes_16 : decode cX8_makes 16 = .ok (.invokestatic 217, 3) := by decide +kernel
theorem dX8_makes_19 : decode cX8_makes 19 = .ok (.ifCond .eq 12, 3) := by decide +kernel
theorem dX8_makes_22 : decode cX8_makes 22 = .ok (.iload_n 3, 1) := by decide +kernel
theorem dX8_makes_23 : decode cX8_makes 23 = .ok (.ifCond .lt 8, 3) := by decide +kernel
theorem dX8_makes_26 : decode cX8_makes 26 = .ok (.iload_n 3, 1) := by decide +kernel
theorem dX8_makes_27 : decode cX8_makes 27 = .ok (.iconst 2, 1) := by decide +kernel
theorem dX8_makes_28 : decode cX8_makes 28 = .ok (.if_icmp .le 5, 3) := by decide +kernel
theorem dX8_makes_31 : decode cX8_makes 31 = .ok (.iconst (-1), 1) := by decide +kernel
theorem dX8_makes_32 : decode cX8_makes 32 = .ok (.ireturn, 1) := by decide +kernel
theorem dX8_makes_33 : decode cX8_makes 33 = .ok (.aload_n 0, 1) := by decide +kernel
theorem dX8_makes_34 : decode cX8_makes 34 = .ok (.getfield 72, 3) := by decide +kernel
theorem dX8_makes_37 : decode cX8_makes 37 = .ok (.getfield 245, 3) := by decide +kernel
theorem dX8_makes_40 : decode cX8_makes 40 = .ok (.iload_n 1, 1) := by decide +kernel
theorem dX8_makes_41 : decode cX8_makes 41 = .ok (.baload, 1) := by decide +kernel
theorem dX8_makes_42 : decode cX8_makes 42 = .ok (.ifCond .eq 15, 3) := by decide +kernel
theorem dX8_makes_45 : decode cX8_makes 45 = .ok (.aload_n 0, 1) := by decide +kernel
theorem dX8_makes_46 : decode cX8_makes 46 = .ok (.getfield 72, 3) := by decide +kernel
theorem dX8_makes_49 : decode cX8_makes 49 = .ok (.getfield 245, 3) := by decide +kernel
theorem dX8_makes_52 : decode cX8_makes 52 = .ok (.iload_n 2, 1) := by decide +kernel
theorem dX8_makes_53 : decode cX8_makes 53 = .ok (.baload, 1) := by decide +kernel
theorem dX8_makes_54 : decode cX8_makes 54 = .ok (.ifCond .ne 6, 3) := by decide +kernel
theorem dX8_makes_57 : decode cX8_makes 57 = .ok (.bipush (-3), 2) := by decide +kernel
theorem dX8_makes_59 : decode cX8_makes 59 = .ok (.ireturn, 1) := by decide +kernel
theorem dX8_makes_60 : decode cX8_makes 60 = .ok (.aload_n 0, 1) := by decide +kernel
theorem dX8_makes_61 : decode cX8_makes 61 = .ok (.getfield 28, 3) := by decide +kernel
theorem dX8_makes_64 : decode cX8_makes 64 = .ok (.aload_n 0, 1) := by decide +kernel
theorem dX8_makes_65 : decode cX8_makes 65 = .ok (.getfield 72, 3) := by decide +kernel
theorem dX8_makes_68 : decode cX8_makes 68 = .ok (.getfield 235, 3) := by decide +kernel
theorem dX8_makes_71 : decode cX8_makes 71 = .ok (.iload_n 1, 1) := by decide +kernel
theorem dX8_makes_72 : decode cX8_makes 72 = .ok (.aaload, 1) := by decide +kernel
theorem dX8_makes_73 : decode cX8_makes 73 = .ok (.aload_n 0, 1) := by decide +kernel
theorem dX8_makes_74 : decode cX8_makes 74 = .ok (.getfield 72, 3) := by decide +kernel
theorem dX8_makes_77 : decode cX8_makes 77 = .ok (.getfield 235, 3) := by decide +kernel
theorem dX8_makes_80 : decode cX8_makes 80 = .ok (.iload_n 2, 1) := by decide +kernel
theorem dX8_makes_81 : decode cX8_makes 81 = .ok (.aaload, 1) := by decide +kernel
theorem dX8_makes_82 : decode cX8_makes 82 = .ok (.iload_n 3, 1) := by decide +kernel
theorem dX8_makes_83 : decode cX8_makes 83 = .ok (.aload_n 0, 1) := by decide +kernel
theorem dX8_makes_84 : decode cX8_makes 84 = .ok (.getfield 58, 3) := by decide +kernel
theorem dX8_makes_87 : decode cX8_makes 87 = .ok (.invokevirtual 266, 3) := by decide +kernel
theorem dX8_makes_90 : decode cX8_makes 90 = .ok (.istore 5, 2) := by decide +kernel
theorem dX8_makes_92 : decode cX8_makes 92 = .ok (.iload 5, 2) := by decide +kernel
theorem dX8_makes_94 : decode cX8_makes 94 = .ok (.ifCond .eq 8, 3) := by decide +kernel
theorem dX8_makes_97 : decode cX8_makes 97 = .ok (.iload 5, 2) := by decide +kernel
theorem dX8_makes_99 : decode cX8_makes 99 = .ok (.goto 16, 3) := by decide +kernel
theorem dX8_makes_102 : decode cX8_makes 102 = .ok (.aload_n 0, 1) := by decide +kernel
theorem dX8_makes_103 : decode cX8_makes 103 = .ok (.getfield 72, 3) := by decide +kernel
theorem dX8_makes_106 : decode cX8_makes 106 = .ok (.iload 4, 2) := by decide +kernel
theorem dX8_makes_108 : decode cX8_makes 108 = .ok (.aload_n 0, 1) := by decide +kernel
theorem dX8_makes_109 : decode cX8_makes 109 = .ok (.getfield 58, 3) := by decide +kernel
theorem dX8_makes_112 : decode cX8_makes 112 = .ok (.invokevirtual 231, 3) := by decide +kernel
theorem dX8_makes_115 : decode cX8_makes 115 = .ok (.ireturn, 1) := by decide +kernel
theorem dX8_lift_0 : decode cX8_lift 0 = .ok (.iload_n 1, 1) := by decide +kernel
theorem dX8_lift_1 : decode cX8_lift 1 = .ok (.invokestatic 217, 3) := by decide +kernel
theorem dX8_lift_4 : decode cX8_lift 4 = .ok (.ifCond .eq 14, 3) := by decide +kernel
theorem dX8_lift_7 : decode cX8_lift 7 = .ok (.aload_n 0, 1) := by decide +kernel
theorem dX8_lift_8 : decode cX8_lift 8 = .ok (.getfield 16, 3) := by decide +kernel
theorem dX8_lift_11 : decode cX8_lift 11 = .ok (.iload_n 2, 1) := by decide +kernel
theorem dX8_lift_12 : decode cX8_lift 12 = .ok (.invokevirtual 122, 3) := by decide +kernel
theorem dX8_lift_15 : decode cX8_lift 15 = .ok (.ifCond .ne 5, 3) := by decide +kernel
theorem dX8_lift_18 : decode cX8_lift 18 = .ok (.iconst (-1), 1) := by decide +kernel
theorem dX8_lift_19 : decode cX8_lift 19 = .ok (.ireturn, 1) := by decide +kernel
theorem dX8_lift_20 : decode cX8_lift 20 = .ok (.aload_n 0, 1) := by decide +kernel
theorem dX8_lift_21 : decode cX8_lift 21 = .ok (.getfield 72, 3) := by decide +kernel
theorem dX8_lift_24 : decode cX8_lift 24 = .ok (.getfield 245, 3) := by decide +kernel
theorem dX8_lift_27 : decode cX8_lift 27 = .ok (.iload_n 1, 1) := by decide +kernel
theorem dX8_lift_28 : decode cX8_lift 28 = .ok (.baload, 1) := by decide +kernel
theorem dX8_lift_29 : decode cX8_lift 29 = .ok (.ifCond .ne 6, 3) := by decide +kernel
theorem dX8_lift_32 : decode cX8_lift 32 = .ok (.bipush (-3), 2) := by decide +kernel
theorem dX8_lift_34 : decode cX8_lift 34 = .ok (.ireturn, 1) := by decide +kernel
theorem dX8_lift_35 : decode cX8_lift 35 = .ok (.aload_n 0, 1) := by decide +kernel
theorem dX8_lift_36 : decode cX8_lift 36 = .ok (.getfield 72, 3) := by decide +kernel
theorem dX8_lift_39 : decode cX8_lift 39 = .ok (.getfield 235, 3) := by decide +kernel
theorem dX8_lift_42 : decode cX8_lift 42 = .ok (.iload_n 1, 1) := by decide +kernel
theorem dX8_lift_43 : decode cX8_lift 43 = .ok (.aaload, 1) := by decide +kernel
theorem dX8_lift_44 : decode cX8_lift 44 = .ok (.astore_n 3, 1) := by decide +kernel
theorem dX8_lift_45 : decode cX8_lift 45 = .ok (.aload_n 0, 1) := by decide +kernel
theorem dX8_lift_46 : decode cX8_lift 46 = .ok (.getfield 28, 3) := by decide +kernel
theorem dX8_lift_49 : decode cX8_lift 49 = .ok (.aload_n 3, 1) := by decide +kernel
theorem dX8_lift_50 : decode cX8_lift 50 = .ok (.aload_n 3, 1) := by decide +kernel
theorem dX8_lift_51 : decode cX8_lift 51 = .ok (.getfield 249, 3) := by decide +kernel
theorem dX8_lift_54 : decode cX8_lift 54 = .ok (.invokevirtual 252, 3) := by decide +kernel
theorem dX8_lift_57 : decode cX8_lift 57 = .ok (.iload_n 2, 1) := by decide +kernel
theorem dX8_lift_58 : decode cX8_lift 58 = .ok (.if_icmp .le 6, 3) := by decide +kernel
theorem dX8_lift_61 : decode cX8_lift 61 = .ok (.bipush (-2), 2) := by decide +kernel
theorem dX8_lift_63 : decode cX8_lift 63 = .ok (.ireturn, 1) := by decide +kernel
theorem dX8_lift_64 : decode cX8_lift 64 = .ok (.aload_n 0, 1) := by decide +kernel
theorem dX8_lift_65 : decode cX8_lift 65 = .ok (.getfield 28, 3) := by decide +kernel
theorem dX8_lift_68 : decode cX8_lift 68 = .ok (.aload_n 3, 1) := by decide +kernel
theorem dX8_lift_69 : decode cX8_lift 69 = .ok (.iload_n 2, 1) := by decide +kernel
theorem dX8_lift_70 : decode cX8_lift 70 = .ok (.aload_n 0, 1) := by decide +kernel
theorem dX8_lift_71 : decode cX8_lift 71 = .ok (.getfield 58, 3) := by decide +kernel
theorem dX8_lift_74 : decode cX8_lift 74 = .ok (.invokevirtual 270, 3) := by decide +kernel
theorem dX8_lift_77 : decode cX8_lift 77 = .ok (.ifCond .eq 18, 3) := by decide +kernel
theorem dX8_lift_80 : decode cX8_lift 80 = .ok (.aload_n 0, 1) := by decide +kernel
theorem dX8_lift_81 : decode cX8_lift 81 = .ok (.getfield 72, 3) := by decide +kernel
theorem dX8_lift_84 : decode cX8_lift 84 = .ok (.iload_n 1, 1) := by decide +kernel
theorem dX8_lift_85 : decode cX8_lift 85 = .ok (.aload_n 0, 1) := by decide +kernel
theorem dX8_lift_86 : decode cX8_lift 86 = .ok (.getfield 58, 3) := by decide +kernel
theorem dX8_lift_89 : decode cX8_lift 89 = .ok (.invokevirtual 231, 3) := by decide +kernel
theorem dX8_lift_92 : decode cX8_lift 92 = .ok (.goto 5, 3) := by decide +kernel
theorem dX8_lift_95 : decode cX8_lift 95 = .ok (.bipush (-6), 2) := by decide +kernel
theorem dX8_lift_97 : decode cX8_lift 97 = .ok (.ireturn, 1) := by decide +kernel
theorem dX8_average_0 : decode cX8_average 0 = .ok (.iload_n 1, 1) := by decide +kernel
theorem dX8_average_1 : decode cX8_average 1 = .ok (.invokestatic 217, 3) := by decide +kernel
theorem dX8_average_4 : decode cX8_average 4 = .ok (.ifCond .ne 5, 3) := by decide +kernel
theorem dX8_average_7 : decode cX8_average 7 = .ok (.iconst (-1), 1) := by decide +kernel
theorem dX8_average_8 : decode cX8_average 8 = .ok (.ireturn, 1) := by decide +kernel
theorem dX8_average_9 : decode cX8_average 9 = .ok (.aload_n 0, 1) := by decide +kernel
theorem dX8_average_10 : decode cX8_average 10 = .ok (.getfield 72, 3) := by decide +kernel
theorem dX8_average_13 : decode cX8_average 13 = .ok (.getfield 245, 3) := by decide +kernel
theorem dX8_average_16 : decode cX8_average 16 = .ok (.iload_n 1, 1) := by decide +kernel
theorem dX8_average_17 : decode cX8_average 17 = .ok (.baload, 1) := by decide +kernel
theorem dX8_average_18 : decode cX8_average 18 = .ok (.ifCond .ne 6, 3) := by decide +kernel
theorem dX8_average_21 : decode cX8_average 21 = .ok (.bipush (-3), 2) := by decide +kernel
theorem dX8_average_23 : decode cX8_average 23 = .ok (.ireturn, 1) := by decide +kernel
theorem dX8_average_24 : decode cX8_average 24 = .ok (.aload_n 0, 1) := by decide +kernel
theorem dX8_average_25 : decode cX8_average 25 = .ok (.getfield 28, 3) := by decide +kernel
theorem dX8_average_28 : decode cX8_average 28 = .ok (.aload_n 0, 1) := by decide +kernel
theorem dX8_average_29 : decode cX8_average 29 = .ok (.getfield 72, 3) := by decide +kernel
theorem dX8_average_32 : decode cX8_average 32 = .ok (.getfield 235, 3) := by decide +kernel
theorem dX8_average_35 : decode cX8_average 35 = .ok (.iload_n 1, 1) := by decide +kernel
theorem dX8_average_36 : decode cX8_average 36 = .ok (.aaload, 1) := by decide +kernel
theorem dX8_average_37 : decode cX8_average 37 = .ok (.aload_n 0, 1) := by decide +kernel
theorem dX8_average_38 : decode cX8_average 38 = .ok (.getfield 58, 3) := by decide +kernel
theorem dX8_average_41 : decode cX8_average 41 = .ok (.invokevirtual 274, 3) := by decide +kernel
theorem dX8_average_44 : decode cX8_average 44 = .ok (.istore_n 2, 1) := by decide +kernel
theorem dX8_average_45 : decode cX8_average 45 = .ok (.iload_n 2, 1) := by decide +kernel
theorem dX8_average_46 : decode cX8_average 46 = .ok (.ifCond .eq 7, 3) := by decide +kernel
theorem dX8_average_49 : decode cX8_average 49 = .ok (.iload_n 2, 1) := by decide +kernel
theorem dX8_average_50 : decode cX8_average 50 = .ok (.goto 15, 3) := by decide +kernel
theorem dX8_average_53 : decode cX8_average 53 = .ok (.aload_n 0, 1) := by decide +kernel
theorem dX8_average_54 : decode cX8_average 54 = .ok (.getfield 72, 3) := by decide +kernel
theorem dX8_average_57 : decode cX8_average 57 = .ok (.iload_n 1, 1) := by decide +kernel
theorem dX8_average_58 : decode cX8_average 58 = .ok (.aload_n 0, 1) := by decide +kernel
theorem dX8_average_59 : decode cX8_average 59 = .ok (.getfield 58, 3) := by decide +kernel
theorem dX8_average_62 : decode cX8_average 62 = .ok (.invokevirtual 231, 3) := by decide +kernel
theorem dX8_average_65 : decode cX8_average 65 = .ok (.ireturn, 1) := by decide +kernel
theorem dX8_bound_0 : decode cX8_bound 0 = .ok (.iload_n 1, 1) := by decide +kernel
theorem dX8_bound_1 : decode cX8_bound 1 = .ok (.invokestatic 217, 3) := by decide +kernel
theorem dX8_bound_4 : decode cX8_bound 4 = .ok (.ifCond .eq 31, 3) := by decide +kernel
theorem dX8_bound_7 : decode cX8_bound 7 = .ok (.aload_n 0, 1) := by decide +kernel
theorem dX8_bound_8 : decode cX8_bound 8 = .ok (.getfield 16, 3) := by decide +kernel
theorem dX8_bound_11 : decode cX8_bound 11 = .ok (.iload_n 2, 1) := by decide +kernel
theorem dX8_bound_12 : decode cX8_bound 12 = .ok (.invokevirtual 122, 3) := by decide +kernel
theorem dX8_bound_15 : decode cX8_bound 15 = .ok (.ifCond .eq 20, 3) := by decide +kernel
theorem dX8_bound_18 : decode cX8_bound 18 = .ok (.iload_n 3, 1) := by decide +kernel
theorem dX8_bound_19 : decode cX8_bound 19 = .ok (.ifCond .lt 16, 3) := by decide +kernel
theorem dX8_bound_22 : decode cX8_bound 22 = .ok (.iload_n 3, 1) := by decide +kernel
theorem dX8_bound_23 : decode cX8_bound 23 = .ok (.iconst 1, 1) := by decide +kernel
theorem dX8_bound_24 : decode cX8_bound 24 = .ok (.if_icmp .gt 11, 3) := by decide +kernel
theorem dX8_bound_27 : decode cX8_bound 27 = .ok (.iload 4, 2) := by decide +kernel
theorem dX8_bound_29 : decode cX8_bound 29 = .ok (.invokestatic 136, 3) := by decide +kernel
theorem dX8_bound_32 : decode cX8_bound 32 = .ok (.ifCond .ne 7, 3) := by decide +kernel
theorem dX8_bound_35 : decode cX8_bound 35 = .ok (.ldc2_w 143, 3) := by decide +kernel
theorem dX8_bound_38 : decode cX8_bound 38 = .ok (.lreturn, 1) := by decide +kernel
theorem dX8_bound_39 : decode cX8_bound 39 = .ok (.aload_n 0, 1) := by decide +kernel
theorem dX8_bound_40 : decode cX8_bound 40 = .ok (.getfield 72, 3) := by decide +kernel
theorem dX8_bound_43 : decode cX8_bound 43 = .ok (.getfield 235, 3) := by decide +kernel
theorem dX8_bound_46 : decode cX8_bound 46 = .ok (.iload_n 1, 1) := by decide +kernel
theorem dX8_bound_47 : decode cX8_bound 47 = .ok (.aaload, 1) := by decide +kernel
theorem dX8_bound_48 : decode cX8_bound 48 = .ok (.astore 5, 2) := by decide +kernel
theorem dX8_bound_50 : decode cX8_bound 50 = .ok (.aload_n 0, 1) := by decide +kernel
theorem dX8_bound_51 : decode cX8_bound 51 = .ok (.getfield 72, 3) := by decide +kernel
theorem dX8_bound_54 : decode cX8_bound 54 = .ok (.getfield 245, 3) := by decide +kernel
theorem dX8_bound_57 : decode cX8_bound 57 = .ok (.iload_n 1, 1) := by decide +kernel
theorem dX8_bound_58 : decode cX8_bound 58 = .ok (.baload, 1) := by decide +kernel
theorem dX8_bound_59 : decode cX8_bound 59 = .ok (.ifCond .eq 47, 3) := by decide +kernel
theorem dX8_bound_62 : decode cX8_bound 62 = .ok (.aload 5, 2) := by decide +kernel
theorem dX8_bound_64 : decode cX8_bound 64 = .ok (.getfield 249, 3) := by decide +kernel
theorem dX8_bound_67 : decode cX8_bound 67 = .ok (.iconst 2, 1) := by decide +kernel
theorem dX8_bound_68 : decode cX8_bound 68 = .ok (.if_icmp .eq 38, 3) := by decide +kernel
theorem dX8_bound_71 : decode cX8_bound 71 = .ok (.aload_n 0, 1) := by decide +kernel
theorem dX8_bound_72 : decode cX8_bound 72 = .ok (.getfield 28, 3) := by decide +kernel
theorem dX8_bound_75 : decode cX8_bound 75 = .ok (.aload 5, 2) := by decide +kernel
theorem dX8_bound_77 : decode cX8_bound 77 = .ok (.aload 5, 2) := by decide +kernel
theorem dX8_bound_79 : decode cX8_bound 79 = .ok (.getfield 249, 3) := by decide +kernel
theorem dX8_bound_82 : decode cX8_bound 82 = .ok (.invokevirtual 252, 3) := by decide +kernel
theorem dX8_bound_85 : decode cX8_bound 85 = .ok (.iload_n 2, 1) := by decide +kernel
theorem dX8_bound_86 : decode cX8_bound 86 = .ok (.if_icmp .gt 20, 3) := by decide +kernel
theorem dX8_bound_89 : decode cX8_bound 89 = .ok (.aload_n 0, 1) := by decide +kernel
theorem dX8_bound_90 : decode cX8_bound 90 = .ok (.getfield 28, 3) := by decide +kernel
theorem dX8_bound_93 : decode cX8_bound 93 = .ok (.aload 5, 2) := by decide +kernel
theorem dX8_bound_95 : decode cX8_bound 95 = .ok (.iload_n 2, 1) := by decide +kernel
theorem dX8_bound_96 : decode cX8_bound 96 = .ok (.aload_n 0, 1) := by decide +kernel
theorem dX8_bound_97 : decode cX8_bound 97 = .ok (.getfield 58, 3) := by decide +kernel
theorem dX8_bound_100 : decode cX8_bound 100 = .ok (.invokevirtual 270, 3) := by decide +kernel
theorem dX8_bound_103 : decode cX8_bound 103 = .ok (.ifCond .ne 7, 3) := by decide +kernel
theorem dX8_bound_106 : decode cX8_bound 106 = .ok (.ldc2_w 143, 3) := by decide +kernel
theorem dX8_bound_109 : decode cX8_bound 109 = .ok (.lreturn, 1) := by decide +kernel
theorem dX8_bound_110 : decode cX8_bound 110 = .ok (.aload_n 0, 1) := by decide +kernel
theorem dX8_bound_111 : decode cX8_bound 111 = .ok (.getfield 58, 3) := by decide +kernel
theorem dX8_bound_114 : decode cX8_bound 114 = .ok (.aload_n 0, 1) := by decide +kernel
theorem dX8_bound_115 : decode cX8_bound 115 = .ok (.getfield 16, 3) := by decide +kernel
theorem dX8_bound_118 : decode cX8_bound 118 = .ok (.getfield 278, 3) := by decide +kernel
theorem dX8_bound_121 : decode cX8_bound 121 = .ok (.iload_n 2, 1) := by decide +kernel
theorem dX8_bound_122 : decode cX8_bound 122 = .ok (.iaload, 1) := by decide +kernel
theorem dX8_bound_123 : decode cX8_bound 123 = .ok (.aload_n 0, 1) := by decide +kernel
theorem dX8_bound_124 : decode cX8_bound 124 = .ok (.getfield 16, 3) := by decide +kernel
theorem dX8_bound_127 : decode cX8_bound 127 = .ok (.getfield 278, 3) := by decide +kernel
theorem dX8_bound_130 : decode cX8_bound 130 = .ok (.iload_n 2, 1) := by decide +kernel
theorem dX8_bound_131 : decode cX8_bound 131 = .ok (.iconst 1, 1) := by decide +kernel
theorem dX8_bound_132 : decode cX8_bound 132 = .ok (.iadd, 1) := by decide +kernel
theorem dX8_bound_133 : decode cX8_bound 133 = .ok (.iaload, 1) := by decide +kernel
theorem dX8_bound_134 : decode cX8_bound 134 = .ok (.iload_n 3, 1) := by decide +kernel
theorem dX8_bound_135 : decode cX8_bound 135 = .ok (.iconst 1, 1) := by decide +kernel
theorem dX8_bound_136 : decode cX8_bound 136 = .ok (.if_icmp .ne 7, 3) := by decide +kernel
theorem dX8_bound_139 : decode cX8_bound 139 = .ok (.iconst 1, 1) := by decide +kernel
theorem dX8_bound_140 : decode cX8_bound 140 = .ok (.goto 4, 3) := by decide +kernel
theorem dX8_bound_143 : decode cX8_bound 143 = .ok (.iconst 0, 1) := by decide +kernel
theorem dX8_bound_144 : decode cX8_bound 144 = .ok (.invokevirtual 281, 3) := by decide +kernel
theorem dX8_bound_147 : decode cX8_bound 147 = .ok (.istore 6, 2) := by decide +kernel
theorem dX8_bound_149 : decode cX8_bound 149 = .ok (.iload 4, 2) := by decide +kernel
theorem dX8_bound_151 : decode cX8_bound 151 = .ok (.ifCond .ne 16, 3) := by decide +kernel
theorem dX8_bound_154 : decode cX8_bound 154 = .ok (.aload_n 0, 1) := by decide +kernel
theorem dX8_bound_155 : decode cX8_bound 155 = .ok (.getfield 58, 3) := by decide +kernel
theorem dX8_bound_158 : decode cX8_bound 158 = .ok (.getfield 259, 3) := by decide +kernel
theorem dX8_bound_161 : decode cX8_bound 161 = .ok (.iload 6, 2) := by decide +kernel
theorem dX8_bound_163 : decode cX8_bound 163 = .ok (.laload, 1) := by decide +kernel
theorem dX8_bound_164 : decode cX8_bound 164 = .ok (.goto 13, 3) := by decide +kernel
theorem dX8_bound_167 : decode cX8_bound 167 = .ok (.aload_n 0, 1) := by decide +kernel
theorem dX8_bound_168 : decode cX8_bound 168 = .ok (.getfield 58, 3) := by decide +kernel
theorem dX8_bound_171 : decode cX8_bound 171 = .ok (.getfield 263, 3) := by decide +kernel
theorem dX8_bound_174 : decode cX8_bound 174 = .ok (.iload 6, 2) := by decide +kernel
theorem dX8_bound_176 : decode cX8_bound 176 = .ok (.laload, 1) := by decide +kernel
theorem dX8_bound_177 : decode cX8_bound 177 = .ok (.lreturn, 1) := by decide +kernel
theorem dX8_value_0 : decode cX8_value 0 = .ok (.iload_n 1, 1) := by decide +kernel
theorem dX8_value_1 : decode cX8_value 1 = .ok (.invokestatic 217, 3) := by decide +kernel
theorem dX8_value_4 : decode cX8_value 4 = .ok (.ifCond .eq 38, 3) := by decide +kernel
theorem dX8_value_7 : decode cX8_value 7 = .ok (.iload_n 2, 1) := by decide +kernel
theorem dX8_value_8 : decode cX8_value 8 = .ok (.invokestatic 136, 3) := by decide +kernel
theorem dX8_value_11 : decode cX8_value 11 = .ok (.ifCond .eq 31, 3) := by decide +kernel
theorem dX8_value_14 : decode cX8_value 14 = .ok (.aload_n 0, 1) := by decide +kernel
theorem dX8_value_15 : decode cX8_value 15 = .ok (.getfield 72, 3) := by decide +kernel
theorem dX8_value_18 : decode cX8_value 18 = .ok (.getfield 245, 3) := by decide +kernel
theorem dX8_value_21 : decode cX8_value 21 = .ok (.iload_n 1, 1) := by decide +kernel
theorem dX8_value_22 : decode cX8_value 22 = .ok (.baload, 1) := by decide +kernel
theorem dX8_value_23 : decode cX8_value 23 = .ok (.ifCond .eq 19, 3) := by decide +kernel
theorem dX8_value_26 : decode cX8_value 26 = .ok (.aload_n 0, 1) := by decide +kernel
theorem dX8_value_27 : decode cX8_value 27 = .ok (.getfield 72, 3) := by decide +kernel
theorem dX8_value_30 : decode cX8_value 30 = .ok (.getfield 235, 3) := by decide +kernel
theorem dX8_value_33 : decode cX8_value 33 = .ok (.iload_n 1, 1) := by decide +kernel
theorem dX8_value_34 : decode cX8_value 34 = .ok (.aaload, 1) := by decide +kernel
theorem dX8_value_35 : decode cX8_value 35 = .ok (.getfield 249, 3) := by decide +kernel
theorem dX8_value_38 : decode cX8_value 38 = .ok (.iconst 2, 1) := by decide +kernel
theorem dX8_value_39 : decode cX8_value 39 = .ok (.if_icmp .ne 7, 3) := by decide +kernel
theorem dX8_value_42 : decode cX8_value 42 = .ok (.ldc2_w 143, 3) := by decide +kernel
theorem dX8_value_45 : decode cX8_value 45 = .ok (.lreturn, 1) := by decide +kernel
theorem dX8_value_46 : decode cX8_value 46 = .ok (.aload_n 0, 1) := by decide +kernel
theorem dX8_value_47 : decode cX8_value 47 = .ok (.getfield 28, 3) := by decide +kernel
theorem dX8_value_50 : decode cX8_value 50 = .ok (.aload_n 0, 1) := by decide +kernel
theorem dX8_value_51 : decode cX8_value 51 = .ok (.getfield 72, 3) := by decide +kernel
theorem dX8_value_54 : decode cX8_value 54 = .ok (.getfield 235, 3) := by decide +kernel
theorem dX8_value_57 : decode cX8_value 57 = .ok (.iload_n 1, 1) := by decide +kernel
theorem dX8_value_58 : decode cX8_value 58 = .ok (.aaload, 1) := by decide +kernel
theorem dX8_value_59 : decode cX8_value 59 = .ok (.aload_n 0, 1) := by decide +kernel
theorem dX8_value_60 : decode cX8_value 60 = .ok (.getfield 65, 3) := by decide +kernel
theorem dX8_value_63 : decode cX8_value 63 = .ok (.iconst (-1), 1) := by decide +kernel
theorem dX8_value_64 : decode cX8_value 64 = .ok (.aload_n 0, 1) := by decide +kernel
theorem dX8_value_65 : decode cX8_value 65 = .ok (.getfield 51, 3) := by decide +kernel
theorem dX8_value_68 : decode cX8_value 68 = .ok (.invokevirtual 285, 3) := by decide +kernel
theorem dX8_value_71 : decode cX8_value 71 = .ok (.ifCond .eq 14, 3) := by decide +kernel
theorem dX8_value_74 : decode cX8_value 74 = .ok (.aload_n 0, 1) := by decide +kernel
theorem dX8_value_75 : decode cX8_value 75 = .ok (.getfield 51, 3) := by decide +kernel
theorem dX8_value_78 : decode cX8_value 78 = .ok (.iload_n 2, 1) := by decide +kernel
theorem dX8_value_79 : decode cX8_value 79 = .ok (.invokevirtual 156, 3) := by decide +kernel
theorem dX8_value_82 : decode cX8_value 82 = .ok (.goto 6, 3) := by decide +kernel
theorem dX8_value_85 : decode cX8_value 85 = .ok (.ldc2_w 143, 3) := by decide +kernel
theorem dX8_value_88 : decode cX8_value 88 = .ok (.lreturn, 1) := by decide +kernel
theorem dX8_valueAt_0 : decode cX8_valueAt 0 = .ok (.iload_n 1, 1) := by decide +kernel
theorem dX8_valueAt_1 : decode cX8_valueAt 1 = .ok (.invokestatic 217, 3) := by decide +kernel
theorem dX8_valueAt_4 : decode cX8_valueAt 4 = .ok (.ifCond .eq 49, 3) := by decide +kernel
theorem dX8_valueAt_7 : decode cX8_valueAt 7 = .ok (.aload_n 0, 1) := by decide +kernel
theorem dX8_valueAt_8 : decode cX8_valueAt 8 = .ok (.getfield 65, 3) := by decide +kernel
theorem dX8_valueAt_11 : decode cX8_valueAt 11 = .ok (.iload_n 2, 1) := by decide +kernel
theorem dX8_valueAt_12 : decode cX8_valueAt 12 = .ok (.invokevirtual 168, 3) := by decide +kernel
theorem dX8_valueAt_15 : decode cX8_valueAt 15 = .ok (.ifCond .eq 38, 3) := by decide +kernel
theorem dX8_valueAt_18 : decode cX8_valueAt 18 = .ok (.iload_n 3, 1) := by decide +kernel
theorem dX8_valueAt_19 : decode cX8_valueAt 19 = .ok (.invokestatic 136, 3) := by decide +kernel
theorem dX8_valueAt_22 : decode cX8_valueAt 22 = .ok (.ifCond .eq 31, 3) := by decide +kernel
theorem dX8_valueAt_25 : decode cX8_valueAt 25 = .ok (.aload_n 0, 1) := by decide +kernel
theorem dX8_valueAt_26 : decode cX8_valueAt 26 = .ok (.getfield 72, 3) := by decide +kernel
theorem dX8_valueAt_29 : decode cX8_valueAt 29 = .ok (.getfield 245, 3) := by decide +kernel
theorem dX8_valueAt_32 : decode cX8_valueAt 32 = .ok (.iload_n 1, 1) := by decide +kernel
theorem dX8_valueAt_33 : decode cX8_valueAt 33 = .ok (.baload, 1) := by decide +kernel
theorem dX8_valueAt_34 : decode cX8_valueAt 34 = .ok (.ifCond .eq 19, 3) := by decide +kernel
theorem dX8_valueAt_37 : decode cX8_valueAt 37 = .ok (.aload_n 0, 1) := by decide +kernel
theorem dX8_valueAt_38 : decode cX8_valueAt 38 = .ok (.getfield 72, 3) := by decide +kernel
theorem dX8_valueAt_41 : decode cX8_valueAt 41 = .ok (.getfield 235, 3) := by decide +kernel
theorem dX8_valueAt_44 : decode cX8_valueAt 44 = .ok (.iload_n 1, 1) := by decide +kernel
theorem dX8_valueAt_45 : decode cX8_valueAt 45 = .ok (.aaload, 1) := by decide +kernel
theorem dX8_valueAt_46 : decode cX8_valueAt 46 = .ok (.getfield 249, 3) := by decide +kernel
theorem dX8_valueAt_49 : decode cX8_valueAt 49 = .ok (.iconst 1, 1) := by decide +kernel
theorem dX8_valueAt_50 : decode cX8_valueAt 50 = .ok (.if_icmp .ne 7, 3) := by decide +kernel
theorem dX8_valueAt_53 : decode cX8_valueAt 53 = .ok (.ldc2_w 143, 3) := by decide +kernel
theorem dX8_valueAt_56 : decode cX8_valueAt 56 = .ok (.lreturn, 1) := by decide +kernel
theorem dX8_valueAt_57 : decode cX8_valueAt 57 = .ok (.aload_n 0, 1) := by decide +kernel
theorem dX8_valueAt_58 : decode cX8_valueAt 58 = .ok (.getfield 28, 3) := by decide +kernel
theorem dX8_valueAt_61 : decode cX8_valueAt 61 = .ok (.aload_n 0, 1) := by decide +kernel
theorem dX8_valueAt_62 : decode cX8_valueAt 62 = .ok (.getfield 72, 3) := by decide +kernel
theorem dX8_valueAt_65 : decode cX8_valueAt 65 = .ok (.getfield 235, 3) := by decide +kernel
theorem dX8_valueAt_68 : decode cX8_valueAt 68 = .ok (.iload_n 1, 1) := by decide +kernel
theorem dX8_valueAt_69 : decode cX8_valueAt 69 = .ok (.aaload, 1) := by decide +kernel
theorem dX8_valueAt_70 : decode cX8_valueAt 70 = .ok (.aload_n 0, 1) := by decide +kernel
theorem dX8_valueAt_71 : decode cX8_valueAt 71 = .ok (.getfield 65, 3) := by decide +kernel
theorem dX8_valueAt_74 : decode cX8_valueAt 74 = .ok (.iload_n 2, 1) := by decide +kernel
theorem dX8_valueAt_75 : decode cX8_valueAt 75 = .ok (.aload_n 0, 1) := by decide +kernel
theorem dX8_valueAt_76 : decode cX8_valueAt 76 = .ok (.getfield 51, 3) := by decide +kernel
theorem dX8_valueAt_79 : decode cX8_valueAt 79 = .ok (.invokevirtual 285, 3) := by decide +kernel
theorem dX8_valueAt_82 : decode cX8_valueAt 82 = .ok (.ifCond .eq 14, 3) := by decide +kernel
theorem dX8_valueAt_85 : decode cX8_valueAt 85 = .ok (.aload_n 0, 1) := by decide +kernel
theorem dX8_valueAt_86 : decode cX8_valueAt 86 = .ok (.getfield 51, 3) := by decide +kernel
theorem dX8_valueAt_89 : decode cX8_valueAt 89 = .ok (.iload_n 3, 1) := by decide +kernel
theorem dX8_valueAt_90 : decode cX8_valueAt 90 = .ok (.invokevirtual 156, 3) := by decide +kernel
theorem dX8_valueAt_93 : decode cX8_valueAt 93 = .ok (.goto 6, 3) := by decide +kernel
theorem dX8_valueAt_96 : decode cX8_valueAt 96 = .ok (.ldc2_w 143, 3) := by decide +kernel
theorem dX8_valueAt_99 : decode cX8_valueAt 99 = .ok (.lreturn, 1) := by decide +kernel
theorem dX8_move_0 : decode cX8_move 0 = .ok (.iload_n 1, 1) := by decide +kernel
theorem dX8_move_1 : decode cX8_move 1 = .ok (.invokestatic 217, 3) := by decide +kernel
theorem dX8_move_4 : decode cX8_move 4 = .ok (.ifCond .eq 10, 3) := by decide +kernel
theorem dX8_move_7 : decode cX8_move 7 = .ok (.iload_n 2, 1) := by decide +kernel
theorem dX8_move_8 : decode cX8_move 8 = .ok (.invokestatic 217, 3) := by decide +kernel
theorem dX8_move_11 : decode cX8_move 11 = .ok (.ifCond .ne 5, 3) := by decide +kernel
theorem dX8_move_14 : decode cX8_move 14 = .ok (.iconst (-1), 1) := by decide +kernel
theorem dX8_move_15 : decode cX8_move 15 = .ok (.ireturn, 1) := by decide +kernel
theorem dX8_move_16 : decode cX8_move 16 = .ok (.aload_n 0, 1) := by decide +kernel
theorem dX8_move_17 : decode cX8_move 17 = .ok (.getfield 72, 3) := by decide +kernel
theorem dX8_move_20 : decode cX8_move 20 = .ok (.getfield 245, 3) := by decide +kernel
theorem dX8_move_23 : decode cX8_move 23 = .ok (.iload_n 1, 1) := by decide +kernel
theorem dX8_move_24 : decode cX8_move 24 = .ok (.baload, 1) := by decide +kernel
theorem dX8_move_25 : decode cX8_move 25 = .ok (.ifCond .ne 13, 3) := by decide +kernel
theorem dX8_move_28 : decode cX8_move 28 = .ok (.aload_n 0, 1) := by decide +kernel
theorem dX8_move_29 : decode cX8_move 29 = .ok (.getfield 72, 3) := by decide +kernel
theorem dX8_move_32 : decode cX8_move 32 = .ok (.iload_n 2, 1) := by decide +kernel
theorem dX8_move_33 : decode cX8_move 33 = .ok (.invokevirtual 242, 3) := by decide +kernel
theorem dX8_move_36 : decode cX8_move 36 = .ok (.iconst 0, 1) := by decide +kernel
theorem dX8_move_37 : decode cX8_move 37 = .ok (.ireturn, 1) := by decide +kernel
theorem dX8_move_38 : decode cX8_move 38 = .ok (.aload_n 0, 1) := by decide +kernel
theorem dX8_move_39 : decode cX8_move 39 = .ok (.getfield 72, 3) := by decide +kernel
theorem dX8_move_42 : decode cX8_move 42 = .ok (.iload_n 2, 1) := by decide +kernel
theorem dX8_move_43 : decode cX8_move 43 = .ok (.aload_n 0, 1) := by decide +kernel
theorem dX8_move_44 : decode cX8_move 44 = .ok (.getfield 72, 3) := by decide +kernel
theorem dX8_move_47 : decode cX8_move 47 = .ok (.getfield 235, 3) := by decide +kernel
theorem dX8_move_50 : decode cX8_move 50 = .ok (.iload_n 1, 1) := by decide +kernel
theorem dX8_move_51 : decode cX8_move 51 = .ok (.aaload, 1) := by decide +kernel
theorem dX8_move_52 : decode cX8_move 52 = .ok (.invokevirtual 231, 3) := by decide +kernel
theorem dX8_move_55 : decode cX8_move 55 = .ok (.ireturn, 1) := by decide +kernel
theorem dX8_film_0 : decode cX8_film 0 = .ok (.iload_n 1, 1) := by decide +kernel
theorem dX8_film_1 : decode cX8_film 1 = .ok (.invokestatic 217, 3) := by decide +kernel
theorem dX8_film_4 : decode cX8_film 4 = .ok (.ifCond .eq 14, 3) := by decide +kernel
theorem dX8_film_7 : decode cX8_film 7 = .ok (.aload_n 0, 1) := by decide +kernel
theorem dX8_film_8 : decode cX8_film 8 = .ok (.getfield 16, 3) := by decide +kernel
theorem dX8_film_11 : decode cX8_film 11 = .ok (.iload_n 2, 1) := by decide +kernel
theorem dX8_film_12 : decode cX8_film 12 = .ok (.invokevirtual 122, 3) := by decide +kernel
theorem dX8_film_15 : decode cX8_film 15 = .ok (.ifCond .ne 5, 3) := by decide +kernel
theorem dX8_film_18 : decode cX8_film 18 = .ok (.iconst (-1), 1) := by decide +kernel
theorem dX8_film_19 : decode cX8_film 19 = .ok (.ireturn, 1) := by decide +kernel
theorem dX8_film_20 : decode cX8_film 20 = .ok (.aload_n 0, 1) := by decide +kernel
theorem dX8_film_21 : decode cX8_film 21 = .ok (.getfield 65, 3) := by decide +kernel
theorem dX8_film_24 : decode cX8_film 24 = .ok (.getfield 160, 3) := by decide +kernel
theorem dX8_film_27 : decode cX8_film 27 = .ok (.iload_n 2, 1) := by decide +kernel
theorem dX8_film_28 : decode cX8_film 28 = .ok (.if_icmp .ge 6, 3) := by decide +kernel
theorem dX8_film_31 : decode cX8_film 31 = .ok (.bipush (-3), 2) := by decide +kernel
theorem dX8_film_33 : decode cX8_film 33 = .ok (.ireturn, 1) := by decide +kernel
theorem dX8_film_34 : decode cX8_film 34 = .ok (.aload_n 0, 1) := by decide +kernel
theorem dX8_film_35 : decode cX8_film 35 = .ok (.getfield 16, 3) := by decide +kernel
theorem dX8_film_38 : decode cX8_film 38 = .ok (.aload_n 0, 1) := by decide +kernel
theorem dX8_film_39 : decode cX8_film 39 = .ok (.getfield 65, 3) := by decide +kernel
theorem dX8_film_42 : decode cX8_film 42 = .ok (.iconst (-1), 1) := by decide +kernel
theorem dX8_film_43 : decode cX8_film 43 = .ok (.iload_n 2, 1) := by decide +kernel
theorem dX8_film_44 : decode cX8_film 44 = .ok (.invokevirtual 198, 3) := by decide +kernel
theorem dX8_film_47 : decode cX8_film 47 = .ok (.aload_n 0, 1) := by decide +kernel
theorem dX8_film_48 : decode cX8_film 48 = .ok (.getfield 58, 3) := by decide +kernel
theorem dX8_film_51 : decode cX8_film 51 = .ok (.invokevirtual 289, 3) := by decide +kernel
theorem dX8_film_54 : decode cX8_film 54 = .ok (.aload_n 0, 1) := by decide +kernel
theorem dX8_film_55 : decode cX8_film 55 = .ok (.getfield 58, 3) := by decide +kernel
theorem dX8_film_58 : decode cX8_film 58 = .ok (.iconst 1, 1) := by decide +kernel
theorem dX8_film_59 : decode cX8_film 59 = .ok (.putfield 249, 3) := by decide +kernel
theorem dX8_film_62 : decode cX8_film 62 = .ok (.iconst 0, 1) := by decide +kernel
theorem dX8_film_63 : decode cX8_film 63 = .ok (.istore_n 3, 1) := by decide +kernel
theorem dX8_film_64 : decode cX8_film 64 = .ok (.iload_n 3, 1) := by decide +kernel
theorem dX8_film_65 : decode cX8_film 65 = .ok (.aload_n 0, 1) := by decide +kernel
theorem dX8_film_66 : decode cX8_film 66 = .ok (.getfield 16, 3) := by decide +kernel
theorem dX8_film_69 : decode cX8_film 69 = .ok (.getfield 205, 3) := by decide +kernel
theorem dX8_film_72 : decode cX8_film 72 = .ok (.if_icmp .ge 67, 3) := by decide +kernel
theorem dX8_film_75 : decode cX8_film 75 = .ok (.aload_n 0, 1) := by decide +kernel
theorem dX8_film_76 : decode cX8_film 76 = .ok (.getfield 16, 3) := by decide +kernel
theorem dX8_film_79 : decode cX8_film 79 = .ok (.getfield 208, 3) := by decide +kernel
theorem dX8_film_82 : decode cX8_film 82 = .ok (.iload_n 3, 1) := by decide +kernel
theorem dX8_film_83 : decode cX8_film 83 = .ok (.iaload, 1) := by decide +kernel
theorem dX8_film_84 : decode cX8_film 84 = .ok (.istore 4, 2) := by decide +kernel
theorem dX8_film_86 : decode cX8_film 86 = .ok (.aload_n 0, 1) := by decide +kernel
theorem dX8_film_87 : decode cX8_film 87 = .ok (.getfield 51, 3) := by decide +kernel
theorem dX8_film_90 : decode cX8_film 90 = .ok (.aload_n 0, 1) := by decide +kernel
theorem dX8_film_91 : decode cX8_film 91 = .ok (.getfield 16, 3) := by decide +kernel
theorem dX8_film_94 : decode cX8_film 94 = .ok (.getfield 292, 3) := by decide +kernel
theorem dX8_film_97 : decode cX8_film 97 = .ok (.iload 4, 2) := by decide +kernel
theorem dX8_film_99 : decode cX8_film 99 = .ok (.iaload, 1) := by decide +kernel
theorem dX8_film_100 : decode cX8_film 100 = .ok (.i2l, 1) := by decide +kernel
theorem dX8_film_101 : decode cX8_film 101 = .ok (.aload_n 0, 1) := by decide +kernel
theorem dX8_film_102 : decode cX8_film 102 = .ok (.getfield 16, 3) := by decide +kernel
theorem dX8_film_105 : decode cX8_film 105 = .ok (.aload_n 0, 1) := by decide +kernel
theorem dX8_film_106 : decode cX8_film 106 = .ok (.getfield 65, 3) := by decide +kernel
theorem dX8_film_109 : decode cX8_film 109 = .ok (.getfield 160, 3) := by decide +kernel
theorem dX8_film_112 : decode cX8_film 112 = .ok (.iload_n 2, 1) := by decide +kernel
theorem dX8_film_113 : decode cX8_film 113 = .ok (.invokevirtual 295, 3) := by decide +kernel
theorem dX8_film_116 : decode cX8_film 116 = .ok (.i2l, 1) := by decide +kernel
theorem dX8_film_117 : decode cX8_film 117 = .ok (.invokevirtual 152, 3) := by decide +kernel
theorem dX8_film_120 : decode cX8_film 120 = .ok (.aload_n 0, 1) := by decide +kernel
theorem dX8_film_121 : decode cX8_film 121 = .ok (.getfield 58, 3) := by decide +kernel
theorem dX8_film_124 : decode cX8_film 124 = .ok (.iload 4, 2) := by decide +kernel
theorem dX8_film_126 : decode cX8_film 126 = .ok (.aload_n 0, 1) := by decide +kernel
theorem dX8_film_127 : decode cX8_film 127 = .ok (.getfield 51, 3) := by decide +kernel
theorem dX8_film_130 : decode cX8_film 130 = .ok (.invokevirtual 298, 3) := by decide +kernel
theorem dX8_film_133 : decode cX8_film 133 = .ok (.iinc 3 1, 3) := by decide +kernel
theorem dX8_film_136 : decode cX8_film 136 = .ok (.goto (-72), 3) := by decide +kernel
theorem dX8_film_139 : decode cX8_film 139 = .ok (.aload_n 0, 1) := by decide +kernel
theorem dX8_film_140 : decode cX8_film 140 = .ok (.getfield 72, 3) := by decide +kernel
theorem dX8_film_143 : decode cX8_film 143 = .ok (.iload_n 1, 1) := by decide +kernel
theorem dX8_film_144 : decode cX8_film 144 = .ok (.aload_n 0, 1) := by decide +kernel
theorem dX8_film_145 : decode cX8_film 145 = .ok (.getfield 58, 3) := by decide +kernel
theorem dX8_film_148 : decode cX8_film 148 = .ok (.invokevirtual 231, 3) := by decide +kernel
theorem dX8_film_151 : decode cX8_film 151 = .ok (.ireturn, 1) := by decide +kernel
theorem dX8_image_0 : decode cX8_image 0 = .ok (.aload_n 0, 1) := by decide +kernel
theorem dX8_image_1 : decode cX8_image 1 = .ok (.getfield 76, 3) := by decide +kernel
theorem dX8_image_4 : decode cX8_image 4 = .ok (.aload_n 0, 1) := by decide +kernel
theorem dX8_image_5 : decode cX8_image 5 = .ok (.getfield 65, 3) := by decide +kernel
theorem dX8_image_8 : decode cX8_image 8 = .ok (.invokevirtual 302, 3) := by decide +kernel
theorem dX8_image_11 : decode cX8_image 11 = .ok (.aload_n 0, 1) := by decide +kernel
theorem dX8_image_12 : decode cX8_image 12 = .ok (.getfield 79, 3) := by decide +kernel
theorem dX8_image_15 : decode cX8_image 15 = .ok (.aload_n 0, 1) := by decide +kernel
theorem dX8_image_16 : decode cX8_image 16 = .ok (.getfield 72, 3) := by decide +kernel
theorem dX8_image_19 : decode cX8_image 19 = .ok (.invokevirtual 305, 3) := by decide +kernel
theorem dX8_image_22 : decode cX8_image 22 = .ok (.aload_n 0, 1) := by decide +kernel
theorem dX8_image_23 : decode cX8_image 23 = .ok (.iconst 1, 1) := by decide +kernel
theorem dX8_image_24 : decode cX8_image 24 = .ok (.putfield 82, 3) := by decide +kernel
theorem dX8_image_27 : decode cX8_image 27 = .ok (.aload_n 0, 1) := by decide +kernel
theorem dX8_image_28 : decode cX8_image 28 = .ok (.getfield 65, 3) := by decide +kernel
theorem dX8_image_31 : decode cX8_image 31 = .ok (.getfield 160, 3) := by decide +kernel
theorem dX8_image_34 : decode cX8_image 34 = .ok (.ireturn, 1) := by decide +kernel
theorem dX8_back_0 : decode cX8_back 0 = .ok (.aload_n 0, 1) := by decide +kernel
theorem dX8_back_1 : decode cX8_back 1 = .ok (.getfield 82, 3) := by decide +kernel
theorem dX8_back_4 : decode cX8_back 4 = .ok (.ifCond .ne 6, 3) := by decide +kernel
theorem dX8_back_7 : decode cX8_back 7 = .ok (.bipush (-3), 2) := by decide +kernel
theorem dX8_back_9 : decode cX8_back 9 = .ok (.ireturn, 1) := by decide +kernel
theorem dX8_back_10 : decode cX8_back 10 = .ok (.aload_n 0, 1) := by decide +kernel
theorem dX8_back_11 : decode cX8_back 11 = .ok (.getfield 65, 3) := by decide +kernel
theorem dX8_back_14 : decode cX8_back 14 = .ok (.aload_n 0, 1) := by decide +kernel
theorem dX8_back_15 : decode cX8_back 15 = .ok (.getfield 76, 3) := by decide +kernel
theorem dX8_back_18 : decode cX8_back 18 = .ok (.invokevirtual 302, 3) := by decide +kernel
theorem dX8_back_21 : decode cX8_back 21 = .ok (.aload_n 0, 1) := by decide +kernel
theorem dX8_back_22 : decode cX8_back 22 = .ok (.getfield 72, 3) := by decide +kernel
theorem dX8_back_25 : decode cX8_back 25 = .ok (.aload_n 0, 1) := by decide +kernel
theorem dX8_back_26 : decode cX8_back 26 = .ok (.getfield 79, 3) := by decide +kernel
theorem dX8_back_29 : decode cX8_back 29 = .ok (.invokevirtual 305, 3) := by decide +kernel
theorem dX8_back_32 : decode cX8_back 32 = .ok (.aload_n 0, 1) := by decide +kernel
theorem dX8_back_33 : decode cX8_back 33 = .ok (.getfield 65, 3) := by decide +kernel
theorem dX8_back_36 : decode cX8_back 36 = .ok (.getfield 160, 3) := by decide +kernel
theorem dX8_back_39 : decode cX8_back 39 = .ok (.ireturn, 1) := by decide +kernel
theorem dX8_count_0 : decode cX8_count 0 = .ok (.iload_n 1, 1) := by decide +kernel
theorem dX8_count_1 : decode cX8_count 1 = .ok (.tableswitch 51 0 2 #[27, 35, 43], 27) := by decide +kernel
theorem dX8_count_28 : decode cX8_count 28 = .ok (.aload_n 0, 1) := by decide +kernel
theorem dX8_count_29 : decode cX8_count 29 = .ok (.getfield 35, 3) := by decide +kernel
theorem dX8_count_32 : decode cX8_count 32 = .ok (.getfield 211, 3) := by decide +kernel
theorem dX8_count_35 : decode cX8_count 35 = .ok (.ireturn, 1) := by decide +kernel
theorem dX8_count_36 : decode cX8_count 36 = .ok (.aload_n 0, 1) := by decide +kernel
theorem dX8_count_37 : decode cX8_count 37 = .ok (.getfield 72, 3) := by decide +kernel
theorem dX8_count_40 : decode cX8_count 40 = .ok (.invokevirtual 308, 3) := by decide +kernel
theorem dX8_count_43 : decode cX8_count 43 = .ok (.ireturn, 1) := by decide +kernel
theorem dX8_count_44 : decode cX8_count 44 = .ok (.aload_n 0, 1) := by decide +kernel
theorem dX8_count_45 : decode cX8_count 45 = .ok (.getfield 72, 3) := by decide +kernel
theorem dX8_count_48 : decode cX8_count 48 = .ok (.invokevirtual 311, 3) := by decide +kernel
theorem dX8_count_51 : decode cX8_count 51 = .ok (.ireturn, 1) := by decide +kernel
theorem dX8_count_52 : decode cX8_count 52 = .ok (.iconst (-1), 1) := by decide +kernel
theorem dX8_count_53 : decode cX8_count 53 = .ok (.ireturn, 1) := by decide +kernel
theorem dX8_isStore_0 : decode cX8_isStore 0 = .ok (.iload_n 0, 1) := by decide +kernel
theorem dX8_isStore_1 : decode cX8_isStore 1 = .ok (.ifCond .lt 12, 3) := by decide +kernel
theorem dX8_isStore_4 : decode cX8_isStore 4 = .ok (.iload_n 0, 1) := by decide +kernel
theorem dX8_isStore_5 : decode cX8_isStore 5 = .ok (.iconst 4, 1) := by decide +kernel
theorem dX8_isStore_6 : decode cX8_isStore 6 = .ok (.if_icmp .ge 7, 3) := by decide +kernel
theorem dX8_isStore_9 : decode cX8_isStore 9 = .ok (.iconst 1, 1) := by decide +kernel
theorem dX8_isStore_10 : decode cX8_isStore 10 = .ok (.goto 4, 3) := by decide +kernel
theorem dX8_isStore_13 : decode cX8_isStore 13 = .ok (.iconst 0, 1) := by decide +kernel
theorem dX8_isStore_14 : decode cX8_isStore 14 = .ok (.ireturn, 1) := by decide +kernel
theorem dX8_isPart_0 : decode cX8_isPart 0 = .ok (.iload_n 0, 1) := by decide +kernel
theorem dX8_isPart_1 : decode cX8_isPart 1 = .ok (.ifCond .eq 8, 3) := by decide +kernel
theorem dX8_isPart_4 : decode cX8_isPart 4 = .ok (.iload_n 0, 1) := by decide +kernel
theorem dX8_isPart_5 : decode cX8_isPart 5 = .ok (.iconst 1, 1) := by decide +kernel
theorem dX8_isPart_6 : decode cX8_isPart 6 = .ok (.if_icmp .ne 7, 3) := by decide +kernel
theorem dX8_isPart_9 : decode cX8_isPart 9 = .ok (.iconst 1, 1) := by decide +kernel
theorem dX8_isPart_10 : decode cX8_isPart 10 = .ok (.goto 4, 3) := by decide +kernel
theorem dX8_isPart_13 : decode cX8_isPart 13 = .ok (.iconst 0, 1) := by decide +kernel
theorem dX8_isPart_14 : decode cX8_isPart 14 = .ok (.ireturn, 1) := by decide +kernel
theorem dX9_in_0 : decode cX9_in 0 = .ok (.iload_n 0, 1) := by decide +kernel
theorem dX9_in_1 : decode cX9_in 1 = .ok (.iload_n 1, 1) := by decide +kernel
theorem dX9_in_2 : decode cX9_in 2 = .ok (.if_icmp .lt 12, 3) := by decide +kernel
theorem dX9_in_5 : decode cX9_in 5 = .ok (.iload_n 0, 1) := by decide +kernel
theorem dX9_in_6 : decode cX9_in 6 = .ok (.iload_n 2, 1) := by decide +kernel
theorem dX9_in_7 : decode cX9_in 7 = .ok (.if_icmp .gt 7, 3) := by decide +kernel
theorem dX9_in_10 : decode cX9_in 10 = .ok (.iconst 1, 1) := by decide +kernel
theorem dX9_in_11 : decode cX9_in 11 = .ok (.goto 4, 3) := by decide +kernel
theorem dX9_in_14 : decode cX9_in 14 = .ok (.iconst 0, 1) := by decide +kernel
theorem dX9_in_15 : decode cX9_in 15 = .ok (.ireturn, 1) := by decide +kernel
theorem dX9_bit_0 : decode cX9_bit 0 = .ok (.iload_n 0, 1) := by decide +kernel
theorem dX9_bit_1 : decode cX9_bit 1 = .ok (.iload_n 1, 1) := by decide +kernel
theorem dX9_bit_2 : decode cX9_bit 2 = .ok (.if_icmp .ge 15, 3) := by decide +kernel
theorem dX9_bit_5 : decode cX9_bit 5 = .ok (.iload_n 1, 1) := by decide +kernel
theorem dX9_bit_6 : decode cX9_bit 6 = .ok (.iload_n 1, 1) := by decide +kernel
theorem dX9_bit_7 : decode cX9_bit 7 = .ok (.iconst 1, 1) := by decide +kernel
theorem dX9_bit_8 : decode cX9_bit 8 = .ok (.isub, 1) := by decide +kernel
theorem dX9_bit_9 : decode cX9_bit 9 = .ok (.imul, 1) := by decide +kernel
theorem dX9_bit_10 : decode cX9_bit 10 = .ok (.iconst 2, 1) := by decide +kernel
theorem dX9_bit_11 : decode cX9_bit 11 = .ok (.idiv, 1) := by decide +kernel
theorem dX9_bit_12 : decode cX9_bit 12 = .ok (.iload_n 0, 1) := by decide +kernel
theorem dX9_bit_13 : decode cX9_bit 13 = .ok (.iadd, 1) := by decide +kernel
theorem dX9_bit_14 : decode cX9_bit 14 = .ok (.goto 12, 3) := by decide +kernel
theorem dX9_bit_17 : decode cX9_bit 17 = .ok (.iload_n 0, 1) := by decide +kernel
theorem dX9_bit_18 : decode cX9_bit 18 = .ok (.iload_n 0, 1) := by decide +kernel
theorem dX9_bit_19 : decode cX9_bit 19 = .ok (.iconst 1, 1) := by decide +kernel
theorem dX9_bit_20 : decode cX9_bit 20 = .ok (.isub, 1) := by decide +kernel
theorem dX9_bit_21 : decode cX9_bit 21 = .ok (.imul, 1) := by decide +kernel
theorem dX9_bit_22 : decode cX9_bit 22 = .ok (.iconst 2, 1) := by decide +kernel
theorem dX9_bit_23 : decode cX9_bit 23 = .ok (.idiv, 1) := by decide +kernel
theorem dX9_bit_24 : decode cX9_bit 24 = .ok (.iload_n 1, 1) := by decide +kernel
theorem dX9_bit_25 : decode cX9_bit 25 = .ok (.iadd, 1) := by decide +kernel
theorem dX9_bit_26 : decode cX9_bit 26 = .ok (.ireturn, 1) := by decide +kernel
theorem dX9_codes_0 : decode cX9_codes 0 = .ok (.iconst 1, 1) := by decide +kernel
theorem dX9_codes_1 : decode cX9_codes 1 = .ok (.iload_n 0, 1) := by decide +kernel
theorem dX9_codes_2 : decode cX9_codes 2 = .ok (.iload_n 0, 1) := by decide +kernel
theorem dX9_codes_3 : decode cX9_codes 3 = .ok (.iconst 1, 1) := by decide +kernel
theorem dX9_codes_4 : decode cX9_codes 4 = .ok (.isub, 1) := by decide +kernel
theorem dX9_codes_5 : decode cX9_codes 5 = .ok (.imul, 1) := by decide +kernel
theorem dX9_codes_6 : decode cX9_codes 6 = .ok (.iconst 2, 1) := by decide +kernel
theorem dX9_codes_7 : decode cX9_codes 7 = .ok (.idiv, 1) := by decide +kernel
theorem dX9_codes_8 : decode cX9_codes 8 = .ok (.ishl, 1) := by decide +kernel
theorem dX9_codes_9 : decode cX9_codes 9 = .ok (.ireturn, 1) := by decide +kernel
theorem dX9_isRenaming_0 : decode cX9_isRenaming 0 = .ok (.iload_n 1, 1) := by decide +kernel
theorem dX9_isRenaming_1 : decode cX9_isRenaming 1 = .ok (.istore_n 3, 1) := by decide +kernel
theorem dX9_isRenaming_2 : decode cX9_isRenaming 2 = .ok (.iconst 0, 1) := by decide +kernel
theorem dX9_isRenaming_3 : decode cX9_isRenaming 3 = .ok (.istore 4, 2) := by decide +kernel
theorem dX9_isRenaming_5 : decode cX9_isRenaming 5 = .ok (.iconst 0, 1) := by decide +kernel
theorem dX9_isRenaming_6 : decode cX9_isRenaming 6 = .ok (.istore 5, 2) := by decide +kernel
theorem dX9_isRenaming_8 : decode cX9_isRenaming 8 = .ok (.iload 5, 2) := by decide +kernel
theorem dX9_isRenaming_10 : decode cX9_isRenaming 10 = .ok (.iload_n 2, 1) := by decide +kernel
theorem dX9_isRenaming_11 : decode cX9_isRenaming 11 = .ok (.if_icmp .ge 52, 3) := by decide +kernel
theorem dX9_isRenaming_14 : decode cX9_isRenaming 14 = .ok (.aload_n 0, 1) := by decide +kernel
theorem dX9_isRenaming_15 : decode cX9_isRenaming 15 = .ok (.getfield 3, 3) := by decide +kernel
theorem dX9_isRenaming_18 : decode cX9_isRenaming 18 = .ok (.iload 5, 2) := by decide +kernel
theorem dX9_isRenaming_20 : decode cX9_isRenaming 20 = .ok (.iload_n 3, 1) := by decide +kernel
theorem dX9_isRenaming_21 : decode cX9_isRenaming 21 = .ok (.iconst 4, 1) := by decide +kernel
theorem dX9_isRenaming_22 : decode cX9_isRenaming 22 = .ok (.irem, 1) := by decide +kernel
theorem dX9_isRenaming_23 : decode cX9_isRenaming 23 = .ok (.iastore, 1) := by decide +kernel
theorem dX9_isRenaming_24 : decode cX9_isRenaming 24 = .ok (.iload 4, 2) := by decide +kernel
theorem dX9_isRenaming_26 : decode cX9_isRenaming 26 = .ok (.aload_n 0, 1) := by decide +kernel
theorem dX9_isRenaming_27 : decode cX9_isRenaming 27 = .ok (.getfield 3, 3) := by decide +kernel
theorem dX9_isRenaming_30 : decode cX9_isRenaming 30 = .ok (.iload 5, 2) := by decide +kernel
theorem dX9_isRenaming_32 : decode cX9_isRenaming 32 = .ok (.iaload, 1) := by decide +kernel
theorem dX9_isRenaming_33 : decode cX9_isRenaming 33 = .ok (.iload_n 2, 1) := by decide +kernel
theorem dX9_isRenaming_34 : decode cX9_isRenaming 34 = .ok (.if_icmp .ge 15, 3) := by decide +kernel
theorem dX9_isRenaming_37 : decode cX9_isRenaming 37 = .ok (.iconst 1, 1) := by decide +kernel
theorem dX9_isRenaming_38 : decode cX9_isRenaming 38 = .ok (.aload_n 0, 1) := by decide +kernel
theorem dX9_isRenaming_39 : decode cX9_isRenaming 39 = .ok (.getfield 3, 3) := by decide +kernel
theorem dX9_isRenaming_42 : decode cX9_isRenaming 42 = .ok (.iload 5, 2) := by decide +kernel
theorem dX9_isRenaming_44 : decode cX9_isRenaming 44 = .ok (.iaload, 1) := by decide +kernel
theorem dX9_isRenaming_45 : decode cX9_isRenaming 45 = .ok (.ishl, 1) := by decide +kernel
theorem dX9_isRenaming_46 : decode cX9_isRenaming 46 = .ok (.goto 4, 3) := by decide +kernel
theorem dX9_isRenaming_49 : decode cX9_isRenaming 49 = .ok (.iconst 0, 1) := by decide +kernel
theorem dX9_isRenaming_50 : decode cX9_isRenaming 50 = .ok (.ior, 1) := by decide +kernel
theorem dX9_isRenaming_51 : decode cX9_isRenaming 51 = .ok (.istore 4, 2) := by decide +kernel
theorem dX9_isRenaming_53 : decode cX9_isRenaming 53 = .ok (.iload_n 3, 1) := by decide +kernel
theorem dX9_isRenaming_54 : decode cX9_isRenaming 54 = .ok (.iconst 4, 1) := by decide +kernel
theorem dX9_isRenaming_55 : decode cX9_isRenaming 55 = .ok (.idiv, 1) := by decide +kernel
theorem dX9_isRenaming_56 : decode cX9_isRenaming 56 = .ok (.istore_n 3, 1) := by decide +kernel
theorem dX9_isRenaming_57 : decode cX9_isRenaming 57 = .ok (.iinc 5 1, 3) := by decide +kernel
theorem dX9_isRenaming_60 : decode cX9_isRenaming 60 = .ok (.goto (-52), 3) := by decide +kernel
theorem dX9_isRenaming_63 : decode cX9_isRenaming 63 = .ok (.iload_n 3, 1) := by decide +kernel
theorem dX9_isRenaming_64 : decode cX9_isRenaming 64 = .ok (.ifCond .ne 17, 3) := by decide +kernel
theorem dX9_isRenaming_67 : decode cX9_isRenaming 67 = .ok (.iload 4, 2) := by decide +kernel
theorem dX9_isRenaming_69 : decode cX9_isRenaming 69 = .ok (.iconst 1, 1) := by decide +kernel
theorem dX9_isRenaming_70 : decode cX9_isRenaming 70 = .ok (.iload_n 2, 1) := by decide +kernel
theorem dX9_isRenaming_71 : decode cX9_isRenaming 71 = .ok (.ishl, 1) := by decide +kernel
theorem dX9_isRenaming_72 : decode cX9_isRenaming 72 = .ok (.iconst 1, 1) := by decide +kernel
theorem dX9_isRenaming_73 : decode cX9_isRenaming 73 = .ok (.isub, 1) := by decide +kernel
theorem dX9_isRenaming_74 : decode cX9_isRenaming 74 = .ok (.if_icmp .ne 7, 3) := by decide +kernel
theorem dX9_isRenaming_77 : decode cX9_isRenaming 77 = .ok (.iconst 1, 1) := by decide +kernel
theorem dX9_isRenaming_78 : decode cX9_isRenaming 78 = .ok (.goto 4, 3) := by decide +kernel
theorem dX9_isRenaming_81 : decode cX9_isRenaming 81 = .ok (.iconst 0, 1) := by decide +kernel
theorem dX9_isRenaming_82 : decode cX9_isRenaming 82 = .ok (.ireturn, 1) := by decide +kernel
theorem dX9_renamedCode_0 : decode cX9_renamedCode 0 = .ok (.iconst 0, 1) := by decide +kernel
theorem dX9_renamedCode_1 : decode cX9_renamedCode 1 = .ok (.istore_n 3, 1) := by decide +kernel
theorem dX9_renamedCode_2 : decode cX9_renamedCode 2 = .ok (.iconst 1, 1) := by decide +kernel
theorem dX9_renamedCode_3 : decode cX9_renamedCode 3 = .ok (.istore 4, 2) := by decide +kernel
theorem dX9_renamedCode_5 : decode cX9_renamedCode 5 = .ok (.iload 4, 2) := by decide +kernel
theorem dX9_renamedCode_7 : decode cX9_renamedCode 7 = .ok (.iload_n 2, 1) := by decide +kernel
theorem dX9_renamedCode_8 : decode cX9_renamedCode 8 = .ok (.if_icmp .ge 66, 3) := by decide +kernel
theorem dX9_renamedCode_11 : decode cX9_renamedCode 11 = .ok (.iconst 0, 1) := by decide +kernel
theorem dX9_renamedCode_12 : decode cX9_renamedCode 12 = .ok (.istore 5, 2) := by decide +kernel
theorem dX9_renamedCode_14 : decode cX9_renamedCode 14 = .ok (.iload 5, 2) := by decide +kernel
theorem dX9_renamedCode_16 : decode cX9_renamedCode 16 = .ok (.iload 4, 2) := by decide +kernel
theorem dX9_renamedCode_18 : decode cX9_renamedCode 18 = .ok (.if_icmp .ge 50, 3) := by decide +kernel
theorem dX9_renamedCode_21 : decode cX9_renamedCode 21 = .ok (.iload_n 3, 1) := by decide +kernel
theorem dX9_renamedCode_22 : decode cX9_renamedCode 22 = .ok (.iload_n 1, 1) := by decide +kernel
theorem dX9_renamedCode_23 : decode cX9_renamedCode 23 = .ok (.iload 5, 2) := by decide +kernel
theorem dX9_renamedCode_25 : decode cX9_renamedCode 25 = .ok (.iload 4, 2) := by decide +kernel
theorem dX9_renamedCode_27 : decode cX9_renamedCode 27 = .ok (.invokestatic 9, 3) := by decide +kernel
theorem dX9_renamedCode_30 : decode cX9_renamedCode 30 = .ok (.ishr, 1) := by decide +kernel
theorem dX9_renamedCode_31 : decode cX9_renamedCode 31 = .ok (.iconst 1, 1) := by decide +kernel
theorem dX9_renamedCode_32 : decode cX9_renamedCode 32 = .ok (.iand, 1) := by decide +kernel
theorem dX9_renamedCode_33 : decode cX9_renamedCode 33 = .ok (.iconst 1, 1) := by decide +kernel
theorem dX9_renamedCode_34 : decode cX9_renamedCode 34 = .ok (.if_icmp .ne 25, 3) := by decide +kernel
theorem dX9_renamedCode_37 : decode cX9_renamedCode 37 = .ok (.iconst 1, 1) := by decide +kernel
theorem dX9_renamedCode_38 : decode cX9_renamedCode 38 = .ok (.aload_n 0, 1) := by decide +kernel
theorem dX9_renamedCode_39 : decode cX9_renamedCode 39 = .ok (.getfield 3, 3) := by decide +kernel
theorem dX9_renamedCode_42 : decode cX9_renamedCode 42 = .ok (.iload 5, 2) := by decide +kernel
theorem dX9_renamedCode_44 : decode cX9_renamedCode 44 = .ok (.iaload, 1) := by decide +kernel
theorem dX9_renamedCode_45 : decode cX9_renamedCode 45 = .ok (.aload_n 0, 1) := by decide +kernel
theorem dX9_renamedCode_46 : decode cX9_renamedCode 46 = .ok (.getfield 3, 3) := by decide +kernel
theorem dX9_renamedCode_49 : decode cX9_renamedCode 49 = .ok (.iload 4, 2) := by decide +kernel
theorem dX9_renamedCode_51 : decode cX9_renamedCode 51 = .ok (.iaload, 1) := by decide +kernel
theorem dX9_renamedCode_52 : decode cX9_renamedCode 52 = .ok (.invokestatic 9, 3) := by decide +kernel
theorem dX9_renamedCode_55 : decode cX9_renamedCode 55 = .ok (.ishl, 1) := by decide +kernel
theorem dX9_renamedCode_56 : decode cX9_renamedCode 56 = .ok (.goto 4, 3) := by decide +kernel
theorem dX9_renamedCode_59 : decode cX9_renamedCode 59 = .ok (.iconst 0, 1) := by decide +kernel
theorem dX9_renamedCode_60 : decode cX9_renamedCode 60 = .ok (.ior, 1) := by decide +kernel
theorem dX9_renamedCode_61 : decode cX9_renamedCode 61 = .ok (.istore_n 3, 1) := by decide +kernel
theorem dX9_renamedCode_62 : decode cX9_renamedCode 62 = .ok (.iinc 5 1, 3) := by decide +kernel
theorem dX9_renamedCode_65 : decode cX9_renamedCode 65 = .ok (.goto (-51), 3) := by decide +kernel
theorem dX9_renamedCode_68 : decode cX9_renamedCode 68 = .ok (.iinc 4 1, 3) := by decide +kernel
theorem dX9_renamedCode_71 : decode cX9_renamedCode 71 = .ok (.goto (-66), 3) := by decide +kernel
theorem dX9_renamedCode_74 : decode cX9_renamedCode 74 = .ok (.iload_n 3, 1) := by decide +kernel
theorem dX9_renamedCode_75 : decode cX9_renamedCode 75 = .ok (.ireturn, 1) := by decide +kernel
theorem dX9_leastCode_0 : decode cX9_leastCode 0 = .ok (.iload_n 1, 1) := by decide +kernel
theorem dX9_leastCode_1 : decode cX9_leastCode 1 = .ok (.istore 4, 2) := by decide +kernel
theorem dX9_leastCode_3 : decode cX9_leastCode 3 = .ok (.iconst 0, 1) := by decide +kernel
theorem dX9_leastCode_4 : decode cX9_leastCode 4 = .ok (.istore 5, 2) := by decide +kernel
theorem dX9_leastCode_6 : decode cX9_leastCode 6 = .ok (.iload 5, 2) := by decide +kernel
theorem dX9_leastCode_8 : decode cX9_leastCode 8 = .ok (.sipush 256, 3) := by decide +kernel
theorem dX9_leastCode_11 : decode cX9_leastCode 11 = .ok (.if_icmp .ge 56, 3) := by decide +kernel
theorem dX9_leastCode_14 : decode cX9_leastCode 14 = .ok (.aload_n 0, 1) := by decide +kernel
theorem dX9_leastCode_15 : decode cX9_leastCode 15 = .ok (.iload 5, 2) := by decide +kernel
theorem dX9_leastCode_17 : decode cX9_leastCode 17 = .ok (.iload_n 2, 1) := by decide +kernel
theorem dX9_leastCode_18 : decode cX9_leastCode 18 = .ok (.invokevirtual 13, 3) := by decide +kernel
theorem dX9_leastCode_21 : decode cX9_leastCode 21 = .ok (.ifCond .eq 40, 3) := by decide +kernel
theorem dX9_leastCode_24 : decode cX9_leastCode 24 = .ok (.iload_n 3, 1) := by decide +kernel
theorem dX9_leastCode_25 : decode cX9_leastCode 25 = .ok (.ifCond .eq 12, 3) := by decide +kernel
theorem dX9_leastCode_28 : decode cX9_leastCode 28 = .ok (.aload_n 0, 1) := by decide +kernel
theorem dX9_leastCode_29 : decode cX9_leastCode 29 = .ok (.getfield 3, 3) := by decide +kernel
theorem dX9_leastCode_32 : decode cX9_leastCode 32 = .ok (.iconst 0, 1) := by decide +kernel
theorem dX9_leastCode_33 : decode cX9_leastCode 33 = .ok (.iaload, 1) := by decide +kernel
theorem dX9_leastCode_34 : decode cX9_leastCode 34 = .ok (.ifCond .ne 27, 3) := by decide +kernel
theorem dX9_leastCode_37 : decode cX9_leastCode 37 = .ok (.aload_n 0, 1) := by decide +kernel
theorem dX9_leastCode_38 : decode cX9_leastCode 38 = .ok (.iload_n 1, 1) := by decide +kernel
theorem dX9_leastCode_39 : decode cX9_leastCode 39 = .ok (.iload_n 2, 1) := by decide +kernel
theorem dX9_leastCode_40 : decode cX9_leastCode 40 = .ok (.invokevirtual 17, 3) := by decide +kernel
theorem dX9_leastCode_43 : decode cX9_leastCode 43 = .ok (.istore 6, 2) := by decide +kernel
theorem dX9_leastCode_45 : decode cX9_leastCode 45 = .ok (.iload 6, 2) := by decide +kernel
theorem dX9_leastCode_47 : decode cX9_leastCode 47 = .ok (.iload 4, 2) := by decide +kernel
theorem dX9_leastCode_49 : decode cX9_leastCode 49 = .ok (.if_icmp .ge 8, 3) := by decide +kernel
theorem dX9_leastCode_52 : decode cX9_leastCode 52 = .ok (.iload 6, 2) := by decide +kernel
theorem dX9_leastCode_54 : decode cX9_leastCode 54 = .ok (.goto 5, 3) := by decide +kernel
theorem dX9_leastCode_57 : decode cX9_leastCode 57 = .ok (.iload 4, 2) := by decide +kernel
theorem dX9_leastCode_59 : decode cX9_leastCode 59 = .ok (.istore 4, 2) := by decide +kernel
theorem dX9_leastCode_61 : decode cX9_leastCode 61 = .ok (.iinc 5 1, 3) := by decide +kernel
theorem dX9_leastCode_64 : decode cX9_leastCode 64 = .ok (.goto (-58), 3) := by decide +kernel
theorem dX9_leastCode_67 : decode cX9_leastCode 67 = .ok (.iload 4, 2) := by decide +kernel
theorem dX9_leastCode_69 : decode cX9_leastCode 69 = .ok (.ireturn, 1) := by decide +kernel
theorem dX9_layTables_0 : decode cX9_layTables 0 = .ok (.iconst 0, 1) := by decide +kernel
theorem dX9_layTables_1 : decode cX9_layTables 1 = .ok (.istore_n 1, 1) := by decide +kernel
theorem dX9_layTables_2 : decode cX9_layTables 2 = .ok (.iconst 0, 1) := by decide +kernel
theorem dX9_layTables_3 : decode cX9_layTables 3 = .ok (.istore_n 2, 1) := by decide +kernel
theorem dX9_layTables_4 : decode cX9_layTables 4 = .ok (.iload_n 2, 1) := by decide +kernel
theorem dX9_layTables_5 : decode cX9_layTables 5 = .ok (.iconst 5, 1) := by decide +kernel
theorem dX9_layTables_6 : decode cX9_layTables 6 = .ok (.if_icmp .ge 92, 3) := by decide +kernel
theorem dX9_layTables_9 : decode cX9_layTables 9 = .ok (.iconst 0, 1) := by decide +kernel
theorem dX9_layTables_10 : decode cX9_layTables 10 = .ok (.istore_n 3, 1) := by decide +kernel
theorem dX9_layTables_11 : decode cX9_layTables 11 = .ok (.iload_n 3, 1) := by decide +kernel
theorem dX9_layTables_12 : decode cX9_layTables 12 = .ok (.iload_n 2, 1) := by decide +kernel
theorem dX9_layTables_13 : decode cX9_layTables 13 = .ok (.invokestatic 20, 3) := by decide +kernel
theorem dX9_layTables_16 : decode cX9_layTables 16 = .ok (.if_icmp .ge 76, 3) := by decide +kernel
theorem dX9_layTables_19 : decode cX9_layTables 19 = .ok (.aload_n 0, 1) := by decide +kernel
theorem dX9_layTables_20 : decode cX9_layTables 20 = .ok (.iload_n 3, 1) := by decide +kernel
theorem dX9_layTables_21 : decode cX9_layTables 21 = .ok (.iload_n 2, 1) := by decide +kernel
theorem dX9_layTables_22 : decode cX9_layTables 22 = .ok (.iconst 0, 1) := by decide +kernel
theorem dX9_layTables_23 : decode cX9_layTables 23 = .ok (.invokevirtual 24, 3) := by decide +kernel
theorem dX9_layTables_26 : decode cX9_layTables 26 = .ok (.istore 4, 2) := by decide +kernel
theorem dX9_layTables_28 : decode cX9_layTables 28 = .ok (.iload 4, 2) := by decide +kernel
theorem dX9_layTables_30 : decode cX9_layTables 30 = .ok (.iload_n 3, 1) := by decide +kernel
theorem dX9_layTables_31 : decode cX9_layTables 31 = .ok (.if_icmp .ne 32, 3) := by decide +kernel
theorem dX9_layTables_34 : decode cX9_layTables 34 = .ok (.aload_n 0, 1) := by decide +kernel
theorem dX9_layTables_35 : decode cX9_layTables 35 = .ok (.getfield 28, 3) := by decide +kernel
theorem dX9_layTables_38 : decode cX9_layTables 38 = .ok (.iload_n 1, 1) := by decide +kernel
theorem dX9_layTables_39 : decode cX9_layTables 39 = .ok (.iload_n 2, 1) := by decide +kernel
theorem dX9_layTables_40 : decode cX9_layTables 40 = .ok (.iastore, 1) := by decide +kernel
theorem dX9_layTables_41 : decode cX9_layTables 41 = .ok (.aload_n 0, 1) := by decide +kernel
theorem dX9_layTables_42 : decode cX9_layTables 42 = .ok (.getfield 31, 3) := by decide +kernel
theorem dX9_layTables_45 : decode cX9_layTables 45 = .ok (.iload_n 1, 1) := by decide +kernel
theorem dX9_layTables_46 : decode cX9_layTables 46 = .ok (.iload_n 3, 1) := by decide +kernel
theorem dX9_layTables_47 : decode cX9_layTables 47 = .ok (.iastore, 1) := by decide +kernel
theorem dX9_layTables_48 : decode cX9_layTables 48 = .ok (.aload_n 0, 1) := by decide +kernel
theorem dX9_layTables_49 : decode cX9_layTables 49 = .ok (.getfield 34, 3) := by decide +kernel
theorem dX9_layTables_52 : decode cX9_layTables 52 = .ok (.bipush 64, 2) := by decide +kernel
theorem dX9_layTables_54 : decode cX9_layTables 54 = .ok (.iload_n 2, 1) := by decide +kernel
theorem dX9_layTables_55 : decode cX9_layTables 55 = .ok (.imul, 1) := by decide +kernel
theorem dX9_layTables_56 : decode cX9_layTables 56 = .ok (.iload_n 3, 1) := by decide +kernel
theorem dX9_layTables_57 : decode cX9_layTables 57 = .ok (.iadd, 1) := by decide +kernel
theorem dX9_layTables_58 : decode cX9_layTables 58 = .ok (.iload_n 1, 1) := by decide +kernel
theorem dX9_layTables_59 : decode cX9_layTables 59 = .ok (.iastore, 1) := by decide +kernel
theorem dX9_layTables_60 : decode cX9_layTables 60 = .ok (.iinc 1 1, 3) := by decide +kernel
theorem dX9_layTables_63 : decode cX9_layTables 63 = .ok (.aload_n 0, 1) := by decide +kernel
theorem dX9_layTables_64 : decode cX9_layTables 64 = .ok (.getfield 34, 3) := by decide +kernel
theorem dX9_layTables_67 : decode cX9_layTables 67 = .ok (.bipush 64, 2) := by decide +kernel
theorem dX9_layTables_69 : decode cX9_layTables 69 = .ok (.iload_n 2, 1) := by decide +kernel
theorem dX9_layTables_70 : decode cX9_layTables 70 = .ok (.imul, 1) := by decide +kernel
theorem dX9_layTables_71 : decode cX9_layTables 71 = .ok (.iload_n 3, 1) := by decide +kernel
theorem dX9_layTables_72 : decode cX9_layTables 72 = .ok (.iadd, 1) := by decide +kernel
theorem dX9_layTables_73 : decode cX9_layTables 73 = .ok (.aload_n 0, 1) := by decide +kernel
theorem dX9_layTables_74 : decode cX9_layTables 74 = .ok (.getfield 34, 3) := by decide +kernel
theorem dX9_layTables_77 : decode cX9_layTables 77 = .ok (.bipush 64, 2) := by decide +kernel
theorem dX9_layTables_79 : decode cX9_layTables 79 = .ok (.iload_n 2, 1) := by decide +kernel
theorem dX9_layTables_80 : decode cX9_layTables 80 = .ok (.imul, 1) := by decide +kernel
theorem dX9_layTables_81 : decode cX9_layTables 81 = .ok (.iload 4, 2) := by decide +kernel
theorem dX9_layTables_83 : decode cX9_layTables 83 = .ok (.iadd, 1) := by decide +kernel
theorem dX9_layTables_84 : decode cX9_layTables 84 = .ok (.iaload, 1) := by decide +kernel
theorem dX9_layTables_85 : decode cX9_layTables 85 = .ok (.iastore, 1) := by decide +kernel
theorem dX9_layTables_86 : decode cX9_layTables 86 = .ok (.iinc 3 1, 3) := by decide +kernel
theorem dX9_layTables_89 : decode cX9_layTables 89 = .ok (.goto (-78), 3) := by decide +kernel
theorem dX9_layTables_92 : decode cX9_layTables 92 = .ok (.iinc 2 1, 3) := by decide +kernel
theorem dX9_layTables_95 : decode cX9_layTables 95 = .ok (.goto (-91), 3) := by decide +kernel
theorem dX9_layTables_98 : decode cX9_layTables 98 = .ok (.iconst 1, 1) := by decide +kernel
theorem dX9_layTables_99 : decode cX9_layTables 99 = .ok (.istore_n 2, 1) := by decide +kernel
theorem dX9_layTables_100 : decode cX9_layTables 100 = .ok (.iload_n 2, 1) := by decide +kernel
theorem dX9_layTables_101 : decode cX9_layTables 101 = .ok (.iconst 5, 1) := by decide +kernel
theorem dX9_layTables_102 : decode cX9_layTables 102 = .ok (.if_icmp .ge 95, 3) := by decide +kernel
theorem dX9_layTables_105 : decode cX9_layTables 105 = .ok (.iconst 0, 1) := by decide +kernel
theorem dX9_layTables_106 : decode cX9_layTables 106 = .ok (.istore_n 3, 1) := by decide +kernel
theorem dX9_layTables_107 : decode cX9_layTables 107 = .ok (.iload_n 3, 1) := by decide +kernel
theorem dX9_layTables_108 : decode cX9_layTables 108 = .ok (.iload_n 2, 1) := by decide +kernel
theorem dX9_layTables_109 : decode cX9_layTables 109 = .ok (.invokestatic 20, 3) := by decide +kernel
theorem dX9_layTables_112 : decode cX9_layTables 112 = .ok (.if_icmp .ge 79, 3) := by decide +kernel
theorem dX9_layTables_115 : decode cX9_layTables 115 = .ok (.aload_n 0, 1) := by decide +kernel
theorem dX9_layTables_116 : decode cX9_layTables 116 = .ok (.iload_n 3, 1) := by decide +kernel
theorem dX9_layTables_117 : decode cX9_layTables 117 = .ok (.iload_n 2, 1) := by decide +kernel
theorem dX9_layTables_118 : decode cX9_layTables 118 = .ok (.iconst 1, 1) := by decide +kernel
theorem dX9_layTables_119 : decode cX9_layTables 119 = .ok (.invokevirtual 24, 3) := by decide +kernel
theorem dX9_layTables_122 : decode cX9_layTables 122 = .ok (.istore 4, 2) := by decide +kernel
theorem dX9_layTables_124 : decode cX9_layTables 124 = .ok (.iload 4, 2) := by decide +kernel
theorem dX9_layTables_126 : decode cX9_layTables 126 = .ok (.iload_n 3, 1) := by decide +kernel
theorem dX9_layTables_127 : decode cX9_layTables 127 = .ok (.if_icmp .ne 35, 3) := by decide +kernel
theorem dX9_layTables_130 : decode cX9_layTables 130 = .ok (.aload_n 0, 1) := by decide +kernel
theorem dX9_layTables_131 : decode cX9_layTables 131 = .ok (.getfield 28, 3) := by decide +kernel
theorem dX9_layTables_134 : decode cX9_layTables 134 = .ok (.iload_n 1, 1) := by decide +kernel
theorem dX9_layTables_135 : decode cX9_layTables 135 = .ok (.iload_n 2, 1) := by decide +kernel
theorem dX9_layTables_136 : decode cX9_layTables 136 = .ok (.iastore, 1) := by decide +kernel
theorem dX9_layTables_137 : decode cX9_layTables 137 = .ok (.aload_n 0, 1) := by decide +kernel
theorem dX9_layTables_138 : decode cX9_layTables 138 = .ok (.getfield 31, 3) := by decide +kernel
theorem dX9_layTables_141 : decode cX9_layTables 141 = .ok (.iload_n 1, 1) := by decide +kernel
theorem dX9_layTables_142 : decode cX9_layTables 142 = .ok (.iload_n 3, 1) := by decide +kernel
theorem dX9_layTables_143 : decode cX9_layTables 143 = .ok (.iastore, 1) := by decide +kernel
theorem dX9_layTables_144 : decode cX9_layTables 144 = .ok (.aload_n 0, 1) := by decide +kernel
theorem dX9_layTables_145 : decode cX9_layTables 145 = .ok (.getfield 37, 3) := by decide +kernel
theorem dX9_layTables_148 : decode cX9_layTables 148 = .ok (.bipush 64, 2) := by decide +kernel
theorem dX9_layTables_150 : decode cX9_layTables 150 = .ok (.iload_n 2, 1) := by decide +kernel
theorem dX9_layTables_151 : decode cX9_layTables 151 = .ok (.imul, 1) := by decide +kernel
theorem dX9_layTables_152 : decode cX9_layTables 152 = .ok (.iload_n 3, 1) := by decide +kernel
theorem dX9_layTables_153 : decode cX9_layTables 153 = .ok (.iadd, 1) := by decide +kernel
theorem dX9_layTables_154 : decode cX9_layTables 154 = .ok (.iload_n 1, 1) := by decide +kernel
theorem dX9_layTables_155 : decode cX9_layTables 155 = .ok (.bipush 19, 2) := by decide +kernel
theorem dX9_layTables_157 : decode cX9_layTables 157 = .ok (.isub, 1) := by decide +kernel
theorem dX9_layTables_158 : decode cX9_layTables 158 = .ok (.iastore, 1) := by decide +kernel
theorem dX9_layTables_159 : decode cX9_layTables 159 = .ok (.iinc 1 1, 3) := by decide +kernel
theorem dX9_layTables_162 : decode cX9_layTables 162 = .ok (.aload_n 0, 1) := by decide +kernel
theorem dX9_layTables_163 : decode cX9_layTables 163 = .ok (.getfield 37, 3) := by decide +kernel
theorem dX9_layTables_166 : decode cX9_layTables 166 = .ok (.bipush 64, 2) := by decide +kernel
theorem dX9_layTables_168 : decode cX9_layTables 168 = .ok (.iload_n 2, 1) := by decide +kernel
theorem dX9_layTables_169 : decode cX9_layTables 169 = .ok (.imul, 1) := by decide +kernel
theorem dX9_layTables_170 : decode cX9_layTables 170 = .ok (.iload_n 3, 1) := by decide +kernel
theorem dX9_layTables_171 : decode cX9_layTables 171 = .ok (.iadd, 1) := by decide +kernel
theorem dX9_layTables_172 : decode cX9_layTables 172 = .ok (.aload_n 0, 1) := by decide +kernel
theorem dX9_layTables_173 : decode cX9_layTables 173 = .ok (.getfield 37, 3) := by decide +kernel
theorem dX9_layTables_176 : decode cX9_layTables 176 = .ok (.bipush 64, 2) := by decide +kernel
theorem dX9_layTables_178 : decode cX9_layTables 178 = .ok (.iload_n 2, 1) := by decide +kernel
theorem dX9_layTables_179 : decode cX9_layTables 179 = .ok (.imul, 1) := by decide +kernel
theorem dX9_layTables_180 : decode cX9_layTables 180 = .ok (.iload 4, 2) := by decide +kernel
theorem dX9_layTables_182 : decode cX9_layTables 182 = .ok (.iadd, 1) := by decide +kernel
theorem dX9_layTables_183 : decode cX9_layTables 183 = .ok (.iaload, 1) := by decide +kernel
theorem dX9_layTables_184 : decode cX9_layTables 184 = .ok (.iastore, 1) := by decide +kernel
theorem dX9_layTables_185 : decode cX9_layTables 185 = .ok (.iinc 3 1, 3) := by decide +kernel
theorem dX9_layTables_188 : decode cX9_layTables 188 = .ok (.goto (-81), 3) := by decide +kernel
theorem dX9_layTables_191 : decode cX9_layTables 191 = .ok (.iinc 2 1, 3) := by decide +kernel
theorem dX9_layTables_194 : decode cX9_layTables 194 = .ok (.goto (-94), 3) := by decide +kernel
theorem dX9_layTables_197 : decode cX9_layTables 197 = .ok (.return_, 1) := by decide +kernel
theorem dX9_init_0 : decode cX9_init 0 = .ok (.aload_n 0, 1) := by decide +kernel
theorem dX9_init_1 : decode cX9_init 1 = .ok (.invokespecial 40, 3) := by decide +kernel
theorem dX9_init_4 : decode cX9_init 4 = .ok (.aload_n 0, 1) := by decide +kernel
theorem dX9_init_5 : decode cX9_init 5 = .ok (.bipush 48, 2) := by decide +kernel
theorem dX9_init_7 : decode cX9_init 7 = .ok (.newarray .int, 2) := by decide +kernel
theorem dX9_init_9 : decode cX9_init 9 = .ok (.putfield 28, 3) := by decide +kernel
theorem dX9_init_12 : decode cX9_init 12 = .ok (.aload_n 0, 1) := by decide +kernel
theorem dX9_init_13 : decode cX9_init 13 = .ok (.bipush 48, 2) := by decide +kernel
theorem dX9_init_15 : decode cX9_init 15 = .ok (.newarray .int, 2) := by decide +kernel
theorem dX9_init_17 : decode cX9_init 17 = .ok (.putfield 31, 3) := by decide +kernel
theorem dX9_init_20 : decode cX9_init 20 = .ok (.aload_n 0, 1) := by decide +kernel
theorem dX9_init_21 : decode cX9_init 21 = .ok (.sipush 320, 3) := by decide +kernel
theorem dX9_init_24 : decode cX9_init 24 = .ok (.newarray .int, 2) := by decide +kernel
theorem dX9_init_26 : decode cX9_init 26 = .ok (.putfield 34, 3) := by decide +kernel
theorem dX9_init_29 : decode cX9_init 29 = .ok (.aload_n 0, 1) := by decide +kernel
theorem dX9_init_30 : decode cX9_init 30 = .ok (.sipush 320, 3) := by decide +kernel
theorem dX9_init_33 : decode cX9_init 33 = .ok (.newarray .int, 2) := by decide +kernel
theorem dX9_init_35 : decode cX9_init 35 = .ok (.putfield 37, 3) := by decide +kernel
theorem dX9_init_38 : decode cX9_init 38 = .ok (.aload_n 0, 1) := by decide +kernel
theorem dX9_init_39 : decode cX9_init 39 = .ok (.iconst 4, 1) := by decide +kernel
theorem dX9_init_40 : decode cX9_init 40 = .ok (.newarray .int, 2) := by decide +kernel
theorem dX9_init_42 : decode cX9_init 42 = .ok (.putfield 3, 3) := by decide +kernel
theorem dX9_init_45 : decode cX9_init 45 = .ok (.aload_n 0, 1) := by decide +kernel
theorem dX9_init_46 : decode cX9_init 46 = .ok (.bipush 8, 2) := by decide +kernel
theorem dX9_init_48 : decode cX9_init 48 = .ok (.newarray .int, 2) := by decide +kernel
theorem dX9_init_50 : decode cX9_init 50 = .ok (.putfield 46, 3) := by decide +kernel
theorem dX9_init_53 : decode cX9_init 53 = .ok (.aload_n 0, 1) := by decide +kernel
theorem dX9_init_54 : decode cX9_init 54 = .ok (.bipush 8, 2) := by decide +kernel
theorem dX9_init_56 : decode cX9_init 56 = .ok (.newarray .int, 2) := by decide +kernel
theorem dX9_init_58 : decode cX9_init 58 = .ok (.putfield 49, 3) := by decide +kernel
theorem dX9_init_61 : decode cX9_init 61 = .ok (.aload_n 0, 1) := by decide +kernel
theorem dX9_init_62 : decode cX9_init 62 = .ok (.iconst 4, 1) := by decide +kernel
theorem dX9_init_63 : decode cX9_init 63 = .ok (.newarray .boolean, 2) := by decide +kernel
theorem dX9_init_65 : decode cX9_init 65 = .ok (.putfield 52, 3) := by decide +kernel
theorem dX9_init_68 : decode cX9_init 68 = .ok (.aload_n 0, 1) := by decide +kernel
theorem dX9_init_69 : decode cX9_init 69 = .ok (.bipush 16, 2) := by decide +kernel
theorem dX9_init_71 : decode cX9_init 71 = .ok (.newarray .int, 2) := by decide +kernel
theorem dX9_init_73 : decode cX9_init 73 = .ok (.putfield 56, 3) := by decide +kernel
theorem dX9_init_76 : decode cX9_init 76 = .ok (.aload_n 0, 1) := by decide +kernel
theorem dX9_init_77 : decode cX9_init 77 = .ok (.sipush 464, 3) := by decide +kernel
theorem dX9_init_80 : decode cX9_init 80 = .ok (.newarray .long, 2) := by decide +kernel
theorem dX9_init_82 : decode cX9_init 82 = .ok (.putfield 59, 3) := by decide +kernel
theorem dX9_init_85 : decode cX9_init 85 = .ok (.aload_n 0, 1) := by decide +kernel
theorem dX9_init_86 : decode cX9_init 86 = .ok (.sipush 464, 3) := by decide +kernel
theorem dX9_init_89 : decode cX9_init 89 = .ok (.newarray .long, 2) := by decide +kernel
theorem dX9_init_91 : decode cX9_init 91 = .ok (.putfield 63, 3) := by decide +kernel
theorem dX9_init_94 : decode cX9_init 94 = .ok (.aload_n 0, 1) := by decide +kernel
theorem dX9_init_95 : decode cX9_init 95 = .ok (.bipush 60, 2) := by decide +kernel
theorem dX9_init_97 : decode cX9_init 97 = .ok (.newarray .int, 2) := by decide +kernel
theorem dX9_init_99 : decode cX9_init 99 = .ok (.putfield 66, 3) := by decide +kernel
theorem dX9_init_102 : decode cX9_init 102 = .ok (.aload_n 0, 1) := by decide +kernel
theorem dX9_init_103 : decode cX9_init 103 = .ok (.bipush 8, 2) := by decide +kernel
theorem dX9_init_105 : decode cX9_init 105 = .ok (.newarray .int, 2) := by decide +kernel
theorem dX9_init_107 : decode cX9_init 107 = .ok (.putfield 69, 3) := by decide +kernel
theorem dX9_init_110 : decode cX9_init 110 = .ok (.aload_n 0, 1) := by decide +kernel
theorem dX9_init_111 : decode cX9_init 111 = .ok (.iconst 4, 1) := by decide +kernel
theorem dX9_init_112 : decode cX9_init 112 = .ok (.newarray .boolean, 2) := by decide +kernel
theorem dX9_init_114 : decode cX9_init 114 = .ok (.putfield 72, 3) := by decide +kernel
theorem dX9_init_117 : decode cX9_init 117 = .ok (.aload_n 0, 1) := by decide +kernel
theorem dX9_init_118 : decode cX9_init 118 = .ok (.iconst 4, 1) := by decide +kernel
theorem dX9_init_119 : decode cX9_init 119 = .ok (.newarray .int, 2) := by decide +kernel
theorem dX9_init_121 : decode cX9_init 121 = .ok (.putfield 75, 3) := by decide +kernel
theorem dX9_init_124 : decode cX9_init 124 = .ok (.aload_n 0, 1) := by decide +kernel
theorem dX9_init_125 : decode cX9_init 125 = .ok (.bipush 116, 2) := by decide +kernel
theorem dX9_init_127 : decode cX9_init 127 = .ok (.newarray .long, 2) := by decide +kernel
theorem dX9_init_129 : decode cX9_init 129 = .ok (.putfield 78, 3) := by decide +kernel
theorem dX9_init_132 : decode cX9_init 132 = .ok (.aload_n 0, 1) := by decide +kernel
theorem dX9_init_133 : decode cX9_init 133 = .ok (.bipush 116, 2) := by decide +kernel
theorem dX9_init_135 : decode cX9_init 135 = .ok (.newarray .long, 2) := by decide +kernel
theorem dX9_init_137 : decode cX9_init 137 = .ok (.putfield 81, 3) := by decide +kernel
theorem dX9_init_140 : decode cX9_init 140 = .ok (.aload_n 0, 1) := by decide +kernel
theorem dX9_init_141 : decode cX9_init 141 = .ok (.bipush 8, 2) := by decide +kernel
theorem dX9_init_143 : decode cX9_init 143 = .ok (.newarray .int, 2) := by decide +kernel
theorem dX9_init_145 : decode cX9_init 145 = .ok (.putfield 84, 3) := by decide +kernel
theorem dX9_init_148 : decode cX9_init 148 = .ok (.aload_n 0, 1) := by decide +kernel
theorem dX9_init_149 : decode cX9_init 149 = .ok (.bipush 16, 2) := by decide +kernel
theorem dX9_init_151 : decode cX9_init 151 = .ok (.newarray .int, 2) := by decide +kernel
theorem dX9_init_153 : decode cX9_init 153 = .ok (.putfield 87, 3) := by decide +kernel
theorem dX9_init_156 : decode cX9_init 156 = .ok (.aload_n 0, 1) := by decide +kernel
theorem dX9_init_157 : decode cX9_init 157 = .ok (.bipush 19, 2) := by decide +kernel
theorem dX9_init_159 : decode cX9_init 159 = .ok (.newarray .int, 2) := by decide +kernel
theorem dX9_init_161 : decode cX9_init 161 = .ok (.putfield 90, 3) := by decide +kernel
theorem dX9_init_164 : decode cX9_init 164 = .ok (.aload_n 0, 1) := by decide +kernel
theorem dX9_init_165 : decode cX9_init 165 = .ok (.bipush 11, 2) := by decide +kernel
theorem dX9_init_167 : decode cX9_init 167 = .ok (.newarray .int, 2) := by decide +kernel
theorem dX9_init_169 : decode cX9_init 169 = .ok (.putfield 93, 3) := by decide +kernel
theorem dX9_init_172 : decode cX9_init 172 = .ok (.aload_n 0, 1) := by decide +kernel
theorem dX9_init_173 : decode cX9_init 173 = .ok (.bipush 60, 2) := by decide +kernel
theorem dX9_init_175 : decode cX9_init 175 = .ok (.newarray .int, 2) := by decide +kernel
theorem dX9_init_177 : decode cX9_init 177 = .ok (.putfield 96, 3) := by decide +kernel
theorem dX9_init_180 : decode cX9_init 180 = .ok (.aload_n 0, 1) := by decide +kernel
theorem dX9_init_181 : decode cX9_init 181 = .ok (.bipush 60, 2) := by decide +kernel
theorem dX9_init_183 : decode cX9_init 183 = .ok (.newarray .int, 2) := by decide +kernel
theorem dX9_init_185 : decode cX9_init 185 = .ok (.putfield 99, 3) := by decide +kernel
theorem dX9_init_188 : decode cX9_init 188 = .ok (.aload_n 0, 1) := by decide +kernel
theorem dX9_init_189 : decode cX9_init 189 = .ok (.bipush 60, 2) := by decide +kernel
theorem dX9_init_191 : decode cX9_init 191 = .ok (.newarray .int, 2) := by decide +kernel
theorem dX9_init_193 : decode cX9_init 193 = .ok (.putfield 102, 3) := by decide +kernel
theorem dX9_init_196 : decode cX9_init 196 = .ok (.aload_n 0, 1) := by decide +kernel
theorem dX9_init_197 : decode cX9_init 197 = .ok (.bipush 60, 2) := by decide +kernel
theorem dX9_init_199 : decode cX9_init 199 = .ok (.newarray .int, 2) := by decide +kernel
theorem dX9_init_201 : decode cX9_init 201 = .ok (.putfield 105, 3) := by decide +kernel
theorem dX9_init_204 : decode cX9_init 204 = .ok (.aload_n 0, 1) := by decide +kernel
theorem dX9_init_205 : decode cX9_init 205 = .ok (.iconst 3, 1) := by decide +kernel
theorem dX9_init_206 : decode cX9_init 206 = .ok (.newarray .int, 2) := by decide +kernel
theorem dX9_init_208 : decode cX9_init 208 = .ok (.putfield 108, 3) := by decide +kernel
theorem dX9_init_211 : decode cX9_init 211 = .ok (.aload_n 0, 1) := by decide +kernel
theorem dX9_init_212 : decode cX9_init 212 = .ok (.iconst 4, 1) := by decide +kernel
theorem dX9_init_213 : decode cX9_init 213 = .ok (.newarray .boolean, 2) := by decide +kernel
theorem dX9_init_215 : decode cX9_init 215 = .ok (.putfield 111, 3) := by decide +kernel
theorem dX9_init_218 : decode cX9_init 218 = .ok (.aload_n 0, 1) := by decide +kernel
theorem dX9_init_219 : decode cX9_init 219 = .ok (.iconst 4, 1) := by decide +kernel
theorem dX9_init_220 : decode cX9_init 220 = .ok (.newarray .boolean, 2) := by decide +kernel
theorem dX9_init_222 : decode cX9_init 222 = .ok (.putfield 114, 3) := by decide +kernel
theorem dX9_init_225 : decode cX9_init 225 = .ok (.aload_n 0, 1) := by decide +kernel
theorem dX9_init_226 : decode cX9_init 226 = .ok (.iconst 4, 1) := by decide +kernel
theorem dX9_init_227 : decode cX9_init 227 = .ok (.newarray .int, 2) := by decide +kernel
theorem dX9_init_229 : decode cX9_init 229 = .ok (.putfield 117, 3) := by decide +kernel
theorem dX9_init_232 : decode cX9_init 232 = .ok (.aload_n 0, 1) := by decide +kernel
theorem dX9_init_233 : decode cX9_init 233 = .ok (.iconst 4, 1) := by decide +kernel
theorem dX9_init_234 : decode cX9_init 234 = .ok (.newarray .int, 2) := by decide +kernel
theorem dX9_init_236 : decode cX9_init 236 = .ok (.putfield 120, 3) := by decide +kernel
theorem dX9_init_239 : decode cX9_init 239 = .ok (.aload_n 0, 1) := by decide +kernel
theorem dX9_init_240 : decode cX9_init 240 = .ok (.iconst 4, 1) := by decide +kernel
theorem dX9_init_241 : decode cX9_init 241 = .ok (.newarray .int, 2) := by decide +kernel
theorem dX9_init_243 : decode cX9_init 243 = .ok (.putfield 123, 3) := by decide +kernel
theorem dX9_init_246 : decode cX9_init 246 = .ok (.aload_n 0, 1) := by decide +kernel
theorem dX9_init_247 : decode cX9_init 247 = .ok (.invokevirtual 126, 3) := by decide +kernel
theorem dX9_init_250 : decode cX9_init 250 = .ok (.return_, 1) := by decide +kernel
theorem dX9_isFlag_0 : decode cX9_isFlag 0 = .ok (.iload_n 0, 1) := by decide +kernel
theorem dX9_isFlag_1 : decode cX9_isFlag 1 = .ok (.iconst 0, 1) := by decide +kernel
theorem dX9_isFlag_2 : decode cX9_isFlag 2 = .ok (.bipush 18, 2) := by decide +kernel
theorem dX9_isFlag_4 : decode cX9_isFlag 4 = .ok (.invokestatic 129, 3) := by decide +kernel
theorem dX9_isFlag_7 : decode cX9_isFlag 7 = .ok (.ireturn, 1) := by decide +kernel
theorem dX9_isRooted_0 : decode cX9_isRooted 0 = .ok (.iload_n 0, 1) := by decide +kernel
theorem dX9_isRooted_1 : decode cX9_isRooted 1 = .ok (.iconst 0, 1) := by decide +kernel
theorem dX9_isRooted_2 : decode cX9_isRooted 2 = .ok (.bipush 28, 2) := by decide +kernel
theorem dX9_isRooted_4 : decode cX9_isRooted 4 = .ok (.invokestatic 129, 3) := by decide +kernel
theorem dX9_isRooted_7 : decode cX9_isRooted 7 = .ok (.ireturn, 1) := by decide +kernel
theorem dX9_ones_0 : decode cX9_ones 0 = .ok (.iconst 0, 1) := by decide +kernel
theorem dX9_ones_1 : decode cX9_ones 1 = .ok (.istore_n 1, 1) := by decide +kernel
theorem dX9_ones_2 : decode cX9_ones 2 = .ok (.iload_n 0, 1) := by decide +kernel
theorem dX9_ones_3 : decode cX9_ones 3 = .ok (.istore_n 2, 1) := by decide +kernel
theorem dX9_ones_4 : decode cX9_ones 4 = .ok (.iload_n 2, 1) := by decide +kernel
theorem dX9_ones_5 : decode cX9_ones 5 = .ok (.ifCond .le 16, 3) := by decide +kernel
theorem dX9_ones_8 : decode cX9_ones 8 = .ok (.iload_n 1, 1) := by decide +kernel
theorem dX9_ones_9 : decode cX9_ones 9 = .ok (.iload_n 2, 1) := by decide +kernel
theorem dX9_ones_10 : decode cX9_ones 10 = .ok (.iconst 2, 1) := by decide +kernel
theorem dX9_ones_11 : decode cX9_ones 11 = .ok (.irem, 1) := by decide +kernel
theorem dX9_ones_12 : decode cX9_ones 12 = .ok (.iadd, 1) := by decide +kernel
theorem dX9_ones_13 : decode cX9_ones 13 = .ok (.istore_n 1, 1) := by decide +kernel
theorem dX9_ones_14 : decode cX9_ones 14 = .ok (.iload_n 2, 1) := by decide +kernel
theorem dX9_ones_15 : decode cX9_ones 15 = .ok (.iconst 2, 1) := by decide +kernel
theorem dX9_ones_16 : decode cX9_ones 16 = .ok (.idiv, 1) := by decide +kernel
theorem dX9_ones_17 : decode cX9_ones 17 = .ok (.istore_n 2, 1) := by decide +kernel
theorem dX9_ones_18 : decode cX9_ones 18 = .ok (.goto (-14), 3) := by decide +kernel
