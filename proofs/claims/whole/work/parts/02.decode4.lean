theorem dX9_isOne_14 : decode cX9_isOne 14 = .ok (.if_icmp .ne 62, 3) := by decide +kernel
theorem dX9_isOne_17 : decode cX9_isOne 17 = .ok (.aload_n 0, 1) := by decide +kernel
theorem dX9_isOne_18 : decode cX9_isOne 18 = .ok (.getfield 277, 3) := by decide +kernel
theorem dX9_isOne_21 : decode cX9_isOne 21 = .ok (.iconst 3, 1) := by decide +kernel
theorem dX9_isOne_22 : decode cX9_isOne 22 = .ok (.if_icmp .ne 5, 3) := by decide +kernel
theorem dX9_isOne_25 : decode cX9_isOne 25 = .ok (.iconst 0, 1) := by decide +kernel
theorem dX9_isOne_26 : decode cX9_isOne 26 = .ok (.ireturn, 1) := by decide +kernel
theorem dX9_isOne_27 : decode cX9_isOne 27 = .ok (.aload_n 0, 1) := by decide +kernel
theorem dX9_isOne_28 : decode cX9_isOne 28 = .ok (.getfield 108, 3) := by decide +kernel
theorem dX9_isOne_31 : decode cX9_isOne 31 = .ok (.aload_n 0, 1) := by decide +kernel
theorem dX9_isOne_32 : decode cX9_isOne 32 = .ok (.getfield 277, 3) := by decide +kernel
theorem dX9_isOne_35 : decode cX9_isOne 35 = .ok (.iload_n 1, 1) := by decide +kernel
theorem dX9_isOne_36 : decode cX9_isOne 36 = .ok (.iastore, 1) := by decide +kernel
theorem dX9_isOne_37 : decode cX9_isOne 37 = .ok (.aload_n 0, 1) := by decide +kernel
theorem dX9_isOne_38 : decode cX9_isOne 38 = .ok (.dup, 1) := by decide +kernel
theorem dX9_isOne_39 : decode cX9_isOne 39 = .ok (.getfield 277, 3) := by decide +kernel
theorem dX9_isOne_42 : decode cX9_isOne 42 = .ok (.iconst 1, 1) := by decide +kernel
theorem dX9_isOne_43 : decode cX9_isOne 43 = .ok (.iadd, 1) := by decide +kernel
theorem dX9_isOne_44 : decode cX9_isOne 44 = .ok (.putfield 277, 3) := by decide +kernel
theorem dX9_isOne_47 : decode cX9_isOne 47 = .ok (.aload_n 0, 1) := by decide +kernel
theorem dX9_isOne_48 : decode cX9_isOne 48 = .ok (.iload_n 1, 1) := by decide +kernel
theorem dX9_isOne_49 : decode cX9_isOne 49 = .ok (.aload_n 0, 1) := by decide +kernel
theorem dX9_isOne_50 : decode cX9_isOne 50 = .ok (.getfield 256, 3) := by decide +kernel
theorem dX9_isOne_53 : decode cX9_isOne 53 = .ok (.iconst 0, 1) := by decide +kernel
theorem dX9_isOne_54 : decode cX9_isOne 54 = .ok (.iconst 0, 1) := by decide +kernel
theorem dX9_isOne_55 : decode cX9_isOne 55 = .ok (.invokevirtual 273, 3) := by decide +kernel
theorem dX9_isOne_58 : decode cX9_isOne 58 = .ok (.aload_n 0, 1) := by decide +kernel
theorem dX9_isOne_59 : decode cX9_isOne 59 = .ok (.dup, 1) := by decide +kernel
theorem dX9_isOne_60 : decode cX9_isOne 60 = .ok (.getfield 256, 3) := by decide +kernel
theorem dX9_isOne_63 : decode cX9_isOne 63 = .ok (.iconst 1, 1) := by decide +kernel
theorem dX9_isOne_64 : decode cX9_isOne 64 = .ok (.iadd, 1) := by decide +kernel
theorem dX9_isOne_65 : decode cX9_isOne 65 = .ok (.putfield 256, 3) := by decide +kernel
theorem dX9_isOne_68 : decode cX9_isOne 68 = .ok (.aload_n 0, 1) := by decide +kernel
theorem dX9_isOne_69 : decode cX9_isOne 69 = .ok (.invokevirtual 259, 3) := by decide +kernel
theorem dX9_isOne_72 : decode cX9_isOne 72 = .ok (.istore_n 1, 1) := by decide +kernel
theorem dX9_isOne_73 : decode cX9_isOne 73 = .ok (.goto (-68), 3) := by decide +kernel
theorem dX9_isOne_76 : decode cX9_isOne 76 = .ok (.iload_n 1, 1) := by decide +kernel
theorem dX9_isOne_77 : decode cX9_isOne 77 = .ok (.bipush 91, 2) := by decide +kernel
theorem dX9_isOne_79 : decode cX9_isOne 79 = .ok (.if_icmp .eq 9, 3) := by decide +kernel
theorem dX9_isOne_82 : decode cX9_isOne 82 = .ok (.iload_n 1, 1) := by decide +kernel
theorem dX9_isOne_83 : decode cX9_isOne 83 = .ok (.bipush 60, 2) := by decide +kernel
theorem dX9_isOne_85 : decode cX9_isOne 85 = .ok (.if_icmp .ne 11, 3) := by decide +kernel
theorem dX9_isOne_88 : decode cX9_isOne 88 = .ok (.aload_n 0, 1) := by decide +kernel
theorem dX9_isOne_89 : decode cX9_isOne 89 = .ok (.iload_n 1, 1) := by decide +kernel
theorem dX9_isOne_90 : decode cX9_isOne 90 = .ok (.invokevirtual 280, 3) := by decide +kernel
theorem dX9_isOne_93 : decode cX9_isOne 93 = .ok (.goto 22, 3) := by decide +kernel
theorem dX9_isOne_96 : decode cX9_isOne 96 = .ok (.aload_n 0, 1) := by decide +kernel
theorem dX9_isOne_97 : decode cX9_isOne 97 = .ok (.invokevirtual 263, 3) := by decide +kernel
theorem dX9_isOne_100 : decode cX9_isOne 100 = .ok (.ifCond .eq 14, 3) := by decide +kernel
theorem dX9_isOne_103 : decode cX9_isOne 103 = .ok (.aload_n 0, 1) := by decide +kernel
theorem dX9_isOne_104 : decode cX9_isOne 104 = .ok (.invokevirtual 283, 3) := by decide +kernel
theorem dX9_isOne_107 : decode cX9_isOne 107 = .ok (.ifCond .eq 7, 3) := by decide +kernel
theorem dX9_isOne_110 : decode cX9_isOne 110 = .ok (.iconst 1, 1) := by decide +kernel
theorem dX9_isOne_111 : decode cX9_isOne 111 = .ok (.goto 4, 3) := by decide +kernel
theorem dX9_isOne_114 : decode cX9_isOne 114 = .ok (.iconst 0, 1) := by decide +kernel
theorem dX9_isOne_115 : decode cX9_isOne 115 = .ok (.ireturn, 1) := by decide +kernel
theorem dX9_isText_0 : decode cX9_isText 0 = .ok (.aload_n 0, 1) := by decide +kernel
theorem dX9_isText_1 : decode cX9_isText 1 = .ok (.iconst 0, 1) := by decide +kernel
theorem dX9_isText_2 : decode cX9_isText 2 = .ok (.putfield 256, 3) := by decide +kernel
theorem dX9_isText_5 : decode cX9_isText 5 = .ok (.aload_n 0, 1) := by decide +kernel
theorem dX9_isText_6 : decode cX9_isText 6 = .ok (.iconst 0, 1) := by decide +kernel
theorem dX9_isText_7 : decode cX9_isText 7 = .ok (.putfield 267, 3) := by decide +kernel
theorem dX9_isText_10 : decode cX9_isText 10 = .ok (.aload_n 0, 1) := by decide +kernel
theorem dX9_isText_11 : decode cX9_isText 11 = .ok (.iconst 0, 1) := by decide +kernel
theorem dX9_isText_12 : decode cX9_isText 12 = .ok (.putfield 277, 3) := by decide +kernel
theorem dX9_isText_15 : decode cX9_isText 15 = .ok (.aload_n 0, 1) := by decide +kernel
theorem dX9_isText_16 : decode cX9_isText 16 = .ok (.invokevirtual 286, 3) := by decide +kernel
theorem dX9_isText_19 : decode cX9_isText 19 = .ok (.ifCond .ne 5, 3) := by decide +kernel
theorem dX9_isText_22 : decode cX9_isText 22 = .ok (.iconst 0, 1) := by decide +kernel
theorem dX9_isText_23 : decode cX9_isText 23 = .ok (.ireturn, 1) := by decide +kernel
theorem dX9_isText_24 : decode cX9_isText 24 = .ok (.aload_n 0, 1) := by decide +kernel
theorem dX9_isText_25 : decode cX9_isText 25 = .ok (.getfield 256, 3) := by decide +kernel
theorem dX9_isText_28 : decode cX9_isText 28 = .ok (.aload_n 0, 1) := by decide +kernel
theorem dX9_isText_29 : decode cX9_isText 29 = .ok (.getfield 253, 3) := by decide +kernel
theorem dX9_isText_32 : decode cX9_isText 32 = .ok (.if_icmp .lt 10, 3) := by decide +kernel
theorem dX9_isText_35 : decode cX9_isText 35 = .ok (.aload_n 0, 1) := by decide +kernel
theorem dX9_isText_36 : decode cX9_isText 36 = .ok (.getfield 277, 3) := by decide +kernel
theorem dX9_isText_39 : decode cX9_isText 39 = .ok (.ifCond .le 129, 3) := by decide +kernel
theorem dX9_isText_42 : decode cX9_isText 42 = .ok (.aload_n 0, 1) := by decide +kernel
theorem dX9_isText_43 : decode cX9_isText 43 = .ok (.invokevirtual 259, 3) := by decide +kernel
theorem dX9_isText_46 : decode cX9_isText 46 = .ok (.istore_n 1, 1) := by decide +kernel
theorem dX9_isText_47 : decode cX9_isText 47 = .ok (.iload_n 1, 1) := by decide +kernel
theorem dX9_isText_48 : decode cX9_isText 48 = .ok (.bipush 43, 2) := by decide +kernel
theorem dX9_isText_50 : decode cX9_isText 50 = .ok (.if_icmp .eq 15, 3) := by decide +kernel
theorem dX9_isText_53 : decode cX9_isText 53 = .ok (.iload_n 1, 1) := by decide +kernel
theorem dX9_isText_54 : decode cX9_isText 54 = .ok (.bipush 45, 2) := by decide +kernel
theorem dX9_isText_56 : decode cX9_isText 56 = .ok (.if_icmp .eq 9, 3) := by decide +kernel
theorem dX9_isText_59 : decode cX9_isText 59 = .ok (.iload_n 1, 1) := by decide +kernel
theorem dX9_isText_60 : decode cX9_isText 60 = .ok (.bipush 42, 2) := by decide +kernel
theorem dX9_isText_62 : decode cX9_isText 62 = .ok (.if_icmp .ne 33, 3) := by decide +kernel
theorem dX9_isText_65 : decode cX9_isText 65 = .ok (.aload_n 0, 1) := by decide +kernel
theorem dX9_isText_66 : decode cX9_isText 66 = .ok (.iload_n 1, 1) := by decide +kernel
theorem dX9_isText_67 : decode cX9_isText 67 = .ok (.aload_n 0, 1) := by decide +kernel
theorem dX9_isText_68 : decode cX9_isText 68 = .ok (.getfield 256, 3) := by decide +kernel
theorem dX9_isText_71 : decode cX9_isText 71 = .ok (.iconst 0, 1) := by decide +kernel
theorem dX9_isText_72 : decode cX9_isText 72 = .ok (.iconst 0, 1) := by decide +kernel
theorem dX9_isText_73 : decode cX9_isText 73 = .ok (.invokevirtual 273, 3) := by decide +kernel
theorem dX9_isText_76 : decode cX9_isText 76 = .ok (.aload_n 0, 1) := by decide +kernel
theorem dX9_isText_77 : decode cX9_isText 77 = .ok (.dup, 1) := by decide +kernel
theorem dX9_isText_78 : decode cX9_isText 78 = .ok (.getfield 256, 3) := by decide +kernel
theorem dX9_isText_81 : decode cX9_isText 81 = .ok (.iconst 1, 1) := by decide +kernel
theorem dX9_isText_82 : decode cX9_isText 82 = .ok (.iadd, 1) := by decide +kernel
theorem dX9_isText_83 : decode cX9_isText 83 = .ok (.putfield 256, 3) := by decide +kernel
theorem dX9_isText_86 : decode cX9_isText 86 = .ok (.aload_n 0, 1) := by decide +kernel
theorem dX9_isText_87 : decode cX9_isText 87 = .ok (.invokevirtual 286, 3) := by decide +kernel
theorem dX9_isText_90 : decode cX9_isText 90 = .ok (.ifCond .ne 75, 3) := by decide +kernel
theorem dX9_isText_93 : decode cX9_isText 93 = .ok (.iconst 0, 1) := by decide +kernel
theorem dX9_isText_94 : decode cX9_isText 94 = .ok (.ireturn, 1) := by decide +kernel
theorem dX9_isText_95 : decode cX9_isText 95 = .ok (.aload_n 0, 1) := by decide +kernel
theorem dX9_isText_96 : decode cX9_isText 96 = .ok (.getfield 277, 3) := by decide +kernel
theorem dX9_isText_99 : decode cX9_isText 99 = .ok (.ifCond .le 64, 3) := by decide +kernel
theorem dX9_isText_102 : decode cX9_isText 102 = .ok (.iload_n 1, 1) := by decide +kernel
theorem dX9_isText_103 : decode cX9_isText 103 = .ok (.aload_n 0, 1) := by decide +kernel
theorem dX9_isText_104 : decode cX9_isText 104 = .ok (.getfield 108, 3) := by decide +kernel
theorem dX9_isText_107 : decode cX9_isText 107 = .ok (.aload_n 0, 1) := by decide +kernel
theorem dX9_isText_108 : decode cX9_isText 108 = .ok (.getfield 277, 3) := by decide +kernel
theorem dX9_isText_111 : decode cX9_isText 111 = .ok (.iconst 1, 1) := by decide +kernel
theorem dX9_isText_112 : decode cX9_isText 112 = .ok (.isub, 1) := by decide +kernel
theorem dX9_isText_113 : decode cX9_isText 113 = .ok (.iaload, 1) := by decide +kernel
theorem dX9_isText_114 : decode cX9_isText 114 = .ok (.bipush 40, 2) := by decide +kernel
theorem dX9_isText_116 : decode cX9_isText 116 = .ok (.if_icmp .ne 8, 3) := by decide +kernel
theorem dX9_isText_119 : decode cX9_isText 119 = .ok (.bipush 41, 2) := by decide +kernel
theorem dX9_isText_121 : decode cX9_isText 121 = .ok (.goto 5, 3) := by decide +kernel
theorem dX9_isText_124 : decode cX9_isText 124 = .ok (.bipush 125, 2) := by decide +kernel
theorem dX9_isText_126 : decode cX9_isText 126 = .ok (.if_icmp .ne 37, 3) := by decide +kernel
theorem dX9_isText_129 : decode cX9_isText 129 = .ok (.aload_n 0, 1) := by decide +kernel
theorem dX9_isText_130 : decode cX9_isText 130 = .ok (.dup, 1) := by decide +kernel
theorem dX9_isText_131 : decode cX9_isText 131 = .ok (.getfield 277, 3) := by decide +kernel
theorem dX9_isText_134 : decode cX9_isText 134 = .ok (.iconst 1, 1) := by decide +kernel
theorem dX9_isText_135 : decode cX9_isText 135 = .ok (.isub, 1) := by decide +kernel
theorem dX9_isText_136 : decode cX9_isText 136 = .ok (.putfield 277, 3) := by decide +kernel
theorem dX9_isText_139 : decode cX9_isText 139 = .ok (.aload_n 0, 1) := by decide +kernel
theorem dX9_isText_140 : decode cX9_isText 140 = .ok (.iload_n 1, 1) := by decide +kernel
theorem dX9_isText_141 : decode cX9_isText 141 = .ok (.aload_n 0, 1) := by decide +kernel
theorem dX9_isText_142 : decode cX9_isText 142 = .ok (.getfield 256, 3) := by decide +kernel
theorem dX9_isText_145 : decode cX9_isText 145 = .ok (.iconst 0, 1) := by decide +kernel
theorem dX9_isText_146 : decode cX9_isText 146 = .ok (.iconst 0, 1) := by decide +kernel
theorem dX9_isText_147 : decode cX9_isText 147 = .ok (.invokevirtual 273, 3) := by decide +kernel
theorem dX9_isText_150 : decode cX9_isText 150 = .ok (.aload_n 0, 1) := by decide +kernel
theorem dX9_isText_151 : decode cX9_isText 151 = .ok (.dup, 1) := by decide +kernel
theorem dX9_isText_152 : decode cX9_isText 152 = .ok (.getfield 256, 3) := by decide +kernel
theorem dX9_isText_155 : decode cX9_isText 155 = .ok (.iconst 1, 1) := by decide +kernel
theorem dX9_isText_156 : decode cX9_isText 156 = .ok (.iadd, 1) := by decide +kernel
theorem dX9_isText_157 : decode cX9_isText 157 = .ok (.putfield 256, 3) := by decide +kernel
theorem dX9_isText_160 : decode cX9_isText 160 = .ok (.goto 5, 3) := by decide +kernel
theorem dX9_isText_163 : decode cX9_isText 163 = .ok (.iconst 0, 1) := by decide +kernel
theorem dX9_isText_164 : decode cX9_isText 164 = .ok (.ireturn, 1) := by decide +kernel
theorem dX9_isText_165 : decode cX9_isText 165 = .ok (.goto (-141), 3) := by decide +kernel
theorem dX9_isText_168 : decode cX9_isText 168 = .ok (.iconst 1, 1) := by decide +kernel
theorem dX9_isText_169 : decode cX9_isText 169 = .ok (.ireturn, 1) := by decide +kernel
theorem dX9_sumRow_0 : decode cX9_sumRow 0 = .ok (.iconst 4, 1) := by decide +kernel
theorem dX9_sumRow_1 : decode cX9_sumRow 1 = .ok (.iconst 2, 1) := by decide +kernel
theorem dX9_sumRow_2 : decode cX9_sumRow 2 = .ok (.aload_n 0, 1) := by decide +kernel
theorem dX9_sumRow_3 : decode cX9_sumRow 3 = .ok (.getfield 289, 3) := by decide +kernel
theorem dX9_sumRow_6 : decode cX9_sumRow 6 = .ok (.imul, 1) := by decide +kernel
theorem dX9_sumRow_7 : decode cX9_sumRow 7 = .ok (.iadd, 1) := by decide +kernel
theorem dX9_sumRow_8 : decode cX9_sumRow 8 = .ok (.ireturn, 1) := by decide +kernel
theorem dX9_blame_0 : decode cX9_blame 0 = .ok (.aload_n 0, 1) := by decide +kernel
theorem dX9_blame_1 : decode cX9_blame 1 = .ok (.aload_n 0, 1) := by decide +kernel
theorem dX9_blame_2 : decode cX9_blame 2 = .ok (.getfield 292, 3) := by decide +kernel
theorem dX9_blame_5 : decode cX9_blame 5 = .ok (.ifCond .ne 18, 3) := by decide +kernel
theorem dX9_blame_8 : decode cX9_blame 8 = .ok (.sipush (-1000), 3) := by decide +kernel
theorem dX9_blame_11 : decode cX9_blame 11 = .ok (.iload_n 1, 1) := by decide +kernel
theorem dX9_blame_12 : decode cX9_blame 12 = .ok (.imul, 1) := by decide +kernel
theorem dX9_blame_13 : decode cX9_blame 13 = .ok (.aload_n 0, 1) := by decide +kernel
theorem dX9_blame_14 : decode cX9_blame 14 = .ok (.getfield 99, 3) := by decide +kernel
theorem dX9_blame_17 : decode cX9_blame 17 = .ok (.iload_n 2, 1) := by decide +kernel
theorem dX9_blame_18 : decode cX9_blame 18 = .ok (.iaload, 1) := by decide +kernel
theorem dX9_blame_19 : decode cX9_blame 19 = .ok (.isub, 1) := by decide +kernel
theorem dX9_blame_20 : decode cX9_blame 20 = .ok (.goto 7, 3) := by decide +kernel
theorem dX9_blame_23 : decode cX9_blame 23 = .ok (.aload_n 0, 1) := by decide +kernel
theorem dX9_blame_24 : decode cX9_blame 24 = .ok (.getfield 292, 3) := by decide +kernel
theorem dX9_blame_27 : decode cX9_blame 27 = .ok (.putfield 292, 3) := by decide +kernel
theorem dX9_blame_30 : decode cX9_blame 30 = .ok (.return_, 1) := by decide +kernel
theorem dX9_comes_0 : decode cX9_comes 0 = .ok (.aload_n 0, 1) := by decide +kernel
theorem dX9_comes_1 : decode cX9_comes 1 = .ok (.invokevirtual 295, 3) := by decide +kernel
theorem dX9_comes_4 : decode cX9_comes 4 = .ok (.iconst 1, 1) := by decide +kernel
theorem dX9_comes_5 : decode cX9_comes 5 = .ok (.iadd, 1) := by decide +kernel
theorem dX9_comes_6 : decode cX9_comes 6 = .ok (.istore_n 1, 1) := by decide +kernel
theorem dX9_comes_7 : decode cX9_comes 7 = .ok (.aload_n 0, 1) := by decide +kernel
theorem dX9_comes_8 : decode cX9_comes 8 = .ok (.getfield 114, 3) := by decide +kernel
theorem dX9_comes_11 : decode cX9_comes 11 = .ok (.aload_n 0, 1) := by decide +kernel
theorem dX9_comes_12 : decode cX9_comes 12 = .ok (.getfield 289, 3) := by decide +kernel
theorem dX9_comes_15 : decode cX9_comes 15 = .ok (.baload, 1) := by decide +kernel
theorem dX9_comes_16 : decode cX9_comes 16 = .ok (.ifCond .ne 21, 3) := by decide +kernel
theorem dX9_comes_19 : decode cX9_comes 19 = .ok (.aload_n 0, 1) := by decide +kernel
theorem dX9_comes_20 : decode cX9_comes 20 = .ok (.bipush 12, 2) := by decide +kernel
theorem dX9_comes_22 : decode cX9_comes 22 = .ok (.iload_n 1, 1) := by decide +kernel
theorem dX9_comes_23 : decode cX9_comes 23 = .ok (.invokevirtual 182, 3) := by decide +kernel
theorem dX9_comes_26 : decode cX9_comes 26 = .ok (.aload_n 0, 1) := by decide +kernel
theorem dX9_comes_27 : decode cX9_comes 27 = .ok (.getfield 114, 3) := by decide +kernel
theorem dX9_comes_30 : decode cX9_comes 30 = .ok (.aload_n 0, 1) := by decide +kernel
theorem dX9_comes_31 : decode cX9_comes 31 = .ok (.getfield 289, 3) := by decide +kernel
theorem dX9_comes_34 : decode cX9_comes 34 = .ok (.iconst 1, 1) := by decide +kernel
theorem dX9_comes_35 : decode cX9_comes 35 = .ok (.bastore, 1) := by decide +kernel
theorem dX9_comes_36 : decode cX9_comes 36 = .ok (.return_, 1) := by decide +kernel
theorem dX9_comes_37 : decode cX9_comes 37 = .ok (.aload_n 0, 1) := by decide +kernel
theorem dX9_comes_38 : decode cX9_comes 38 = .ok (.getfield 120, 3) := by decide +kernel
theorem dX9_comes_41 : decode cX9_comes 41 = .ok (.aload_n 0, 1) := by decide +kernel
theorem dX9_comes_42 : decode cX9_comes 42 = .ok (.getfield 289, 3) := by decide +kernel
theorem dX9_comes_45 : decode cX9_comes 45 = .ok (.iaload, 1) := by decide +kernel
theorem dX9_comes_46 : decode cX9_comes 46 = .ok (.istore_n 2, 1) := by decide +kernel
theorem dX9_comes_47 : decode cX9_comes 47 = .ok (.aload_n 0, 1) := by decide +kernel
theorem dX9_comes_48 : decode cX9_comes 48 = .ok (.iload_n 1, 1) := by decide +kernel
theorem dX9_comes_49 : decode cX9_comes 49 = .ok (.bipush 12, 2) := by decide +kernel
theorem dX9_comes_51 : decode cX9_comes 51 = .ok (.invokevirtual 298, 3) := by decide +kernel
theorem dX9_comes_54 : decode cX9_comes 54 = .ok (.ifCond .eq 12, 3) := by decide +kernel
theorem dX9_comes_57 : decode cX9_comes 57 = .ok (.aload_n 0, 1) := by decide +kernel
theorem dX9_comes_58 : decode cX9_comes 58 = .ok (.iconst 3, 1) := by decide +kernel
theorem dX9_comes_59 : decode cX9_comes 59 = .ok (.iload_n 2, 1) := by decide +kernel
theorem dX9_comes_60 : decode cX9_comes 60 = .ok (.invokevirtual 301, 3) := by decide +kernel
theorem dX9_comes_63 : decode cX9_comes 63 = .ok (.goto 38, 3) := by decide +kernel
theorem dX9_comes_66 : decode cX9_comes 66 = .ok (.aload_n 0, 1) := by decide +kernel
theorem dX9_comes_67 : decode cX9_comes 67 = .ok (.iload_n 1, 1) := by decide +kernel
theorem dX9_comes_68 : decode cX9_comes 68 = .ok (.bipush 12, 2) := by decide +kernel
theorem dX9_comes_70 : decode cX9_comes 70 = .ok (.invokevirtual 304, 3) := by decide +kernel
theorem dX9_comes_73 : decode cX9_comes 73 = .ok (.ifCond .eq 12, 3) := by decide +kernel
theorem dX9_comes_76 : decode cX9_comes 76 = .ok (.aload_n 0, 1) := by decide +kernel
theorem dX9_comes_77 : decode cX9_comes 77 = .ok (.iconst 4, 1) := by decide +kernel
theorem dX9_comes_78 : decode cX9_comes 78 = .ok (.iload_n 2, 1) := by decide +kernel
theorem dX9_comes_79 : decode cX9_comes 79 = .ok (.invokevirtual 301, 3) := by decide +kernel
theorem dX9_comes_82 : decode cX9_comes 82 = .ok (.goto 19, 3) := by decide +kernel
theorem dX9_comes_85 : decode cX9_comes 85 = .ok (.aload_n 0, 1) := by decide +kernel
theorem dX9_comes_86 : decode cX9_comes 86 = .ok (.iload_n 1, 1) := by decide +kernel
theorem dX9_comes_87 : decode cX9_comes 87 = .ok (.bipush 12, 2) := by decide +kernel
theorem dX9_comes_89 : decode cX9_comes 89 = .ok (.bipush 13, 2) := by decide +kernel
theorem dX9_comes_91 : decode cX9_comes 91 = .ok (.invokevirtual 307, 3) := by decide +kernel
theorem dX9_comes_94 : decode cX9_comes 94 = .ok (.aload_n 0, 1) := by decide +kernel
theorem dX9_comes_95 : decode cX9_comes 95 = .ok (.bipush 13, 2) := by decide +kernel
theorem dX9_comes_97 : decode cX9_comes 97 = .ok (.iload_n 1, 1) := by decide +kernel
theorem dX9_comes_98 : decode cX9_comes 98 = .ok (.invokevirtual 182, 3) := by decide +kernel
theorem dX9_comes_101 : decode cX9_comes 101 = .ok (.aload_n 0, 1) := by decide +kernel
theorem dX9_comes_102 : decode cX9_comes 102 = .ok (.getfield 168, 3) := by decide +kernel
theorem dX9_comes_105 : decode cX9_comes 105 = .ok (.ifCond .eq 9, 3) := by decide +kernel
theorem dX9_comes_108 : decode cX9_comes 108 = .ok (.aload_n 0, 1) := by decide +kernel
theorem dX9_comes_109 : decode cX9_comes 109 = .ok (.iconst 5, 1) := by decide +kernel
theorem dX9_comes_110 : decode cX9_comes 110 = .ok (.iload_n 2, 1) := by decide +kernel
theorem dX9_comes_111 : decode cX9_comes 111 = .ok (.invokevirtual 301, 3) := by decide +kernel
theorem dX9_comes_114 : decode cX9_comes 114 = .ok (.return_, 1) := by decide +kernel
theorem dX9_endProduct_0 : decode cX9_endProduct 0 = .ok (.aload_n 0, 1) := by decide +kernel
theorem dX9_endProduct_1 : decode cX9_endProduct 1 = .ok (.invokevirtual 295, 3) := by decide +kernel
theorem dX9_endProduct_4 : decode cX9_endProduct 4 = .ok (.istore_n 1, 1) := by decide +kernel
theorem dX9_endProduct_5 : decode cX9_endProduct 5 = .ok (.aload_n 0, 1) := by decide +kernel
theorem dX9_endProduct_6 : decode cX9_endProduct 6 = .ok (.getfield 111, 3) := by decide +kernel
theorem dX9_endProduct_9 : decode cX9_endProduct 9 = .ok (.aload_n 0, 1) := by decide +kernel
theorem dX9_endProduct_10 : decode cX9_endProduct 10 = .ok (.getfield 289, 3) := by decide +kernel
theorem dX9_endProduct_13 : decode cX9_endProduct 13 = .ok (.baload, 1) := by decide +kernel
theorem dX9_endProduct_14 : decode cX9_endProduct 14 = .ok (.ifCond .ne 32, 3) := by decide +kernel
theorem dX9_endProduct_17 : decode cX9_endProduct 17 = .ok (.aload_n 0, 1) := by decide +kernel
theorem dX9_endProduct_18 : decode cX9_endProduct 18 = .ok (.iload_n 1, 1) := by decide +kernel
theorem dX9_endProduct_19 : decode cX9_endProduct 19 = .ok (.iconst 1, 1) := by decide +kernel
theorem dX9_endProduct_20 : decode cX9_endProduct 20 = .ok (.iadd, 1) := by decide +kernel
theorem dX9_endProduct_21 : decode cX9_endProduct 21 = .ok (.iload_n 1, 1) := by decide +kernel
theorem dX9_endProduct_22 : decode cX9_endProduct 22 = .ok (.invokevirtual 182, 3) := by decide +kernel
theorem dX9_endProduct_25 : decode cX9_endProduct 25 = .ok (.aload_n 0, 1) := by decide +kernel
theorem dX9_endProduct_26 : decode cX9_endProduct 26 = .ok (.getfield 111, 3) := by decide +kernel
theorem dX9_endProduct_29 : decode cX9_endProduct 29 = .ok (.aload_n 0, 1) := by decide +kernel
theorem dX9_endProduct_30 : decode cX9_endProduct 30 = .ok (.getfield 289, 3) := by decide +kernel
theorem dX9_endProduct_33 : decode cX9_endProduct 33 = .ok (.iconst 1, 1) := by decide +kernel
theorem dX9_endProduct_34 : decode cX9_endProduct 34 = .ok (.bastore, 1) := by decide +kernel
theorem dX9_endProduct_35 : decode cX9_endProduct 35 = .ok (.aload_n 0, 1) := by decide +kernel
theorem dX9_endProduct_36 : decode cX9_endProduct 36 = .ok (.getfield 114, 3) := by decide +kernel
theorem dX9_endProduct_39 : decode cX9_endProduct 39 = .ok (.aload_n 0, 1) := by decide +kernel
theorem dX9_endProduct_40 : decode cX9_endProduct 40 = .ok (.getfield 289, 3) := by decide +kernel
theorem dX9_endProduct_43 : decode cX9_endProduct 43 = .ok (.iconst 0, 1) := by decide +kernel
theorem dX9_endProduct_44 : decode cX9_endProduct 44 = .ok (.bastore, 1) := by decide +kernel
theorem dX9_endProduct_45 : decode cX9_endProduct 45 = .ok (.return_, 1) := by decide +kernel
theorem dX9_endProduct_46 : decode cX9_endProduct 46 = .ok (.aload_n 0, 1) := by decide +kernel
theorem dX9_endProduct_47 : decode cX9_endProduct 47 = .ok (.getfield 117, 3) := by decide +kernel
theorem dX9_endProduct_50 : decode cX9_endProduct 50 = .ok (.aload_n 0, 1) := by decide +kernel
theorem dX9_endProduct_51 : decode cX9_endProduct 51 = .ok (.getfield 289, 3) := by decide +kernel
theorem dX9_endProduct_54 : decode cX9_endProduct 54 = .ok (.iaload, 1) := by decide +kernel
theorem dX9_endProduct_55 : decode cX9_endProduct 55 = .ok (.istore_n 2, 1) := by decide +kernel
theorem dX9_endProduct_56 : decode cX9_endProduct 56 = .ok (.aload_n 0, 1) := by decide +kernel
theorem dX9_endProduct_57 : decode cX9_endProduct 57 = .ok (.iload_n 1, 1) := by decide +kernel
theorem dX9_endProduct_58 : decode cX9_endProduct 58 = .ok (.iload_n 1, 1) := by decide +kernel
theorem dX9_endProduct_59 : decode cX9_endProduct 59 = .ok (.iconst 1, 1) := by decide +kernel
theorem dX9_endProduct_60 : decode cX9_endProduct 60 = .ok (.iadd, 1) := by decide +kernel
theorem dX9_endProduct_61 : decode cX9_endProduct 61 = .ok (.invokevirtual 298, 3) := by decide +kernel
theorem dX9_endProduct_64 : decode cX9_endProduct 64 = .ok (.ifCond .eq 12, 3) := by decide +kernel
theorem dX9_endProduct_67 : decode cX9_endProduct 67 = .ok (.aload_n 0, 1) := by decide +kernel
theorem dX9_endProduct_68 : decode cX9_endProduct 68 = .ok (.iconst 3, 1) := by decide +kernel
theorem dX9_endProduct_69 : decode cX9_endProduct 69 = .ok (.iload_n 2, 1) := by decide +kernel
theorem dX9_endProduct_70 : decode cX9_endProduct 70 = .ok (.invokevirtual 301, 3) := by decide +kernel
theorem dX9_endProduct_73 : decode cX9_endProduct 73 = .ok (.goto 38, 3) := by decide +kernel
theorem dX9_endProduct_76 : decode cX9_endProduct 76 = .ok (.aload_n 0, 1) := by decide +kernel
theorem dX9_endProduct_77 : decode cX9_endProduct 77 = .ok (.iload_n 1, 1) := by decide +kernel
theorem dX9_endProduct_78 : decode cX9_endProduct 78 = .ok (.iload_n 1, 1) := by decide +kernel
theorem dX9_endProduct_79 : decode cX9_endProduct 79 = .ok (.iconst 1, 1) := by decide +kernel
theorem dX9_endProduct_80 : decode cX9_endProduct 80 = .ok (.iadd, 1) := by decide +kernel
theorem dX9_endProduct_81 : decode cX9_endProduct 81 = .ok (.aload_n 0, 1) := by decide +kernel
theorem dX9_endProduct_82 : decode cX9_endProduct 82 = .ok (.getfield 96, 3) := by decide +kernel
theorem dX9_endProduct_85 : decode cX9_endProduct 85 = .ok (.iload_n 2, 1) := by decide +kernel
theorem dX9_endProduct_86 : decode cX9_endProduct 86 = .ok (.iaload, 1) := by decide +kernel
theorem dX9_endProduct_87 : decode cX9_endProduct 87 = .ok (.bipush 45, 2) := by decide +kernel
theorem dX9_endProduct_89 : decode cX9_endProduct 89 = .ok (.if_icmp .ne 9, 3) := by decide +kernel
theorem dX9_endProduct_92 : decode cX9_endProduct 92 = .ok (.ldc2_w 164, 3) := by decide +kernel
theorem dX9_endProduct_95 : decode cX9_endProduct 95 = .ok (.goto 4, 3) := by decide +kernel
theorem dX9_endProduct_98 : decode cX9_endProduct 98 = .ok (.lconst 1, 1) := by decide +kernel
theorem dX9_endProduct_99 : decode cX9_endProduct 99 = .ok (.bipush 13, 2) := by decide +kernel
theorem dX9_endProduct_101 : decode cX9_endProduct 101 = .ok (.invokevirtual 310, 3) := by decide +kernel
theorem dX9_endProduct_104 : decode cX9_endProduct 104 = .ok (.aload_n 0, 1) := by decide +kernel
theorem dX9_endProduct_105 : decode cX9_endProduct 105 = .ok (.bipush 13, 2) := by decide +kernel
theorem dX9_endProduct_107 : decode cX9_endProduct 107 = .ok (.iload_n 1, 1) := by decide +kernel
theorem dX9_endProduct_108 : decode cX9_endProduct 108 = .ok (.invokevirtual 182, 3) := by decide +kernel
theorem dX9_endProduct_111 : decode cX9_endProduct 111 = .ok (.aload_n 0, 1) := by decide +kernel
theorem dX9_endProduct_112 : decode cX9_endProduct 112 = .ok (.getfield 168, 3) := by decide +kernel
theorem dX9_endProduct_115 : decode cX9_endProduct 115 = .ok (.ifCond .eq 9, 3) := by decide +kernel
theorem dX9_endProduct_118 : decode cX9_endProduct 118 = .ok (.aload_n 0, 1) := by decide +kernel
theorem dX9_endProduct_119 : decode cX9_endProduct 119 = .ok (.iconst 5, 1) := by decide +kernel
theorem dX9_endProduct_120 : decode cX9_endProduct 120 = .ok (.iload_n 2, 1) := by decide +kernel
theorem dX9_endProduct_121 : decode cX9_endProduct 121 = .ok (.invokevirtual 301, 3) := by decide +kernel
theorem dX9_endProduct_124 : decode cX9_endProduct 124 = .ok (.aload_n 0, 1) := by decide +kernel
theorem dX9_endProduct_125 : decode cX9_endProduct 125 = .ok (.getfield 114, 3) := by decide +kernel
theorem dX9_endProduct_128 : decode cX9_endProduct 128 = .ok (.aload_n 0, 1) := by decide +kernel
theorem dX9_endProduct_129 : decode cX9_endProduct 129 = .ok (.getfield 289, 3) := by decide +kernel
theorem dX9_endProduct_132 : decode cX9_endProduct 132 = .ok (.iconst 0, 1) := by decide +kernel
theorem dX9_endProduct_133 : decode cX9_endProduct 133 = .ok (.bastore, 1) := by decide +kernel
theorem dX9_endProduct_134 : decode cX9_endProduct 134 = .ok (.return_, 1) := by decide +kernel
theorem dX9_begin_0 : decode cX9_begin 0 = .ok (.aload_n 0, 1) := by decide +kernel
theorem dX9_begin_1 : decode cX9_begin 1 = .ok (.getfield 111, 3) := by decide +kernel
theorem dX9_begin_4 : decode cX9_begin 4 = .ok (.aload_n 0, 1) := by decide +kernel
theorem dX9_begin_5 : decode cX9_begin 5 = .ok (.getfield 289, 3) := by decide +kernel
theorem dX9_begin_8 : decode cX9_begin 8 = .ok (.iconst 0, 1) := by decide +kernel
theorem dX9_begin_9 : decode cX9_begin 9 = .ok (.bastore, 1) := by decide +kernel
theorem dX9_begin_10 : decode cX9_begin 10 = .ok (.aload_n 0, 1) := by decide +kernel
theorem dX9_begin_11 : decode cX9_begin 11 = .ok (.getfield 114, 3) := by decide +kernel
theorem dX9_begin_14 : decode cX9_begin 14 = .ok (.aload_n 0, 1) := by decide +kernel
theorem dX9_begin_15 : decode cX9_begin 15 = .ok (.getfield 289, 3) := by decide +kernel
theorem dX9_begin_18 : decode cX9_begin 18 = .ok (.iconst 0, 1) := by decide +kernel
theorem dX9_begin_19 : decode cX9_begin 19 = .ok (.bastore, 1) := by decide +kernel
theorem dX9_begin_20 : decode cX9_begin 20 = .ok (.aload_n 0, 1) := by decide +kernel
theorem dX9_begin_21 : decode cX9_begin 21 = .ok (.getfield 123, 3) := by decide +kernel
theorem dX9_begin_24 : decode cX9_begin 24 = .ok (.aload_n 0, 1) := by decide +kernel
theorem dX9_begin_25 : decode cX9_begin 25 = .ok (.getfield 289, 3) := by decide +kernel
theorem dX9_begin_28 : decode cX9_begin 28 = .ok (.iload_n 1, 1) := by decide +kernel
theorem dX9_begin_29 : decode cX9_begin 29 = .ok (.iastore, 1) := by decide +kernel
theorem dX9_begin_30 : decode cX9_begin 30 = .ok (.return_, 1) := by decide +kernel
theorem dX9_close_0 : decode cX9_close 0 = .ok (.aload_n 0, 1) := by decide +kernel
theorem dX9_close_1 : decode cX9_close 1 = .ok (.invokevirtual 314, 3) := by decide +kernel
theorem dX9_close_4 : decode cX9_close 4 = .ok (.aload_n 0, 1) := by decide +kernel
theorem dX9_close_5 : decode cX9_close 5 = .ok (.aload_n 0, 1) := by decide +kernel
theorem dX9_close_6 : decode cX9_close 6 = .ok (.invokevirtual 295, 3) := by decide +kernel
theorem dX9_close_9 : decode cX9_close 9 = .ok (.bipush 12, 2) := by decide +kernel
theorem dX9_close_11 : decode cX9_close 11 = .ok (.invokevirtual 182, 3) := by decide +kernel
theorem dX9_close_14 : decode cX9_close 14 = .ok (.aload_n 0, 1) := by decide +kernel
theorem dX9_close_15 : decode cX9_close 15 = .ok (.getfield 123, 3) := by decide +kernel
theorem dX9_close_18 : decode cX9_close 18 = .ok (.aload_n 0, 1) := by decide +kernel
theorem dX9_close_19 : decode cX9_close 19 = .ok (.getfield 289, 3) := by decide +kernel
theorem dX9_close_22 : decode cX9_close 22 = .ok (.iaload, 1) := by decide +kernel
theorem dX9_close_23 : decode cX9_close 23 = .ok (.istore_n 1, 1) := by decide +kernel
theorem dX9_close_24 : decode cX9_close 24 = .ok (.aload_n 0, 1) := by decide +kernel
theorem dX9_close_25 : decode cX9_close 25 = .ok (.getfield 96, 3) := by decide +kernel
theorem dX9_close_28 : decode cX9_close 28 = .ok (.iload_n 1, 1) := by decide +kernel
theorem dX9_close_29 : decode cX9_close 29 = .ok (.iaload, 1) := by decide +kernel
theorem dX9_close_30 : decode cX9_close 30 = .ok (.bipush 123, 2) := by decide +kernel
theorem dX9_close_32 : decode cX9_close 32 = .ok (.if_icmp .ne 22, 3) := by decide +kernel
theorem dX9_close_35 : decode cX9_close 35 = .ok (.aload_n 0, 1) := by decide +kernel
theorem dX9_close_36 : decode cX9_close 36 = .ok (.getfield 56, 3) := by decide +kernel
theorem dX9_close_39 : decode cX9_close 39 = .ok (.bipush 12, 2) := by decide +kernel
theorem dX9_close_41 : decode cX9_close 41 = .ok (.iaload, 1) := by decide +kernel
theorem dX9_close_42 : decode cX9_close 42 = .ok (.ifCond .ne 12, 3) := by decide +kernel
theorem dX9_close_45 : decode cX9_close 45 = .ok (.aload_n 0, 1) := by decide +kernel
theorem dX9_close_46 : decode cX9_close 46 = .ok (.iconst 3, 1) := by decide +kernel
theorem dX9_close_47 : decode cX9_close 47 = .ok (.iload_n 1, 1) := by decide +kernel
theorem dX9_close_48 : decode cX9_close 48 = .ok (.invokevirtual 301, 3) := by decide +kernel
theorem dX9_close_51 : decode cX9_close 51 = .ok (.goto 54, 3) := by decide +kernel
theorem dX9_close_54 : decode cX9_close 54 = .ok (.aload_n 0, 1) := by decide +kernel
theorem dX9_close_55 : decode cX9_close 55 = .ok (.getfield 96, 3) := by decide +kernel
theorem dX9_close_58 : decode cX9_close 58 = .ok (.iload_n 1, 1) := by decide +kernel
theorem dX9_close_59 : decode cX9_close 59 = .ok (.iaload, 1) := by decide +kernel
theorem dX9_close_60 : decode cX9_close 60 = .ok (.bipush 123, 2) := by decide +kernel
theorem dX9_close_62 : decode cX9_close 62 = .ok (.if_icmp .ne 43, 3) := by decide +kernel
theorem dX9_close_65 : decode cX9_close 65 = .ok (.aload_n 0, 1) := by decide +kernel
theorem dX9_close_66 : decode cX9_close 66 = .ok (.getfield 56, 3) := by decide +kernel
theorem dX9_close_69 : decode cX9_close 69 = .ok (.bipush 12, 2) := by decide +kernel
theorem dX9_close_71 : decode cX9_close 71 = .ok (.iaload, 1) := by decide +kernel
theorem dX9_close_72 : decode cX9_close 72 = .ok (.iconst 1, 1) := by decide +kernel
theorem dX9_close_73 : decode cX9_close 73 = .ok (.if_icmp .ne 32, 3) := by decide +kernel
theorem dX9_close_76 : decode cX9_close 76 = .ok (.aload_n 0, 1) := by decide +kernel
theorem dX9_close_77 : decode cX9_close 77 = .ok (.bipush 12, 2) := by decide +kernel
theorem dX9_close_79 : decode cX9_close 79 = .ok (.bipush 13, 2) := by decide +kernel
theorem dX9_close_81 : decode cX9_close 81 = .ok (.invokevirtual 317, 3) := by decide +kernel
theorem dX9_close_84 : decode cX9_close 84 = .ok (.aload_n 0, 1) := by decide +kernel
theorem dX9_close_85 : decode cX9_close 85 = .ok (.bipush 13, 2) := by decide +kernel
theorem dX9_close_87 : decode cX9_close 87 = .ok (.bipush 12, 2) := by decide +kernel
theorem dX9_close_89 : decode cX9_close 89 = .ok (.invokevirtual 182, 3) := by decide +kernel
theorem dX9_close_92 : decode cX9_close 92 = .ok (.aload_n 0, 1) := by decide +kernel
theorem dX9_close_93 : decode cX9_close 93 = .ok (.getfield 168, 3) := by decide +kernel
theorem dX9_close_96 : decode cX9_close 96 = .ok (.ifCond .eq 9, 3) := by decide +kernel
theorem dX9_close_99 : decode cX9_close 99 = .ok (.aload_n 0, 1) := by decide +kernel
theorem dX9_close_100 : decode cX9_close 100 = .ok (.iconst 5, 1) := by decide +kernel
theorem dX9_close_101 : decode cX9_close 101 = .ok (.iload_n 1, 1) := by decide +kernel
theorem dX9_close_102 : decode cX9_close 102 = .ok (.invokevirtual 301, 3) := by decide +kernel
theorem dX9_close_105 : decode cX9_close 105 = .ok (.aload_n 0, 1) := by decide +kernel
theorem dX9_close_106 : decode cX9_close 106 = .ok (.dup, 1) := by decide +kernel
theorem dX9_close_107 : decode cX9_close 107 = .ok (.getfield 289, 3) := by decide +kernel
theorem dX9_close_110 : decode cX9_close 110 = .ok (.iconst 1, 1) := by decide +kernel
theorem dX9_close_111 : decode cX9_close 111 = .ok (.isub, 1) := by decide +kernel
theorem dX9_close_112 : decode cX9_close 112 = .ok (.putfield 289, 3) := by decide +kernel
theorem dX9_close_115 : decode cX9_close 115 = .ok (.aload_n 0, 1) := by decide +kernel
theorem dX9_close_116 : decode cX9_close 116 = .ok (.getfield 292, 3) := by decide +kernel
theorem dX9_close_119 : decode cX9_close 119 = .ok (.ifCond .ne 7, 3) := by decide +kernel
theorem dX9_close_122 : decode cX9_close 122 = .ok (.aload_n 0, 1) := by decide +kernel
theorem dX9_close_123 : decode cX9_close 123 = .ok (.invokevirtual 320, 3) := by decide +kernel
theorem dX9_close_126 : decode cX9_close 126 = .ok (.return_, 1) := by decide +kernel
theorem dX9_workOut_0 : decode cX9_workOut 0 = .ok (.aload_n 0, 1) := by decide +kernel
theorem dX9_workOut_1 : decode cX9_workOut 1 = .ok (.getfield 96, 3) := by decide +kernel
theorem dX9_workOut_4 : decode cX9_workOut 4 = .ok (.iload_n 1, 1) := by decide +kernel
theorem dX9_workOut_5 : decode cX9_workOut 5 = .ok (.iaload, 1) := by decide +kernel
theorem dX9_workOut_6 : decode cX9_workOut 6 = .ok (.lookupswitch 219 #[(40, 181), (41, 199), (42, 206), (49, 74), (60, 129), (91, 129), (123, 181), (125, 199)], 74) := by decide +kernel
theorem dX9_workOut_80 : decode cX9_workOut 80 = .ok (.aload_n 0, 1) := by decide +kernel
theorem dX9_workOut_81 : decode cX9_workOut 81 = .ok (.bipush 12, 2) := by decide +kernel
theorem dX9_workOut_83 : decode cX9_workOut 83 = .ok (.invokevirtual 210, 3) := by decide +kernel
theorem dX9_workOut_86 : decode cX9_workOut 86 = .ok (.aload_n 0, 1) := by decide +kernel
theorem dX9_workOut_87 : decode cX9_workOut 87 = .ok (.aload_n 0, 1) := by decide +kernel
theorem dX9_workOut_88 : decode cX9_workOut 88 = .ok (.getfield 102, 3) := by decide +kernel
theorem dX9_workOut_91 : decode cX9_workOut 91 = .ok (.iload_n 1, 1) := by decide +kernel
theorem dX9_workOut_92 : decode cX9_workOut 92 = .ok (.iaload, 1) := by decide +kernel
theorem dX9_workOut_93 : decode cX9_workOut 93 = .ok (.i2l, 1) := by decide +kernel
theorem dX9_workOut_94 : decode cX9_workOut 94 = .ok (.aload_n 0, 1) := by decide +kernel
theorem dX9_workOut_95 : decode cX9_workOut 95 = .ok (.getfield 105, 3) := by decide +kernel
theorem dX9_workOut_98 : decode cX9_workOut 98 = .ok (.iload_n 1, 1) := by decide +kernel
theorem dX9_workOut_99 : decode cX9_workOut 99 = .ok (.iaload, 1) := by decide +kernel
theorem dX9_workOut_100 : decode cX9_workOut 100 = .ok (.i2l, 1) := by decide +kernel
theorem dX9_workOut_101 : decode cX9_workOut 101 = .ok (.invokevirtual 160, 3) := by decide +kernel
theorem dX9_workOut_104 : decode cX9_workOut 104 = .ok (.aload_n 0, 1) := by decide +kernel
theorem dX9_workOut_105 : decode cX9_workOut 105 = .ok (.getfield 59, 3) := by decide +kernel
theorem dX9_workOut_108 : decode cX9_workOut 108 = .ok (.sipush 348, 3) := by decide +kernel
theorem dX9_workOut_111 : decode cX9_workOut 111 = .ok (.aload_n 0, 1) := by decide +kernel
theorem dX9_workOut_112 : decode cX9_workOut 112 = .ok (.getfield 150, 3) := by decide +kernel
theorem dX9_workOut_115 : decode cX9_workOut 115 = .ok (.lastore, 1) := by decide +kernel
theorem dX9_workOut_116 : decode cX9_workOut 116 = .ok (.aload_n 0, 1) := by decide +kernel
theorem dX9_workOut_117 : decode cX9_workOut 117 = .ok (.getfield 63, 3) := by decide +kernel
theorem dX9_workOut_120 : decode cX9_workOut 120 = .ok (.sipush 348, 3) := by decide +kernel
theorem dX9_workOut_123 : decode cX9_workOut 123 = .ok (.aload_n 0, 1) := by decide +kernel
theorem dX9_workOut_124 : decode cX9_workOut 124 = .ok (.getfield 154, 3) := by decide +kernel
theorem dX9_workOut_127 : decode cX9_workOut 127 = .ok (.lastore, 1) := by decide +kernel
theorem dX9_workOut_128 : decode cX9_workOut 128 = .ok (.aload_n 0, 1) := by decide +kernel
theorem dX9_workOut_129 : decode cX9_workOut 129 = .ok (.invokevirtual 320, 3) := by decide +kernel
theorem dX9_workOut_132 : decode cX9_workOut 132 = .ok (.goto 107, 3) := by decide +kernel
theorem dX9_workOut_135 : decode cX9_workOut 135 = .ok (.aload_n 0, 1) := by decide +kernel
theorem dX9_workOut_136 : decode cX9_workOut 136 = .ok (.bipush 12, 2) := by decide +kernel
theorem dX9_workOut_138 : decode cX9_workOut 138 = .ok (.invokevirtual 210, 3) := by decide +kernel
theorem dX9_workOut_141 : decode cX9_workOut 141 = .ok (.aload_n 0, 1) := by decide +kernel
theorem dX9_workOut_142 : decode cX9_workOut 142 = .ok (.getfield 59, 3) := by decide +kernel
theorem dX9_workOut_145 : decode cX9_workOut 145 = .ok (.sipush 348, 3) := by decide +kernel
theorem dX9_workOut_148 : decode cX9_workOut 148 = .ok (.aload_n 0, 1) := by decide +kernel
theorem dX9_workOut_149 : decode cX9_workOut 149 = .ok (.getfield 102, 3) := by decide +kernel
theorem dX9_workOut_152 : decode cX9_workOut 152 = .ok (.iload_n 1, 1) := by decide +kernel
theorem dX9_workOut_153 : decode cX9_workOut 153 = .ok (.iaload, 1) := by decide +kernel
theorem dX9_workOut_154 : decode cX9_workOut 154 = .ok (.iadd, 1) := by decide +kernel
theorem dX9_workOut_155 : decode cX9_workOut 155 = .ok (.lconst 1, 1) := by decide +kernel
theorem dX9_workOut_156 : decode cX9_workOut 156 = .ok (.lastore, 1) := by decide +kernel
theorem dX9_workOut_157 : decode cX9_workOut 157 = .ok (.aload_n 0, 1) := by decide +kernel
theorem dX9_workOut_158 : decode cX9_workOut 158 = .ok (.getfield 56, 3) := by decide +kernel
theorem dX9_workOut_161 : decode cX9_workOut 161 = .ok (.bipush 12, 2) := by decide +kernel
theorem dX9_workOut_163 : decode cX9_workOut 163 = .ok (.aload_n 0, 1) := by decide +kernel
theorem dX9_workOut_164 : decode cX9_workOut 164 = .ok (.getfield 96, 3) := by decide +kernel
theorem dX9_workOut_167 : decode cX9_workOut 167 = .ok (.iload_n 1, 1) := by decide +kernel
theorem dX9_workOut_168 : decode cX9_workOut 168 = .ok (.iaload, 1) := by decide +kernel
theorem dX9_workOut_169 : decode cX9_workOut 169 = .ok (.bipush 91, 2) := by decide +kernel
theorem dX9_workOut_171 : decode cX9_workOut 171 = .ok (.if_icmp .ne 7, 3) := by decide +kernel
theorem dX9_workOut_174 : decode cX9_workOut 174 = .ok (.iconst 0, 1) := by decide +kernel
theorem dX9_workOut_175 : decode cX9_workOut 175 = .ok (.goto 4, 3) := by decide +kernel
theorem dX9_workOut_178 : decode cX9_workOut 178 = .ok (.iconst 1, 1) := by decide +kernel
theorem dX9_workOut_179 : decode cX9_workOut 179 = .ok (.iastore, 1) := by decide +kernel
theorem dX9_workOut_180 : decode cX9_workOut 180 = .ok (.aload_n 0, 1) := by decide +kernel
theorem dX9_workOut_181 : decode cX9_workOut 181 = .ok (.invokevirtual 320, 3) := by decide +kernel
theorem dX9_workOut_184 : decode cX9_workOut 184 = .ok (.goto 55, 3) := by decide +kernel
theorem dX9_workOut_187 : decode cX9_workOut 187 = .ok (.aload_n 0, 1) := by decide +kernel
theorem dX9_workOut_188 : decode cX9_workOut 188 = .ok (.dup, 1) := by decide +kernel
theorem dX9_workOut_189 : decode cX9_workOut 189 = .ok (.getfield 289, 3) := by decide +kernel
theorem dX9_workOut_192 : decode cX9_workOut 192 = .ok (.iconst 1, 1) := by decide +kernel
theorem dX9_workOut_193 : decode cX9_workOut 193 = .ok (.iadd, 1) := by decide +kernel
theorem dX9_workOut_194 : decode cX9_workOut 194 = .ok (.putfield 289, 3) := by decide +kernel
theorem dX9_workOut_197 : decode cX9_workOut 197 = .ok (.aload_n 0, 1) := by decide +kernel
theorem dX9_workOut_198 : decode cX9_workOut 198 = .ok (.iload_n 1, 1) := by decide +kernel
theorem dX9_workOut_199 : decode cX9_workOut 199 = .ok (.invokevirtual 323, 3) := by decide +kernel
theorem dX9_workOut_202 : decode cX9_workOut 202 = .ok (.goto 37, 3) := by decide +kernel
theorem dX9_workOut_205 : decode cX9_workOut 205 = .ok (.aload_n 0, 1) := by decide +kernel
theorem dX9_workOut_206 : decode cX9_workOut 206 = .ok (.invokevirtual 326, 3) := by decide +kernel
theorem dX9_workOut_209 : decode cX9_workOut 209 = .ok (.goto 30, 3) := by decide +kernel
theorem dX9_workOut_212 : decode cX9_workOut 212 = .ok (.aload_n 0, 1) := by decide +kernel
theorem dX9_workOut_213 : decode cX9_workOut 213 = .ok (.getfield 120, 3) := by decide +kernel
theorem dX9_workOut_216 : decode cX9_workOut 216 = .ok (.aload_n 0, 1) := by decide +kernel
theorem dX9_workOut_217 : decode cX9_workOut 217 = .ok (.getfield 289, 3) := by decide +kernel
theorem dX9_workOut_220 : decode cX9_workOut 220 = .ok (.iload_n 1, 1) := by decide +kernel
theorem dX9_workOut_221 : decode cX9_workOut 221 = .ok (.iastore, 1) := by decide +kernel
theorem dX9_workOut_222 : decode cX9_workOut 222 = .ok (.goto 17, 3) := by decide +kernel
theorem dX9_workOut_225 : decode cX9_workOut 225 = .ok (.aload_n 0, 1) := by decide +kernel
theorem dX9_workOut_226 : decode cX9_workOut 226 = .ok (.invokevirtual 314, 3) := by decide +kernel
theorem dX9_workOut_229 : decode cX9_workOut 229 = .ok (.aload_n 0, 1) := by decide +kernel
theorem dX9_workOut_230 : decode cX9_workOut 230 = .ok (.getfield 117, 3) := by decide +kernel
theorem dX9_workOut_233 : decode cX9_workOut 233 = .ok (.aload_n 0, 1) := by decide +kernel
theorem dX9_workOut_234 : decode cX9_workOut 234 = .ok (.getfield 289, 3) := by decide +kernel
theorem dX9_workOut_237 : decode cX9_workOut 237 = .ok (.iload_n 1, 1) := by decide +kernel
theorem dX9_workOut_238 : decode cX9_workOut 238 = .ok (.iastore, 1) := by decide +kernel
theorem dX9_workOut_239 : decode cX9_workOut 239 = .ok (.return_, 1) := by decide +kernel
theorem dX9_read_0 : decode cX9_read 0 = .ok (.iload_n 1, 1) := by decide +kernel
theorem dX9_read_1 : decode cX9_read 1 = .ok (.iconst 0, 1) := by decide +kernel
theorem dX9_read_2 : decode cX9_read 2 = .ok (.iconst 3, 1) := by decide +kernel
theorem dX9_read_3 : decode cX9_read 3 = .ok (.invokestatic 129, 3) := by decide +kernel
theorem dX9_read_6 : decode cX9_read 6 = .ok (.ifCond .ne 5, 3) := by decide +kernel
theorem dX9_read_9 : decode cX9_read 9 = .ok (.iconst (-1), 1) := by decide +kernel
theorem dX9_read_10 : decode cX9_read 10 = .ok (.ireturn, 1) := by decide +kernel
theorem dX9_read_11 : decode cX9_read 11 = .ok (.aload_n 0, 1) := by decide +kernel
theorem dX9_read_12 : decode cX9_read 12 = .ok (.invokevirtual 329, 3) := by decide +kernel
theorem dX9_read_15 : decode cX9_read 15 = .ok (.istore_n 2, 1) := by decide +kernel
theorem dX9_read_16 : decode cX9_read 16 = .ok (.aload_n 0, 1) := by decide +kernel
theorem dX9_read_17 : decode cX9_read 17 = .ok (.iconst 0, 1) := by decide +kernel
theorem dX9_read_18 : decode cX9_read 18 = .ok (.putfield 253, 3) := by decide +kernel
theorem dX9_read_21 : decode cX9_read 21 = .ok (.iload_n 2, 1) := by decide +kernel
theorem dX9_read_22 : decode cX9_read 22 = .ok (.ifCond .ne 12, 3) := by decide +kernel
theorem dX9_read_25 : decode cX9_read 25 = .ok (.sipush (-1000), 3) := by decide +kernel
theorem dX9_read_28 : decode cX9_read 28 = .ok (.aload_n 0, 1) := by decide +kernel
theorem dX9_read_29 : decode cX9_read 29 = .ok (.getfield 256, 3) := by decide +kernel
theorem dX9_read_32 : decode cX9_read 32 = .ok (.isub, 1) := by decide +kernel
theorem dX9_read_33 : decode cX9_read 33 = .ok (.ireturn, 1) := by decide +kernel
theorem dX9_read_34 : decode cX9_read 34 = .ok (.iconst 0, 1) := by decide +kernel
theorem dX9_read_35 : decode cX9_read 35 = .ok (.istore_n 3, 1) := by decide +kernel
theorem dX9_read_36 : decode cX9_read 36 = .ok (.iload_n 3, 1) := by decide +kernel
theorem dX9_read_37 : decode cX9_read 37 = .ok (.aload_n 0, 1) := by decide +kernel
theorem dX9_read_38 : decode cX9_read 38 = .ok (.getfield 267, 3) := by decide +kernel
theorem dX9_read_41 : decode cX9_read 41 = .ok (.if_icmp .ge 51, 3) := by decide +kernel
theorem dX9_read_44 : decode cX9_read 44 = .ok (.aload_n 0, 1) := by decide +kernel
theorem dX9_read_45 : decode cX9_read 45 = .ok (.getfield 96, 3) := by decide +kernel
theorem dX9_read_48 : decode cX9_read 48 = .ok (.iload_n 3, 1) := by decide +kernel
theorem dX9_read_49 : decode cX9_read 49 = .ok (.iaload, 1) := by decide +kernel
theorem dX9_read_50 : decode cX9_read 50 = .ok (.bipush 91, 2) := by decide +kernel
theorem dX9_read_52 : decode cX9_read 52 = .ok (.if_icmp .eq 14, 3) := by decide +kernel
theorem dX9_read_55 : decode cX9_read 55 = .ok (.aload_n 0, 1) := by decide +kernel
theorem dX9_read_56 : decode cX9_read 56 = .ok (.getfield 96, 3) := by decide +kernel
theorem dX9_read_59 : decode cX9_read 59 = .ok (.iload_n 3, 1) := by decide +kernel
theorem dX9_read_60 : decode cX9_read 60 = .ok (.iaload, 1) := by decide +kernel
theorem dX9_read_61 : decode cX9_read 61 = .ok (.bipush 60, 2) := by decide +kernel
theorem dX9_read_63 : decode cX9_read 63 = .ok (.if_icmp .ne 23, 3) := by decide +kernel
theorem dX9_read_66 : decode cX9_read 66 = .ok (.aload_n 0, 1) := by decide +kernel
theorem dX9_read_67 : decode cX9_read 67 = .ok (.getfield 102, 3) := by decide +kernel
theorem dX9_read_70 : decode cX9_read 70 = .ok (.iload_n 3, 1) := by decide +kernel
theorem dX9_read_71 : decode cX9_read 71 = .ok (.iaload, 1) := by decide +kernel
theorem dX9_read_72 : decode cX9_read 72 = .ok (.ifCond .ge 14, 3) := by decide +kernel
theorem dX9_read_75 : decode cX9_read 75 = .ok (.sipush (-2000), 3) := by decide +kernel
theorem dX9_read_78 : decode cX9_read 78 = .ok (.aload_n 0, 1) := by decide +kernel
theorem dX9_read_79 : decode cX9_read 79 = .ok (.getfield 99, 3) := by decide +kernel
theorem dX9_read_82 : decode cX9_read 82 = .ok (.iload_n 3, 1) := by decide +kernel
theorem dX9_read_83 : decode cX9_read 83 = .ok (.iaload, 1) := by decide +kernel
theorem dX9_read_84 : decode cX9_read 84 = .ok (.isub, 1) := by decide +kernel
theorem dX9_read_85 : decode cX9_read 85 = .ok (.ireturn, 1) := by decide +kernel
theorem dX9_read_86 : decode cX9_read 86 = .ok (.iinc 3 1, 3) := by decide +kernel
theorem dX9_read_89 : decode cX9_read 89 = .ok (.goto (-53), 3) := by decide +kernel
theorem dX9_read_92 : decode cX9_read 92 = .ok (.aload_n 0, 1) := by decide +kernel
theorem dX9_read_93 : decode cX9_read 93 = .ok (.iconst 0, 1) := by decide +kernel
theorem dX9_read_94 : decode cX9_read 94 = .ok (.putfield 289, 3) := by decide +kernel
theorem dX9_read_97 : decode cX9_read 97 = .ok (.aload_n 0, 1) := by decide +kernel
theorem dX9_read_98 : decode cX9_read 98 = .ok (.iconst 0, 1) := by decide +kernel
theorem dX9_read_99 : decode cX9_read 99 = .ok (.putfield 292, 3) := by decide +kernel
theorem dX9_read_102 : decode cX9_read 102 = .ok (.aload_n 0, 1) := by decide +kernel
theorem dX9_read_103 : decode cX9_read 103 = .ok (.iconst 0, 1) := by decide +kernel
theorem dX9_read_104 : decode cX9_read 104 = .ok (.putfield 168, 3) := by decide +kernel
theorem dX9_read_107 : decode cX9_read 107 = .ok (.aload_n 0, 1) := by decide +kernel
theorem dX9_read_108 : decode cX9_read 108 = .ok (.iconst 0, 1) := by decide +kernel
theorem dX9_read_109 : decode cX9_read 109 = .ok (.invokevirtual 323, 3) := by decide +kernel
theorem dX9_read_112 : decode cX9_read 112 = .ok (.iconst 0, 1) := by decide +kernel
theorem dX9_read_113 : decode cX9_read 113 = .ok (.istore_n 3, 1) := by decide +kernel
theorem dX9_read_114 : decode cX9_read 114 = .ok (.iload_n 3, 1) := by decide +kernel
theorem dX9_read_115 : decode cX9_read 115 = .ok (.aload_n 0, 1) := by decide +kernel
theorem dX9_read_116 : decode cX9_read 116 = .ok (.getfield 267, 3) := by decide +kernel
theorem dX9_read_119 : decode cX9_read 119 = .ok (.if_icmp .ge 21, 3) := by decide +kernel
theorem dX9_read_122 : decode cX9_read 122 = .ok (.aload_n 0, 1) := by decide +kernel
theorem dX9_read_123 : decode cX9_read 123 = .ok (.getfield 292, 3) := by decide +kernel
theorem dX9_read_126 : decode cX9_read 126 = .ok (.ifCond .ne 14, 3) := by decide +kernel
theorem dX9_read_129 : decode cX9_read 129 = .ok (.aload_n 0, 1) := by decide +kernel
theorem dX9_read_130 : decode cX9_read 130 = .ok (.iload_n 3, 1) := by decide +kernel
theorem dX9_read_131 : decode cX9_read 131 = .ok (.invokevirtual 332, 3) := by decide +kernel
theorem dX9_read_134 : decode cX9_read 134 = .ok (.iinc 3 1, 3) := by decide +kernel
theorem dX9_read_137 : decode cX9_read 137 = .ok (.goto (-23), 3) := by decide +kernel
theorem dX9_read_140 : decode cX9_read 140 = .ok (.aload_n 0, 1) := by decide +kernel
theorem dX9_read_141 : decode cX9_read 141 = .ok (.getfield 292, 3) := by decide +kernel
theorem dX9_read_144 : decode cX9_read 144 = .ok (.ifCond .ne 7, 3) := by decide +kernel
theorem dX9_read_147 : decode cX9_read 147 = .ok (.aload_n 0, 1) := by decide +kernel
theorem dX9_read_148 : decode cX9_read 148 = .ok (.invokevirtual 314, 3) := by decide +kernel
theorem dX9_read_151 : decode cX9_read 151 = .ok (.aload_n 0, 1) := by decide +kernel
theorem dX9_read_152 : decode cX9_read 152 = .ok (.getfield 292, 3) := by decide +kernel
theorem dX9_read_155 : decode cX9_read 155 = .ok (.ifCond .eq 8, 3) := by decide +kernel
theorem dX9_read_158 : decode cX9_read 158 = .ok (.aload_n 0, 1) := by decide +kernel
theorem dX9_read_159 : decode cX9_read 159 = .ok (.getfield 292, 3) := by decide +kernel
theorem dX9_read_162 : decode cX9_read 162 = .ok (.ireturn, 1) := by decide +kernel
theorem dX9_read_163 : decode cX9_read 163 = .ok (.aload_n 0, 1) := by decide +kernel
theorem dX9_read_164 : decode cX9_read 164 = .ok (.iconst 4, 1) := by decide +kernel
theorem dX9_read_165 : decode cX9_read 165 = .ok (.iload_n 1, 1) := by decide +kernel
theorem dX9_read_166 : decode cX9_read 166 = .ok (.invokevirtual 182, 3) := by decide +kernel
theorem dX9_read_169 : decode cX9_read 169 = .ok (.aload_n 0, 1) := by decide +kernel
theorem dX9_read_170 : decode cX9_read 170 = .ok (.getfield 56, 3) := by decide +kernel
theorem dX9_read_173 : decode cX9_read 173 = .ok (.iload_n 1, 1) := by decide +kernel
theorem dX9_read_174 : decode cX9_read 174 = .ok (.aload_n 0, 1) := by decide +kernel
theorem dX9_read_175 : decode cX9_read 175 = .ok (.iload_n 1, 1) := by decide +kernel
theorem dX9_read_176 : decode cX9_read 176 = .ok (.invokevirtual 196, 3) := by decide +kernel
theorem dX9_read_179 : decode cX9_read 179 = .ok (.ifCond .le 17, 3) := by decide +kernel
theorem dX9_read_182 : decode cX9_read 182 = .ok (.aload_n 0, 1) := by decide +kernel
theorem dX9_read_183 : decode cX9_read 183 = .ok (.getfield 56, 3) := by decide +kernel
theorem dX9_read_186 : decode cX9_read 186 = .ok (.iload_n 1, 1) := by decide +kernel
theorem dX9_read_187 : decode cX9_read 187 = .ok (.iaload, 1) := by decide +kernel
theorem dX9_read_188 : decode cX9_read 188 = .ok (.iconst 2, 1) := by decide +kernel
theorem dX9_read_189 : decode cX9_read 189 = .ok (.if_icmp .ne 7, 3) := by decide +kernel
theorem dX9_read_192 : decode cX9_read 192 = .ok (.iconst 0, 1) := by decide +kernel
theorem dX9_read_193 : decode cX9_read 193 = .ok (.goto 9, 3) := by decide +kernel
theorem dX9_read_196 : decode cX9_read 196 = .ok (.aload_n 0, 1) := by decide +kernel
theorem dX9_read_197 : decode cX9_read 197 = .ok (.getfield 56, 3) := by decide +kernel
theorem dX9_read_200 : decode cX9_read 200 = .ok (.iload_n 1, 1) := by decide +kernel
theorem dX9_read_201 : decode cX9_read 201 = .ok (.iaload, 1) := by decide +kernel
theorem dX9_read_202 : decode cX9_read 202 = .ok (.iastore, 1) := by decide +kernel
theorem dX9_read_203 : decode cX9_read 203 = .ok (.aload_n 0, 1) := by decide +kernel
theorem dX9_read_204 : decode cX9_read 204 = .ok (.getfield 52, 3) := by decide +kernel
theorem dX9_read_207 : decode cX9_read 207 = .ok (.iload_n 1, 1) := by decide +kernel
theorem dX9_read_208 : decode cX9_read 208 = .ok (.iconst 1, 1) := by decide +kernel
theorem dX9_read_209 : decode cX9_read 209 = .ok (.bastore, 1) := by decide +kernel
theorem dX9_read_210 : decode cX9_read 210 = .ok (.aload_n 0, 1) := by decide +kernel
theorem dX9_read_211 : decode cX9_read 211 = .ok (.iload_n 1, 1) := by decide +kernel
theorem dX9_read_212 : decode cX9_read 212 = .ok (.invokevirtual 196, 3) := by decide +kernel
theorem dX9_read_215 : decode cX9_read 215 = .ok (.ireturn, 1) := by decide +kernel
theorem dX9_isStore_0 : decode cX9_isStore 0 = .ok (.iload_n 0, 1) := by decide +kernel
theorem dX9_isStore_1 : decode cX9_isStore 1 = .ok (.iconst 0, 1) := by decide +kernel
theorem dX9_isStore_2 : decode cX9_isStore 2 = .ok (.iconst 3, 1) := by decide +kernel
theorem dX9_isStore_3 : decode cX9_isStore 3 = .ok (.invokestatic 129, 3) := by decide +kernel
theorem dX9_isStore_6 : decode cX9_isStore 6 = .ok (.ireturn, 1) := by decide +kernel
theorem dX9_termsIn_0 : decode cX9_termsIn 0 = .ok (.aload_n 0, 1) := by decide +kernel
theorem dX9_termsIn_1 : decode cX9_termsIn 1 = .ok (.getfield 52, 3) := by decide +kernel
theorem dX9_termsIn_4 : decode cX9_termsIn 4 = .ok (.iload_n 1, 1) := by decide +kernel
theorem dX9_termsIn_5 : decode cX9_termsIn 5 = .ok (.baload, 1) := by decide +kernel
theorem dX9_termsIn_6 : decode cX9_termsIn 6 = .ok (.ifCond .eq 11, 3) := by decide +kernel
theorem dX9_termsIn_9 : decode cX9_termsIn 9 = .ok (.aload_n 0, 1) := by decide +kernel
theorem dX9_termsIn_10 : decode cX9_termsIn 10 = .ok (.iload_n 1, 1) := by decide +kernel
theorem dX9_termsIn_11 : decode cX9_termsIn 11 = .ok (.invokevirtual 196, 3) := by decide +kernel
theorem dX9_termsIn_14 : decode cX9_termsIn 14 = .ok (.goto 4, 3) := by decide +kernel
theorem dX9_termsIn_17 : decode cX9_termsIn 17 = .ok (.iconst 0, 1) := by decide +kernel
theorem dX9_termsIn_18 : decode cX9_termsIn 18 = .ok (.ireturn, 1) := by decide +kernel
theorem dX9_clear_0 : decode cX9_clear 0 = .ok (.iload_n 1, 1) := by decide +kernel
theorem dX9_clear_1 : decode cX9_clear 1 = .ok (.invokestatic 335, 3) := by decide +kernel
theorem dX9_clear_4 : decode cX9_clear 4 = .ok (.ifCond .ne 5, 3) := by decide +kernel
theorem dX9_clear_7 : decode cX9_clear 7 = .ok (.iconst (-1), 1) := by decide +kernel
theorem dX9_clear_8 : decode cX9_clear 8 = .ok (.ireturn, 1) := by decide +kernel
theorem dX9_clear_9 : decode cX9_clear 9 = .ok (.aload_n 0, 1) := by decide +kernel
theorem dX9_clear_10 : decode cX9_clear 10 = .ok (.iload_n 1, 1) := by decide +kernel
theorem dX9_clear_11 : decode cX9_clear 11 = .ok (.invokevirtual 338, 3) := by decide +kernel
theorem dX9_clear_14 : decode cX9_clear 14 = .ok (.istore_n 2, 1) := by decide +kernel
theorem dX9_clear_15 : decode cX9_clear 15 = .ok (.aload_n 0, 1) := by decide +kernel
theorem dX9_clear_16 : decode cX9_clear 16 = .ok (.getfield 52, 3) := by decide +kernel
theorem dX9_clear_19 : decode cX9_clear 19 = .ok (.iload_n 1, 1) := by decide +kernel
theorem dX9_clear_20 : decode cX9_clear 20 = .ok (.iconst 0, 1) := by decide +kernel
theorem dX9_clear_21 : decode cX9_clear 21 = .ok (.bastore, 1) := by decide +kernel
theorem dX9_clear_22 : decode cX9_clear 22 = .ok (.iload_n 2, 1) := by decide +kernel
theorem dX9_clear_23 : decode cX9_clear 23 = .ok (.ireturn, 1) := by decide +kernel
theorem dX9_sizeIn_0 : decode cX9_sizeIn 0 = .ok (.aload_n 0, 1) := by decide +kernel
theorem dX9_sizeIn_1 : decode cX9_sizeIn 1 = .ok (.getfield 28, 3) := by decide +kernel
theorem dX9_sizeIn_4 : decode cX9_sizeIn 4 = .ok (.aload_n 0, 1) := by decide +kernel
theorem dX9_sizeIn_5 : decode cX9_sizeIn 5 = .ok (.getfield 56, 3) := by decide +kernel
theorem dX9_sizeIn_8 : decode cX9_sizeIn 8 = .ok (.iload_n 1, 1) := by decide +kernel
theorem dX9_sizeIn_9 : decode cX9_sizeIn 9 = .ok (.iaload, 1) := by decide +kernel
theorem dX9_sizeIn_10 : decode cX9_sizeIn 10 = .ok (.iload_n 2, 1) := by decide +kernel
theorem dX9_sizeIn_11 : decode cX9_sizeIn 11 = .ok (.invokestatic 199, 3) := by decide +kernel
theorem dX9_sizeIn_14 : decode cX9_sizeIn 14 = .ok (.ireturn, 1) := by decide +kernel
theorem dX9_greatest_0 : decode cX9_greatest 0 = .ok (.bipush (-5), 2) := by decide +kernel
theorem dX9_greatest_2 : decode cX9_greatest 2 = .ok (.istore_n 2, 1) := by decide +kernel
theorem dX9_greatest_3 : decode cX9_greatest 3 = .ok (.iconst 0, 1) := by decide +kernel
theorem dX9_greatest_4 : decode cX9_greatest 4 = .ok (.istore_n 3, 1) := by decide +kernel
theorem dX9_greatest_5 : decode cX9_greatest 5 = .ok (.iload_n 3, 1) := by decide +kernel
theorem dX9_greatest_6 : decode cX9_greatest 6 = .ok (.bipush 29, 2) := by decide +kernel
theorem dX9_greatest_8 : decode cX9_greatest 8 = .ok (.if_icmp .ge 39, 3) := by decide +kernel
theorem dX9_greatest_11 : decode cX9_greatest 11 = .ok (.aload_n 0, 1) := by decide +kernel
theorem dX9_greatest_12 : decode cX9_greatest 12 = .ok (.iload_n 1, 1) := by decide +kernel
theorem dX9_greatest_13 : decode cX9_greatest 13 = .ok (.iload_n 3, 1) := by decide +kernel
theorem dX9_greatest_14 : decode cX9_greatest 14 = .ok (.invokevirtual 179, 3) := by decide +kernel
theorem dX9_greatest_17 : decode cX9_greatest 17 = .ok (.ifCond .eq 22, 3) := by decide +kernel
theorem dX9_greatest_20 : decode cX9_greatest 20 = .ok (.aload_n 0, 1) := by decide +kernel
theorem dX9_greatest_21 : decode cX9_greatest 21 = .ok (.iload_n 1, 1) := by decide +kernel
theorem dX9_greatest_22 : decode cX9_greatest 22 = .ok (.iload_n 3, 1) := by decide +kernel
theorem dX9_greatest_23 : decode cX9_greatest 23 = .ok (.invokevirtual 341, 3) := by decide +kernel
theorem dX9_greatest_26 : decode cX9_greatest 26 = .ok (.iload_n 2, 1) := by decide +kernel
theorem dX9_greatest_27 : decode cX9_greatest 27 = .ok (.if_icmp .le 12, 3) := by decide +kernel
theorem dX9_greatest_30 : decode cX9_greatest 30 = .ok (.aload_n 0, 1) := by decide +kernel
theorem dX9_greatest_31 : decode cX9_greatest 31 = .ok (.iload_n 1, 1) := by decide +kernel
theorem dX9_greatest_32 : decode cX9_greatest 32 = .ok (.iload_n 3, 1) := by decide +kernel
theorem dX9_greatest_33 : decode cX9_greatest 33 = .ok (.invokevirtual 341, 3) := by decide +kernel
theorem dX9_greatest_36 : decode cX9_greatest 36 = .ok (.goto 4, 3) := by decide +kernel
theorem dX9_greatest_39 : decode cX9_greatest 39 = .ok (.iload_n 2, 1) := by decide +kernel
theorem dX9_greatest_40 : decode cX9_greatest 40 = .ok (.istore_n 2, 1) := by decide +kernel
theorem dX9_greatest_41 : decode cX9_greatest 41 = .ok (.iinc 3 1, 3) := by decide +kernel
theorem dX9_greatest_44 : decode cX9_greatest 44 = .ok (.goto (-39), 3) := by decide +kernel
theorem dX9_greatest_47 : decode cX9_greatest 47 = .ok (.iload_n 2, 1) := by decide +kernel
theorem dX9_greatest_48 : decode cX9_greatest 48 = .ok (.ireturn, 1) := by decide +kernel
theorem dX9_sum_0 : decode cX9_sum 0 = .ok (.iload_n 1, 1) := by decide +kernel
theorem dX9_sum_1 : decode cX9_sum 1 = .ok (.invokestatic 335, 3) := by decide +kernel
theorem dX9_sum_4 : decode cX9_sum 4 = .ok (.ifCond .eq 12, 3) := by decide +kernel
theorem dX9_sum_7 : decode cX9_sum 7 = .ok (.iload_n 2, 1) := by decide +kernel
theorem dX9_sum_8 : decode cX9_sum 8 = .ok (.iconst 0, 1) := by decide +kernel
theorem dX9_sum_9 : decode cX9_sum 9 = .ok (.iconst 2, 1) := by decide +kernel
theorem dX9_sum_10 : decode cX9_sum 10 = .ok (.invokestatic 129, 3) := by decide +kernel
theorem dX9_sum_13 : decode cX9_sum 13 = .ok (.ifCond .ne 5, 3) := by decide +kernel
theorem dX9_sum_16 : decode cX9_sum 16 = .ok (.iconst (-1), 1) := by decide +kernel
theorem dX9_sum_17 : decode cX9_sum 17 = .ok (.ireturn, 1) := by decide +kernel
theorem dX9_sum_18 : decode cX9_sum 18 = .ok (.aload_n 0, 1) := by decide +kernel
theorem dX9_sum_19 : decode cX9_sum 19 = .ok (.getfield 52, 3) := by decide +kernel
theorem dX9_sum_22 : decode cX9_sum 22 = .ok (.iload_n 1, 1) := by decide +kernel
theorem dX9_sum_23 : decode cX9_sum 23 = .ok (.baload, 1) := by decide +kernel
theorem dX9_sum_24 : decode cX9_sum 24 = .ok (.ifCond .ne 6, 3) := by decide +kernel
theorem dX9_sum_27 : decode cX9_sum 27 = .ok (.bipush (-3), 2) := by decide +kernel
theorem dX9_sum_29 : decode cX9_sum 29 = .ok (.ireturn, 1) := by decide +kernel
theorem dX9_sum_30 : decode cX9_sum 30 = .ok (.iload_n 2, 1) := by decide +kernel
theorem dX9_sum_31 : decode cX9_sum 31 = .ok (.ifCond .ne 11, 3) := by decide +kernel
theorem dX9_sum_34 : decode cX9_sum 34 = .ok (.aload_n 0, 1) := by decide +kernel
theorem dX9_sum_35 : decode cX9_sum 35 = .ok (.iload_n 1, 1) := by decide +kernel
theorem dX9_sum_36 : decode cX9_sum 36 = .ok (.invokevirtual 196, 3) := by decide +kernel
theorem dX9_sum_39 : decode cX9_sum 39 = .ok (.goto 24, 3) := by decide +kernel
theorem dX9_sum_42 : decode cX9_sum 42 = .ok (.iload_n 2, 1) := by decide +kernel
theorem dX9_sum_43 : decode cX9_sum 43 = .ok (.iconst 1, 1) := by decide +kernel
theorem dX9_sum_44 : decode cX9_sum 44 = .ok (.if_icmp .ne 14, 3) := by decide +kernel
theorem dX9_sum_47 : decode cX9_sum 47 = .ok (.aload_n 0, 1) := by decide +kernel
theorem dX9_sum_48 : decode cX9_sum 48 = .ok (.getfield 56, 3) := by decide +kernel
theorem dX9_sum_51 : decode cX9_sum 51 = .ok (.iload_n 1, 1) := by decide +kernel
theorem dX9_sum_52 : decode cX9_sum 52 = .ok (.iaload, 1) := by decide +kernel
theorem dX9_sum_53 : decode cX9_sum 53 = .ok (.iconst 2, 1) := by decide +kernel
theorem dX9_sum_54 : decode cX9_sum 54 = .ok (.irem, 1) := by decide +kernel
theorem dX9_sum_55 : decode cX9_sum 55 = .ok (.goto 8, 3) := by decide +kernel
theorem dX9_sum_58 : decode cX9_sum 58 = .ok (.aload_n 0, 1) := by decide +kernel
theorem dX9_sum_59 : decode cX9_sum 59 = .ok (.iload_n 1, 1) := by decide +kernel
theorem dX9_sum_60 : decode cX9_sum 60 = .ok (.invokevirtual 344, 3) := by decide +kernel
theorem dX9_sum_63 : decode cX9_sum 63 = .ok (.ireturn, 1) := by decide +kernel
theorem dX9_termAt_0 : decode cX9_termAt 0 = .ok (.iconst 0, 1) := by decide +kernel
theorem dX9_termAt_1 : decode cX9_termAt 1 = .ok (.istore_n 3, 1) := by decide +kernel
theorem dX9_termAt_2 : decode cX9_termAt 2 = .ok (.iconst 0, 1) := by decide +kernel
theorem dX9_termAt_3 : decode cX9_termAt 3 = .ok (.istore 4, 2) := by decide +kernel
theorem dX9_termAt_5 : decode cX9_termAt 5 = .ok (.iload 4, 2) := by decide +kernel
theorem dX9_termAt_7 : decode cX9_termAt 7 = .ok (.bipush 29, 2) := by decide +kernel
theorem dX9_termAt_9 : decode cX9_termAt 9 = .ok (.if_icmp .ge 30, 3) := by decide +kernel
theorem dX9_termAt_12 : decode cX9_termAt 12 = .ok (.aload_n 0, 1) := by decide +kernel
theorem dX9_termAt_13 : decode cX9_termAt 13 = .ok (.iload_n 1, 1) := by decide +kernel
theorem dX9_termAt_14 : decode cX9_termAt 14 = .ok (.iload 4, 2) := by decide +kernel
theorem dX9_termAt_16 : decode cX9_termAt 16 = .ok (.invokevirtual 179, 3) := by decide +kernel
theorem dX9_termAt_19 : decode cX9_termAt 19 = .ok (.ifCond .eq 14, 3) := by decide +kernel
theorem dX9_termAt_22 : decode cX9_termAt 22 = .ok (.iload_n 3, 1) := by decide +kernel
theorem dX9_termAt_23 : decode cX9_termAt 23 = .ok (.iload_n 2, 1) := by decide +kernel
theorem dX9_termAt_24 : decode cX9_termAt 24 = .ok (.if_icmp .ne 6, 3) := by decide +kernel
theorem dX9_termAt_27 : decode cX9_termAt 27 = .ok (.iload 4, 2) := by decide +kernel
theorem dX9_termAt_29 : decode cX9_termAt 29 = .ok (.ireturn, 1) := by decide +kernel
theorem dX9_termAt_30 : decode cX9_termAt 30 = .ok (.iinc 3 1, 3) := by decide +kernel
theorem dX9_termAt_33 : decode cX9_termAt 33 = .ok (.iinc 4 1, 3) := by decide +kernel
theorem dX9_termAt_36 : decode cX9_termAt 36 = .ok (.goto (-31), 3) := by decide +kernel
theorem dX9_termAt_39 : decode cX9_termAt 39 = .ok (.iconst (-1), 1) := by decide +kernel
theorem dX9_termAt_40 : decode cX9_termAt 40 = .ok (.ireturn, 1) := by decide +kernel
theorem dX9_term_0 : decode cX9_term 0 = .ok (.iload_n 1, 1) := by decide +kernel
theorem dX9_term_1 : decode cX9_term 1 = .ok (.invokestatic 335, 3) := by decide +kernel
theorem dX9_term_4 : decode cX9_term 4 = .ok (.ifCond .eq 7, 3) := by decide +kernel
theorem dX9_term_7 : decode cX9_term 7 = .ok (.iload_n 2, 1) := by decide +kernel
theorem dX9_term_8 : decode cX9_term 8 = .ok (.ifCond .ge 5, 3) := by decide +kernel
theorem dX9_term_11 : decode cX9_term 11 = .ok (.iconst (-1), 1) := by decide +kernel
theorem dX9_term_12 : decode cX9_term 12 = .ok (.ireturn, 1) := by decide +kernel
theorem dX9_term_13 : decode cX9_term 13 = .ok (.aload_n 0, 1) := by decide +kernel
theorem dX9_term_14 : decode cX9_term 14 = .ok (.getfield 52, 3) := by decide +kernel
theorem dX9_term_17 : decode cX9_term 17 = .ok (.iload_n 1, 1) := by decide +kernel
theorem dX9_term_18 : decode cX9_term 18 = .ok (.baload, 1) := by decide +kernel
theorem dX9_term_19 : decode cX9_term 19 = .ok (.ifCond .eq 12, 3) := by decide +kernel
theorem dX9_term_22 : decode cX9_term 22 = .ok (.aload_n 0, 1) := by decide +kernel
theorem dX9_term_23 : decode cX9_term 23 = .ok (.iload_n 1, 1) := by decide +kernel
theorem dX9_term_24 : decode cX9_term 24 = .ok (.iload_n 2, 1) := by decide +kernel
theorem dX9_term_25 : decode cX9_term 25 = .ok (.invokevirtual 347, 3) := by decide +kernel
theorem dX9_term_28 : decode cX9_term 28 = .ok (.goto 5, 3) := by decide +kernel
theorem dX9_term_31 : decode cX9_term 31 = .ok (.bipush (-3), 2) := by decide +kernel
theorem dX9_term_33 : decode cX9_term 33 = .ok (.ireturn, 1) := by decide +kernel
theorem dX9_coefficient_0 : decode cX9_coefficient 0 = .ok (.iload_n 1, 1) := by decide +kernel
theorem dX9_coefficient_1 : decode cX9_coefficient 1 = .ok (.invokestatic 335, 3) := by decide +kernel
theorem dX9_coefficient_4 : decode cX9_coefficient 4 = .ok (.ifCond .eq 30, 3) := by decide +kernel
theorem dX9_coefficient_7 : decode cX9_coefficient 7 = .ok (.iload_n 3, 1) := by decide +kernel
theorem dX9_coefficient_8 : decode cX9_coefficient 8 = .ok (.iconst 0, 1) := by decide +kernel
theorem dX9_coefficient_9 : decode cX9_coefficient 9 = .ok (.iconst 1, 1) := by decide +kernel
theorem dX9_coefficient_10 : decode cX9_coefficient 10 = .ok (.invokestatic 129, 3) := by decide +kernel
theorem dX9_coefficient_13 : decode cX9_coefficient 13 = .ok (.ifCond .eq 21, 3) := by decide +kernel
theorem dX9_coefficient_16 : decode cX9_coefficient 16 = .ok (.aload_n 0, 1) := by decide +kernel
theorem dX9_coefficient_17 : decode cX9_coefficient 17 = .ok (.getfield 52, 3) := by decide +kernel
theorem dX9_coefficient_20 : decode cX9_coefficient 20 = .ok (.iload_n 1, 1) := by decide +kernel
theorem dX9_coefficient_21 : decode cX9_coefficient 21 = .ok (.baload, 1) := by decide +kernel
theorem dX9_coefficient_22 : decode cX9_coefficient 22 = .ok (.ifCond .eq 12, 3) := by decide +kernel
theorem dX9_coefficient_25 : decode cX9_coefficient 25 = .ok (.aload_n 0, 1) := by decide +kernel
theorem dX9_coefficient_26 : decode cX9_coefficient 26 = .ok (.iload_n 1, 1) := by decide +kernel
theorem dX9_coefficient_27 : decode cX9_coefficient 27 = .ok (.iload_n 2, 1) := by decide +kernel
theorem dX9_coefficient_28 : decode cX9_coefficient 28 = .ok (.invokevirtual 347, 3) := by decide +kernel
theorem dX9_coefficient_31 : decode cX9_coefficient 31 = .ok (.ifCond .ge 7, 3) := by decide +kernel
theorem dX9_coefficient_34 : decode cX9_coefficient 34 = .ok (.ldc2_w 166, 3) := by decide +kernel
theorem dX9_coefficient_37 : decode cX9_coefficient 37 = .ok (.lreturn, 1) := by decide +kernel
theorem dX9_coefficient_38 : decode cX9_coefficient 38 = .ok (.bipush 29, 2) := by decide +kernel
theorem dX9_coefficient_40 : decode cX9_coefficient 40 = .ok (.iload_n 1, 1) := by decide +kernel
theorem dX9_coefficient_41 : decode cX9_coefficient 41 = .ok (.imul, 1) := by decide +kernel
theorem dX9_coefficient_42 : decode cX9_coefficient 42 = .ok (.aload_n 0, 1) := by decide +kernel
theorem dX9_coefficient_43 : decode cX9_coefficient 43 = .ok (.iload_n 1, 1) := by decide +kernel
theorem dX9_coefficient_44 : decode cX9_coefficient 44 = .ok (.iload_n 2, 1) := by decide +kernel
theorem dX9_coefficient_45 : decode cX9_coefficient 45 = .ok (.invokevirtual 347, 3) := by decide +kernel
theorem dX9_coefficient_48 : decode cX9_coefficient 48 = .ok (.iadd, 1) := by decide +kernel
theorem dX9_coefficient_49 : decode cX9_coefficient 49 = .ok (.istore 4, 2) := by decide +kernel
theorem dX9_coefficient_51 : decode cX9_coefficient 51 = .ok (.iload_n 3, 1) := by decide +kernel
theorem dX9_coefficient_52 : decode cX9_coefficient 52 = .ok (.ifCond .ne 13, 3) := by decide +kernel
theorem dX9_coefficient_55 : decode cX9_coefficient 55 = .ok (.aload_n 0, 1) := by decide +kernel
theorem dX9_coefficient_56 : decode cX9_coefficient 56 = .ok (.getfield 59, 3) := by decide +kernel
theorem dX9_coefficient_59 : decode cX9_coefficient 59 = .ok (.iload 4, 2) := by decide +kernel
theorem dX9_coefficient_61 : decode cX9_coefficient 61 = .ok (.laload, 1) := by decide +kernel
theorem dX9_coefficient_62 : decode cX9_coefficient 62 = .ok (.goto 10, 3) := by decide +kernel
theorem dX9_coefficient_65 : decode cX9_coefficient 65 = .ok (.aload_n 0, 1) := by decide +kernel
theorem dX9_coefficient_66 : decode cX9_coefficient 66 = .ok (.getfield 63, 3) := by decide +kernel
theorem dX9_coefficient_69 : decode cX9_coefficient 69 = .ok (.iload 4, 2) := by decide +kernel
theorem dX9_coefficient_71 : decode cX9_coefficient 71 = .ok (.laload, 1) := by decide +kernel
theorem dX9_coefficient_72 : decode cX9_coefficient 72 = .ok (.lreturn, 1) := by decide +kernel
theorem dX9_makes_0 : decode cX9_makes 0 = .ok (.iload_n 1, 1) := by decide +kernel
theorem dX9_makes_1 : decode cX9_makes 1 = .ok (.invokestatic 335, 3) := by decide +kernel
theorem dX9_makes_4 : decode cX9_makes 4 = .ok (.ifCond .eq 27, 3) := by decide +kernel
theorem dX9_makes_7 : decode cX9_makes 7 = .ok (.iload_n 2, 1) := by decide +kernel
theorem dX9_makes_8 : decode cX9_makes 8 = .ok (.invokestatic 335, 3) := by decide +kernel
theorem dX9_makes_11 : decode cX9_makes 11 = .ok (.ifCond .eq 20, 3) := by decide +kernel
theorem dX9_makes_14 : decode cX9_makes 14 = .ok (.iload_n 3, 1) := by decide +kernel
theorem dX9_makes_15 : decode cX9_makes 15 = .ok (.iconst 0, 1) := by decide +kernel
theorem dX9_makes_16 : decode cX9_makes 16 = .ok (.iconst 2, 1) := by decide +kernel
theorem dX9_makes_17 : decode cX9_makes 17 = .ok (.invokestatic 129, 3) := by decide +kernel
theorem dX9_makes_20 : decode cX9_makes 20 = .ok (.ifCond .eq 11, 3) := by decide +kernel
theorem dX9_makes_23 : decode cX9_makes 23 = .ok (.iload 4, 2) := by decide +kernel
theorem dX9_makes_25 : decode cX9_makes 25 = .ok (.invokestatic 335, 3) := by decide +kernel
theorem dX9_makes_28 : decode cX9_makes 28 = .ok (.ifCond .ne 5, 3) := by decide +kernel
theorem dX9_makes_31 : decode cX9_makes 31 = .ok (.iconst (-1), 1) := by decide +kernel
theorem dX9_makes_32 : decode cX9_makes 32 = .ok (.ireturn, 1) := by decide +kernel
theorem dX9_makes_33 : decode cX9_makes 33 = .ok (.aload_n 0, 1) := by decide +kernel
theorem dX9_makes_34 : decode cX9_makes 34 = .ok (.getfield 52, 3) := by decide +kernel
theorem dX9_makes_37 : decode cX9_makes 37 = .ok (.iload_n 1, 1) := by decide +kernel
theorem dX9_makes_38 : decode cX9_makes 38 = .ok (.baload, 1) := by decide +kernel
theorem dX9_makes_39 : decode cX9_makes 39 = .ok (.ifCond .eq 12, 3) := by decide +kernel
theorem dX9_makes_42 : decode cX9_makes 42 = .ok (.aload_n 0, 1) := by decide +kernel
theorem dX9_makes_43 : decode cX9_makes 43 = .ok (.getfield 52, 3) := by decide +kernel
theorem dX9_makes_46 : decode cX9_makes 46 = .ok (.iload_n 2, 1) := by decide +kernel
theorem dX9_makes_47 : decode cX9_makes 47 = .ok (.baload, 1) := by decide +kernel
theorem dX9_makes_48 : decode cX9_makes 48 = .ok (.ifCond .ne 6, 3) := by decide +kernel
theorem dX9_makes_51 : decode cX9_makes 51 = .ok (.bipush (-3), 2) := by decide +kernel
theorem dX9_makes_53 : decode cX9_makes 53 = .ok (.ireturn, 1) := by decide +kernel
theorem dX9_makes_54 : decode cX9_makes 54 = .ok (.aload_n 0, 1) := by decide +kernel
theorem dX9_makes_55 : decode cX9_makes 55 = .ok (.iload_n 1, 1) := by decide +kernel
theorem dX9_makes_56 : decode cX9_makes 56 = .ok (.iload_n 2, 1) := by decide +kernel
theorem dX9_makes_57 : decode cX9_makes 57 = .ok (.invokevirtual 298, 3) := by decide +kernel
theorem dX9_makes_60 : decode cX9_makes 60 = .ok (.ifCond .eq 6, 3) := by decide +kernel
theorem dX9_makes_63 : decode cX9_makes 63 = .ok (.bipush (-2), 2) := by decide +kernel
theorem dX9_makes_65 : decode cX9_makes 65 = .ok (.ireturn, 1) := by decide +kernel
theorem dX9_makes_66 : decode cX9_makes 66 = .ok (.iload_n 3, 1) := by decide +kernel
theorem dX9_makes_67 : decode cX9_makes 67 = .ok (.iconst 2, 1) := by decide +kernel
theorem dX9_makes_68 : decode cX9_makes 68 = .ok (.if_icmp .ne 15, 3) := by decide +kernel
theorem dX9_makes_71 : decode cX9_makes 71 = .ok (.aload_n 0, 1) := by decide +kernel
theorem dX9_makes_72 : decode cX9_makes 72 = .ok (.iload_n 1, 1) := by decide +kernel
theorem dX9_makes_73 : decode cX9_makes 73 = .ok (.iload_n 2, 1) := by decide +kernel
theorem dX9_makes_74 : decode cX9_makes 74 = .ok (.invokevirtual 304, 3) := by decide +kernel
theorem dX9_makes_77 : decode cX9_makes 77 = .ok (.ifCond .eq 6, 3) := by decide +kernel
theorem dX9_makes_80 : decode cX9_makes 80 = .ok (.bipush (-4), 2) := by decide +kernel
theorem dX9_makes_82 : decode cX9_makes 82 = .ok (.ireturn, 1) := by decide +kernel
theorem dX9_makes_83 : decode cX9_makes 83 = .ok (.aload_n 0, 1) := by decide +kernel
theorem dX9_makes_84 : decode cX9_makes 84 = .ok (.iconst 0, 1) := by decide +kernel
theorem dX9_makes_85 : decode cX9_makes 85 = .ok (.putfield 168, 3) := by decide +kernel
theorem dX9_makes_88 : decode cX9_makes 88 = .ok (.iload_n 3, 1) := by decide +kernel
theorem dX9_makes_89 : decode cX9_makes 89 = .ok (.iconst 2, 1) := by decide +kernel
theorem dX9_makes_90 : decode cX9_makes 90 = .ok (.if_icmp .ne 14, 3) := by decide +kernel
theorem dX9_makes_93 : decode cX9_makes 93 = .ok (.aload_n 0, 1) := by decide +kernel
theorem dX9_makes_94 : decode cX9_makes 94 = .ok (.iload_n 1, 1) := by decide +kernel
theorem dX9_makes_95 : decode cX9_makes 95 = .ok (.iload_n 2, 1) := by decide +kernel
theorem dX9_makes_96 : decode cX9_makes 96 = .ok (.bipush 13, 2) := by decide +kernel
theorem dX9_makes_98 : decode cX9_makes 98 = .ok (.invokevirtual 307, 3) := by decide +kernel
theorem dX9_makes_101 : decode cX9_makes 101 = .ok (.goto 23, 3) := by decide +kernel
theorem dX9_makes_104 : decode cX9_makes 104 = .ok (.aload_n 0, 1) := by decide +kernel
theorem dX9_makes_105 : decode cX9_makes 105 = .ok (.iload_n 1, 1) := by decide +kernel
theorem dX9_makes_106 : decode cX9_makes 106 = .ok (.iload_n 2, 1) := by decide +kernel
theorem dX9_makes_107 : decode cX9_makes 107 = .ok (.iload_n 3, 1) := by decide +kernel
theorem dX9_makes_108 : decode cX9_makes 108 = .ok (.iconst 1, 1) := by decide +kernel
theorem dX9_makes_109 : decode cX9_makes 109 = .ok (.if_icmp .ne 9, 3) := by decide +kernel
theorem dX9_makes_112 : decode cX9_makes 112 = .ok (.ldc2_w 164, 3) := by decide +kernel
theorem dX9_makes_115 : decode cX9_makes 115 = .ok (.goto 4, 3) := by decide +kernel
theorem dX9_makes_118 : decode cX9_makes 118 = .ok (.lconst 1, 1) := by decide +kernel
theorem dX9_makes_119 : decode cX9_makes 119 = .ok (.bipush 13, 2) := by decide +kernel
theorem dX9_makes_121 : decode cX9_makes 121 = .ok (.invokevirtual 310, 3) := by decide +kernel
theorem dX9_makes_124 : decode cX9_makes 124 = .ok (.aload_n 0, 1) := by decide +kernel
theorem dX9_makes_125 : decode cX9_makes 125 = .ok (.getfield 168, 3) := by decide +kernel
theorem dX9_makes_128 : decode cX9_makes 128 = .ok (.ifCond .eq 6, 3) := by decide +kernel
theorem dX9_makes_131 : decode cX9_makes 131 = .ok (.bipush (-6), 2) := by decide +kernel
theorem dX9_makes_133 : decode cX9_makes 133 = .ok (.ireturn, 1) := by decide +kernel
theorem dX9_makes_134 : decode cX9_makes 134 = .ok (.aload_n 0, 1) := by decide +kernel
theorem dX9_makes_135 : decode cX9_makes 135 = .ok (.bipush 13, 2) := by decide +kernel
theorem dX9_makes_137 : decode cX9_makes 137 = .ok (.iload 4, 2) := by decide +kernel
theorem dX9_makes_139 : decode cX9_makes 139 = .ok (.invokevirtual 182, 3) := by decide +kernel
theorem dX9_makes_142 : decode cX9_makes 142 = .ok (.aload_n 0, 1) := by decide +kernel
theorem dX9_makes_143 : decode cX9_makes 143 = .ok (.getfield 52, 3) := by decide +kernel
theorem dX9_makes_146 : decode cX9_makes 146 = .ok (.iload 4, 2) := by decide +kernel
theorem dX9_makes_148 : decode cX9_makes 148 = .ok (.iconst 1, 1) := by decide +kernel
theorem dX9_makes_149 : decode cX9_makes 149 = .ok (.bastore, 1) := by decide +kernel
theorem dX9_makes_150 : decode cX9_makes 150 = .ok (.aload_n 0, 1) := by decide +kernel
theorem dX9_makes_151 : decode cX9_makes 151 = .ok (.iload 4, 2) := by decide +kernel
theorem dX9_makes_153 : decode cX9_makes 153 = .ok (.invokevirtual 196, 3) := by decide +kernel
theorem dX9_makes_156 : decode cX9_makes 156 = .ok (.ireturn, 1) := by decide +kernel
theorem dX9_lift_0 : decode cX9_lift 0 = .ok (.iload_n 1, 1) := by decide +kernel
theorem dX9_lift_1 : decode cX9_lift 1 = .ok (.invokestatic 335, 3) := by decide +kernel
theorem dX9_lift_4 : decode cX9_lift 4 = .ok (.ifCond .eq 12, 3) := by decide +kernel
theorem dX9_lift_7 : decode cX9_lift 7 = .ok (.iload_n 2, 1) := by decide +kernel
theorem dX9_lift_8 : decode cX9_lift 8 = .ok (.iconst 0, 1) := by decide +kernel
theorem dX9_lift_9 : decode cX9_lift 9 = .ok (.iconst 4, 1) := by decide +kernel
theorem dX9_lift_10 : decode cX9_lift 10 = .ok (.invokestatic 129, 3) := by decide +kernel
theorem dX9_lift_13 : decode cX9_lift 13 = .ok (.ifCond .ne 5, 3) := by decide +kernel
theorem dX9_lift_16 : decode cX9_lift 16 = .ok (.iconst (-1), 1) := by decide +kernel
theorem dX9_lift_17 : decode cX9_lift 17 = .ok (.ireturn, 1) := by decide +kernel
theorem dX9_lift_18 : decode cX9_lift 18 = .ok (.aload_n 0, 1) := by decide +kernel
theorem dX9_lift_19 : decode cX9_lift 19 = .ok (.getfield 52, 3) := by decide +kernel
theorem dX9_lift_22 : decode cX9_lift 22 = .ok (.iload_n 1, 1) := by decide +kernel
theorem dX9_lift_23 : decode cX9_lift 23 = .ok (.baload, 1) := by decide +kernel
theorem dX9_lift_24 : decode cX9_lift 24 = .ok (.ifCond .ne 6, 3) := by decide +kernel
theorem dX9_lift_27 : decode cX9_lift 27 = .ok (.bipush (-3), 2) := by decide +kernel
theorem dX9_lift_29 : decode cX9_lift 29 = .ok (.ireturn, 1) := by decide +kernel
theorem dX9_lift_30 : decode cX9_lift 30 = .ok (.aload_n 0, 1) := by decide +kernel
theorem dX9_lift_31 : decode cX9_lift 31 = .ok (.iload_n 1, 1) := by decide +kernel
theorem dX9_lift_32 : decode cX9_lift 32 = .ok (.invokevirtual 344, 3) := by decide +kernel
theorem dX9_lift_35 : decode cX9_lift 35 = .ok (.iload_n 2, 1) := by decide +kernel
theorem dX9_lift_36 : decode cX9_lift 36 = .ok (.if_icmp .le 6, 3) := by decide +kernel
theorem dX9_lift_39 : decode cX9_lift 39 = .ok (.bipush (-2), 2) := by decide +kernel
theorem dX9_lift_41 : decode cX9_lift 41 = .ok (.ireturn, 1) := by decide +kernel
theorem dX9_lift_42 : decode cX9_lift 42 = .ok (.aload_n 0, 1) := by decide +kernel
theorem dX9_lift_43 : decode cX9_lift 43 = .ok (.iconst 0, 1) := by decide +kernel
theorem dX9_lift_44 : decode cX9_lift 44 = .ok (.putfield 168, 3) := by decide +kernel
theorem dX9_lift_47 : decode cX9_lift 47 = .ok (.aload_n 0, 1) := by decide +kernel
theorem dX9_lift_48 : decode cX9_lift 48 = .ok (.iload_n 1, 1) := by decide +kernel
theorem dX9_lift_49 : decode cX9_lift 49 = .ok (.iload_n 2, 1) := by decide +kernel
theorem dX9_lift_50 : decode cX9_lift 50 = .ok (.bipush 13, 2) := by decide +kernel
theorem dX9_lift_52 : decode cX9_lift 52 = .ok (.invokevirtual 350, 3) := by decide +kernel
theorem dX9_lift_55 : decode cX9_lift 55 = .ok (.aload_n 0, 1) := by decide +kernel
theorem dX9_lift_56 : decode cX9_lift 56 = .ok (.getfield 168, 3) := by decide +kernel
theorem dX9_lift_59 : decode cX9_lift 59 = .ok (.ifCond .eq 6, 3) := by decide +kernel
theorem dX9_lift_62 : decode cX9_lift 62 = .ok (.bipush (-6), 2) := by decide +kernel
theorem dX9_lift_64 : decode cX9_lift 64 = .ok (.ireturn, 1) := by decide +kernel
theorem dX9_lift_65 : decode cX9_lift 65 = .ok (.aload_n 0, 1) := by decide +kernel
theorem dX9_lift_66 : decode cX9_lift 66 = .ok (.bipush 13, 2) := by decide +kernel
theorem dX9_lift_68 : decode cX9_lift 68 = .ok (.iload_n 1, 1) := by decide +kernel
theorem dX9_lift_69 : decode cX9_lift 69 = .ok (.invokevirtual 182, 3) := by decide +kernel
theorem dX9_lift_72 : decode cX9_lift 72 = .ok (.aload_n 0, 1) := by decide +kernel
theorem dX9_lift_73 : decode cX9_lift 73 = .ok (.iload_n 1, 1) := by decide +kernel
theorem dX9_lift_74 : decode cX9_lift 74 = .ok (.invokevirtual 196, 3) := by decide +kernel
theorem dX9_lift_77 : decode cX9_lift 77 = .ok (.ireturn, 1) := by decide +kernel
theorem dX9_average_0 : decode cX9_average 0 = .ok (.iload_n 1, 1) := by decide +kernel
theorem dX9_average_1 : decode cX9_average 1 = .ok (.invokestatic 335, 3) := by decide +kernel
theorem dX9_average_4 : decode cX9_average 4 = .ok (.ifCond .ne 5, 3) := by decide +kernel
theorem dX9_average_7 : decode cX9_average 7 = .ok (.iconst (-1), 1) := by decide +kernel
theorem dX9_average_8 : decode cX9_average 8 = .ok (.ireturn, 1) := by decide +kernel
theorem dX9_average_9 : decode cX9_average 9 = .ok (.aload_n 0, 1) := by decide +kernel
theorem dX9_average_10 : decode cX9_average 10 = .ok (.getfield 52, 3) := by decide +kernel
theorem dX9_average_13 : decode cX9_average 13 = .ok (.iload_n 1, 1) := by decide +kernel
theorem dX9_average_14 : decode cX9_average 14 = .ok (.baload, 1) := by decide +kernel
theorem dX9_average_15 : decode cX9_average 15 = .ok (.ifCond .ne 6, 3) := by decide +kernel
theorem dX9_average_18 : decode cX9_average 18 = .ok (.bipush (-3), 2) := by decide +kernel
theorem dX9_average_20 : decode cX9_average 20 = .ok (.ireturn, 1) := by decide +kernel
theorem dX9_average_21 : decode cX9_average 21 = .ok (.aload_n 0, 1) := by decide +kernel
theorem dX9_average_22 : decode cX9_average 22 = .ok (.getfield 56, 3) := by decide +kernel
theorem dX9_average_25 : decode cX9_average 25 = .ok (.iload_n 1, 1) := by decide +kernel
theorem dX9_average_26 : decode cX9_average 26 = .ok (.iaload, 1) := by decide +kernel
theorem dX9_average_27 : decode cX9_average 27 = .ok (.ifCond .ne 6, 3) := by decide +kernel
theorem dX9_average_30 : decode cX9_average 30 = .ok (.bipush (-2), 2) := by decide +kernel
theorem dX9_average_32 : decode cX9_average 32 = .ok (.ireturn, 1) := by decide +kernel
theorem dX9_average_33 : decode cX9_average 33 = .ok (.aload_n 0, 1) := by decide +kernel
theorem dX9_average_34 : decode cX9_average 34 = .ok (.iconst 0, 1) := by decide +kernel
theorem dX9_average_35 : decode cX9_average 35 = .ok (.putfield 168, 3) := by decide +kernel
theorem dX9_average_38 : decode cX9_average 38 = .ok (.aload_n 0, 1) := by decide +kernel
theorem dX9_average_39 : decode cX9_average 39 = .ok (.iload_n 1, 1) := by decide +kernel
theorem dX9_average_40 : decode cX9_average 40 = .ok (.bipush 13, 2) := by decide +kernel
theorem dX9_average_42 : decode cX9_average 42 = .ok (.invokevirtual 317, 3) := by decide +kernel
theorem dX9_average_45 : decode cX9_average 45 = .ok (.aload_n 0, 1) := by decide +kernel
theorem dX9_average_46 : decode cX9_average 46 = .ok (.getfield 168, 3) := by decide +kernel
theorem dX9_average_49 : decode cX9_average 49 = .ok (.ifCond .eq 6, 3) := by decide +kernel
theorem dX9_average_52 : decode cX9_average 52 = .ok (.bipush (-6), 2) := by decide +kernel
theorem dX9_average_54 : decode cX9_average 54 = .ok (.ireturn, 1) := by decide +kernel
theorem dX9_average_55 : decode cX9_average 55 = .ok (.aload_n 0, 1) := by decide +kernel
theorem dX9_average_56 : decode cX9_average 56 = .ok (.bipush 13, 2) := by decide +kernel
theorem dX9_average_58 : decode cX9_average 58 = .ok (.iload_n 1, 1) := by decide +kernel
theorem dX9_average_59 : decode cX9_average 59 = .ok (.invokevirtual 182, 3) := by decide +kernel
theorem dX9_average_62 : decode cX9_average 62 = .ok (.aload_n 0, 1) := by decide +kernel
theorem dX9_average_63 : decode cX9_average 63 = .ok (.iload_n 1, 1) := by decide +kernel
theorem dX9_average_64 : decode cX9_average 64 = .ok (.invokevirtual 196, 3) := by decide +kernel
theorem dX9_average_67 : decode cX9_average 67 = .ok (.ireturn, 1) := by decide +kernel
theorem dX9_isLess_0 : decode cX9_isLess 0 = .ok (.lload_n 0, 1) := by decide +kernel
theorem dX9_isLess_1 : decode cX9_isLess 1 = .ok (.lstore 8, 2) := by decide +kernel
theorem dX9_isLess_3 : decode cX9_isLess 3 = .ok (.lload_n 2, 1) := by decide +kernel
theorem dX9_isLess_4 : decode cX9_isLess 4 = .ok (.lstore 10, 2) := by decide +kernel
theorem dX9_isLess_6 : decode cX9_isLess 6 = .ok (.lload 4, 2) := by decide +kernel
theorem dX9_isLess_8 : decode cX9_isLess 8 = .ok (.lstore 12, 2) := by decide +kernel
theorem dX9_isLess_10 : decode cX9_isLess 10 = .ok (.lload 6, 2) := by decide +kernel
theorem dX9_isLess_12 : decode cX9_isLess 12 = .ok (.lstore 14, 2) := by decide +kernel
theorem dX9_isLess_14 : decode cX9_isLess 14 = .ok (.iconst 0, 1) := by decide +kernel
theorem dX9_isLess_15 : decode cX9_isLess 15 = .ok (.istore 16, 2) := by decide +kernel
theorem dX9_isLess_17 : decode cX9_isLess 17 = .ok (.lload 8, 2) := by decide +kernel
theorem dX9_isLess_19 : decode cX9_isLess 19 = .ok (.lload 10, 2) := by decide +kernel
theorem dX9_isLess_21 : decode cX9_isLess 21 = .ok (.invokestatic 353, 3) := by decide +kernel
theorem dX9_isLess_24 : decode cX9_isLess 24 = .ok (.lstore 17, 2) := by decide +kernel
theorem dX9_isLess_26 : decode cX9_isLess 26 = .ok (.lload 12, 2) := by decide +kernel
theorem dX9_isLess_28 : decode cX9_isLess 28 = .ok (.lload 14, 2) := by decide +kernel
theorem dX9_isLess_30 : decode cX9_isLess 30 = .ok (.invokestatic 353, 3) := by decide +kernel
theorem dX9_isLess_33 : decode cX9_isLess 33 = .ok (.lstore 19, 2) := by decide +kernel
theorem dX9_isLess_35 : decode cX9_isLess 35 = .ok (.lload 17, 2) := by decide +kernel
theorem dX9_isLess_37 : decode cX9_isLess 37 = .ok (.lload 19, 2) := by decide +kernel
theorem dX9_isLess_39 : decode cX9_isLess 39 = .ok (.lcmp, 1) := by decide +kernel
theorem dX9_isLess_40 : decode cX9_isLess 40 = .ok (.ifCond .eq 27, 3) := by decide +kernel
theorem dX9_isLess_43 : decode cX9_isLess 43 = .ok (.lload 17, 2) := by decide +kernel
theorem dX9_isLess_45 : decode cX9_isLess 45 = .ok (.lload 19, 2) := by decide +kernel
theorem dX9_isLess_47 : decode cX9_isLess 47 = .ok (.lcmp, 1) := by decide +kernel
theorem dX9_isLess_48 : decode cX9_isLess 48 = .ok (.ifCond .ge 7, 3) := by decide +kernel
theorem dX9_isLess_51 : decode cX9_isLess 51 = .ok (.iconst 1, 1) := by decide +kernel
theorem dX9_isLess_52 : decode cX9_isLess 52 = .ok (.goto 4, 3) := by decide +kernel
theorem dX9_isLess_55 : decode cX9_isLess 55 = .ok (.iconst 0, 1) := by decide +kernel
theorem dX9_isLess_56 : decode cX9_isLess 56 = .ok (.iload 16, 2) := by decide +kernel
theorem dX9_isLess_58 : decode cX9_isLess 58 = .ok (.if_icmp .eq 7, 3) := by decide +kernel
theorem dX9_isLess_61 : decode cX9_isLess 61 = .ok (.iconst 1, 1) := by decide +kernel
theorem dX9_isLess_62 : decode cX9_isLess 62 = .ok (.goto 4, 3) := by decide +kernel
theorem dX9_isLess_65 : decode cX9_isLess 65 = .ok (.iconst 0, 1) := by decide +kernel
theorem dX9_isLess_66 : decode cX9_isLess 66 = .ok (.ireturn, 1) := by decide +kernel
theorem dX9_isLess_67 : decode cX9_isLess 67 = .ok (.lload 8, 2) := by decide +kernel
theorem dX9_isLess_69 : decode cX9_isLess 69 = .ok (.lload 17, 2) := by decide +kernel
theorem dX9_isLess_71 : decode cX9_isLess 71 = .ok (.lload 10, 2) := by decide +kernel
theorem dX9_isLess_73 : decode cX9_isLess 73 = .ok (.lmul, 1) := by decide +kernel
theorem dX9_isLess_74 : decode cX9_isLess 74 = .ok (.lsub, 1) := by decide +kernel
theorem dX9_isLess_75 : decode cX9_isLess 75 = .ok (.lstore 21, 2) := by decide +kernel
theorem dX9_isLess_77 : decode cX9_isLess 77 = .ok (.lload 12, 2) := by decide +kernel
theorem dX9_isLess_79 : decode cX9_isLess 79 = .ok (.lload 19, 2) := by decide +kernel
theorem dX9_isLess_81 : decode cX9_isLess 81 = .ok (.lload 14, 2) := by decide +kernel
theorem dX9_isLess_83 : decode cX9_isLess 83 = .ok (.lmul, 1) := by decide +kernel
theorem dX9_isLess_84 : decode cX9_isLess 84 = .ok (.lsub, 1) := by decide +kernel
theorem dX9_isLess_85 : decode cX9_isLess 85 = .ok (.lstore 23, 2) := by decide +kernel
theorem dX9_isLess_87 : decode cX9_isLess 87 = .ok (.lload 21, 2) := by decide +kernel
theorem dX9_isLess_89 : decode cX9_isLess 89 = .ok (.lconst 0, 1) := by decide +kernel
theorem dX9_isLess_90 : decode cX9_isLess 90 = .ok (.lcmp, 1) := by decide +kernel
theorem dX9_isLess_91 : decode cX9_isLess 91 = .ok (.ifCond .eq 10, 3) := by decide +kernel
theorem dX9_isLess_94 : decode cX9_isLess 94 = .ok (.lload 23, 2) := by decide +kernel
theorem dX9_isLess_96 : decode cX9_isLess 96 = .ok (.lconst 0, 1) := by decide +kernel
theorem dX9_isLess_97 : decode cX9_isLess 97 = .ok (.lcmp, 1) := by decide +kernel
theorem dX9_isLess_98 : decode cX9_isLess 98 = .ok (.ifCond .ne 50, 3) := by decide +kernel
theorem dX9_isLess_101 : decode cX9_isLess 101 = .ok (.iload 16, 2) := by decide +kernel
theorem dX9_isLess_103 : decode cX9_isLess 103 = .ok (.ifCond .eq 25, 3) := by decide +kernel
theorem dX9_isLess_106 : decode cX9_isLess 106 = .ok (.lload 21, 2) := by decide +kernel
theorem dX9_isLess_108 : decode cX9_isLess 108 = .ok (.lconst 0, 1) := by decide +kernel
theorem dX9_isLess_109 : decode cX9_isLess 109 = .ok (.lcmp, 1) := by decide +kernel
theorem dX9_isLess_110 : decode cX9_isLess 110 = .ok (.ifCond .eq 14, 3) := by decide +kernel
theorem dX9_isLess_113 : decode cX9_isLess 113 = .ok (.lload 23, 2) := by decide +kernel
theorem dX9_isLess_115 : decode cX9_isLess 115 = .ok (.lconst 0, 1) := by decide +kernel
theorem dX9_isLess_116 : decode cX9_isLess 116 = .ok (.lcmp, 1) := by decide +kernel
theorem dX9_isLess_117 : decode cX9_isLess 117 = .ok (.ifCond .ne 7, 3) := by decide +kernel
theorem dX9_isLess_120 : decode cX9_isLess 120 = .ok (.iconst 1, 1) := by decide +kernel
theorem dX9_isLess_121 : decode cX9_isLess 121 = .ok (.goto 26, 3) := by decide +kernel
theorem dX9_isLess_124 : decode cX9_isLess 124 = .ok (.iconst 0, 1) := by decide +kernel
theorem dX9_isLess_125 : decode cX9_isLess 125 = .ok (.goto 22, 3) := by decide +kernel
theorem dX9_isLess_128 : decode cX9_isLess 128 = .ok (.lload 21, 2) := by decide +kernel
theorem dX9_isLess_130 : decode cX9_isLess 130 = .ok (.lconst 0, 1) := by decide +kernel
theorem dX9_isLess_131 : decode cX9_isLess 131 = .ok (.lcmp, 1) := by decide +kernel
theorem dX9_isLess_132 : decode cX9_isLess 132 = .ok (.ifCond .ne 14, 3) := by decide +kernel
theorem dX9_isLess_135 : decode cX9_isLess 135 = .ok (.lload 23, 2) := by decide +kernel
theorem dX9_isLess_137 : decode cX9_isLess 137 = .ok (.lconst 0, 1) := by decide +kernel
theorem dX9_isLess_138 : decode cX9_isLess 138 = .ok (.lcmp, 1) := by decide +kernel
theorem dX9_isLess_139 : decode cX9_isLess 139 = .ok (.ifCond .eq 7, 3) := by decide +kernel
theorem dX9_isLess_142 : decode cX9_isLess 142 = .ok (.iconst 1, 1) := by decide +kernel
theorem dX9_isLess_143 : decode cX9_isLess 143 = .ok (.goto 4, 3) := by decide +kernel
theorem dX9_isLess_146 : decode cX9_isLess 146 = .ok (.iconst 0, 1) := by decide +kernel
theorem dX9_isLess_147 : decode cX9_isLess 147 = .ok (.ireturn, 1) := by decide +kernel
theorem dX9_isLess_148 : decode cX9_isLess 148 = .ok (.lload 10, 2) := by decide +kernel
theorem dX9_isLess_150 : decode cX9_isLess 150 = .ok (.lstore 8, 2) := by decide +kernel
theorem dX9_isLess_152 : decode cX9_isLess 152 = .ok (.lload 21, 2) := by decide +kernel
theorem dX9_isLess_154 : decode cX9_isLess 154 = .ok (.lstore 10, 2) := by decide +kernel
theorem dX9_isLess_156 : decode cX9_isLess 156 = .ok (.lload 14, 2) := by decide +kernel
theorem dX9_isLess_158 : decode cX9_isLess 158 = .ok (.lstore 12, 2) := by decide +kernel
theorem dX9_isLess_160 : decode cX9_isLess 160 = .ok (.lload 23, 2) := by decide +kernel
theorem dX9_isLess_162 : decode cX9_isLess 162 = .ok (.lstore 14, 2) := by decide +kernel
theorem dX9_isLess_164 : decode cX9_isLess 164 = .ok (.iload 16, 2) := by decide +kernel
theorem dX9_isLess_166 : decode cX9_isLess 166 = .ok (.ifCond .ne 7, 3) := by decide +kernel
theorem dX9_isLess_169 : decode cX9_isLess 169 = .ok (.iconst 1, 1) := by decide +kernel
theorem dX9_isLess_170 : decode cX9_isLess 170 = .ok (.goto 4, 3) := by decide +kernel
theorem dX9_isLess_173 : decode cX9_isLess 173 = .ok (.iconst 0, 1) := by decide +kernel
theorem dX9_isLess_174 : decode cX9_isLess 174 = .ok (.istore 16, 2) := by decide +kernel
theorem dX9_isLess_176 : decode cX9_isLess 176 = .ok (.goto (-159), 3) := by decide +kernel
theorem dX9_bound_0 : decode cX9_bound 0 = .ok (.iload_n 1, 1) := by decide +kernel
theorem dX9_bound_1 : decode cX9_bound 1 = .ok (.invokestatic 335, 3) := by decide +kernel
theorem dX9_bound_4 : decode cX9_bound 4 = .ok (.ifCond .eq 59, 3) := by decide +kernel
theorem dX9_bound_7 : decode cX9_bound 7 = .ok (.iload_n 2, 1) := by decide +kernel
theorem dX9_bound_8 : decode cX9_bound 8 = .ok (.iconst 0, 1) := by decide +kernel
theorem dX9_bound_9 : decode cX9_bound 9 = .ok (.iconst 4, 1) := by decide +kernel
theorem dX9_bound_10 : decode cX9_bound 10 = .ok (.invokestatic 129, 3) := by decide +kernel
theorem dX9_bound_13 : decode cX9_bound 13 = .ok (.ifCond .eq 50, 3) := by decide +kernel
theorem dX9_bound_16 : decode cX9_bound 16 = .ok (.iload_n 3, 1) := by decide +kernel
theorem dX9_bound_17 : decode cX9_bound 17 = .ok (.iconst 0, 1) := by decide +kernel
theorem dX9_bound_18 : decode cX9_bound 18 = .ok (.iconst 1, 1) := by decide +kernel
theorem dX9_bound_19 : decode cX9_bound 19 = .ok (.invokestatic 129, 3) := by decide +kernel
theorem dX9_bound_22 : decode cX9_bound 22 = .ok (.ifCond .eq 41, 3) := by decide +kernel
theorem dX9_bound_25 : decode cX9_bound 25 = .ok (.iload 4, 2) := by decide +kernel
theorem dX9_bound_27 : decode cX9_bound 27 = .ok (.iconst 0, 1) := by decide +kernel
theorem dX9_bound_28 : decode cX9_bound 28 = .ok (.iconst 1, 1) := by decide +kernel
theorem dX9_bound_29 : decode cX9_bound 29 = .ok (.invokestatic 129, 3) := by decide +kernel
theorem dX9_bound_32 : decode cX9_bound 32 = .ok (.ifCond .eq 31, 3) := by decide +kernel
theorem dX9_bound_35 : decode cX9_bound 35 = .ok (.aload_n 0, 1) := by decide +kernel
theorem dX9_bound_36 : decode cX9_bound 36 = .ok (.getfield 52, 3) := by decide +kernel
theorem dX9_bound_39 : decode cX9_bound 39 = .ok (.iload_n 1, 1) := by decide +kernel
theorem dX9_bound_40 : decode cX9_bound 40 = .ok (.baload, 1) := by decide +kernel
theorem dX9_bound_41 : decode cX9_bound 41 = .ok (.ifCond .eq 22, 3) := by decide +kernel
theorem dX9_bound_44 : decode cX9_bound 44 = .ok (.aload_n 0, 1) := by decide +kernel
theorem dX9_bound_45 : decode cX9_bound 45 = .ok (.getfield 56, 3) := by decide +kernel
theorem dX9_bound_48 : decode cX9_bound 48 = .ok (.iload_n 1, 1) := by decide +kernel
theorem dX9_bound_49 : decode cX9_bound 49 = .ok (.iaload, 1) := by decide +kernel
theorem dX9_bound_50 : decode cX9_bound 50 = .ok (.iconst 1, 1) := by decide +kernel
theorem dX9_bound_51 : decode cX9_bound 51 = .ok (.if_icmp .eq 12, 3) := by decide +kernel
theorem dX9_bound_54 : decode cX9_bound 54 = .ok (.aload_n 0, 1) := by decide +kernel
theorem dX9_bound_55 : decode cX9_bound 55 = .ok (.iload_n 1, 1) := by decide +kernel
theorem dX9_bound_56 : decode cX9_bound 56 = .ok (.invokevirtual 344, 3) := by decide +kernel
theorem dX9_bound_59 : decode cX9_bound 59 = .ok (.iload_n 2, 1) := by decide +kernel
theorem dX9_bound_60 : decode cX9_bound 60 = .ok (.if_icmp .le 7, 3) := by decide +kernel
theorem dX9_bound_63 : decode cX9_bound 63 = .ok (.ldc2_w 166, 3) := by decide +kernel
theorem dX9_bound_66 : decode cX9_bound 66 = .ok (.lreturn, 1) := by decide +kernel
theorem dX9_bound_67 : decode cX9_bound 67 = .ok (.aload_n 0, 1) := by decide +kernel
theorem dX9_bound_68 : decode cX9_bound 68 = .ok (.iconst 0, 1) := by decide +kernel
theorem dX9_bound_69 : decode cX9_bound 69 = .ok (.putfield 168, 3) := by decide +kernel
theorem dX9_bound_72 : decode cX9_bound 72 = .ok (.aload_n 0, 1) := by decide +kernel
theorem dX9_bound_73 : decode cX9_bound 73 = .ok (.iload_n 1, 1) := by decide +kernel
theorem dX9_bound_74 : decode cX9_bound 74 = .ok (.iload_n 2, 1) := by decide +kernel
theorem dX9_bound_75 : decode cX9_bound 75 = .ok (.bipush 13, 2) := by decide +kernel
theorem dX9_bound_77 : decode cX9_bound 77 = .ok (.invokevirtual 350, 3) := by decide +kernel
theorem dX9_bound_80 : decode cX9_bound 80 = .ok (.aload_n 0, 1) := by decide +kernel
theorem dX9_bound_81 : decode cX9_bound 81 = .ok (.getfield 168, 3) := by decide +kernel
theorem dX9_bound_84 : decode cX9_bound 84 = .ok (.ifCond .eq 7, 3) := by decide +kernel
theorem dX9_bound_87 : decode cX9_bound 87 = .ok (.ldc2_w 166, 3) := by decide +kernel
theorem dX9_bound_90 : decode cX9_bound 90 = .ok (.lreturn, 1) := by decide +kernel
theorem dX9_bound_91 : decode cX9_bound 91 = .ok (.iconst (-1), 1) := by decide +kernel
theorem dX9_bound_92 : decode cX9_bound 92 = .ok (.istore 5, 2) := by decide +kernel
theorem dX9_bound_94 : decode cX9_bound 94 = .ok (.iconst 0, 1) := by decide +kernel
theorem dX9_bound_95 : decode cX9_bound 95 = .ok (.istore 6, 2) := by decide +kernel
theorem dX9_bound_97 : decode cX9_bound 97 = .ok (.iload 6, 2) := by decide +kernel
theorem dX9_bound_99 : decode cX9_bound 99 = .ok (.bipush 19, 2) := by decide +kernel
theorem dX9_bound_101 : decode cX9_bound 101 = .ok (.if_icmp .ge 164, 3) := by decide +kernel
theorem dX9_bound_104 : decode cX9_bound 104 = .ok (.sipush 377, 3) := by decide +kernel
theorem dX9_bound_107 : decode cX9_bound 107 = .ok (.iload 6, 2) := by decide +kernel
theorem dX9_bound_109 : decode cX9_bound 109 = .ok (.iadd, 1) := by decide +kernel
theorem dX9_bound_110 : decode cX9_bound 110 = .ok (.istore 7, 2) := by decide +kernel
theorem dX9_bound_112 : decode cX9_bound 112 = .ok (.aload_n 0, 1) := by decide +kernel
theorem dX9_bound_113 : decode cX9_bound 113 = .ok (.getfield 28, 3) := by decide +kernel
theorem dX9_bound_116 : decode cX9_bound 116 = .ok (.iload 6, 2) := by decide +kernel
theorem dX9_bound_118 : decode cX9_bound 118 = .ok (.iaload, 1) := by decide +kernel
theorem dX9_bound_119 : decode cX9_bound 119 = .ok (.iload_n 2, 1) := by decide +kernel
theorem dX9_bound_120 : decode cX9_bound 120 = .ok (.if_icmp .ne 139, 3) := by decide +kernel
theorem dX9_bound_123 : decode cX9_bound 123 = .ok (.sipush 377, 3) := by decide +kernel
theorem dX9_bound_126 : decode cX9_bound 126 = .ok (.iload 5, 2) := by decide +kernel
theorem dX9_bound_128 : decode cX9_bound 128 = .ok (.iadd, 1) := by decide +kernel
theorem dX9_bound_129 : decode cX9_bound 129 = .ok (.istore 8, 2) := by decide +kernel
theorem dX9_bound_131 : decode cX9_bound 131 = .ok (.iload 5, 2) := by decide +kernel
theorem dX9_bound_133 : decode cX9_bound 133 = .ok (.iconst (-1), 1) := by decide +kernel
theorem dX9_bound_134 : decode cX9_bound 134 = .ok (.if_icmp .ne 7, 3) := by decide +kernel
theorem dX9_bound_137 : decode cX9_bound 137 = .ok (.iconst 1, 1) := by decide +kernel
theorem dX9_bound_138 : decode cX9_bound 138 = .ok (.goto 4, 3) := by decide +kernel
theorem dX9_bound_141 : decode cX9_bound 141 = .ok (.iconst 0, 1) := by decide +kernel
theorem dX9_bound_142 : decode cX9_bound 142 = .ok (.istore 9, 2) := by decide +kernel
theorem dX9_bound_144 : decode cX9_bound 144 = .ok (.iload 9, 2) := by decide +kernel
theorem dX9_bound_146 : decode cX9_bound 146 = .ok (.ifCond .ne 41, 3) := by decide +kernel
theorem dX9_bound_149 : decode cX9_bound 149 = .ok (.iload_n 3, 1) := by decide +kernel
theorem dX9_bound_150 : decode cX9_bound 150 = .ok (.ifCond .ne 41, 3) := by decide +kernel
theorem dX9_bound_153 : decode cX9_bound 153 = .ok (.aload_n 0, 1) := by decide +kernel
theorem dX9_bound_154 : decode cX9_bound 154 = .ok (.getfield 59, 3) := by decide +kernel
theorem dX9_bound_157 : decode cX9_bound 157 = .ok (.iload 7, 2) := by decide +kernel
theorem dX9_bound_159 : decode cX9_bound 159 = .ok (.laload, 1) := by decide +kernel
theorem dX9_bound_160 : decode cX9_bound 160 = .ok (.aload_n 0, 1) := by decide +kernel
theorem dX9_bound_161 : decode cX9_bound 161 = .ok (.getfield 63, 3) := by decide +kernel
theorem dX9_bound_164 : decode cX9_bound 164 = .ok (.iload 7, 2) := by decide +kernel
theorem dX9_bound_166 : decode cX9_bound 166 = .ok (.laload, 1) := by decide +kernel
theorem dX9_bound_167 : decode cX9_bound 167 = .ok (.aload_n 0, 1) := by decide +kernel
theorem dX9_bound_168 : decode cX9_bound 168 = .ok (.getfield 59, 3) := by decide +kernel
theorem dX9_bound_171 : decode cX9_bound 171 = .ok (.iload 8, 2) := by decide +kernel
theorem dX9_bound_173 : decode cX9_bound 173 = .ok (.laload, 1) := by decide +kernel
theorem dX9_bound_174 : decode cX9_bound 174 = .ok (.aload_n 0, 1) := by decide +kernel
theorem dX9_bound_175 : decode cX9_bound 175 = .ok (.getfield 63, 3) := by decide +kernel
theorem dX9_bound_178 : decode cX9_bound 178 = .ok (.iload 8, 2) := by decide +kernel
theorem dX9_bound_180 : decode cX9_bound 180 = .ok (.laload, 1) := by decide +kernel
theorem dX9_bound_181 : decode cX9_bound 181 = .ok (.invokestatic 358, 3) := by decide +kernel
theorem dX9_bound_184 : decode cX9_bound 184 = .ok (.ifCond .eq 7, 3) := by decide +kernel
theorem dX9_bound_187 : decode cX9_bound 187 = .ok (.iconst 1, 1) := by decide +kernel
theorem dX9_bound_188 : decode cX9_bound 188 = .ok (.goto 4, 3) := by decide +kernel
theorem dX9_bound_191 : decode cX9_bound 191 = .ok (.iconst 0, 1) := by decide +kernel
theorem dX9_bound_192 : decode cX9_bound 192 = .ok (.istore 9, 2) := by decide +kernel
theorem dX9_bound_194 : decode cX9_bound 194 = .ok (.iload 9, 2) := by decide +kernel
theorem dX9_bound_196 : decode cX9_bound 196 = .ok (.ifCond .ne 42, 3) := by decide +kernel
theorem dX9_bound_199 : decode cX9_bound 199 = .ok (.iload_n 3, 1) := by decide +kernel
theorem dX9_bound_200 : decode cX9_bound 200 = .ok (.iconst 1, 1) := by decide +kernel
theorem dX9_bound_201 : decode cX9_bound 201 = .ok (.if_icmp .ne 41, 3) := by decide +kernel
theorem dX9_bound_204 : decode cX9_bound 204 = .ok (.aload_n 0, 1) := by decide +kernel
theorem dX9_bound_205 : decode cX9_bound 205 = .ok (.getfield 59, 3) := by decide +kernel
theorem dX9_bound_208 : decode cX9_bound 208 = .ok (.iload 8, 2) := by decide +kernel
theorem dX9_bound_210 : decode cX9_bound 210 = .ok (.laload, 1) := by decide +kernel
theorem dX9_bound_211 : decode cX9_bound 211 = .ok (.aload_n 0, 1) := by decide +kernel
theorem dX9_bound_212 : decode cX9_bound 212 = .ok (.getfield 63, 3) := by decide +kernel
theorem dX9_bound_215 : decode cX9_bound 215 = .ok (.iload 8, 2) := by decide +kernel
theorem dX9_bound_217 : decode cX9_bound 217 = .ok (.laload, 1) := by decide +kernel
theorem dX9_bound_218 : decode cX9_bound 218 = .ok (.aload_n 0, 1) := by decide +kernel
theorem dX9_bound_219 : decode cX9_bound 219 = .ok (.getfield 59, 3) := by decide +kernel
theorem dX9_bound_222 : decode cX9_bound 222 = .ok (.iload 7, 2) := by decide +kernel
theorem dX9_bound_224 : decode cX9_bound 224 = .ok (.laload, 1) := by decide +kernel
theorem dX9_bound_225 : decode cX9_bound 225 = .ok (.aload_n 0, 1) := by decide +kernel
theorem dX9_bound_226 : decode cX9_bound 226 = .ok (.getfield 63, 3) := by decide +kernel
theorem dX9_bound_229 : decode cX9_bound 229 = .ok (.iload 7, 2) := by decide +kernel
theorem dX9_bound_231 : decode cX9_bound 231 = .ok (.laload, 1) := by decide +kernel
theorem dX9_bound_232 : decode cX9_bound 232 = .ok (.invokestatic 358, 3) := by decide +kernel
theorem dX9_bound_235 : decode cX9_bound 235 = .ok (.ifCond .eq 7, 3) := by decide +kernel
theorem dX9_bound_238 : decode cX9_bound 238 = .ok (.iconst 1, 1) := by decide +kernel
theorem dX9_bound_239 : decode cX9_bound 239 = .ok (.goto 4, 3) := by decide +kernel
theorem dX9_bound_242 : decode cX9_bound 242 = .ok (.iconst 0, 1) := by decide +kernel
theorem dX9_bound_243 : decode cX9_bound 243 = .ok (.istore 9, 2) := by decide +kernel
theorem dX9_bound_245 : decode cX9_bound 245 = .ok (.iload 9, 2) := by decide +kernel
theorem dX9_bound_247 : decode cX9_bound 247 = .ok (.ifCond .eq 8, 3) := by decide +kernel
theorem dX9_bound_250 : decode cX9_bound 250 = .ok (.iload 6, 2) := by decide +kernel
theorem dX9_bound_252 : decode cX9_bound 252 = .ok (.goto 5, 3) := by decide +kernel
theorem dX9_bound_255 : decode cX9_bound 255 = .ok (.iload 5, 2) := by decide +kernel
theorem dX9_bound_257 : decode cX9_bound 257 = .ok (.istore 5, 2) := by decide +kernel
theorem dX9_bound_259 : decode cX9_bound 259 = .ok (.iinc 6 1, 3) := by decide +kernel
theorem dX9_bound_262 : decode cX9_bound 262 = .ok (.goto (-165), 3) := by decide +kernel
theorem dX9_bound_265 : decode cX9_bound 265 = .ok (.iload 4, 2) := by decide +kernel
theorem dX9_bound_267 : decode cX9_bound 267 = .ok (.ifCond .ne 17, 3) := by decide +kernel
theorem dX9_bound_270 : decode cX9_bound 270 = .ok (.aload_n 0, 1) := by decide +kernel
theorem dX9_bound_271 : decode cX9_bound 271 = .ok (.getfield 59, 3) := by decide +kernel
theorem dX9_bound_274 : decode cX9_bound 274 = .ok (.sipush 377, 3) := by decide +kernel
theorem dX9_bound_277 : decode cX9_bound 277 = .ok (.iload 5, 2) := by decide +kernel
theorem dX9_bound_279 : decode cX9_bound 279 = .ok (.iadd, 1) := by decide +kernel
theorem dX9_bound_280 : decode cX9_bound 280 = .ok (.laload, 1) := by decide +kernel
theorem dX9_bound_281 : decode cX9_bound 281 = .ok (.goto 14, 3) := by decide +kernel
theorem dX9_bound_284 : decode cX9_bound 284 = .ok (.aload_n 0, 1) := by decide +kernel
theorem dX9_bound_285 : decode cX9_bound 285 = .ok (.getfield 63, 3) := by decide +kernel
theorem dX9_bound_288 : decode cX9_bound 288 = .ok (.sipush 377, 3) := by decide +kernel
theorem dX9_bound_291 : decode cX9_bound 291 = .ok (.iload 5, 2) := by decide +kernel
theorem dX9_bound_293 : decode cX9_bound 293 = .ok (.iadd, 1) := by decide +kernel
theorem dX9_bound_294 : decode cX9_bound 294 = .ok (.laload, 1) := by decide +kernel
theorem dX9_bound_295 : decode cX9_bound 295 = .ok (.lreturn, 1) := by decide +kernel
theorem dX9_isValued_0 : decode cX9_isValued 0 = .ok (.aload_n 0, 1) := by decide +kernel
theorem dX9_isValued_1 : decode cX9_isValued 1 = .ok (.iconst 0, 1) := by decide +kernel
theorem dX9_isValued_2 : decode cX9_isValued 2 = .ok (.putfield 168, 3) := by decide +kernel
theorem dX9_isValued_5 : decode cX9_isValued 5 = .ok (.aload_n 0, 1) := by decide +kernel
theorem dX9_isValued_6 : decode cX9_isValued 6 = .ok (.bipush 13, 2) := by decide +kernel
theorem dX9_isValued_8 : decode cX9_isValued 8 = .ok (.invokevirtual 210, 3) := by decide +kernel
theorem dX9_isValued_11 : decode cX9_isValued 11 = .ok (.aload_n 0, 1) := by decide +kernel
theorem dX9_isValued_12 : decode cX9_isValued 12 = .ok (.invokevirtual 241, 3) := by decide +kernel
theorem dX9_isValued_15 : decode cX9_isValued 15 = .ok (.iconst 0, 1) := by decide +kernel
theorem dX9_isValued_16 : decode cX9_isValued 16 = .ok (.istore_n 3, 1) := by decide +kernel
theorem dX9_isValued_17 : decode cX9_isValued 17 = .ok (.iload_n 3, 1) := by decide +kernel
theorem dX9_isValued_18 : decode cX9_isValued 18 = .ok (.bipush 29, 2) := by decide +kernel
theorem dX9_isValued_20 : decode cX9_isValued 20 = .ok (.if_icmp .ge 85, 3) := by decide +kernel
theorem dX9_isValued_23 : decode cX9_isValued 23 = .ok (.aload_n 0, 1) := by decide +kernel
theorem dX9_isValued_24 : decode cX9_isValued 24 = .ok (.iload_n 1, 1) := by decide +kernel
theorem dX9_isValued_25 : decode cX9_isValued 25 = .ok (.iload_n 3, 1) := by decide +kernel
theorem dX9_isValued_26 : decode cX9_isValued 26 = .ok (.invokevirtual 179, 3) := by decide +kernel
theorem dX9_isValued_29 : decode cX9_isValued 29 = .ok (.ifCond .eq 70, 3) := by decide +kernel
theorem dX9_isValued_32 : decode cX9_isValued 32 = .ok (.aload_n 0, 1) := by decide +kernel
theorem dX9_isValued_33 : decode cX9_isValued 33 = .ok (.getfield 168, 3) := by decide +kernel
theorem dX9_isValued_36 : decode cX9_isValued 36 = .ok (.ifCond .ne 63, 3) := by decide +kernel
theorem dX9_isValued_39 : decode cX9_isValued 39 = .ok (.aload_n 0, 1) := by decide +kernel
theorem dX9_isValued_40 : decode cX9_isValued 40 = .ok (.iload_n 3, 1) := by decide +kernel
theorem dX9_isValued_41 : decode cX9_isValued 41 = .ok (.aload_n 0, 1) := by decide +kernel
theorem dX9_isValued_42 : decode cX9_isValued 42 = .ok (.iload_n 1, 1) := by decide +kernel
theorem dX9_isValued_43 : decode cX9_isValued 43 = .ok (.iload_n 3, 1) := by decide +kernel
theorem dX9_isValued_44 : decode cX9_isValued 44 = .ok (.invokevirtual 341, 3) := by decide +kernel
theorem dX9_isValued_47 : decode cX9_isValued 47 = .ok (.iload_n 2, 1) := by decide +kernel
theorem dX9_isValued_48 : decode cX9_isValued 48 = .ok (.invokevirtual 217, 3) := by decide +kernel
theorem dX9_isValued_51 : decode cX9_isValued 51 = .ok (.aload_n 0, 1) := by decide +kernel
theorem dX9_isValued_52 : decode cX9_isValued 52 = .ok (.aload_n 0, 1) := by decide +kernel
theorem dX9_isValued_53 : decode cX9_isValued 53 = .ok (.getfield 59, 3) := by decide +kernel
theorem dX9_isValued_56 : decode cX9_isValued 56 = .ok (.bipush 29, 2) := by decide +kernel
theorem dX9_isValued_58 : decode cX9_isValued 58 = .ok (.iload_n 1, 1) := by decide +kernel
theorem dX9_isValued_59 : decode cX9_isValued 59 = .ok (.imul, 1) := by decide +kernel
theorem dX9_isValued_60 : decode cX9_isValued 60 = .ok (.iload_n 3, 1) := by decide +kernel
theorem dX9_isValued_61 : decode cX9_isValued 61 = .ok (.iadd, 1) := by decide +kernel
theorem dX9_isValued_62 : decode cX9_isValued 62 = .ok (.laload, 1) := by decide +kernel
theorem dX9_isValued_63 : decode cX9_isValued 63 = .ok (.aload_n 0, 1) := by decide +kernel
theorem dX9_isValued_64 : decode cX9_isValued 64 = .ok (.getfield 63, 3) := by decide +kernel
theorem dX9_isValued_67 : decode cX9_isValued 67 = .ok (.bipush 29, 2) := by decide +kernel
theorem dX9_isValued_69 : decode cX9_isValued 69 = .ok (.iload_n 1, 1) := by decide +kernel
theorem dX9_isValued_70 : decode cX9_isValued 70 = .ok (.imul, 1) := by decide +kernel
theorem dX9_isValued_71 : decode cX9_isValued 71 = .ok (.iload_n 3, 1) := by decide +kernel
theorem dX9_isValued_72 : decode cX9_isValued 72 = .ok (.iadd, 1) := by decide +kernel
theorem dX9_isValued_73 : decode cX9_isValued 73 = .ok (.laload, 1) := by decide +kernel
theorem dX9_isValued_74 : decode cX9_isValued 74 = .ok (.aload_n 0, 1) := by decide +kernel
theorem dX9_isValued_75 : decode cX9_isValued 75 = .ok (.getfield 150, 3) := by decide +kernel
theorem dX9_isValued_78 : decode cX9_isValued 78 = .ok (.aload_n 0, 1) := by decide +kernel
theorem dX9_isValued_79 : decode cX9_isValued 79 = .ok (.getfield 154, 3) := by decide +kernel
theorem dX9_isValued_82 : decode cX9_isValued 82 = .ok (.invokevirtual 186, 3) := by decide +kernel
theorem dX9_isValued_85 : decode cX9_isValued 85 = .ok (.aload_n 0, 1) := by decide +kernel
theorem dX9_isValued_86 : decode cX9_isValued 86 = .ok (.getfield 168, 3) := by decide +kernel
theorem dX9_isValued_89 : decode cX9_isValued 89 = .ok (.ifCond .ne 10, 3) := by decide +kernel
theorem dX9_isValued_92 : decode cX9_isValued 92 = .ok (.aload_n 0, 1) := by decide +kernel
theorem dX9_isValued_93 : decode cX9_isValued 93 = .ok (.bipush 13, 2) := by decide +kernel
theorem dX9_isValued_95 : decode cX9_isValued 95 = .ok (.iconst 0, 1) := by decide +kernel
theorem dX9_isValued_96 : decode cX9_isValued 96 = .ok (.invokevirtual 189, 3) := by decide +kernel
theorem dX9_isValued_99 : decode cX9_isValued 99 = .ok (.iinc 3 1, 3) := by decide +kernel
theorem dX9_isValued_102 : decode cX9_isValued 102 = .ok (.goto (-85), 3) := by decide +kernel
theorem dX9_isValued_105 : decode cX9_isValued 105 = .ok (.aload_n 0, 1) := by decide +kernel
theorem dX9_isValued_106 : decode cX9_isValued 106 = .ok (.getfield 168, 3) := by decide +kernel
theorem dX9_isValued_109 : decode cX9_isValued 109 = .ok (.ifCond .ne 7, 3) := by decide +kernel
theorem dX9_isValued_112 : decode cX9_isValued 112 = .ok (.iconst 1, 1) := by decide +kernel
theorem dX9_isValued_113 : decode cX9_isValued 113 = .ok (.goto 4, 3) := by decide +kernel
theorem dX9_isValued_116 : decode cX9_isValued 116 = .ok (.iconst 0, 1) := by decide +kernel
theorem dX9_isValued_117 : decode cX9_isValued 117 = .ok (.ireturn, 1) := by decide +kernel
theorem dX9_value_0 : decode cX9_value 0 = .ok (.iload_n 1, 1) := by decide +kernel
theorem dX9_value_1 : decode cX9_value 1 = .ok (.invokestatic 335, 3) := by decide +kernel
theorem dX9_value_4 : decode cX9_value 4 = .ok (.ifCond .eq 52, 3) := by decide +kernel
theorem dX9_value_7 : decode cX9_value 7 = .ok (.iload_n 2, 1) := by decide +kernel
theorem dX9_value_8 : decode cX9_value 8 = .ok (.iconst 0, 1) := by decide +kernel
theorem dX9_value_9 : decode cX9_value 9 = .ok (.iconst 1, 1) := by decide +kernel
theorem dX9_value_10 : decode cX9_value 10 = .ok (.invokestatic 129, 3) := by decide +kernel
theorem dX9_value_13 : decode cX9_value 13 = .ok (.ifCond .eq 43, 3) := by decide +kernel
theorem dX9_value_16 : decode cX9_value 16 = .ok (.aload_n 0, 1) := by decide +kernel
theorem dX9_value_17 : decode cX9_value 17 = .ok (.getfield 52, 3) := by decide +kernel
theorem dX9_value_20 : decode cX9_value 20 = .ok (.iload_n 1, 1) := by decide +kernel
theorem dX9_value_21 : decode cX9_value 21 = .ok (.baload, 1) := by decide +kernel
theorem dX9_value_22 : decode cX9_value 22 = .ok (.ifCond .eq 34, 3) := by decide +kernel
theorem dX9_value_25 : decode cX9_value 25 = .ok (.aload_n 0, 1) := by decide +kernel
theorem dX9_value_26 : decode cX9_value 26 = .ok (.getfield 56, 3) := by decide +kernel
theorem dX9_value_29 : decode cX9_value 29 = .ok (.iload_n 1, 1) := by decide +kernel
theorem dX9_value_30 : decode cX9_value 30 = .ok (.iaload, 1) := by decide +kernel
theorem dX9_value_31 : decode cX9_value 31 = .ok (.iconst 1, 1) := by decide +kernel
theorem dX9_value_32 : decode cX9_value 32 = .ok (.if_icmp .eq 24, 3) := by decide +kernel
theorem dX9_value_35 : decode cX9_value 35 = .ok (.aload_n 0, 1) := by decide +kernel
theorem dX9_value_36 : decode cX9_value 36 = .ok (.iload_n 1, 1) := by decide +kernel
theorem dX9_value_37 : decode cX9_value 37 = .ok (.invokevirtual 344, 3) := by decide +kernel
theorem dX9_value_40 : decode cX9_value 40 = .ok (.aload_n 0, 1) := by decide +kernel
theorem dX9_value_41 : decode cX9_value 41 = .ok (.getfield 137, 3) := by decide +kernel
theorem dX9_value_44 : decode cX9_value 44 = .ok (.if_icmp .gt 12, 3) := by decide +kernel
theorem dX9_value_47 : decode cX9_value 47 = .ok (.aload_n 0, 1) := by decide +kernel
theorem dX9_value_48 : decode cX9_value 48 = .ok (.iload_n 1, 1) := by decide +kernel
theorem dX9_value_49 : decode cX9_value 49 = .ok (.iconst (-1), 1) := by decide +kernel
theorem dX9_value_50 : decode cX9_value 50 = .ok (.invokevirtual 362, 3) := by decide +kernel
theorem dX9_value_53 : decode cX9_value 53 = .ok (.ifCond .ne 7, 3) := by decide +kernel
theorem dX9_value_56 : decode cX9_value 56 = .ok (.ldc2_w 166, 3) := by decide +kernel
theorem dX9_value_59 : decode cX9_value 59 = .ok (.lreturn, 1) := by decide +kernel
theorem dX9_value_60 : decode cX9_value 60 = .ok (.iload_n 2, 1) := by decide +kernel
theorem dX9_value_61 : decode cX9_value 61 = .ok (.ifCond .ne 14, 3) := by decide +kernel
theorem dX9_value_64 : decode cX9_value 64 = .ok (.aload_n 0, 1) := by decide +kernel
theorem dX9_value_65 : decode cX9_value 65 = .ok (.getfield 59, 3) := by decide +kernel
theorem dX9_value_68 : decode cX9_value 68 = .ok (.sipush 377, 3) := by decide +kernel
theorem dX9_value_71 : decode cX9_value 71 = .ok (.laload, 1) := by decide +kernel
theorem dX9_value_72 : decode cX9_value 72 = .ok (.goto 11, 3) := by decide +kernel
theorem dX9_value_75 : decode cX9_value 75 = .ok (.aload_n 0, 1) := by decide +kernel
theorem dX9_value_76 : decode cX9_value 76 = .ok (.getfield 63, 3) := by decide +kernel
theorem dX9_value_79 : decode cX9_value 79 = .ok (.sipush 377, 3) := by decide +kernel
theorem dX9_value_82 : decode cX9_value 82 = .ok (.laload, 1) := by decide +kernel
theorem dX9_value_83 : decode cX9_value 83 = .ok (.lreturn, 1) := by decide +kernel
theorem dX9_valueAt_0 : decode cX9_valueAt 0 = .ok (.iload_n 1, 1) := by decide +kernel
theorem dX9_valueAt_1 : decode cX9_valueAt 1 = .ok (.invokestatic 335, 3) := by decide +kernel
theorem dX9_valueAt_4 : decode cX9_valueAt 4 = .ok (.ifCond .eq 59, 3) := by decide +kernel
theorem dX9_valueAt_7 : decode cX9_valueAt 7 = .ok (.aload_n 0, 1) := by decide +kernel
theorem dX9_valueAt_8 : decode cX9_valueAt 8 = .ok (.iload_n 2, 1) := by decide +kernel
theorem dX9_valueAt_9 : decode cX9_valueAt 9 = .ok (.invokevirtual 238, 3) := by decide +kernel
theorem dX9_valueAt_12 : decode cX9_valueAt 12 = .ok (.ifCond .eq 51, 3) := by decide +kernel
theorem dX9_valueAt_15 : decode cX9_valueAt 15 = .ok (.iload_n 3, 1) := by decide +kernel
theorem dX9_valueAt_16 : decode cX9_valueAt 16 = .ok (.iconst 0, 1) := by decide +kernel
theorem dX9_valueAt_17 : decode cX9_valueAt 17 = .ok (.iconst 1, 1) := by decide +kernel
theorem dX9_valueAt_18 : decode cX9_valueAt 18 = .ok (.invokestatic 129, 3) := by decide +kernel
theorem dX9_valueAt_21 : decode cX9_valueAt 21 = .ok (.ifCond .eq 42, 3) := by decide +kernel
theorem dX9_valueAt_24 : decode cX9_valueAt 24 = .ok (.aload_n 0, 1) := by decide +kernel
theorem dX9_valueAt_25 : decode cX9_valueAt 25 = .ok (.getfield 52, 3) := by decide +kernel
theorem dX9_valueAt_28 : decode cX9_valueAt 28 = .ok (.iload_n 1, 1) := by decide +kernel
theorem dX9_valueAt_29 : decode cX9_valueAt 29 = .ok (.baload, 1) := by decide +kernel
theorem dX9_valueAt_30 : decode cX9_valueAt 30 = .ok (.ifCond .eq 33, 3) := by decide +kernel
theorem dX9_valueAt_33 : decode cX9_valueAt 33 = .ok (.aload_n 0, 1) := by decide +kernel
theorem dX9_valueAt_34 : decode cX9_valueAt 34 = .ok (.getfield 56, 3) := by decide +kernel
theorem dX9_valueAt_37 : decode cX9_valueAt 37 = .ok (.iload_n 1, 1) := by decide +kernel
theorem dX9_valueAt_38 : decode cX9_valueAt 38 = .ok (.iaload, 1) := by decide +kernel
theorem dX9_valueAt_39 : decode cX9_valueAt 39 = .ok (.ifCond .eq 24, 3) := by decide +kernel
theorem dX9_valueAt_42 : decode cX9_valueAt 42 = .ok (.aload_n 0, 1) := by decide +kernel
theorem dX9_valueAt_43 : decode cX9_valueAt 43 = .ok (.iload_n 1, 1) := by decide +kernel
theorem dX9_valueAt_44 : decode cX9_valueAt 44 = .ok (.invokevirtual 344, 3) := by decide +kernel
theorem dX9_valueAt_47 : decode cX9_valueAt 47 = .ok (.aload_n 0, 1) := by decide +kernel
theorem dX9_valueAt_48 : decode cX9_valueAt 48 = .ok (.getfield 137, 3) := by decide +kernel
theorem dX9_valueAt_51 : decode cX9_valueAt 51 = .ok (.if_icmp .gt 12, 3) := by decide +kernel
theorem dX9_valueAt_54 : decode cX9_valueAt 54 = .ok (.aload_n 0, 1) := by decide +kernel
theorem dX9_valueAt_55 : decode cX9_valueAt 55 = .ok (.iload_n 1, 1) := by decide +kernel
theorem dX9_valueAt_56 : decode cX9_valueAt 56 = .ok (.iload_n 2, 1) := by decide +kernel
theorem dX9_valueAt_57 : decode cX9_valueAt 57 = .ok (.invokevirtual 362, 3) := by decide +kernel
theorem dX9_valueAt_60 : decode cX9_valueAt 60 = .ok (.ifCond .ne 7, 3) := by decide +kernel
theorem dX9_valueAt_63 : decode cX9_valueAt 63 = .ok (.ldc2_w 166, 3) := by decide +kernel
theorem dX9_valueAt_66 : decode cX9_valueAt 66 = .ok (.lreturn, 1) := by decide +kernel
theorem dX9_valueAt_67 : decode cX9_valueAt 67 = .ok (.iload_n 3, 1) := by decide +kernel
theorem dX9_valueAt_68 : decode cX9_valueAt 68 = .ok (.ifCond .ne 14, 3) := by decide +kernel
theorem dX9_valueAt_71 : decode cX9_valueAt 71 = .ok (.aload_n 0, 1) := by decide +kernel
theorem dX9_valueAt_72 : decode cX9_valueAt 72 = .ok (.getfield 59, 3) := by decide +kernel
theorem dX9_valueAt_75 : decode cX9_valueAt 75 = .ok (.sipush 377, 3) := by decide +kernel
theorem dX9_valueAt_78 : decode cX9_valueAt 78 = .ok (.laload, 1) := by decide +kernel
theorem dX9_valueAt_79 : decode cX9_valueAt 79 = .ok (.goto 11, 3) := by decide +kernel
theorem dX9_valueAt_82 : decode cX9_valueAt 82 = .ok (.aload_n 0, 1) := by decide +kernel
theorem dX9_valueAt_83 : decode cX9_valueAt 83 = .ok (.getfield 63, 3) := by decide +kernel
theorem dX9_valueAt_86 : decode cX9_valueAt 86 = .ok (.sipush 377, 3) := by decide +kernel
theorem dX9_valueAt_89 : decode cX9_valueAt 89 = .ok (.laload, 1) := by decide +kernel
theorem dX9_valueAt_90 : decode cX9_valueAt 90 = .ok (.lreturn, 1) := by decide +kernel
theorem dX9_move_0 : decode cX9_move 0 = .ok (.iload_n 1, 1) := by decide +kernel
theorem dX9_move_1 : decode cX9_move 1 = .ok (.invokestatic 335, 3) := by decide +kernel
theorem dX9_move_4 : decode cX9_move 4 = .ok (.ifCond .eq 10, 3) := by decide +kernel
theorem dX9_move_7 : decode cX9_move 7 = .ok (.iload_n 2, 1) := by decide +kernel
theorem dX9_move_8 : decode cX9_move 8 = .ok (.invokestatic 335, 3) := by decide +kernel
theorem dX9_move_11 : decode cX9_move 11 = .ok (.ifCond .ne 5, 3) := by decide +kernel
theorem dX9_move_14 : decode cX9_move 14 = .ok (.iconst (-1), 1) := by decide +kernel
theorem dX9_move_15 : decode cX9_move 15 = .ok (.ireturn, 1) := by decide +kernel
theorem dX9_move_16 : decode cX9_move 16 = .ok (.aload_n 0, 1) := by decide +kernel
theorem dX9_move_17 : decode cX9_move 17 = .ok (.iload_n 1, 1) := by decide +kernel
theorem dX9_move_18 : decode cX9_move 18 = .ok (.iload_n 2, 1) := by decide +kernel
theorem dX9_move_19 : decode cX9_move 19 = .ok (.invokevirtual 182, 3) := by decide +kernel
theorem dX9_move_22 : decode cX9_move 22 = .ok (.aload_n 0, 1) := by decide +kernel
theorem dX9_move_23 : decode cX9_move 23 = .ok (.getfield 52, 3) := by decide +kernel
theorem dX9_move_26 : decode cX9_move 26 = .ok (.iload_n 2, 1) := by decide +kernel
theorem dX9_move_27 : decode cX9_move 27 = .ok (.aload_n 0, 1) := by decide +kernel
theorem dX9_move_28 : decode cX9_move 28 = .ok (.getfield 52, 3) := by decide +kernel
theorem dX9_move_31 : decode cX9_move 31 = .ok (.iload_n 1, 1) := by decide +kernel
theorem dX9_move_32 : decode cX9_move 32 = .ok (.baload, 1) := by decide +kernel
theorem dX9_move_33 : decode cX9_move 33 = .ok (.bastore, 1) := by decide +kernel
theorem dX9_move_34 : decode cX9_move 34 = .ok (.aload_n 0, 1) := by decide +kernel
theorem dX9_move_35 : decode cX9_move 35 = .ok (.iload_n 2, 1) := by decide +kernel
theorem dX9_move_36 : decode cX9_move 36 = .ok (.invokevirtual 338, 3) := by decide +kernel
theorem dX9_move_39 : decode cX9_move 39 = .ok (.ireturn, 1) := by decide +kernel
theorem dX9_film_0 : decode cX9_film 0 = .ok (.iload_n 1, 1) := by decide +kernel
theorem dX9_film_1 : decode cX9_film 1 = .ok (.invokestatic 335, 3) := by decide +kernel
theorem dX9_film_4 : decode cX9_film 4 = .ok (.ifCond .eq 12, 3) := by decide +kernel
theorem dX9_film_7 : decode cX9_film 7 = .ok (.iload_n 2, 1) := by decide +kernel
theorem dX9_film_8 : decode cX9_film 8 = .ok (.iconst 0, 1) := by decide +kernel
theorem dX9_film_9 : decode cX9_film 9 = .ok (.iconst 4, 1) := by decide +kernel
theorem dX9_film_10 : decode cX9_film 10 = .ok (.invokestatic 129, 3) := by decide +kernel
theorem dX9_film_13 : decode cX9_film 13 = .ok (.ifCond .ne 5, 3) := by decide +kernel
theorem dX9_film_16 : decode cX9_film 16 = .ok (.iconst (-1), 1) := by decide +kernel
theorem dX9_film_17 : decode cX9_film 17 = .ok (.ireturn, 1) := by decide +kernel
theorem dX9_film_18 : decode cX9_film 18 = .ok (.aload_n 0, 1) := by decide +kernel
theorem dX9_film_19 : decode cX9_film 19 = .ok (.getfield 137, 3) := by decide +kernel
theorem dX9_film_22 : decode cX9_film 22 = .ok (.iload_n 2, 1) := by decide +kernel
theorem dX9_film_23 : decode cX9_film 23 = .ok (.if_icmp .ge 6, 3) := by decide +kernel
theorem dX9_film_26 : decode cX9_film 26 = .ok (.bipush (-3), 2) := by decide +kernel
theorem dX9_film_28 : decode cX9_film 28 = .ok (.ireturn, 1) := by decide +kernel
theorem dX9_film_29 : decode cX9_film 29 = .ok (.aload_n 0, 1) := by decide +kernel
theorem dX9_film_30 : decode cX9_film 30 = .ok (.iload_n 1, 1) := by decide +kernel
theorem dX9_film_31 : decode cX9_film 31 = .ok (.invokevirtual 210, 3) := by decide +kernel
theorem dX9_film_34 : decode cX9_film 34 = .ok (.aload_n 0, 1) := by decide +kernel
theorem dX9_film_35 : decode cX9_film 35 = .ok (.getfield 56, 3) := by decide +kernel
theorem dX9_film_38 : decode cX9_film 38 = .ok (.iload_n 1, 1) := by decide +kernel
theorem dX9_film_39 : decode cX9_film 39 = .ok (.iconst 0, 1) := by decide +kernel
theorem dX9_film_40 : decode cX9_film 40 = .ok (.iastore, 1) := by decide +kernel
theorem dX9_film_41 : decode cX9_film 41 = .ok (.aload_n 0, 1) := by decide +kernel
theorem dX9_film_42 : decode cX9_film 42 = .ok (.getfield 52, 3) := by decide +kernel
theorem dX9_film_45 : decode cX9_film 45 = .ok (.iload_n 1, 1) := by decide +kernel
theorem dX9_film_46 : decode cX9_film 46 = .ok (.iconst 1, 1) := by decide +kernel
theorem dX9_film_47 : decode cX9_film 47 = .ok (.bastore, 1) := by decide +kernel
theorem dX9_film_48 : decode cX9_film 48 = .ok (.aload_n 0, 1) := by decide +kernel
theorem dX9_film_49 : decode cX9_film 49 = .ok (.iload_n 2, 1) := by decide +kernel
theorem dX9_film_50 : decode cX9_film 50 = .ok (.invokevirtual 250, 3) := by decide +kernel
theorem dX9_film_53 : decode cX9_film 53 = .ok (.istore_n 3, 1) := by decide +kernel
theorem dX9_film_54 : decode cX9_film 54 = .ok (.iconst 0, 1) := by decide +kernel
theorem dX9_film_55 : decode cX9_film 55 = .ok (.istore 4, 2) := by decide +kernel
theorem dX9_film_57 : decode cX9_film 57 = .ok (.iload 4, 2) := by decide +kernel
theorem dX9_film_59 : decode cX9_film 59 = .ok (.iload_n 3, 1) := by decide +kernel
theorem dX9_film_60 : decode cX9_film 60 = .ok (.if_icmp .ge 64, 3) := by decide +kernel
theorem dX9_film_63 : decode cX9_film 63 = .ok (.aload_n 0, 1) := by decide +kernel
theorem dX9_film_64 : decode cX9_film 64 = .ok (.aload_n 0, 1) := by decide +kernel
theorem dX9_film_65 : decode cX9_film 65 = .ok (.getfield 93, 3) := by decide +kernel
theorem dX9_film_68 : decode cX9_film 68 = .ok (.iload 4, 2) := by decide +kernel
theorem dX9_film_70 : decode cX9_film 70 = .ok (.iaload, 1) := by decide +kernel
theorem dX9_film_71 : decode cX9_film 71 = .ok (.iload_n 2, 1) := by decide +kernel
theorem dX9_film_72 : decode cX9_film 72 = .ok (.iconst (-1), 1) := by decide +kernel
theorem dX9_film_73 : decode cX9_film 73 = .ok (.invokevirtual 217, 3) := by decide +kernel
theorem dX9_film_76 : decode cX9_film 76 = .ok (.aload_n 0, 1) := by decide +kernel
theorem dX9_film_77 : decode cX9_film 77 = .ok (.getfield 59, 3) := by decide +kernel
theorem dX9_film_80 : decode cX9_film 80 = .ok (.bipush 29, 2) := by decide +kernel
theorem dX9_film_82 : decode cX9_film 82 = .ok (.iload_n 1, 1) := by decide +kernel
theorem dX9_film_83 : decode cX9_film 83 = .ok (.imul, 1) := by decide +kernel
theorem dX9_film_84 : decode cX9_film 84 = .ok (.aload_n 0, 1) := by decide +kernel
theorem dX9_film_85 : decode cX9_film 85 = .ok (.getfield 93, 3) := by decide +kernel
theorem dX9_film_88 : decode cX9_film 88 = .ok (.iload 4, 2) := by decide +kernel
theorem dX9_film_90 : decode cX9_film 90 = .ok (.iaload, 1) := by decide +kernel
theorem dX9_film_91 : decode cX9_film 91 = .ok (.iadd, 1) := by decide +kernel
theorem dX9_film_92 : decode cX9_film 92 = .ok (.aload_n 0, 1) := by decide +kernel
theorem dX9_film_93 : decode cX9_film 93 = .ok (.getfield 150, 3) := by decide +kernel
theorem dX9_film_96 : decode cX9_film 96 = .ok (.lastore, 1) := by decide +kernel
theorem dX9_film_97 : decode cX9_film 97 = .ok (.aload_n 0, 1) := by decide +kernel
theorem dX9_film_98 : decode cX9_film 98 = .ok (.getfield 63, 3) := by decide +kernel
theorem dX9_film_101 : decode cX9_film 101 = .ok (.bipush 29, 2) := by decide +kernel
theorem dX9_film_103 : decode cX9_film 103 = .ok (.iload_n 1, 1) := by decide +kernel
theorem dX9_film_104 : decode cX9_film 104 = .ok (.imul, 1) := by decide +kernel
theorem dX9_film_105 : decode cX9_film 105 = .ok (.aload_n 0, 1) := by decide +kernel
theorem dX9_film_106 : decode cX9_film 106 = .ok (.getfield 93, 3) := by decide +kernel
theorem dX9_film_109 : decode cX9_film 109 = .ok (.iload 4, 2) := by decide +kernel
theorem dX9_film_111 : decode cX9_film 111 = .ok (.iaload, 1) := by decide +kernel
theorem dX9_film_112 : decode cX9_film 112 = .ok (.iadd, 1) := by decide +kernel
theorem dX9_film_113 : decode cX9_film 113 = .ok (.aload_n 0, 1) := by decide +kernel
theorem dX9_film_114 : decode cX9_film 114 = .ok (.getfield 154, 3) := by decide +kernel
theorem dX9_film_117 : decode cX9_film 117 = .ok (.lastore, 1) := by decide +kernel
theorem dX9_film_118 : decode cX9_film 118 = .ok (.iinc 4 1, 3) := by decide +kernel
theorem dX9_film_121 : decode cX9_film 121 = .ok (.goto (-64), 3) := by decide +kernel
theorem dX9_film_124 : decode cX9_film 124 = .ok (.iload_n 3, 1) := by decide +kernel
theorem dX9_film_125 : decode cX9_film 125 = .ok (.ireturn, 1) := by decide +kernel
theorem dX9_image_0 : decode cX9_image 0 = .ok (.aload_n 0, 1) := by decide +kernel
theorem dX9_image_1 : decode cX9_image 1 = .ok (.iconst 1, 1) := by decide +kernel
theorem dX9_image_2 : decode cX9_image 2 = .ok (.putfield 365, 3) := by decide +kernel
theorem dX9_image_5 : decode cX9_image 5 = .ok (.aload_n 0, 1) := by decide +kernel
theorem dX9_image_6 : decode cX9_image 6 = .ok (.aload_n 0, 1) := by decide +kernel
theorem dX9_image_7 : decode cX9_image 7 = .ok (.getfield 137, 3) := by decide +kernel
theorem dX9_image_10 : decode cX9_image 10 = .ok (.putfield 368, 3) := by decide +kernel
theorem dX9_image_13 : decode cX9_image 13 = .ok (.iconst 0, 1) := by decide +kernel
theorem dX9_image_14 : decode cX9_image 14 = .ok (.istore_n 1, 1) := by decide +kernel
theorem dX9_image_15 : decode cX9_image 15 = .ok (.iload_n 1, 1) := by decide +kernel
theorem dX9_image_16 : decode cX9_image 16 = .ok (.aload_n 0, 1) := by decide +kernel
theorem dX9_image_17 : decode cX9_image 17 = .ok (.getfield 137, 3) := by decide +kernel
theorem dX9_image_20 : decode cX9_image 20 = .ok (.if_icmp .ge 21, 3) := by decide +kernel
theorem dX9_image_23 : decode cX9_image 23 = .ok (.aload_n 0, 1) := by decide +kernel
theorem dX9_image_24 : decode cX9_image 24 = .ok (.getfield 69, 3) := by decide +kernel
theorem dX9_image_27 : decode cX9_image 27 = .ok (.iload_n 1, 1) := by decide +kernel
theorem dX9_image_28 : decode cX9_image 28 = .ok (.aload_n 0, 1) := by decide +kernel
theorem dX9_image_29 : decode cX9_image 29 = .ok (.getfield 46, 3) := by decide +kernel
theorem dX9_image_32 : decode cX9_image 32 = .ok (.iload_n 1, 1) := by decide +kernel
theorem dX9_image_33 : decode cX9_image 33 = .ok (.iaload, 1) := by decide +kernel
theorem dX9_image_34 : decode cX9_image 34 = .ok (.iastore, 1) := by decide +kernel
theorem dX9_image_35 : decode cX9_image 35 = .ok (.iinc 1 1, 3) := by decide +kernel
theorem dX9_image_38 : decode cX9_image 38 = .ok (.goto (-23), 3) := by decide +kernel
theorem dX9_image_41 : decode cX9_image 41 = .ok (.iconst 0, 1) := by decide +kernel
theorem dX9_image_42 : decode cX9_image 42 = .ok (.istore_n 1, 1) := by decide +kernel
theorem dX9_image_43 : decode cX9_image 43 = .ok (.iload_n 1, 1) := by decide +kernel
theorem dX9_image_44 : decode cX9_image 44 = .ok (.iconst 4, 1) := by decide +kernel
theorem dX9_image_45 : decode cX9_image 45 = .ok (.if_icmp .ge 33, 3) := by decide +kernel
theorem dX9_image_48 : decode cX9_image 48 = .ok (.aload_n 0, 1) := by decide +kernel
theorem dX9_image_49 : decode cX9_image 49 = .ok (.getfield 72, 3) := by decide +kernel
theorem dX9_image_52 : decode cX9_image 52 = .ok (.iload_n 1, 1) := by decide +kernel
theorem dX9_image_53 : decode cX9_image 53 = .ok (.aload_n 0, 1) := by decide +kernel
theorem dX9_image_54 : decode cX9_image 54 = .ok (.getfield 52, 3) := by decide +kernel
theorem dX9_image_57 : decode cX9_image 57 = .ok (.iload_n 1, 1) := by decide +kernel
theorem dX9_image_58 : decode cX9_image 58 = .ok (.baload, 1) := by decide +kernel
theorem dX9_image_59 : decode cX9_image 59 = .ok (.bastore, 1) := by decide +kernel
theorem dX9_image_60 : decode cX9_image 60 = .ok (.aload_n 0, 1) := by decide +kernel
theorem dX9_image_61 : decode cX9_image 61 = .ok (.getfield 75, 3) := by decide +kernel
theorem dX9_image_64 : decode cX9_image 64 = .ok (.iload_n 1, 1) := by decide +kernel
theorem dX9_image_65 : decode cX9_image 65 = .ok (.aload_n 0, 1) := by decide +kernel
theorem dX9_image_66 : decode cX9_image 66 = .ok (.getfield 56, 3) := by decide +kernel
theorem dX9_image_69 : decode cX9_image 69 = .ok (.iload_n 1, 1) := by decide +kernel
theorem dX9_image_70 : decode cX9_image 70 = .ok (.iaload, 1) := by decide +kernel
theorem dX9_image_71 : decode cX9_image 71 = .ok (.iastore, 1) := by decide +kernel
theorem dX9_image_72 : decode cX9_image 72 = .ok (.iinc 1 1, 3) := by decide +kernel
theorem dX9_image_75 : decode cX9_image 75 = .ok (.goto (-32), 3) := by decide +kernel
theorem dX9_image_78 : decode cX9_image 78 = .ok (.iconst 0, 1) := by decide +kernel
theorem dX9_image_79 : decode cX9_image 79 = .ok (.istore_n 1, 1) := by decide +kernel
theorem dX9_image_80 : decode cX9_image 80 = .ok (.iload_n 1, 1) := by decide +kernel
theorem dX9_image_81 : decode cX9_image 81 = .ok (.bipush 116, 2) := by decide +kernel
theorem dX9_image_83 : decode cX9_image 83 = .ok (.if_icmp .ge 33, 3) := by decide +kernel
theorem dX9_image_86 : decode cX9_image 86 = .ok (.aload_n 0, 1) := by decide +kernel
theorem dX9_image_87 : decode cX9_image 87 = .ok (.getfield 78, 3) := by decide +kernel
theorem dX9_image_90 : decode cX9_image 90 = .ok (.iload_n 1, 1) := by decide +kernel
theorem dX9_image_91 : decode cX9_image 91 = .ok (.aload_n 0, 1) := by decide +kernel
theorem dX9_image_92 : decode cX9_image 92 = .ok (.getfield 59, 3) := by decide +kernel
theorem dX9_image_95 : decode cX9_image 95 = .ok (.iload_n 1, 1) := by decide +kernel
theorem dX9_image_96 : decode cX9_image 96 = .ok (.laload, 1) := by decide +kernel
theorem dX9_image_97 : decode cX9_image 97 = .ok (.lastore, 1) := by decide +kernel
theorem dX9_image_98 : decode cX9_image 98 = .ok (.aload_n 0, 1) := by decide +kernel
theorem dX9_image_99 : decode cX9_image 99 = .ok (.getfield 81, 3) := by decide +kernel
theorem dX9_image_102 : decode cX9_image 102 = .ok (.iload_n 1, 1) := by decide +kernel
theorem dX9_image_103 : decode cX9_image 103 = .ok (.aload_n 0, 1) := by decide +kernel
theorem dX9_image_104 : decode cX9_image 104 = .ok (.getfield 63, 3) := by decide +kernel
theorem dX9_image_107 : decode cX9_image 107 = .ok (.iload_n 1, 1) := by decide +kernel
theorem dX9_image_108 : decode cX9_image 108 = .ok (.laload, 1) := by decide +kernel
theorem dX9_image_109 : decode cX9_image 109 = .ok (.lastore, 1) := by decide +kernel
theorem dX9_image_110 : decode cX9_image 110 = .ok (.iinc 1 1, 3) := by decide +kernel
theorem dX9_image_113 : decode cX9_image 113 = .ok (.goto (-33), 3) := by decide +kernel
theorem dX9_image_116 : decode cX9_image 116 = .ok (.aload_n 0, 1) := by decide +kernel
theorem dX9_image_117 : decode cX9_image 117 = .ok (.getfield 137, 3) := by decide +kernel
theorem dX9_image_120 : decode cX9_image 120 = .ok (.ireturn, 1) := by decide +kernel
theorem dX9_back_0 : decode cX9_back 0 = .ok (.aload_n 0, 1) := by decide +kernel
theorem dX9_back_1 : decode cX9_back 1 = .ok (.getfield 365, 3) := by decide +kernel
theorem dX9_back_4 : decode cX9_back 4 = .ok (.ifCond .ne 6, 3) := by decide +kernel
theorem dX9_back_7 : decode cX9_back 7 = .ok (.bipush (-3), 2) := by decide +kernel
theorem dX9_back_9 : decode cX9_back 9 = .ok (.ireturn, 1) := by decide +kernel
theorem dX9_back_10 : decode cX9_back 10 = .ok (.aload_n 0, 1) := by decide +kernel
theorem dX9_back_11 : decode cX9_back 11 = .ok (.aload_n 0, 1) := by decide +kernel
theorem dX9_back_12 : decode cX9_back 12 = .ok (.getfield 368, 3) := by decide +kernel
theorem dX9_back_15 : decode cX9_back 15 = .ok (.putfield 137, 3) := by decide +kernel
theorem dX9_back_18 : decode cX9_back 18 = .ok (.iconst 0, 1) := by decide +kernel
theorem dX9_back_19 : decode cX9_back 19 = .ok (.istore_n 1, 1) := by decide +kernel
theorem dX9_back_20 : decode cX9_back 20 = .ok (.iload_n 1, 1) := by decide +kernel
theorem dX9_back_21 : decode cX9_back 21 = .ok (.aload_n 0, 1) := by decide +kernel
theorem dX9_back_22 : decode cX9_back 22 = .ok (.getfield 137, 3) := by decide +kernel
theorem dX9_back_25 : decode cX9_back 25 = .ok (.if_icmp .ge 21, 3) := by decide +kernel
theorem dX9_back_28 : decode cX9_back 28 = .ok (.aload_n 0, 1) := by decide +kernel
theorem dX9_back_29 : decode cX9_back 29 = .ok (.getfield 46, 3) := by decide +kernel
theorem dX9_back_32 : decode cX9_back 32 = .ok (.iload_n 1, 1) := by decide +kernel
theorem dX9_back_33 : decode cX9_back 33 = .ok (.aload_n 0, 1) := by decide +kernel
theorem dX9_back_34 : decode cX9_back 34 = .ok (.getfield 69, 3) := by decide +kernel
theorem dX9_back_37 : decode cX9_back 37 = .ok (.iload_n 1, 1) := by decide +kernel
theorem dX9_back_38 : decode cX9_back 38 = .ok (.iaload, 1) := by decide +kernel
theorem dX9_back_39 : decode cX9_back 39 = .ok (.iastore, 1) := by decide +kernel
theorem dX9_back_40 : decode cX9_back 40 = .ok (.iinc 1 1, 3) := by decide +kernel
theorem dX9_back_43 : decode cX9_back 43 = .ok (.goto (-23), 3) := by decide +kernel
theorem dX9_back_46 : decode cX9_back 46 = .ok (.iconst 0, 1) := by decide +kernel
theorem dX9_back_47 : decode cX9_back 47 = .ok (.istore_n 1, 1) := by decide +kernel
theorem dX9_back_48 : decode cX9_back 48 = .ok (.iload_n 1, 1) := by decide +kernel
theorem dX9_back_49 : decode cX9_back 49 = .ok (.iconst 4, 1) := by decide +kernel
theorem dX9_back_50 : decode cX9_back 50 = .ok (.if_icmp .ge 33, 3) := by decide +kernel
theorem dX9_back_53 : decode cX9_back 53 = .ok (.aload_n 0, 1) := by decide +kernel
theorem dX9_back_54 : decode cX9_back 54 = .ok (.getfield 52, 3) := by decide +kernel
theorem dX9_back_57 : decode cX9_back 57 = .ok (.iload_n 1, 1) := by decide +kernel
theorem dX9_back_58 : decode cX9_back 58 = .ok (.aload_n 0, 1) := by decide +kernel
theorem dX9_back_59 : decode cX9_back 59 = .ok (.getfield 72, 3) := by decide +kernel
theorem dX9_back_62 : decode cX9_back 62 = .ok (.iload_n 1, 1) := by decide +kernel
theorem dX9_back_63 : decode cX9_back 63 = .ok (.baload, 1) := by decide +kernel
theorem dX9_back_64 : decode cX9_back 64 = .ok (.bastore, 1) := by decide +kernel
theorem dX9_back_65 : decode cX9_back 65 = .ok (.aload_n 0, 1) := by decide +kernel
theorem dX9_back_66 : decode cX9_back 66 = .ok (.getfield 56, 3) := by decide +kernel
theorem dX9_back_69 : decode cX9_back 69 = .ok (.iload_n 1, 1) := by decide +kernel
theorem dX9_back_70 : decode cX9_back 70 = .ok (.aload_n 0, 1) := by decide +kernel
theorem dX9_back_71 : decode cX9_back 71 = .ok (.getfield 75, 3) := by decide +kernel
theorem dX9_back_74 : decode cX9_back 74 = .ok (.iload_n 1, 1) := by decide +kernel
theorem dX9_back_75 : decode cX9_back 75 = .ok (.iaload, 1) := by decide +kernel
theorem dX9_back_76 : decode cX9_back 76 = .ok (.iastore, 1) := by decide +kernel
theorem dX9_back_77 : decode cX9_back 77 = .ok (.iinc 1 1, 3) := by decide +kernel
theorem dX9_back_80 : decode cX9_back 80 = .ok (.goto (-32), 3) := by decide +kernel
theorem dX9_back_83 : decode cX9_back 83 = .ok (.iconst 0, 1) := by decide +kernel
theorem dX9_back_84 : decode cX9_back 84 = .ok (.istore_n 1, 1) := by decide +kernel
theorem dX9_back_85 : decode cX9_back 85 = .ok (.iload_n 1, 1) := by decide +kernel
theorem dX9_back_86 : decode cX9_back 86 = .ok (.bipush 116, 2) := by decide +kernel
theorem dX9_back_88 : decode cX9_back 88 = .ok (.if_icmp .ge 33, 3) := by decide +kernel
theorem dX9_back_91 : decode cX9_back 91 = .ok (.aload_n 0, 1) := by decide +kernel
theorem dX9_back_92 : decode cX9_back 92 = .ok (.getfield 59, 3) := by decide +kernel
theorem dX9_back_95 : decode cX9_back 95 = .ok (.iload_n 1, 1) := by decide +kernel
theorem dX9_back_96 : decode cX9_back 96 = .ok (.aload_n 0, 1) := by decide +kernel
theorem dX9_back_97 : decode cX9_back 97 = .ok (.getfield 78, 3) := by decide +kernel
theorem dX9_back_100 : decode cX9_back 100 = .ok (.iload_n 1, 1) := by decide +kernel
theorem dX9_back_101 : decode cX9_back 101 = .ok (.laload, 1) := by decide +kernel
theorem dX9_back_102 : decode cX9_back 102 = .ok (.lastore, 1) := by decide +kernel
theorem dX9_back_103 : decode cX9_back 103 = .ok (.aload_n 0, 1) := by decide +kernel
theorem dX9_back_104 : decode cX9_back 104 = .ok (.getfield 63, 3) := by decide +kernel
theorem dX9_back_107 : decode cX9_back 107 = .ok (.iload_n 1, 1) := by decide +kernel
theorem dX9_back_108 : decode cX9_back 108 = .ok (.aload_n 0, 1) := by decide +kernel
theorem dX9_back_109 : decode cX9_back 109 = .ok (.getfield 81, 3) := by decide +kernel
theorem dX9_back_112 : decode cX9_back 112 = .ok (.iload_n 1, 1) := by decide +kernel
theorem dX9_back_113 : decode cX9_back 113 = .ok (.laload, 1) := by decide +kernel
theorem dX9_back_114 : decode cX9_back 114 = .ok (.lastore, 1) := by decide +kernel
theorem dX9_back_115 : decode cX9_back 115 = .ok (.iinc 1 1, 3) := by decide +kernel
theorem dX9_back_118 : decode cX9_back 118 = .ok (.goto (-33), 3) := by decide +kernel
theorem dX9_back_121 : decode cX9_back 121 = .ok (.aload_n 0, 1) := by decide +kernel
theorem dX9_back_122 : decode cX9_back 122 = .ok (.getfield 137, 3) := by decide +kernel
theorem dX9_back_125 : decode cX9_back 125 = .ok (.ireturn, 1) := by decide +kernel
theorem dX9_count_0 : decode cX9_count 0 = .ok (.iload_n 1, 1) := by decide +kernel
theorem dX9_count_1 : decode cX9_count 1 = .ok (.iconst 0, 1) := by decide +kernel
theorem dX9_count_2 : decode cX9_count 2 = .ok (.iconst 2, 1) := by decide +kernel
theorem dX9_count_3 : decode cX9_count 3 = .ok (.invokestatic 129, 3) := by decide +kernel
theorem dX9_count_6 : decode cX9_count 6 = .ok (.ifCond .ne 5, 3) := by decide +kernel
theorem dX9_count_9 : decode cX9_count 9 = .ok (.iconst (-1), 1) := by decide +kernel
theorem dX9_count_10 : decode cX9_count 10 = .ok (.ireturn, 1) := by decide +kernel
theorem dX9_count_11 : decode cX9_count 11 = .ok (.iconst 0, 1) := by decide +kernel
theorem dX9_count_12 : decode cX9_count 12 = .ok (.istore_n 2, 1) := by decide +kernel
theorem dX9_count_13 : decode cX9_count 13 = .ok (.iconst 0, 1) := by decide +kernel
theorem dX9_count_14 : decode cX9_count 14 = .ok (.istore_n 3, 1) := by decide +kernel
theorem dX9_count_15 : decode cX9_count 15 = .ok (.iconst 0, 1) := by decide +kernel
theorem dX9_count_16 : decode cX9_count 16 = .ok (.istore 4, 2) := by decide +kernel
theorem dX9_count_18 : decode cX9_count 18 = .ok (.iload 4, 2) := by decide +kernel
theorem dX9_count_20 : decode cX9_count 20 = .ok (.iconst 4, 1) := by decide +kernel
theorem dX9_count_21 : decode cX9_count 21 = .ok (.if_icmp .ge 36, 3) := by decide +kernel
theorem dX9_count_24 : decode cX9_count 24 = .ok (.iload_n 2, 1) := by decide +kernel
theorem dX9_count_25 : decode cX9_count 25 = .ok (.aload_n 0, 1) := by decide +kernel
theorem dX9_count_26 : decode cX9_count 26 = .ok (.getfield 52, 3) := by decide +kernel
theorem dX9_count_29 : decode cX9_count 29 = .ok (.iload 4, 2) := by decide +kernel
theorem dX9_count_31 : decode cX9_count 31 = .ok (.baload, 1) := by decide +kernel
theorem dX9_count_32 : decode cX9_count 32 = .ok (.ifCond .eq 7, 3) := by decide +kernel
theorem dX9_count_35 : decode cX9_count 35 = .ok (.iconst 1, 1) := by decide +kernel
theorem dX9_count_36 : decode cX9_count 36 = .ok (.goto 4, 3) := by decide +kernel
theorem dX9_count_39 : decode cX9_count 39 = .ok (.iconst 0, 1) := by decide +kernel
theorem dX9_count_40 : decode cX9_count 40 = .ok (.iadd, 1) := by decide +kernel
theorem dX9_count_41 : decode cX9_count 41 = .ok (.istore_n 2, 1) := by decide +kernel
theorem dX9_count_42 : decode cX9_count 42 = .ok (.iload_n 3, 1) := by decide +kernel
theorem dX9_count_43 : decode cX9_count 43 = .ok (.aload_n 0, 1) := by decide +kernel
theorem dX9_count_44 : decode cX9_count 44 = .ok (.iload 4, 2) := by decide +kernel
theorem dX9_count_46 : decode cX9_count 46 = .ok (.invokevirtual 338, 3) := by decide +kernel
theorem dX9_count_49 : decode cX9_count 49 = .ok (.iadd, 1) := by decide +kernel
theorem dX9_count_50 : decode cX9_count 50 = .ok (.istore_n 3, 1) := by decide +kernel
theorem dX9_count_51 : decode cX9_count 51 = .ok (.iinc 4 1, 3) := by decide +kernel
theorem dX9_count_54 : decode cX9_count 54 = .ok (.goto (-36), 3) := by decide +kernel
theorem dX9_count_57 : decode cX9_count 57 = .ok (.iload_n 1, 1) := by decide +kernel
theorem dX9_count_58 : decode cX9_count 58 = .ok (.ifCond .ne 10, 3) := by decide +kernel
theorem dX9_count_61 : decode cX9_count 61 = .ok (.aload_n 0, 1) := by decide +kernel
theorem dX9_count_62 : decode cX9_count 62 = .ok (.getfield 253, 3) := by decide +kernel
theorem dX9_count_65 : decode cX9_count 65 = .ok (.goto 13, 3) := by decide +kernel
theorem dX9_count_68 : decode cX9_count 68 = .ok (.iload_n 1, 1) := by decide +kernel
theorem dX9_count_69 : decode cX9_count 69 = .ok (.iconst 1, 1) := by decide +kernel
theorem dX9_count_70 : decode cX9_count 70 = .ok (.if_icmp .ne 7, 3) := by decide +kernel
theorem dX9_count_73 : decode cX9_count 73 = .ok (.iload_n 2, 1) := by decide +kernel
theorem dX9_count_74 : decode cX9_count 74 = .ok (.goto 4, 3) := by decide +kernel
theorem dX9_count_77 : decode cX9_count 77 = .ok (.iload_n 3, 1) := by decide +kernel
theorem dX9_count_78 : decode cX9_count 78 = .ok (.ireturn, 1) := by decide +kernel
theorem dJ6_bitCount_0f7a4_0 : decode cJ6_bitCount_0f7a4 0 = .ok (.iload_n 0, 1) := by decide +kernel
theorem dJ6_bitCount_0f7a4_1 : decode cJ6_bitCount_0f7a4 1 = .ok (.iload_n 0, 1) := by decide +kernel
theorem dJ6_bitCount_0f7a4_2 : decode cJ6_bitCount_0f7a4 2 = .ok (.iconst 1, 1) := by decide +kernel
theorem dJ6_bitCount_0f7a4_3 : decode cJ6_bitCount_0f7a4 3 = .ok (.iushr, 1) := by decide +kernel
theorem dJ6_bitCount_0f7a4_4 : decode cJ6_bitCount_0f7a4 4 = .ok (.ldc_w 265, 3) := by decide +kernel
theorem dJ6_bitCount_0f7a4_7 : decode cJ6_bitCount_0f7a4 7 = .ok (.iand, 1) := by decide +kernel
theorem dJ6_bitCount_0f7a4_8 : decode cJ6_bitCount_0f7a4 8 = .ok (.isub, 1) := by decide +kernel
theorem dJ6_bitCount_0f7a4_9 : decode cJ6_bitCount_0f7a4 9 = .ok (.istore_n 0, 1) := by decide +kernel
theorem dJ6_bitCount_0f7a4_10 : decode cJ6_bitCount_0f7a4 10 = .ok (.iload_n 0, 1) := by decide +kernel
theorem dJ6_bitCount_0f7a4_11 : decode cJ6_bitCount_0f7a4 11 = .ok (.ldc_w 266, 3) := by decide +kernel
theorem dJ6_bitCount_0f7a4_14 : decode cJ6_bitCount_0f7a4 14 = .ok (.iand, 1) := by decide +kernel
theorem dJ6_bitCount_0f7a4_15 : decode cJ6_bitCount_0f7a4 15 = .ok (.iload_n 0, 1) := by decide +kernel
theorem dJ6_bitCount_0f7a4_16 : decode cJ6_bitCount_0f7a4 16 = .ok (.iconst 2, 1) := by decide +kernel
theorem dJ6_bitCount_0f7a4_17 : decode cJ6_bitCount_0f7a4 17 = .ok (.iushr, 1) := by decide +kernel
theorem dJ6_bitCount_0f7a4_18 : decode cJ6_bitCount_0f7a4 18 = .ok (.ldc_w 266, 3) := by decide +kernel
theorem dJ6_bitCount_0f7a4_21 : decode cJ6_bitCount_0f7a4 21 = .ok (.iand, 1) := by decide +kernel
theorem dJ6_bitCount_0f7a4_22 : decode cJ6_bitCount_0f7a4 22 = .ok (.iadd, 1) := by decide +kernel
theorem dJ6_bitCount_0f7a4_23 : decode cJ6_bitCount_0f7a4 23 = .ok (.istore_n 0, 1) := by decide +kernel
theorem dJ6_bitCount_0f7a4_24 : decode cJ6_bitCount_0f7a4 24 = .ok (.iload_n 0, 1) := by decide +kernel
theorem dJ6_bitCount_0f7a4_25 : decode cJ6_bitCount_0f7a4 25 = .ok (.iload_n 0, 1) := by decide +kernel
theorem dJ6_bitCount_0f7a4_26 : decode cJ6_bitCount_0f7a4 26 = .ok (.iconst 4, 1) := by decide +kernel
theorem dJ6_bitCount_0f7a4_27 : decode cJ6_bitCount_0f7a4 27 = .ok (.iushr, 1) := by decide +kernel
theorem dJ6_bitCount_0f7a4_28 : decode cJ6_bitCount_0f7a4 28 = .ok (.iadd, 1) := by decide +kernel
theorem dJ6_bitCount_0f7a4_29 : decode cJ6_bitCount_0f7a4 29 = .ok (.ldc_w 267, 3) := by decide +kernel
theorem dJ6_bitCount_0f7a4_32 : decode cJ6_bitCount_0f7a4 32 = .ok (.iand, 1) := by decide +kernel
theorem dJ6_bitCount_0f7a4_33 : decode cJ6_bitCount_0f7a4 33 = .ok (.istore_n 0, 1) := by decide +kernel
theorem dJ6_bitCount_0f7a4_34 : decode cJ6_bitCount_0f7a4 34 = .ok (.iload_n 0, 1) := by decide +kernel
theorem dJ6_bitCount_0f7a4_35 : decode cJ6_bitCount_0f7a4 35 = .ok (.iload_n 0, 1) := by decide +kernel
theorem dJ6_bitCount_0f7a4_36 : decode cJ6_bitCount_0f7a4 36 = .ok (.bipush 8, 2) := by decide +kernel
theorem dJ6_bitCount_0f7a4_38 : decode cJ6_bitCount_0f7a4 38 = .ok (.iushr, 1) := by decide +kernel
theorem dJ6_bitCount_0f7a4_39 : decode cJ6_bitCount_0f7a4 39 = .ok (.iadd, 1) := by decide +kernel
theorem dJ6_bitCount_0f7a4_40 : decode cJ6_bitCount_0f7a4 40 = .ok (.istore_n 0, 1) := by decide +kernel
theorem dJ6_bitCount_0f7a4_41 : decode cJ6_bitCount_0f7a4 41 = .ok (.iload_n 0, 1) := by decide +kernel
theorem dJ6_bitCount_0f7a4_42 : decode cJ6_bitCount_0f7a4 42 = .ok (.iload_n 0, 1) := by decide +kernel
theorem dJ6_bitCount_0f7a4_43 : decode cJ6_bitCount_0f7a4 43 = .ok (.bipush 16, 2) := by decide +kernel
theorem dJ6_bitCount_0f7a4_45 : decode cJ6_bitCount_0f7a4 45 = .ok (.iushr, 1) := by decide +kernel
theorem dJ6_bitCount_0f7a4_46 : decode cJ6_bitCount_0f7a4 46 = .ok (.iadd, 1) := by decide +kernel
theorem dJ6_bitCount_0f7a4_47 : decode cJ6_bitCount_0f7a4 47 = .ok (.istore_n 0, 1) := by decide +kernel
theorem dJ6_bitCount_0f7a4_48 : decode cJ6_bitCount_0f7a4 48 = .ok (.iload_n 0, 1) := by decide +kernel
theorem dJ6_bitCount_0f7a4_49 : decode cJ6_bitCount_0f7a4 49 = .ok (.bipush 63, 2) := by decide +kernel
theorem dJ6_bitCount_0f7a4_51 : decode cJ6_bitCount_0f7a4 51 = .ok (.iand, 1) := by decide +kernel
theorem dJ6_bitCount_0f7a4_52 : decode cJ6_bitCount_0f7a4 52 = .ok (.ireturn, 1) := by decide +kernel
theorem dJ9_floorDiv_f86c9_0 : decode cJ9_floorDiv_f86c9 0 = .ok (.lload_n 0, 1) := by decide +kernel
theorem dJ9_floorDiv_f86c9_1 : decode cJ9_floorDiv_f86c9 1 = .ok (.lload_n 2, 1) := by decide +kernel
theorem dJ9_floorDiv_f86c9_2 : decode cJ9_floorDiv_f86c9 2 = .ok (.ldiv, 1) := by decide +kernel
theorem dJ9_floorDiv_f86c9_3 : decode cJ9_floorDiv_f86c9 3 = .ok (.lstore 4, 2) := by decide +kernel
theorem dJ9_floorDiv_f86c9_5 : decode cJ9_floorDiv_f86c9 5 = .ok (.lload_n 0, 1) := by decide +kernel
theorem dJ9_floorDiv_f86c9_6 : decode cJ9_floorDiv_f86c9 6 = .ok (.lload_n 2, 1) := by decide +kernel
theorem dJ9_floorDiv_f86c9_7 : decode cJ9_floorDiv_f86c9 7 = .ok (.lxor, 1) := by decide +kernel
theorem dJ9_floorDiv_f86c9_8 : decode cJ9_floorDiv_f86c9 8 = .ok (.lconst 0, 1) := by decide +kernel
theorem dJ9_floorDiv_f86c9_9 : decode cJ9_floorDiv_f86c9 9 = .ok (.lcmp, 1) := by decide +kernel
theorem dJ9_floorDiv_f86c9_10 : decode cJ9_floorDiv_f86c9 10 = .ok (.ifCond .ge 17, 3) := by decide +kernel
theorem dJ9_floorDiv_f86c9_13 : decode cJ9_floorDiv_f86c9 13 = .ok (.lload 4, 2) := by decide +kernel
theorem dJ9_floorDiv_f86c9_15 : decode cJ9_floorDiv_f86c9 15 = .ok (.lload_n 2, 1) := by decide +kernel
theorem dJ9_floorDiv_f86c9_16 : decode cJ9_floorDiv_f86c9 16 = .ok (.lmul, 1) := by decide +kernel
theorem dJ9_floorDiv_f86c9_17 : decode cJ9_floorDiv_f86c9 17 = .ok (.lload_n 0, 1) := by decide +kernel
theorem dJ9_floorDiv_f86c9_18 : decode cJ9_floorDiv_f86c9 18 = .ok (.lcmp, 1) := by decide +kernel
theorem dJ9_floorDiv_f86c9_19 : decode cJ9_floorDiv_f86c9 19 = .ok (.ifCond .eq 8, 3) := by decide +kernel
theorem dJ9_floorDiv_f86c9_22 : decode cJ9_floorDiv_f86c9 22 = .ok (.lload 4, 2) := by decide +kernel
theorem dJ9_floorDiv_f86c9_24 : decode cJ9_floorDiv_f86c9 24 = .ok (.lconst 1, 1) := by decide +kernel
theorem dJ9_floorDiv_f86c9_25 : decode cJ9_floorDiv_f86c9 25 = .ok (.lsub, 1) := by decide +kernel
theorem dJ9_floorDiv_f86c9_26 : decode cJ9_floorDiv_f86c9 26 = .ok (.lreturn, 1) := by decide +kernel
theorem dJ9_floorDiv_f86c9_27 : decode cJ9_floorDiv_f86c9 27 = .ok (.lload 4, 2) := by decide +kernel
theorem dJ9_floorDiv_f86c9_29 : decode cJ9_floorDiv_f86c9 29 = .ok (.lreturn, 1) := by decide +kernel
theorem dJ9_floorMod_f86c9_0 : decode cJ9_floorMod_f86c9 0 = .ok (.lload_n 0, 1) := by decide +kernel
theorem dJ9_floorMod_f86c9_1 : decode cJ9_floorMod_f86c9 1 = .ok (.lload_n 2, 1) := by decide +kernel
theorem dJ9_floorMod_f86c9_2 : decode cJ9_floorMod_f86c9 2 = .ok (.lrem, 1) := by decide +kernel
theorem dJ9_floorMod_f86c9_3 : decode cJ9_floorMod_f86c9 3 = .ok (.lstore 4, 2) := by decide +kernel
theorem dJ9_floorMod_f86c9_5 : decode cJ9_floorMod_f86c9 5 = .ok (.lload_n 0, 1) := by decide +kernel
theorem dJ9_floorMod_f86c9_6 : decode cJ9_floorMod_f86c9 6 = .ok (.lload_n 2, 1) := by decide +kernel
theorem dJ9_floorMod_f86c9_7 : decode cJ9_floorMod_f86c9 7 = .ok (.lxor, 1) := by decide +kernel
theorem dJ9_floorMod_f86c9_8 : decode cJ9_floorMod_f86c9 8 = .ok (.lconst 0, 1) := by decide +kernel
theorem dJ9_floorMod_f86c9_9 : decode cJ9_floorMod_f86c9 9 = .ok (.lcmp, 1) := by decide +kernel
theorem dJ9_floorMod_f86c9_10 : decode cJ9_floorMod_f86c9 10 = .ok (.ifCond .ge 15, 3) := by decide +kernel
theorem dJ9_floorMod_f86c9_13 : decode cJ9_floorMod_f86c9 13 = .ok (.lload 4, 2) := by decide +kernel
theorem dJ9_floorMod_f86c9_15 : decode cJ9_floorMod_f86c9 15 = .ok (.lconst 0, 1) := by decide +kernel
theorem dJ9_floorMod_f86c9_16 : decode cJ9_floorMod_f86c9 16 = .ok (.lcmp, 1) := by decide +kernel
theorem dJ9_floorMod_f86c9_17 : decode cJ9_floorMod_f86c9 17 = .ok (.ifCond .eq 8, 3) := by decide +kernel
theorem dJ9_floorMod_f86c9_20 : decode cJ9_floorMod_f86c9 20 = .ok (.lload 4, 2) := by decide +kernel
theorem dJ9_floorMod_f86c9_22 : decode cJ9_floorMod_f86c9 22 = .ok (.lload_n 2, 1) := by decide +kernel
theorem dJ9_floorMod_f86c9_23 : decode cJ9_floorMod_f86c9 23 = .ok (.ladd, 1) := by decide +kernel
theorem dJ9_floorMod_f86c9_24 : decode cJ9_floorMod_f86c9 24 = .ok (.lreturn, 1) := by decide +kernel
theorem dJ9_floorMod_f86c9_25 : decode cJ9_floorMod_f86c9 25 = .ok (.lload 4, 2) := by decide +kernel
theorem dJ9_floorMod_f86c9_27 : decode cJ9_floorMod_f86c9 27 = .ok (.lreturn, 1) := by decide +kernel
theorem dJ9_max_7cf53_0 : decode cJ9_max_7cf53 0 = .ok (.iload_n 0, 1) := by decide +kernel
theorem dJ9_max_7cf53_1 : decode cJ9_max_7cf53 1 = .ok (.iload_n 1, 1) := by decide +kernel
theorem dJ9_max_7cf53_2 : decode cJ9_max_7cf53 2 = .ok (.if_icmp .lt 7, 3) := by decide +kernel
theorem dJ9_max_7cf53_5 : decode cJ9_max_7cf53 5 = .ok (.iload_n 0, 1) := by decide +kernel
theorem dJ9_max_7cf53_6 : decode cJ9_max_7cf53 6 = .ok (.goto 4, 3) := by decide +kernel
theorem dJ9_max_7cf53_9 : decode cJ9_max_7cf53 9 = .ok (.iload_n 1, 1) := by decide +kernel
theorem dJ9_max_7cf53_10 : decode cJ9_max_7cf53 10 = .ok (.ireturn, 1) := by decide +kernel
theorem dJ9_min_7cf53_0 : decode cJ9_min_7cf53 0 = .ok (.iload_n 0, 1) := by decide +kernel
theorem dJ9_min_7cf53_1 : decode cJ9_min_7cf53 1 = .ok (.iload_n 1, 1) := by decide +kernel
theorem dJ9_min_7cf53_2 : decode cJ9_min_7cf53 2 = .ok (.if_icmp .gt 7, 3) := by decide +kernel
theorem dJ9_min_7cf53_5 : decode cJ9_min_7cf53 5 = .ok (.iload_n 0, 1) := by decide +kernel
theorem dJ9_min_7cf53_6 : decode cJ9_min_7cf53 6 = .ok (.goto 4, 3) := by decide +kernel
theorem dJ9_min_7cf53_9 : decode cJ9_min_7cf53 9 = .ok (.iload_n 1, 1) := by decide +kernel
theorem dJ9_min_7cf53_10 : decode cJ9_min_7cf53 10 = .ok (.ireturn, 1) := by decide +kernel
theorem dL_law_0 : decode cL_law 0 = .ok (.new 7, 3) := by decide +kernel
theorem dL_law_3 : decode cL_law 3 = .ok (.dup, 1) := by decide +kernel
theorem dL_law_4 : decode cL_law 4 = .ok (.invokespecial 9, 3) := by decide +kernel
theorem dL_law_7 : decode cL_law 7 = .ok (.astore_n 1, 1) := by decide +kernel
theorem dL_law_8 : decode cL_law 8 = .ok (.new 10, 3) := by decide +kernel
theorem dL_law_11 : decode cL_law 11 = .ok (.dup, 1) := by decide +kernel
theorem dL_law_12 : decode cL_law 12 = .ok (.invokespecial 12, 3) := by decide +kernel
theorem dL_law_15 : decode cL_law 15 = .ok (.astore_n 2, 1) := by decide +kernel
theorem dL_law_16 : decode cL_law 16 = .ok (.iconst 0, 1) := by decide +kernel
theorem dL_law_17 : decode cL_law 17 = .ok (.istore_n 3, 1) := by decide +kernel
theorem dL_law_18 : decode cL_law 18 = .ok (.iload_n 3, 1) := by decide +kernel
theorem dL_law_19 : decode cL_law 19 = .ok (.aload_n 0, 1) := by decide +kernel
theorem dL_law_20 : decode cL_law 20 = .ok (.arraylength, 1) := by decide +kernel
theorem dL_law_21 : decode cL_law 21 = .ok (.iconst 5, 1) := by decide +kernel
theorem dL_law_22 : decode cL_law 22 = .ok (.isub, 1) := by decide +kernel
theorem dL_law_23 : decode cL_law 23 = .ok (.if_icmp .gt 1234, 3) := by decide +kernel
theorem dL_law_26 : decode cL_law 26 = .ok (.aload_n 0, 1) := by decide +kernel
theorem dL_law_27 : decode cL_law 27 = .ok (.iload_n 3, 1) := by decide +kernel
theorem dL_law_28 : decode cL_law 28 = .ok (.iaload, 1) := by decide +kernel
theorem dL_law_29 : decode cL_law 29 = .ok (.bipush 31, 2) := by decide +kernel
theorem dL_law_31 : decode cL_law 31 = .ok (.iand, 1) := by decide +kernel
theorem dL_law_32 : decode cL_law 32 = .ok (.tableswitch 1219 0 31 #[144, 177, 210, 253, 297, 351, 405, 428, 471, 494, 517, 551, 595, 618, 651, 684, 707, 730, 753, 786, 819, 863, 916, 949, 972, 1026, 1060, 1104, 1137, 1170, 1183, 1196], 144) := by decide +kernel
theorem dL_law_176 : decode cL_law 176 = .ok (.aload_n 1, 1) := by decide +kernel
theorem dL_law_177 : decode cL_law 177 = .ok (.aload_n 0, 1) := by decide +kernel
theorem dL_law_178 : decode cL_law 178 = .ok (.iload_n 3, 1) := by decide +kernel
theorem dL_law_179 : decode cL_law 179 = .ok (.iconst 1, 1) := by decide +kernel
theorem dL_law_180 : decode cL_law 180 = .ok (.iadd, 1) := by decide +kernel
theorem dL_law_181 : decode cL_law 181 = .ok (.iaload, 1) := by decide +kernel
theorem dL_law_182 : decode cL_law 182 = .ok (.aload_n 0, 1) := by decide +kernel
theorem dL_law_183 : decode cL_law 183 = .ok (.iload_n 3, 1) := by decide +kernel
theorem dL_law_184 : decode cL_law 184 = .ok (.iconst 2, 1) := by decide +kernel
theorem dL_law_185 : decode cL_law 185 = .ok (.iadd, 1) := by decide +kernel
theorem dL_law_186 : decode cL_law 186 = .ok (.iaload, 1) := by decide +kernel
theorem dL_law_187 : decode cL_law 187 = .ok (.invokevirtual 13, 3) := by decide +kernel
theorem dL_law_190 : decode cL_law 190 = .ok (.aload_n 2, 1) := by decide +kernel
theorem dL_law_191 : decode cL_law 191 = .ok (.aload_n 0, 1) := by decide +kernel
theorem dL_law_192 : decode cL_law 192 = .ok (.iload_n 3, 1) := by decide +kernel
theorem dL_law_193 : decode cL_law 193 = .ok (.iconst 1, 1) := by decide +kernel
theorem dL_law_194 : decode cL_law 194 = .ok (.iadd, 1) := by decide +kernel
theorem dL_law_195 : decode cL_law 195 = .ok (.iaload, 1) := by decide +kernel
theorem dL_law_196 : decode cL_law 196 = .ok (.aload_n 0, 1) := by decide +kernel
theorem dL_law_197 : decode cL_law 197 = .ok (.iload_n 3, 1) := by decide +kernel
theorem dL_law_198 : decode cL_law 198 = .ok (.iconst 2, 1) := by decide +kernel
theorem dL_law_199 : decode cL_law 199 = .ok (.iadd, 1) := by decide +kernel
theorem dL_law_200 : decode cL_law 200 = .ok (.iaload, 1) := by decide +kernel
theorem dL_law_201 : decode cL_law 201 = .ok (.invokevirtual 17, 3) := by decide +kernel
theorem dL_law_204 : decode cL_law 204 = .ok (.if_icmp .eq 1047, 3) := by decide +kernel
theorem dL_law_207 : decode cL_law 207 = .ok (.iconst 0, 1) := by decide +kernel
theorem dL_law_208 : decode cL_law 208 = .ok (.ireturn, 1) := by decide +kernel
theorem dL_law_209 : decode cL_law 209 = .ok (.aload_n 1, 1) := by decide +kernel
theorem dL_law_210 : decode cL_law 210 = .ok (.aload_n 0, 1) := by decide +kernel
theorem dL_law_211 : decode cL_law 211 = .ok (.iload_n 3, 1) := by decide +kernel
theorem dL_law_212 : decode cL_law 212 = .ok (.iconst 1, 1) := by decide +kernel
theorem dL_law_213 : decode cL_law 213 = .ok (.iadd, 1) := by decide +kernel
theorem dL_law_214 : decode cL_law 214 = .ok (.iaload, 1) := by decide +kernel
theorem dL_law_215 : decode cL_law 215 = .ok (.aload_n 0, 1) := by decide +kernel
theorem dL_law_216 : decode cL_law 216 = .ok (.iload_n 3, 1) := by decide +kernel
theorem dL_law_217 : decode cL_law 217 = .ok (.iconst 2, 1) := by decide +kernel
theorem dL_law_218 : decode cL_law 218 = .ok (.iadd, 1) := by decide +kernel
theorem dL_law_219 : decode cL_law 219 = .ok (.iaload, 1) := by decide +kernel
theorem dL_law_220 : decode cL_law 220 = .ok (.invokevirtual 18, 3) := by decide +kernel
theorem dL_law_223 : decode cL_law 223 = .ok (.aload_n 2, 1) := by decide +kernel
theorem dL_law_224 : decode cL_law 224 = .ok (.aload_n 0, 1) := by decide +kernel
theorem dL_law_225 : decode cL_law 225 = .ok (.iload_n 3, 1) := by decide +kernel
theorem dL_law_226 : decode cL_law 226 = .ok (.iconst 1, 1) := by decide +kernel
theorem dL_law_227 : decode cL_law 227 = .ok (.iadd, 1) := by decide +kernel
theorem dL_law_228 : decode cL_law 228 = .ok (.iaload, 1) := by decide +kernel
theorem dL_law_229 : decode cL_law 229 = .ok (.aload_n 0, 1) := by decide +kernel
theorem dL_law_230 : decode cL_law 230 = .ok (.iload_n 3, 1) := by decide +kernel
theorem dL_law_231 : decode cL_law 231 = .ok (.iconst 2, 1) := by decide +kernel
theorem dL_law_232 : decode cL_law 232 = .ok (.iadd, 1) := by decide +kernel
theorem dL_law_233 : decode cL_law 233 = .ok (.iaload, 1) := by decide +kernel
theorem dL_law_234 : decode cL_law 234 = .ok (.invokevirtual 21, 3) := by decide +kernel
theorem dL_law_237 : decode cL_law 237 = .ok (.if_icmp .eq 1014, 3) := by decide +kernel
theorem dL_law_240 : decode cL_law 240 = .ok (.iconst 0, 1) := by decide +kernel
theorem dL_law_241 : decode cL_law 241 = .ok (.ireturn, 1) := by decide +kernel
theorem dL_law_242 : decode cL_law 242 = .ok (.aload_n 1, 1) := by decide +kernel
theorem dL_law_243 : decode cL_law 243 = .ok (.aload_n 0, 1) := by decide +kernel
theorem dL_law_244 : decode cL_law 244 = .ok (.iload_n 3, 1) := by decide +kernel
theorem dL_law_245 : decode cL_law 245 = .ok (.iconst 1, 1) := by decide +kernel
theorem dL_law_246 : decode cL_law 246 = .ok (.iadd, 1) := by decide +kernel
theorem dL_law_247 : decode cL_law 247 = .ok (.iaload, 1) := by decide +kernel
theorem dL_law_248 : decode cL_law 248 = .ok (.aload_n 0, 1) := by decide +kernel
theorem dL_law_249 : decode cL_law 249 = .ok (.iload_n 3, 1) := by decide +kernel
theorem dL_law_250 : decode cL_law 250 = .ok (.iconst 2, 1) := by decide +kernel
theorem dL_law_251 : decode cL_law 251 = .ok (.iadd, 1) := by decide +kernel
theorem dL_law_252 : decode cL_law 252 = .ok (.iaload, 1) := by decide +kernel
theorem dL_law_253 : decode cL_law 253 = .ok (.aload_n 0, 1) := by decide +kernel
theorem dL_law_254 : decode cL_law 254 = .ok (.iload_n 3, 1) := by decide +kernel
theorem dL_law_255 : decode cL_law 255 = .ok (.iconst 3, 1) := by decide +kernel
theorem dL_law_256 : decode cL_law 256 = .ok (.iadd, 1) := by decide +kernel
theorem dL_law_257 : decode cL_law 257 = .ok (.iaload, 1) := by decide +kernel
theorem dL_law_258 : decode cL_law 258 = .ok (.invokevirtual 22, 3) := by decide +kernel
theorem dL_law_261 : decode cL_law 261 = .ok (.aload_n 2, 1) := by decide +kernel
theorem dL_law_262 : decode cL_law 262 = .ok (.aload_n 0, 1) := by decide +kernel
theorem dL_law_263 : decode cL_law 263 = .ok (.iload_n 3, 1) := by decide +kernel
theorem dL_law_264 : decode cL_law 264 = .ok (.iconst 1, 1) := by decide +kernel
theorem dL_law_265 : decode cL_law 265 = .ok (.iadd, 1) := by decide +kernel
theorem dL_law_266 : decode cL_law 266 = .ok (.iaload, 1) := by decide +kernel
theorem dL_law_267 : decode cL_law 267 = .ok (.aload_n 0, 1) := by decide +kernel
theorem dL_law_268 : decode cL_law 268 = .ok (.iload_n 3, 1) := by decide +kernel
theorem dL_law_269 : decode cL_law 269 = .ok (.iconst 2, 1) := by decide +kernel
theorem dL_law_270 : decode cL_law 270 = .ok (.iadd, 1) := by decide +kernel
theorem dL_law_271 : decode cL_law 271 = .ok (.iaload, 1) := by decide +kernel
theorem dL_law_272 : decode cL_law 272 = .ok (.aload_n 0, 1) := by decide +kernel
theorem dL_law_273 : decode cL_law 273 = .ok (.iload_n 3, 1) := by decide +kernel
theorem dL_law_274 : decode cL_law 274 = .ok (.iconst 3, 1) := by decide +kernel
theorem dL_law_275 : decode cL_law 275 = .ok (.iadd, 1) := by decide +kernel
theorem dL_law_276 : decode cL_law 276 = .ok (.iaload, 1) := by decide +kernel
theorem dL_law_277 : decode cL_law 277 = .ok (.invokevirtual 26, 3) := by decide +kernel
theorem dL_law_280 : decode cL_law 280 = .ok (.if_icmp .eq 971, 3) := by decide +kernel
theorem dL_law_283 : decode cL_law 283 = .ok (.iconst 0, 1) := by decide +kernel
theorem dL_law_284 : decode cL_law 284 = .ok (.ireturn, 1) := by decide +kernel
theorem dL_law_285 : decode cL_law 285 = .ok (.aload_n 1, 1) := by decide +kernel
theorem dL_law_286 : decode cL_law 286 = .ok (.aload_n 0, 1) := by decide +kernel
theorem dL_law_287 : decode cL_law 287 = .ok (.iload_n 3, 1) := by decide +kernel
theorem dL_law_288 : decode cL_law 288 = .ok (.iconst 1, 1) := by decide +kernel
theorem dL_law_289 : decode cL_law 289 = .ok (.iadd, 1) := by decide +kernel
theorem dL_law_290 : decode cL_law 290 = .ok (.iaload, 1) := by decide +kernel
theorem dL_law_291 : decode cL_law 291 = .ok (.aload_n 0, 1) := by decide +kernel
theorem dL_law_292 : decode cL_law 292 = .ok (.iload_n 3, 1) := by decide +kernel
theorem dL_law_293 : decode cL_law 293 = .ok (.iconst 2, 1) := by decide +kernel
theorem dL_law_294 : decode cL_law 294 = .ok (.iadd, 1) := by decide +kernel
theorem dL_law_295 : decode cL_law 295 = .ok (.iaload, 1) := by decide +kernel
theorem dL_law_296 : decode cL_law 296 = .ok (.aload_n 0, 1) := by decide +kernel
theorem dL_law_297 : decode cL_law 297 = .ok (.iload_n 3, 1) := by decide +kernel
theorem dL_law_298 : decode cL_law 298 = .ok (.iconst 3, 1) := by decide +kernel
theorem dL_law_299 : decode cL_law 299 = .ok (.iadd, 1) := by decide +kernel
theorem dL_law_300 : decode cL_law 300 = .ok (.iaload, 1) := by decide +kernel
theorem dL_law_301 : decode cL_law 301 = .ok (.invokevirtual 27, 3) := by decide +kernel
theorem dL_law_304 : decode cL_law 304 = .ok (.aload_n 2, 1) := by decide +kernel
theorem dL_law_305 : decode cL_law 305 = .ok (.aload_n 0, 1) := by decide +kernel
theorem dL_law_306 : decode cL_law 306 = .ok (.iload_n 3, 1) := by decide +kernel
theorem dL_law_307 : decode cL_law 307 = .ok (.iconst 1, 1) := by decide +kernel
theorem dL_law_308 : decode cL_law 308 = .ok (.iadd, 1) := by decide +kernel
theorem dL_law_309 : decode cL_law 309 = .ok (.iaload, 1) := by decide +kernel
theorem dL_law_310 : decode cL_law 310 = .ok (.aload_n 0, 1) := by decide +kernel
theorem dL_law_311 : decode cL_law 311 = .ok (.iload_n 3, 1) := by decide +kernel
theorem dL_law_312 : decode cL_law 312 = .ok (.iconst 2, 1) := by decide +kernel
theorem dL_law_313 : decode cL_law 313 = .ok (.iadd, 1) := by decide +kernel
theorem dL_law_314 : decode cL_law 314 = .ok (.iaload, 1) := by decide +kernel
theorem dL_law_315 : decode cL_law 315 = .ok (.aload_n 0, 1) := by decide +kernel
theorem dL_law_316 : decode cL_law 316 = .ok (.iload_n 3, 1) := by decide +kernel
theorem dL_law_317 : decode cL_law 317 = .ok (.iconst 3, 1) := by decide +kernel
theorem dL_law_318 : decode cL_law 318 = .ok (.iadd, 1) := by decide +kernel
theorem dL_law_319 : decode cL_law 319 = .ok (.iaload, 1) := by decide +kernel
theorem dL_law_320 : decode cL_law 320 = .ok (.invokevirtual 31, 3) := by decide +kernel
theorem dL_law_323 : decode cL_law 323 = .ok (.lcmp, 1) := by decide +kernel
theorem dL_law_324 : decode cL_law 324 = .ok (.ifCond .eq 927, 3) := by decide +kernel
theorem dL_law_327 : decode cL_law 327 = .ok (.iconst 0, 1) := by decide +kernel
theorem dL_law_328 : decode cL_law 328 = .ok (.ireturn, 1) := by decide +kernel
theorem dL_law_329 : decode cL_law 329 = .ok (.aload_n 1, 1) := by decide +kernel
theorem dL_law_330 : decode cL_law 330 = .ok (.aload_n 0, 1) := by decide +kernel
theorem dL_law_331 : decode cL_law 331 = .ok (.iload_n 3, 1) := by decide +kernel
theorem dL_law_332 : decode cL_law 332 = .ok (.iconst 1, 1) := by decide +kernel
theorem dL_law_333 : decode cL_law 333 = .ok (.iadd, 1) := by decide +kernel
theorem dL_law_334 : decode cL_law 334 = .ok (.iaload, 1) := by decide +kernel
theorem dL_law_335 : decode cL_law 335 = .ok (.aload_n 0, 1) := by decide +kernel
theorem dL_law_336 : decode cL_law 336 = .ok (.iload_n 3, 1) := by decide +kernel
theorem dL_law_337 : decode cL_law 337 = .ok (.iconst 2, 1) := by decide +kernel
theorem dL_law_338 : decode cL_law 338 = .ok (.iadd, 1) := by decide +kernel
theorem dL_law_339 : decode cL_law 339 = .ok (.iaload, 1) := by decide +kernel
theorem dL_law_340 : decode cL_law 340 = .ok (.aload_n 0, 1) := by decide +kernel
theorem dL_law_341 : decode cL_law 341 = .ok (.iload_n 3, 1) := by decide +kernel
theorem dL_law_342 : decode cL_law 342 = .ok (.iconst 3, 1) := by decide +kernel
theorem dL_law_343 : decode cL_law 343 = .ok (.iadd, 1) := by decide +kernel
theorem dL_law_344 : decode cL_law 344 = .ok (.iaload, 1) := by decide +kernel
theorem dL_law_345 : decode cL_law 345 = .ok (.aload_n 0, 1) := by decide +kernel
theorem dL_law_346 : decode cL_law 346 = .ok (.iload_n 3, 1) := by decide +kernel
theorem dL_law_347 : decode cL_law 347 = .ok (.iconst 4, 1) := by decide +kernel
theorem dL_law_348 : decode cL_law 348 = .ok (.iadd, 1) := by decide +kernel
theorem dL_law_349 : decode cL_law 349 = .ok (.iaload, 1) := by decide +kernel
theorem dL_law_350 : decode cL_law 350 = .ok (.invokevirtual 32, 3) := by decide +kernel
theorem dL_law_353 : decode cL_law 353 = .ok (.aload_n 2, 1) := by decide +kernel
theorem dL_law_354 : decode cL_law 354 = .ok (.aload_n 0, 1) := by decide +kernel
theorem dL_law_355 : decode cL_law 355 = .ok (.iload_n 3, 1) := by decide +kernel
theorem dL_law_356 : decode cL_law 356 = .ok (.iconst 1, 1) := by decide +kernel
theorem dL_law_357 : decode cL_law 357 = .ok (.iadd, 1) := by decide +kernel
theorem dL_law_358 : decode cL_law 358 = .ok (.iaload, 1) := by decide +kernel
theorem dL_law_359 : decode cL_law 359 = .ok (.aload_n 0, 1) := by decide +kernel
theorem dL_law_360 : decode cL_law 360 = .ok (.iload_n 3, 1) := by decide +kernel
theorem dL_law_361 : decode cL_law 361 = .ok (.iconst 2, 1) := by decide +kernel
theorem dL_law_362 : decode cL_law 362 = .ok (.iadd, 1) := by decide +kernel
theorem dL_law_363 : decode cL_law 363 = .ok (.iaload, 1) := by decide +kernel
theorem dL_law_364 : decode cL_law 364 = .ok (.aload_n 0, 1) := by decide +kernel
theorem dL_law_365 : decode cL_law 365 = .ok (.iload_n 3, 1) := by decide +kernel
theorem dL_law_366 : decode cL_law 366 = .ok (.iconst 3, 1) := by decide +kernel
theorem dL_law_367 : decode cL_law 367 = .ok (.iadd, 1) := by decide +kernel
theorem dL_law_368 : decode cL_law 368 = .ok (.iaload, 1) := by decide +kernel
theorem dL_law_369 : decode cL_law 369 = .ok (.aload_n 0, 1) := by decide +kernel
theorem dL_law_370 : decode cL_law 370 = .ok (.iload_n 3, 1) := by decide +kernel
theorem dL_law_371 : decode cL_law 371 = .ok (.iconst 4, 1) := by decide +kernel
theorem dL_law_372 : decode cL_law 372 = .ok (.iadd, 1) := by decide +kernel
theorem dL_law_373 : decode cL_law 373 = .ok (.iaload, 1) := by decide +kernel
theorem dL_law_374 : decode cL_law 374 = .ok (.invokevirtual 36, 3) := by decide +kernel
theorem dL_law_377 : decode cL_law 377 = .ok (.lcmp, 1) := by decide +kernel
theorem dL_law_378 : decode cL_law 378 = .ok (.ifCond .eq 873, 3) := by decide +kernel
theorem dL_law_381 : decode cL_law 381 = .ok (.iconst 0, 1) := by decide +kernel
theorem dL_law_382 : decode cL_law 382 = .ok (.ireturn, 1) := by decide +kernel
theorem dL_law_383 : decode cL_law 383 = .ok (.aload_n 1, 1) := by decide +kernel
theorem dL_law_384 : decode cL_law 384 = .ok (.aload_n 0, 1) := by decide +kernel
theorem dL_law_385 : decode cL_law 385 = .ok (.iload_n 3, 1) := by decide +kernel
theorem dL_law_386 : decode cL_law 386 = .ok (.iconst 1, 1) := by decide +kernel
theorem dL_law_387 : decode cL_law 387 = .ok (.iadd, 1) := by decide +kernel
theorem dL_law_388 : decode cL_law 388 = .ok (.iaload, 1) := by decide +kernel
theorem dL_law_389 : decode cL_law 389 = .ok (.aload_n 0, 1) := by decide +kernel
theorem dL_law_390 : decode cL_law 390 = .ok (.iload_n 3, 1) := by decide +kernel
theorem dL_law_391 : decode cL_law 391 = .ok (.iconst 2, 1) := by decide +kernel
theorem dL_law_392 : decode cL_law 392 = .ok (.iadd, 1) := by decide +kernel
theorem dL_law_393 : decode cL_law 393 = .ok (.iaload, 1) := by decide +kernel
theorem dL_law_394 : decode cL_law 394 = .ok (.aload_n 0, 1) := by decide +kernel
theorem dL_law_395 : decode cL_law 395 = .ok (.iload_n 3, 1) := by decide +kernel
theorem dL_law_396 : decode cL_law 396 = .ok (.iconst 3, 1) := by decide +kernel
theorem dL_law_397 : decode cL_law 397 = .ok (.iadd, 1) := by decide +kernel
theorem dL_law_398 : decode cL_law 398 = .ok (.iaload, 1) := by decide +kernel
theorem dL_law_399 : decode cL_law 399 = .ok (.aload_n 0, 1) := by decide +kernel
theorem dL_law_400 : decode cL_law 400 = .ok (.iload_n 3, 1) := by decide +kernel
theorem dL_law_401 : decode cL_law 401 = .ok (.iconst 4, 1) := by decide +kernel
theorem dL_law_402 : decode cL_law 402 = .ok (.iadd, 1) := by decide +kernel
theorem dL_law_403 : decode cL_law 403 = .ok (.iaload, 1) := by decide +kernel
theorem dL_law_404 : decode cL_law 404 = .ok (.invokevirtual 37, 3) := by decide +kernel
theorem dL_law_407 : decode cL_law 407 = .ok (.aload_n 2, 1) := by decide +kernel
theorem dL_law_408 : decode cL_law 408 = .ok (.aload_n 0, 1) := by decide +kernel
theorem dL_law_409 : decode cL_law 409 = .ok (.iload_n 3, 1) := by decide +kernel
theorem dL_law_410 : decode cL_law 410 = .ok (.iconst 1, 1) := by decide +kernel
theorem dL_law_411 : decode cL_law 411 = .ok (.iadd, 1) := by decide +kernel
theorem dL_law_412 : decode cL_law 412 = .ok (.iaload, 1) := by decide +kernel
theorem dL_law_413 : decode cL_law 413 = .ok (.aload_n 0, 1) := by decide +kernel
theorem dL_law_414 : decode cL_law 414 = .ok (.iload_n 3, 1) := by decide +kernel
theorem dL_law_415 : decode cL_law 415 = .ok (.iconst 2, 1) := by decide +kernel
theorem dL_law_416 : decode cL_law 416 = .ok (.iadd, 1) := by decide +kernel
theorem dL_law_417 : decode cL_law 417 = .ok (.iaload, 1) := by decide +kernel
theorem dL_law_418 : decode cL_law 418 = .ok (.aload_n 0, 1) := by decide +kernel
theorem dL_law_419 : decode cL_law 419 = .ok (.iload_n 3, 1) := by decide +kernel
theorem dL_law_420 : decode cL_law 420 = .ok (.iconst 3, 1) := by decide +kernel
theorem dL_law_421 : decode cL_law 421 = .ok (.iadd, 1) := by decide +kernel
theorem dL_law_422 : decode cL_law 422 = .ok (.iaload, 1) := by decide +kernel
theorem dL_law_423 : decode cL_law 423 = .ok (.aload_n 0, 1) := by decide +kernel
theorem dL_law_424 : decode cL_law 424 = .ok (.iload_n 3, 1) := by decide +kernel
theorem dL_law_425 : decode cL_law 425 = .ok (.iconst 4, 1) := by decide +kernel
theorem dL_law_426 : decode cL_law 426 = .ok (.iadd, 1) := by decide +kernel
theorem dL_law_427 : decode cL_law 427 = .ok (.iaload, 1) := by decide +kernel
theorem dL_law_428 : decode cL_law 428 = .ok (.invokevirtual 40, 3) := by decide +kernel
theorem dL_law_431 : decode cL_law 431 = .ok (.lcmp, 1) := by decide +kernel
theorem dL_law_432 : decode cL_law 432 = .ok (.ifCond .eq 819, 3) := by decide +kernel
theorem dL_law_435 : decode cL_law 435 = .ok (.iconst 0, 1) := by decide +kernel
theorem dL_law_436 : decode cL_law 436 = .ok (.ireturn, 1) := by decide +kernel
theorem dL_law_437 : decode cL_law 437 = .ok (.aload_n 1, 1) := by decide +kernel
theorem dL_law_438 : decode cL_law 438 = .ok (.aload_n 0, 1) := by decide +kernel
theorem dL_law_439 : decode cL_law 439 = .ok (.iload_n 3, 1) := by decide +kernel
theorem dL_law_440 : decode cL_law 440 = .ok (.iconst 1, 1) := by decide +kernel
theorem dL_law_441 : decode cL_law 441 = .ok (.iadd, 1) := by decide +kernel
theorem dL_law_442 : decode cL_law 442 = .ok (.iaload, 1) := by decide +kernel
theorem dL_law_443 : decode cL_law 443 = .ok (.invokevirtual 41, 3) := by decide +kernel
theorem dL_law_446 : decode cL_law 446 = .ok (.aload_n 2, 1) := by decide +kernel
theorem dL_law_447 : decode cL_law 447 = .ok (.aload_n 0, 1) := by decide +kernel
theorem dL_law_448 : decode cL_law 448 = .ok (.iload_n 3, 1) := by decide +kernel
theorem dL_law_449 : decode cL_law 449 = .ok (.iconst 1, 1) := by decide +kernel
theorem dL_law_450 : decode cL_law 450 = .ok (.iadd, 1) := by decide +kernel
theorem dL_law_451 : decode cL_law 451 = .ok (.iaload, 1) := by decide +kernel
theorem dL_law_452 : decode cL_law 452 = .ok (.invokevirtual 45, 3) := by decide +kernel
theorem dL_law_455 : decode cL_law 455 = .ok (.if_icmp .eq 796, 3) := by decide +kernel
theorem dL_law_458 : decode cL_law 458 = .ok (.iconst 0, 1) := by decide +kernel
theorem dL_law_459 : decode cL_law 459 = .ok (.ireturn, 1) := by decide +kernel
theorem dL_law_460 : decode cL_law 460 = .ok (.aload_n 1, 1) := by decide +kernel
theorem dL_law_461 : decode cL_law 461 = .ok (.aload_n 0, 1) := by decide +kernel
theorem dL_law_462 : decode cL_law 462 = .ok (.iload_n 3, 1) := by decide +kernel
theorem dL_law_463 : decode cL_law 463 = .ok (.iconst 1, 1) := by decide +kernel
theorem dL_law_464 : decode cL_law 464 = .ok (.iadd, 1) := by decide +kernel
theorem dL_law_465 : decode cL_law 465 = .ok (.iaload, 1) := by decide +kernel
theorem dL_law_466 : decode cL_law 466 = .ok (.aload_n 0, 1) := by decide +kernel
theorem dL_law_467 : decode cL_law 467 = .ok (.iload_n 3, 1) := by decide +kernel
theorem dL_law_468 : decode cL_law 468 = .ok (.iconst 2, 1) := by decide +kernel
theorem dL_law_469 : decode cL_law 469 = .ok (.iadd, 1) := by decide +kernel
theorem dL_law_470 : decode cL_law 470 = .ok (.iaload, 1) := by decide +kernel
theorem dL_law_471 : decode cL_law 471 = .ok (.aload_n 0, 1) := by decide +kernel
theorem dL_law_472 : decode cL_law 472 = .ok (.iload_n 3, 1) := by decide +kernel
theorem dL_law_473 : decode cL_law 473 = .ok (.iconst 3, 1) := by decide +kernel
theorem dL_law_474 : decode cL_law 474 = .ok (.iadd, 1) := by decide +kernel
theorem dL_law_475 : decode cL_law 475 = .ok (.iaload, 1) := by decide +kernel
theorem dL_law_476 : decode cL_law 476 = .ok (.invokevirtual 46, 3) := by decide +kernel
theorem dL_law_479 : decode cL_law 479 = .ok (.aload_n 2, 1) := by decide +kernel
theorem dL_law_480 : decode cL_law 480 = .ok (.aload_n 0, 1) := by decide +kernel
theorem dL_law_481 : decode cL_law 481 = .ok (.iload_n 3, 1) := by decide +kernel
theorem dL_law_482 : decode cL_law 482 = .ok (.iconst 1, 1) := by decide +kernel
theorem dL_law_483 : decode cL_law 483 = .ok (.iadd, 1) := by decide +kernel
theorem dL_law_484 : decode cL_law 484 = .ok (.iaload, 1) := by decide +kernel
theorem dL_law_485 : decode cL_law 485 = .ok (.aload_n 0, 1) := by decide +kernel
theorem dL_law_486 : decode cL_law 486 = .ok (.iload_n 3, 1) := by decide +kernel
theorem dL_law_487 : decode cL_law 487 = .ok (.iconst 2, 1) := by decide +kernel
theorem dL_law_488 : decode cL_law 488 = .ok (.iadd, 1) := by decide +kernel
theorem dL_law_489 : decode cL_law 489 = .ok (.iaload, 1) := by decide +kernel
theorem dL_law_490 : decode cL_law 490 = .ok (.aload_n 0, 1) := by decide +kernel
theorem dL_law_491 : decode cL_law 491 = .ok (.iload_n 3, 1) := by decide +kernel
theorem dL_law_492 : decode cL_law 492 = .ok (.iconst 3, 1) := by decide +kernel
theorem dL_law_493 : decode cL_law 493 = .ok (.iadd, 1) := by decide +kernel
theorem dL_law_494 : decode cL_law 494 = .ok (.iaload, 1) := by decide +kernel
theorem dL_law_495 : decode cL_law 495 = .ok (.invokevirtual 49, 3) := by decide +kernel
theorem dL_law_498 : decode cL_law 498 = .ok (.if_icmp .eq 753, 3) := by decide +kernel
theorem dL_law_501 : decode cL_law 501 = .ok (.iconst 0, 1) := by decide +kernel
theorem dL_law_502 : decode cL_law 502 = .ok (.ireturn, 1) := by decide +kernel
theorem dL_law_503 : decode cL_law 503 = .ok (.aload_n 1, 1) := by decide +kernel
theorem dL_law_504 : decode cL_law 504 = .ok (.aload_n 0, 1) := by decide +kernel
theorem dL_law_505 : decode cL_law 505 = .ok (.iload_n 3, 1) := by decide +kernel
theorem dL_law_506 : decode cL_law 506 = .ok (.iconst 1, 1) := by decide +kernel
theorem dL_law_507 : decode cL_law 507 = .ok (.iadd, 1) := by decide +kernel
theorem dL_law_508 : decode cL_law 508 = .ok (.iaload, 1) := by decide +kernel
theorem dL_law_509 : decode cL_law 509 = .ok (.invokevirtual 50, 3) := by decide +kernel
theorem dL_law_512 : decode cL_law 512 = .ok (.aload_n 2, 1) := by decide +kernel
theorem dL_law_513 : decode cL_law 513 = .ok (.aload_n 0, 1) := by decide +kernel
theorem dL_law_514 : decode cL_law 514 = .ok (.iload_n 3, 1) := by decide +kernel
theorem dL_law_515 : decode cL_law 515 = .ok (.iconst 1, 1) := by decide +kernel
theorem dL_law_516 : decode cL_law 516 = .ok (.iadd, 1) := by decide +kernel
theorem dL_law_517 : decode cL_law 517 = .ok (.iaload, 1) := by decide +kernel
theorem dL_law_518 : decode cL_law 518 = .ok (.invokevirtual 53, 3) := by decide +kernel
theorem dL_law_521 : decode cL_law 521 = .ok (.if_icmp .eq 730, 3) := by decide +kernel
theorem dL_law_524 : decode cL_law 524 = .ok (.iconst 0, 1) := by decide +kernel
theorem dL_law_525 : decode cL_law 525 = .ok (.ireturn, 1) := by decide +kernel
theorem dL_law_526 : decode cL_law 526 = .ok (.aload_n 1, 1) := by decide +kernel
theorem dL_law_527 : decode cL_law 527 = .ok (.aload_n 0, 1) := by decide +kernel
theorem dL_law_528 : decode cL_law 528 = .ok (.iload_n 3, 1) := by decide +kernel
theorem dL_law_529 : decode cL_law 529 = .ok (.iconst 1, 1) := by decide +kernel
theorem dL_law_530 : decode cL_law 530 = .ok (.iadd, 1) := by decide +kernel
theorem dL_law_531 : decode cL_law 531 = .ok (.iaload, 1) := by decide +kernel
theorem dL_law_532 : decode cL_law 532 = .ok (.invokevirtual 54, 3) := by decide +kernel
theorem dL_law_535 : decode cL_law 535 = .ok (.aload_n 2, 1) := by decide +kernel
theorem dL_law_536 : decode cL_law 536 = .ok (.aload_n 0, 1) := by decide +kernel
theorem dL_law_537 : decode cL_law 537 = .ok (.iload_n 3, 1) := by decide +kernel
theorem dL_law_538 : decode cL_law 538 = .ok (.iconst 1, 1) := by decide +kernel
theorem dL_law_539 : decode cL_law 539 = .ok (.iadd, 1) := by decide +kernel
theorem dL_law_540 : decode cL_law 540 = .ok (.iaload, 1) := by decide +kernel
theorem dL_law_541 : decode cL_law 541 = .ok (.invokevirtual 57, 3) := by decide +kernel
theorem dL_law_544 : decode cL_law 544 = .ok (.if_icmp .eq 707, 3) := by decide +kernel
theorem dL_law_547 : decode cL_law 547 = .ok (.iconst 0, 1) := by decide +kernel
theorem dL_law_548 : decode cL_law 548 = .ok (.ireturn, 1) := by decide +kernel
theorem dL_law_549 : decode cL_law 549 = .ok (.aload_n 1, 1) := by decide +kernel
theorem dL_law_550 : decode cL_law 550 = .ok (.aload_n 0, 1) := by decide +kernel
theorem dL_law_551 : decode cL_law 551 = .ok (.iload_n 3, 1) := by decide +kernel
theorem dL_law_552 : decode cL_law 552 = .ok (.iconst 1, 1) := by decide +kernel
theorem dL_law_553 : decode cL_law 553 = .ok (.iadd, 1) := by decide +kernel
theorem dL_law_554 : decode cL_law 554 = .ok (.iaload, 1) := by decide +kernel
theorem dL_law_555 : decode cL_law 555 = .ok (.aload_n 0, 1) := by decide +kernel
theorem dL_law_556 : decode cL_law 556 = .ok (.iload_n 3, 1) := by decide +kernel
theorem dL_law_557 : decode cL_law 557 = .ok (.iconst 2, 1) := by decide +kernel
theorem dL_law_558 : decode cL_law 558 = .ok (.iadd, 1) := by decide +kernel
theorem dL_law_559 : decode cL_law 559 = .ok (.iaload, 1) := by decide +kernel
theorem dL_law_560 : decode cL_law 560 = .ok (.invokevirtual 58, 3) := by decide +kernel
theorem dL_law_563 : decode cL_law 563 = .ok (.aload_n 2, 1) := by decide +kernel
theorem dL_law_564 : decode cL_law 564 = .ok (.aload_n 0, 1) := by decide +kernel
theorem dL_law_565 : decode cL_law 565 = .ok (.iload_n 3, 1) := by decide +kernel
theorem dL_law_566 : decode cL_law 566 = .ok (.iconst 1, 1) := by decide +kernel
theorem dL_law_567 : decode cL_law 567 = .ok (.iadd, 1) := by decide +kernel
theorem dL_law_568 : decode cL_law 568 = .ok (.iaload, 1) := by decide +kernel
theorem dL_law_569 : decode cL_law 569 = .ok (.aload_n 0, 1) := by decide +kernel
theorem dL_law_570 : decode cL_law 570 = .ok (.iload_n 3, 1) := by decide +kernel
theorem dL_law_571 : decode cL_law 571 = .ok (.iconst 2, 1) := by decide +kernel
theorem dL_law_572 : decode cL_law 572 = .ok (.iadd, 1) := by decide +kernel
theorem dL_law_573 : decode cL_law 573 = .ok (.iaload, 1) := by decide +kernel
theorem dL_law_574 : decode cL_law 574 = .ok (.invokevirtual 62, 3) := by decide +kernel
theorem dL_law_577 : decode cL_law 577 = .ok (.lcmp, 1) := by decide +kernel
theorem dL_law_578 : decode cL_law 578 = .ok (.ifCond .eq 673, 3) := by decide +kernel
theorem dL_law_581 : decode cL_law 581 = .ok (.iconst 0, 1) := by decide +kernel
theorem dL_law_582 : decode cL_law 582 = .ok (.ireturn, 1) := by decide +kernel
theorem dL_law_583 : decode cL_law 583 = .ok (.aload_n 1, 1) := by decide +kernel
theorem dL_law_584 : decode cL_law 584 = .ok (.aload_n 0, 1) := by decide +kernel
theorem dL_law_585 : decode cL_law 585 = .ok (.iload_n 3, 1) := by decide +kernel
theorem dL_law_586 : decode cL_law 586 = .ok (.iconst 1, 1) := by decide +kernel
theorem dL_law_587 : decode cL_law 587 = .ok (.iadd, 1) := by decide +kernel
theorem dL_law_588 : decode cL_law 588 = .ok (.iaload, 1) := by decide +kernel
theorem dL_law_589 : decode cL_law 589 = .ok (.aload_n 0, 1) := by decide +kernel
theorem dL_law_590 : decode cL_law 590 = .ok (.iload_n 3, 1) := by decide +kernel
theorem dL_law_591 : decode cL_law 591 = .ok (.iconst 2, 1) := by decide +kernel
theorem dL_law_592 : decode cL_law 592 = .ok (.iadd, 1) := by decide +kernel
theorem dL_law_593 : decode cL_law 593 = .ok (.iaload, 1) := by decide +kernel
theorem dL_law_594 : decode cL_law 594 = .ok (.aload_n 0, 1) := by decide +kernel
theorem dL_law_595 : decode cL_law 595 = .ok (.iload_n 3, 1) := by decide +kernel
theorem dL_law_596 : decode cL_law 596 = .ok (.iconst 3, 1) := by decide +kernel
theorem dL_law_597 : decode cL_law 597 = .ok (.iadd, 1) := by decide +kernel
theorem dL_law_598 : decode cL_law 598 = .ok (.iaload, 1) := by decide +kernel
theorem dL_law_599 : decode cL_law 599 = .ok (.invokevirtual 63, 3) := by decide +kernel
theorem dL_law_602 : decode cL_law 602 = .ok (.aload_n 2, 1) := by decide +kernel
theorem dL_law_603 : decode cL_law 603 = .ok (.aload_n 0, 1) := by decide +kernel
theorem dL_law_604 : decode cL_law 604 = .ok (.iload_n 3, 1) := by decide +kernel
theorem dL_law_605 : decode cL_law 605 = .ok (.iconst 1, 1) := by decide +kernel
theorem dL_law_606 : decode cL_law 606 = .ok (.iadd, 1) := by decide +kernel
theorem dL_law_607 : decode cL_law 607 = .ok (.iaload, 1) := by decide +kernel
theorem dL_law_608 : decode cL_law 608 = .ok (.aload_n 0, 1) := by decide +kernel
theorem dL_law_609 : decode cL_law 609 = .ok (.iload_n 3, 1) := by decide +kernel
theorem dL_law_610 : decode cL_law 610 = .ok (.iconst 2, 1) := by decide +kernel
theorem dL_law_611 : decode cL_law 611 = .ok (.iadd, 1) := by decide +kernel
theorem dL_law_612 : decode cL_law 612 = .ok (.iaload, 1) := by decide +kernel
theorem dL_law_613 : decode cL_law 613 = .ok (.aload_n 0, 1) := by decide +kernel
theorem dL_law_614 : decode cL_law 614 = .ok (.iload_n 3, 1) := by decide +kernel
theorem dL_law_615 : decode cL_law 615 = .ok (.iconst 3, 1) := by decide +kernel
theorem dL_law_616 : decode cL_law 616 = .ok (.iadd, 1) := by decide +kernel
theorem dL_law_617 : decode cL_law 617 = .ok (.iaload, 1) := by decide +kernel
theorem dL_law_618 : decode cL_law 618 = .ok (.invokevirtual 66, 3) := by decide +kernel
theorem dL_law_621 : decode cL_law 621 = .ok (.lcmp, 1) := by decide +kernel
theorem dL_law_622 : decode cL_law 622 = .ok (.ifCond .eq 629, 3) := by decide +kernel
theorem dL_law_625 : decode cL_law 625 = .ok (.iconst 0, 1) := by decide +kernel
theorem dL_law_626 : decode cL_law 626 = .ok (.ireturn, 1) := by decide +kernel
theorem dL_law_627 : decode cL_law 627 = .ok (.aload_n 1, 1) := by decide +kernel
theorem dL_law_628 : decode cL_law 628 = .ok (.aload_n 0, 1) := by decide +kernel
theorem dL_law_629 : decode cL_law 629 = .ok (.iload_n 3, 1) := by decide +kernel
theorem dL_law_630 : decode cL_law 630 = .ok (.iconst 1, 1) := by decide +kernel
theorem dL_law_631 : decode cL_law 631 = .ok (.iadd, 1) := by decide +kernel
theorem dL_law_632 : decode cL_law 632 = .ok (.iaload, 1) := by decide +kernel
theorem dL_law_633 : decode cL_law 633 = .ok (.invokevirtual 67, 3) := by decide +kernel
theorem dL_law_636 : decode cL_law 636 = .ok (.aload_n 2, 1) := by decide +kernel
theorem dL_law_637 : decode cL_law 637 = .ok (.aload_n 0, 1) := by decide +kernel
theorem dL_law_638 : decode cL_law 638 = .ok (.iload_n 3, 1) := by decide +kernel
theorem dL_law_639 : decode cL_law 639 = .ok (.iconst 1, 1) := by decide +kernel
theorem dL_law_640 : decode cL_law 640 = .ok (.iadd, 1) := by decide +kernel
theorem dL_law_641 : decode cL_law 641 = .ok (.iaload, 1) := by decide +kernel
theorem dL_law_642 : decode cL_law 642 = .ok (.invokevirtual 70, 3) := by decide +kernel
theorem dL_law_645 : decode cL_law 645 = .ok (.if_icmp .eq 606, 3) := by decide +kernel
theorem dL_law_648 : decode cL_law 648 = .ok (.iconst 0, 1) := by decide +kernel
theorem dL_law_649 : decode cL_law 649 = .ok (.ireturn, 1) := by decide +kernel
theorem dL_law_650 : decode cL_law 650 = .ok (.aload_n 1, 1) := by decide +kernel
theorem dL_law_651 : decode cL_law 651 = .ok (.aload_n 0, 1) := by decide +kernel
theorem dL_law_652 : decode cL_law 652 = .ok (.iload_n 3, 1) := by decide +kernel
theorem dL_law_653 : decode cL_law 653 = .ok (.iconst 1, 1) := by decide +kernel
theorem dL_law_654 : decode cL_law 654 = .ok (.iadd, 1) := by decide +kernel
theorem dL_law_655 : decode cL_law 655 = .ok (.iaload, 1) := by decide +kernel
theorem dL_law_656 : decode cL_law 656 = .ok (.aload_n 0, 1) := by decide +kernel
theorem dL_law_657 : decode cL_law 657 = .ok (.iload_n 3, 1) := by decide +kernel
theorem dL_law_658 : decode cL_law 658 = .ok (.iconst 2, 1) := by decide +kernel
theorem dL_law_659 : decode cL_law 659 = .ok (.iadd, 1) := by decide +kernel
theorem dL_law_660 : decode cL_law 660 = .ok (.iaload, 1) := by decide +kernel
theorem dL_law_661 : decode cL_law 661 = .ok (.invokevirtual 71, 3) := by decide +kernel
theorem dL_law_664 : decode cL_law 664 = .ok (.aload_n 2, 1) := by decide +kernel
theorem dL_law_665 : decode cL_law 665 = .ok (.aload_n 0, 1) := by decide +kernel
theorem dL_law_666 : decode cL_law 666 = .ok (.iload_n 3, 1) := by decide +kernel
theorem dL_law_667 : decode cL_law 667 = .ok (.iconst 1, 1) := by decide +kernel
theorem dL_law_668 : decode cL_law 668 = .ok (.iadd, 1) := by decide +kernel
theorem dL_law_669 : decode cL_law 669 = .ok (.iaload, 1) := by decide +kernel
theorem dL_law_670 : decode cL_law 670 = .ok (.aload_n 0, 1) := by decide +kernel
theorem dL_law_671 : decode cL_law 671 = .ok (.iload_n 3, 1) := by decide +kernel
theorem dL_law_672 : decode cL_law 672 = .ok (.iconst 2, 1) := by decide +kernel
theorem dL_law_673 : decode cL_law 673 = .ok (.iadd, 1) := by decide +kernel
theorem dL_law_674 : decode cL_law 674 = .ok (.iaload, 1) := by decide +kernel
theorem dL_law_675 : decode cL_law 675 = .ok (.invokevirtual 74, 3) := by decide +kernel
theorem dL_law_678 : decode cL_law 678 = .ok (.if_icmp .eq 573, 3) := by decide +kernel
theorem dL_law_681 : decode cL_law 681 = .ok (.iconst 0, 1) := by decide +kernel
theorem dL_law_682 : decode cL_law 682 = .ok (.ireturn, 1) := by decide +kernel
theorem dL_law_683 : decode cL_law 683 = .ok (.aload_n 1, 1) := by decide +kernel
theorem dL_law_684 : decode cL_law 684 = .ok (.aload_n 0, 1) := by decide +kernel
theorem dL_law_685 : decode cL_law 685 = .ok (.iload_n 3, 1) := by decide +kernel
theorem dL_law_686 : decode cL_law 686 = .ok (.iconst 1, 1) := by decide +kernel
theorem dL_law_687 : decode cL_law 687 = .ok (.iadd, 1) := by decide +kernel
theorem dL_law_688 : decode cL_law 688 = .ok (.iaload, 1) := by decide +kernel
theorem dL_law_689 : decode cL_law 689 = .ok (.aload_n 0, 1) := by decide +kernel
theorem dL_law_690 : decode cL_law 690 = .ok (.iload_n 3, 1) := by decide +kernel
theorem dL_law_691 : decode cL_law 691 = .ok (.iconst 2, 1) := by decide +kernel
theorem dL_law_692 : decode cL_law 692 = .ok (.iadd, 1) := by decide +kernel
theorem dL_law_693 : decode cL_law 693 = .ok (.iaload, 1) := by decide +kernel
theorem dL_law_694 : decode cL_law 694 = .ok (.invokevirtual 75, 3) := by decide +kernel
theorem dL_law_697 : decode cL_law 697 = .ok (.aload_n 2, 1) := by decide +kernel
theorem dL_law_698 : decode cL_law 698 = .ok (.aload_n 0, 1) := by decide +kernel
theorem dL_law_699 : decode cL_law 699 = .ok (.iload_n 3, 1) := by decide +kernel
theorem dL_law_700 : decode cL_law 700 = .ok (.iconst 1, 1) := by decide +kernel
theorem dL_law_701 : decode cL_law 701 = .ok (.iadd, 1) := by decide +kernel
theorem dL_law_702 : decode cL_law 702 = .ok (.iaload, 1) := by decide +kernel
theorem dL_law_703 : decode cL_law 703 = .ok (.aload_n 0, 1) := by decide +kernel
theorem dL_law_704 : decode cL_law 704 = .ok (.iload_n 3, 1) := by decide +kernel
theorem dL_law_705 : decode cL_law 705 = .ok (.iconst 2, 1) := by decide +kernel
theorem dL_law_706 : decode cL_law 706 = .ok (.iadd, 1) := by decide +kernel
theorem dL_law_707 : decode cL_law 707 = .ok (.iaload, 1) := by decide +kernel
theorem dL_law_708 : decode cL_law 708 = .ok (.invokevirtual 78, 3) := by decide +kernel
theorem dL_law_711 : decode cL_law 711 = .ok (.if_icmp .eq 540, 3) := by decide +kernel
theorem dL_law_714 : decode cL_law 714 = .ok (.iconst 0, 1) := by decide +kernel
theorem dL_law_715 : decode cL_law 715 = .ok (.ireturn, 1) := by decide +kernel
theorem dL_law_716 : decode cL_law 716 = .ok (.aload_n 1, 1) := by decide +kernel
theorem dL_law_717 : decode cL_law 717 = .ok (.aload_n 0, 1) := by decide +kernel
theorem dL_law_718 : decode cL_law 718 = .ok (.iload_n 3, 1) := by decide +kernel
theorem dL_law_719 : decode cL_law 719 = .ok (.iconst 1, 1) := by decide +kernel
theorem dL_law_720 : decode cL_law 720 = .ok (.iadd, 1) := by decide +kernel
theorem dL_law_721 : decode cL_law 721 = .ok (.iaload, 1) := by decide +kernel
theorem dL_law_722 : decode cL_law 722 = .ok (.invokevirtual 79, 3) := by decide +kernel
theorem dL_law_725 : decode cL_law 725 = .ok (.aload_n 2, 1) := by decide +kernel
theorem dL_law_726 : decode cL_law 726 = .ok (.aload_n 0, 1) := by decide +kernel
theorem dL_law_727 : decode cL_law 727 = .ok (.iload_n 3, 1) := by decide +kernel
theorem dL_law_728 : decode cL_law 728 = .ok (.iconst 1, 1) := by decide +kernel
theorem dL_law_729 : decode cL_law 729 = .ok (.iadd, 1) := by decide +kernel
theorem dL_law_730 : decode cL_law 730 = .ok (.iaload, 1) := by decide +kernel
theorem dL_law_731 : decode cL_law 731 = .ok (.invokevirtual 82, 3) := by decide +kernel
theorem dL_law_734 : decode cL_law 734 = .ok (.if_icmp .eq 517, 3) := by decide +kernel
theorem dL_law_737 : decode cL_law 737 = .ok (.iconst 0, 1) := by decide +kernel
theorem dL_law_738 : decode cL_law 738 = .ok (.ireturn, 1) := by decide +kernel
theorem dL_law_739 : decode cL_law 739 = .ok (.aload_n 1, 1) := by decide +kernel
theorem dL_law_740 : decode cL_law 740 = .ok (.aload_n 0, 1) := by decide +kernel
theorem dL_law_741 : decode cL_law 741 = .ok (.iload_n 3, 1) := by decide +kernel
theorem dL_law_742 : decode cL_law 742 = .ok (.iconst 1, 1) := by decide +kernel
theorem dL_law_743 : decode cL_law 743 = .ok (.iadd, 1) := by decide +kernel
theorem dL_law_744 : decode cL_law 744 = .ok (.iaload, 1) := by decide +kernel
theorem dL_law_745 : decode cL_law 745 = .ok (.invokevirtual 83, 3) := by decide +kernel
theorem dL_law_748 : decode cL_law 748 = .ok (.aload_n 2, 1) := by decide +kernel
theorem dL_law_749 : decode cL_law 749 = .ok (.aload_n 0, 1) := by decide +kernel
theorem dL_law_750 : decode cL_law 750 = .ok (.iload_n 3, 1) := by decide +kernel
theorem dL_law_751 : decode cL_law 751 = .ok (.iconst 1, 1) := by decide +kernel
theorem dL_law_752 : decode cL_law 752 = .ok (.iadd, 1) := by decide +kernel
theorem dL_law_753 : decode cL_law 753 = .ok (.iaload, 1) := by decide +kernel
theorem dL_law_754 : decode cL_law 754 = .ok (.invokevirtual 86, 3) := by decide +kernel
theorem dL_law_757 : decode cL_law 757 = .ok (.if_icmp .eq 494, 3) := by decide +kernel
theorem dL_law_760 : decode cL_law 760 = .ok (.iconst 0, 1) := by decide +kernel
theorem dL_law_761 : decode cL_law 761 = .ok (.ireturn, 1) := by decide +kernel
theorem dL_law_762 : decode cL_law 762 = .ok (.aload_n 1, 1) := by decide +kernel
theorem dL_law_763 : decode cL_law 763 = .ok (.aload_n 0, 1) := by decide +kernel
theorem dL_law_764 : decode cL_law 764 = .ok (.iload_n 3, 1) := by decide +kernel
theorem dL_law_765 : decode cL_law 765 = .ok (.iconst 1, 1) := by decide +kernel
theorem dL_law_766 : decode cL_law 766 = .ok (.iadd, 1) := by decide +kernel
theorem dL_law_767 : decode cL_law 767 = .ok (.iaload, 1) := by decide +kernel
theorem dL_law_768 : decode cL_law 768 = .ok (.invokevirtual 87, 3) := by decide +kernel
theorem dL_law_771 : decode cL_law 771 = .ok (.aload_n 2, 1) := by decide +kernel
theorem dL_law_772 : decode cL_law 772 = .ok (.aload_n 0, 1) := by decide +kernel
theorem dL_law_773 : decode cL_law 773 = .ok (.iload_n 3, 1) := by decide +kernel
theorem dL_law_774 : decode cL_law 774 = .ok (.iconst 1, 1) := by decide +kernel
theorem dL_law_775 : decode cL_law 775 = .ok (.iadd, 1) := by decide +kernel
theorem dL_law_776 : decode cL_law 776 = .ok (.iaload, 1) := by decide +kernel
theorem dL_law_777 : decode cL_law 777 = .ok (.invokevirtual 90, 3) := by decide +kernel
theorem dL_law_780 : decode cL_law 780 = .ok (.if_icmp .eq 471, 3) := by decide +kernel
theorem dL_law_783 : decode cL_law 783 = .ok (.iconst 0, 1) := by decide +kernel
theorem dL_law_784 : decode cL_law 784 = .ok (.ireturn, 1) := by decide +kernel
theorem dL_law_785 : decode cL_law 785 = .ok (.aload_n 1, 1) := by decide +kernel
theorem dL_law_786 : decode cL_law 786 = .ok (.aload_n 0, 1) := by decide +kernel
theorem dL_law_787 : decode cL_law 787 = .ok (.iload_n 3, 1) := by decide +kernel
theorem dL_law_788 : decode cL_law 788 = .ok (.iconst 1, 1) := by decide +kernel
theorem dL_law_789 : decode cL_law 789 = .ok (.iadd, 1) := by decide +kernel
theorem dL_law_790 : decode cL_law 790 = .ok (.iaload, 1) := by decide +kernel
theorem dL_law_791 : decode cL_law 791 = .ok (.aload_n 0, 1) := by decide +kernel
theorem dL_law_792 : decode cL_law 792 = .ok (.iload_n 3, 1) := by decide +kernel
theorem dL_law_793 : decode cL_law 793 = .ok (.iconst 2, 1) := by decide +kernel
theorem dL_law_794 : decode cL_law 794 = .ok (.iadd, 1) := by decide +kernel
theorem dL_law_795 : decode cL_law 795 = .ok (.iaload, 1) := by decide +kernel
theorem dL_law_796 : decode cL_law 796 = .ok (.invokevirtual 91, 3) := by decide +kernel
theorem dL_law_799 : decode cL_law 799 = .ok (.aload_n 2, 1) := by decide +kernel
theorem dL_law_800 : decode cL_law 800 = .ok (.aload_n 0, 1) := by decide +kernel
theorem dL_law_801 : decode cL_law 801 = .ok (.iload_n 3, 1) := by decide +kernel
theorem dL_law_802 : decode cL_law 802 = .ok (.iconst 1, 1) := by decide +kernel
theorem dL_law_803 : decode cL_law 803 = .ok (.iadd, 1) := by decide +kernel
theorem dL_law_804 : decode cL_law 804 = .ok (.iaload, 1) := by decide +kernel
theorem dL_law_805 : decode cL_law 805 = .ok (.aload_n 0, 1) := by decide +kernel
theorem dL_law_806 : decode cL_law 806 = .ok (.iload_n 3, 1) := by decide +kernel
theorem dL_law_807 : decode cL_law 807 = .ok (.iconst 2, 1) := by decide +kernel
theorem dL_law_808 : decode cL_law 808 = .ok (.iadd, 1) := by decide +kernel
theorem dL_law_809 : decode cL_law 809 = .ok (.iaload, 1) := by decide +kernel
theorem dL_law_810 : decode cL_law 810 = .ok (.invokevirtual 94, 3) := by decide +kernel
theorem dL_law_813 : decode cL_law 813 = .ok (.if_icmp .eq 438, 3) := by decide +kernel
theorem dL_law_816 : decode cL_law 816 = .ok (.iconst 0, 1) := by decide +kernel
theorem dL_law_817 : decode cL_law 817 = .ok (.ireturn, 1) := by decide +kernel
theorem dL_law_818 : decode cL_law 818 = .ok (.aload_n 1, 1) := by decide +kernel
theorem dL_law_819 : decode cL_law 819 = .ok (.aload_n 0, 1) := by decide +kernel
theorem dL_law_820 : decode cL_law 820 = .ok (.iload_n 3, 1) := by decide +kernel
theorem dL_law_821 : decode cL_law 821 = .ok (.iconst 1, 1) := by decide +kernel
theorem dL_law_822 : decode cL_law 822 = .ok (.iadd, 1) := by decide +kernel
theorem dL_law_823 : decode cL_law 823 = .ok (.iaload, 1) := by decide +kernel
theorem dL_law_824 : decode cL_law 824 = .ok (.aload_n 0, 1) := by decide +kernel
theorem dL_law_825 : decode cL_law 825 = .ok (.iload_n 3, 1) := by decide +kernel
theorem dL_law_826 : decode cL_law 826 = .ok (.iconst 2, 1) := by decide +kernel
theorem dL_law_827 : decode cL_law 827 = .ok (.iadd, 1) := by decide +kernel
theorem dL_law_828 : decode cL_law 828 = .ok (.iaload, 1) := by decide +kernel
theorem dL_law_829 : decode cL_law 829 = .ok (.invokevirtual 95, 3) := by decide +kernel
theorem dL_law_832 : decode cL_law 832 = .ok (.aload_n 2, 1) := by decide +kernel
theorem dL_law_833 : decode cL_law 833 = .ok (.aload_n 0, 1) := by decide +kernel
theorem dL_law_834 : decode cL_law 834 = .ok (.iload_n 3, 1) := by decide +kernel
theorem dL_law_835 : decode cL_law 835 = .ok (.iconst 1, 1) := by decide +kernel
theorem dL_law_836 : decode cL_law 836 = .ok (.iadd, 1) := by decide +kernel
theorem dL_law_837 : decode cL_law 837 = .ok (.iaload, 1) := by decide +kernel
theorem dL_law_838 : decode cL_law 838 = .ok (.aload_n 0, 1) := by decide +kernel
theorem dL_law_839 : decode cL_law 839 = .ok (.iload_n 3, 1) := by decide +kernel
theorem dL_law_840 : decode cL_law 840 = .ok (.iconst 2, 1) := by decide +kernel
theorem dL_law_841 : decode cL_law 841 = .ok (.iadd, 1) := by decide +kernel
theorem dL_law_842 : decode cL_law 842 = .ok (.iaload, 1) := by decide +kernel
theorem dL_law_843 : decode cL_law 843 = .ok (.invokevirtual 98, 3) := by decide +kernel
theorem dL_law_846 : decode cL_law 846 = .ok (.if_icmp .eq 405, 3) := by decide +kernel
theorem dL_law_849 : decode cL_law 849 = .ok (.iconst 0, 1) := by decide +kernel
theorem dL_law_850 : decode cL_law 850 = .ok (.ireturn, 1) := by decide +kernel
theorem dL_law_851 : decode cL_law 851 = .ok (.aload_n 1, 1) := by decide +kernel
theorem dL_law_852 : decode cL_law 852 = .ok (.aload_n 0, 1) := by decide +kernel
theorem dL_law_853 : decode cL_law 853 = .ok (.iload_n 3, 1) := by decide +kernel
theorem dL_law_854 : decode cL_law 854 = .ok (.iconst 1, 1) := by decide +kernel
theorem dL_law_855 : decode cL_law 855 = .ok (.iadd, 1) := by decide +kernel
theorem dL_law_856 : decode cL_law 856 = .ok (.iaload, 1) := by decide +kernel
theorem dL_law_857 : decode cL_law 857 = .ok (.aload_n 0, 1) := by decide +kernel
theorem dL_law_858 : decode cL_law 858 = .ok (.iload_n 3, 1) := by decide +kernel
theorem dL_law_859 : decode cL_law 859 = .ok (.iconst 2, 1) := by decide +kernel
theorem dL_law_860 : decode cL_law 860 = .ok (.iadd, 1) := by decide +kernel
theorem dL_law_861 : decode cL_law 861 = .ok (.iaload, 1) := by decide +kernel
theorem dL_law_862 : decode cL_law 862 = .ok (.aload_n 0, 1) := by decide +kernel
theorem dL_law_863 : decode cL_law 863 = .ok (.iload_n 3, 1) := by decide +kernel
theorem dL_law_864 : decode cL_law 864 = .ok (.iconst 3, 1) := by decide +kernel
theorem dL_law_865 : decode cL_law 865 = .ok (.iadd, 1) := by decide +kernel
theorem dL_law_866 : decode cL_law 866 = .ok (.iaload, 1) := by decide +kernel
theorem dL_law_867 : decode cL_law 867 = .ok (.invokevirtual 99, 3) := by decide +kernel
theorem dL_law_870 : decode cL_law 870 = .ok (.aload_n 2, 1) := by decide +kernel
theorem dL_law_871 : decode cL_law 871 = .ok (.aload_n 0, 1) := by decide +kernel
theorem dL_law_872 : decode cL_law 872 = .ok (.iload_n 3, 1) := by decide +kernel
theorem dL_law_873 : decode cL_law 873 = .ok (.iconst 1, 1) := by decide +kernel
theorem dL_law_874 : decode cL_law 874 = .ok (.iadd, 1) := by decide +kernel
theorem dL_law_875 : decode cL_law 875 = .ok (.iaload, 1) := by decide +kernel
theorem dL_law_876 : decode cL_law 876 = .ok (.aload_n 0, 1) := by decide +kernel
theorem dL_law_877 : decode cL_law 877 = .ok (.iload_n 3, 1) := by decide +kernel
theorem dL_law_878 : decode cL_law 878 = .ok (.iconst 2, 1) := by decide +kernel
theorem dL_law_879 : decode cL_law 879 = .ok (.iadd, 1) := by decide +kernel
theorem dL_law_880 : decode cL_law 880 = .ok (.iaload, 1) := by decide +kernel
theorem dL_law_881 : decode cL_law 881 = .ok (.aload_n 0, 1) := by decide +kernel
theorem dL_law_882 : decode cL_law 882 = .ok (.iload_n 3, 1) := by decide +kernel
theorem dL_law_883 : decode cL_law 883 = .ok (.iconst 3, 1) := by decide +kernel
theorem dL_law_884 : decode cL_law 884 = .ok (.iadd, 1) := by decide +kernel
theorem dL_law_885 : decode cL_law 885 = .ok (.iaload, 1) := by decide +kernel
theorem dL_law_886 : decode cL_law 886 = .ok (.invokevirtual 102, 3) := by decide +kernel
theorem dL_law_889 : decode cL_law 889 = .ok (.lcmp, 1) := by decide +kernel
theorem dL_law_890 : decode cL_law 890 = .ok (.ifCond .eq 361, 3) := by decide +kernel
theorem dL_law_893 : decode cL_law 893 = .ok (.iconst 0, 1) := by decide +kernel
theorem dL_law_894 : decode cL_law 894 = .ok (.ireturn, 1) := by decide +kernel
theorem dL_law_895 : decode cL_law 895 = .ok (.aload_n 1, 1) := by decide +kernel
theorem dL_law_896 : decode cL_law 896 = .ok (.aload_n 0, 1) := by decide +kernel
theorem dL_law_897 : decode cL_law 897 = .ok (.iload_n 3, 1) := by decide +kernel
theorem dL_law_898 : decode cL_law 898 = .ok (.iconst 1, 1) := by decide +kernel
theorem dL_law_899 : decode cL_law 899 = .ok (.iadd, 1) := by decide +kernel
theorem dL_law_900 : decode cL_law 900 = .ok (.iaload, 1) := by decide +kernel
theorem dL_law_901 : decode cL_law 901 = .ok (.aload_n 0, 1) := by decide +kernel
theorem dL_law_902 : decode cL_law 902 = .ok (.iload_n 3, 1) := by decide +kernel
theorem dL_law_903 : decode cL_law 903 = .ok (.iconst 2, 1) := by decide +kernel
theorem dL_law_904 : decode cL_law 904 = .ok (.iadd, 1) := by decide +kernel
theorem dL_law_905 : decode cL_law 905 = .ok (.iaload, 1) := by decide +kernel
theorem dL_law_906 : decode cL_law 906 = .ok (.aload_n 0, 1) := by decide +kernel
theorem dL_law_907 : decode cL_law 907 = .ok (.iload_n 3, 1) := by decide +kernel
theorem dL_law_908 : decode cL_law 908 = .ok (.iconst 3, 1) := by decide +kernel
theorem dL_law_909 : decode cL_law 909 = .ok (.iadd, 1) := by decide +kernel
theorem dL_law_910 : decode cL_law 910 = .ok (.iaload, 1) := by decide +kernel
theorem dL_law_911 : decode cL_law 911 = .ok (.aload_n 0, 1) := by decide +kernel
theorem dL_law_912 : decode cL_law 912 = .ok (.iload_n 3, 1) := by decide +kernel
theorem dL_law_913 : decode cL_law 913 = .ok (.iconst 4, 1) := by decide +kernel
theorem dL_law_914 : decode cL_law 914 = .ok (.iadd, 1) := by decide +kernel
theorem dL_law_915 : decode cL_law 915 = .ok (.iaload, 1) := by decide +kernel
theorem dL_law_916 : decode cL_law 916 = .ok (.invokevirtual 103, 3) := by decide +kernel
theorem dL_law_919 : decode cL_law 919 = .ok (.aload_n 2, 1) := by decide +kernel
theorem dL_law_920 : decode cL_law 920 = .ok (.aload_n 0, 1) := by decide +kernel
theorem dL_law_921 : decode cL_law 921 = .ok (.iload_n 3, 1) := by decide +kernel
theorem dL_law_922 : decode cL_law 922 = .ok (.iconst 1, 1) := by decide +kernel
theorem dL_law_923 : decode cL_law 923 = .ok (.iadd, 1) := by decide +kernel
theorem dL_law_924 : decode cL_law 924 = .ok (.iaload, 1) := by decide +kernel
theorem dL_law_925 : decode cL_law 925 = .ok (.aload_n 0, 1) := by decide +kernel
theorem dL_law_926 : decode cL_law 926 = .ok (.iload_n 3, 1) := by decide +kernel
theorem dL_law_927 : decode cL_law 927 = .ok (.iconst 2, 1) := by decide +kernel
theorem dL_law_928 : decode cL_law 928 = .ok (.iadd, 1) := by decide +kernel
theorem dL_law_929 : decode cL_law 929 = .ok (.iaload, 1) := by decide +kernel
theorem dL_law_930 : decode cL_law 930 = .ok (.aload_n 0, 1) := by decide +kernel
theorem dL_law_931 : decode cL_law 931 = .ok (.iload_n 3, 1) := by decide +kernel
theorem dL_law_932 : decode cL_law 932 = .ok (.iconst 3, 1) := by decide +kernel
theorem dL_law_933 : decode cL_law 933 = .ok (.iadd, 1) := by decide +kernel
theorem dL_law_934 : decode cL_law 934 = .ok (.iaload, 1) := by decide +kernel
theorem dL_law_935 : decode cL_law 935 = .ok (.aload_n 0, 1) := by decide +kernel
theorem dL_law_936 : decode cL_law 936 = .ok (.iload_n 3, 1) := by decide +kernel
theorem dL_law_937 : decode cL_law 937 = .ok (.iconst 4, 1) := by decide +kernel
theorem dL_law_938 : decode cL_law 938 = .ok (.iadd, 1) := by decide +kernel
theorem dL_law_939 : decode cL_law 939 = .ok (.iaload, 1) := by decide +kernel
theorem dL_law_940 : decode cL_law 940 = .ok (.invokevirtual 107, 3) := by decide +kernel
theorem dL_law_943 : decode cL_law 943 = .ok (.if_icmp .eq 308, 3) := by decide +kernel
theorem dL_law_946 : decode cL_law 946 = .ok (.iconst 0, 1) := by decide +kernel
theorem dL_law_947 : decode cL_law 947 = .ok (.ireturn, 1) := by decide +kernel
theorem dL_law_948 : decode cL_law 948 = .ok (.aload_n 1, 1) := by decide +kernel
theorem dL_law_949 : decode cL_law 949 = .ok (.aload_n 0, 1) := by decide +kernel
theorem dL_law_950 : decode cL_law 950 = .ok (.iload_n 3, 1) := by decide +kernel
theorem dL_law_951 : decode cL_law 951 = .ok (.iconst 1, 1) := by decide +kernel
theorem dL_law_952 : decode cL_law 952 = .ok (.iadd, 1) := by decide +kernel
theorem dL_law_953 : decode cL_law 953 = .ok (.iaload, 1) := by decide +kernel
theorem dL_law_954 : decode cL_law 954 = .ok (.aload_n 0, 1) := by decide +kernel
theorem dL_law_955 : decode cL_law 955 = .ok (.iload_n 3, 1) := by decide +kernel
theorem dL_law_956 : decode cL_law 956 = .ok (.iconst 2, 1) := by decide +kernel
theorem dL_law_957 : decode cL_law 957 = .ok (.iadd, 1) := by decide +kernel
theorem dL_law_958 : decode cL_law 958 = .ok (.iaload, 1) := by decide +kernel
theorem dL_law_959 : decode cL_law 959 = .ok (.invokevirtual 108, 3) := by decide +kernel
theorem dL_law_962 : decode cL_law 962 = .ok (.aload_n 2, 1) := by decide +kernel
theorem dL_law_963 : decode cL_law 963 = .ok (.aload_n 0, 1) := by decide +kernel
theorem dL_law_964 : decode cL_law 964 = .ok (.iload_n 3, 1) := by decide +kernel
theorem dL_law_965 : decode cL_law 965 = .ok (.iconst 1, 1) := by decide +kernel
theorem dL_law_966 : decode cL_law 966 = .ok (.iadd, 1) := by decide +kernel
theorem dL_law_967 : decode cL_law 967 = .ok (.iaload, 1) := by decide +kernel
theorem dL_law_968 : decode cL_law 968 = .ok (.aload_n 0, 1) := by decide +kernel
theorem dL_law_969 : decode cL_law 969 = .ok (.iload_n 3, 1) := by decide +kernel
theorem dL_law_970 : decode cL_law 970 = .ok (.iconst 2, 1) := by decide +kernel
theorem dL_law_971 : decode cL_law 971 = .ok (.iadd, 1) := by decide +kernel
theorem dL_law_972 : decode cL_law 972 = .ok (.iaload, 1) := by decide +kernel
theorem dL_law_973 : decode cL_law 973 = .ok (.invokevirtual 111, 3) := by decide +kernel
theorem dL_law_976 : decode cL_law 976 = .ok (.if_icmp .eq 275, 3) := by decide +kernel
theorem dL_law_979 : decode cL_law 979 = .ok (.iconst 0, 1) := by decide +kernel
theorem dL_law_980 : decode cL_law 980 = .ok (.ireturn, 1) := by decide +kernel
theorem dL_law_981 : decode cL_law 981 = .ok (.aload_n 1, 1) := by decide +kernel
theorem dL_law_982 : decode cL_law 982 = .ok (.aload_n 0, 1) := by decide +kernel
theorem dL_law_983 : decode cL_law 983 = .ok (.iload_n 3, 1) := by decide +kernel
theorem dL_law_984 : decode cL_law 984 = .ok (.iconst 1, 1) := by decide +kernel
theorem dL_law_985 : decode cL_law 985 = .ok (.iadd, 1) := by decide +kernel
theorem dL_law_986 : decode cL_law 986 = .ok (.iaload, 1) := by decide +kernel
theorem dL_law_987 : decode cL_law 987 = .ok (.invokevirtual 112, 3) := by decide +kernel
theorem dL_law_990 : decode cL_law 990 = .ok (.aload_n 2, 1) := by decide +kernel
theorem dL_law_991 : decode cL_law 991 = .ok (.aload_n 0, 1) := by decide +kernel
theorem dL_law_992 : decode cL_law 992 = .ok (.iload_n 3, 1) := by decide +kernel
theorem dL_law_993 : decode cL_law 993 = .ok (.iconst 1, 1) := by decide +kernel
theorem dL_law_994 : decode cL_law 994 = .ok (.iadd, 1) := by decide +kernel
theorem dL_law_995 : decode cL_law 995 = .ok (.iaload, 1) := by decide +kernel
theorem dL_law_996 : decode cL_law 996 = .ok (.invokevirtual 115, 3) := by decide +kernel
theorem dL_law_999 : decode cL_law 999 = .ok (.if_icmp .eq 252, 3) := by decide +kernel
theorem dL_law_1002 : decode cL_law 1002 = .ok (.iconst 0, 1) := by decide +kernel
theorem dL_law_1003 : decode cL_law 1003 = .ok (.ireturn, 1) := by decide +kernel
theorem dL_law_1004 : decode cL_law 1004 = .ok (.aload_n 1, 1) := by decide +kernel
theorem dL_law_1005 : decode cL_law 1005 = .ok (.aload_n 0, 1) := by decide +kernel
theorem dL_law_1006 : decode cL_law 1006 = .ok (.iload_n 3, 1) := by decide +kernel
theorem dL_law_1007 : decode cL_law 1007 = .ok (.iconst 1, 1) := by decide +kernel
theorem dL_law_1008 : decode cL_law 1008 = .ok (.iadd, 1) := by decide +kernel
theorem dL_law_1009 : decode cL_law 1009 = .ok (.iaload, 1) := by decide +kernel
theorem dL_law_1010 : decode cL_law 1010 = .ok (.aload_n 0, 1) := by decide +kernel
theorem dL_law_1011 : decode cL_law 1011 = .ok (.iload_n 3, 1) := by decide +kernel
theorem dL_law_1012 : decode cL_law 1012 = .ok (.iconst 2, 1) := by decide +kernel
theorem dL_law_1013 : decode cL_law 1013 = .ok (.iadd, 1) := by decide +kernel
theorem dL_law_1014 : decode cL_law 1014 = .ok (.iaload, 1) := by decide +kernel
theorem dL_law_1015 : decode cL_law 1015 = .ok (.aload_n 0, 1) := by decide +kernel
theorem dL_law_1016 : decode cL_law 1016 = .ok (.iload_n 3, 1) := by decide +kernel
theorem dL_law_1017 : decode cL_law 1017 = .ok (.iconst 3, 1) := by decide +kernel
theorem dL_law_1018 : decode cL_law 1018 = .ok (.iadd, 1) := by decide +kernel
theorem dL_law_1019 : decode cL_law 1019 = .ok (.iaload, 1) := by decide +kernel
theorem dL_law_1020 : decode cL_law 1020 = .ok (.aload_n 0, 1) := by decide +kernel
theorem dL_law_1021 : decode cL_law 1021 = .ok (.iload_n 3, 1) := by decide +kernel
theorem dL_law_1022 : decode cL_law 1022 = .ok (.iconst 4, 1) := by decide +kernel
theorem dL_law_1023 : decode cL_law 1023 = .ok (.iadd, 1) := by decide +kernel
theorem dL_law_1024 : decode cL_law 1024 = .ok (.iaload, 1) := by decide +kernel
theorem dL_law_1025 : decode cL_law 1025 = .ok (.invokevirtual 116, 3) := by decide +kernel
theorem dL_law_1028 : decode cL_law 1028 = .ok (.aload_n 2, 1) := by decide +kernel
theorem dL_law_1029 : decode cL_law 1029 = .ok (.aload_n 0, 1) := by decide +kernel
theorem dL_law_1030 : decode cL_law 1030 = .ok (.iload_n 3, 1) := by decide +kernel
theorem dL_law_1031 : decode cL_law 1031 = .ok (.iconst 1, 1) := by decide +kernel
theorem dL_law_1032 : decode cL_law 1032 = .ok (.iadd, 1) := by decide +kernel
theorem dL_law_1033 : decode cL_law 1033 = .ok (.iaload, 1) := by decide +kernel
theorem dL_law_1034 : decode cL_law 1034 = .ok (.aload_n 0, 1) := by decide +kernel
theorem dL_law_1035 : decode cL_law 1035 = .ok (.iload_n 3, 1) := by decide +kernel
theorem dL_law_1036 : decode cL_law 1036 = .ok (.iconst 2, 1) := by decide +kernel
theorem dL_law_1037 : decode cL_law 1037 = .ok (.iadd, 1) := by decide +kernel
theorem dL_law_1038 : decode cL_law 1038 = .ok (.iaload, 1) := by decide +kernel
theorem dL_law_1039 : decode cL_law 1039 = .ok (.aload_n 0, 1) := by decide +kernel
theorem dL_law_1040 : decode cL_law 1040 = .ok (.iload_n 3, 1) := by decide +kernel
theorem dL_law_1041 : decode cL_law 1041 = .ok (.iconst 3, 1) := by decide +kernel
theorem dL_law_1042 : decode cL_law 1042 = .ok (.iadd, 1) := by decide +kernel
theorem dL_law_1043 : decode cL_law 1043 = .ok (.iaload, 1) := by decide +kernel
theorem dL_law_1044 : decode cL_law 1044 = .ok (.aload_n 0, 1) := by decide +kernel
theorem dL_law_1045 : decode cL_law 1045 = .ok (.iload_n 3, 1) := by decide +kernel
theorem dL_law_1046 : decode cL_law 1046 = .ok (.iconst 4, 1) := by decide +kernel
theorem dL_law_1047 : decode cL_law 1047 = .ok (.iadd, 1) := by decide +kernel
theorem dL_law_1048 : decode cL_law 1048 = .ok (.iaload, 1) := by decide +kernel
theorem dL_law_1049 : decode cL_law 1049 = .ok (.invokevirtual 119, 3) := by decide +kernel
theorem dL_law_1052 : decode cL_law 1052 = .ok (.lcmp, 1) := by decide +kernel
theorem dL_law_1053 : decode cL_law 1053 = .ok (.ifCond .eq 198, 3) := by decide +kernel
theorem dL_law_1056 : decode cL_law 1056 = .ok (.iconst 0, 1) := by decide +kernel
theorem dL_law_1057 : decode cL_law 1057 = .ok (.ireturn, 1) := by decide +kernel
theorem dL_law_1058 : decode cL_law 1058 = .ok (.aload_n 1, 1) := by decide +kernel
theorem dL_law_1059 : decode cL_law 1059 = .ok (.aload_n 0, 1) := by decide +kernel
theorem dL_law_1060 : decode cL_law 1060 = .ok (.iload_n 3, 1) := by decide +kernel
theorem dL_law_1061 : decode cL_law 1061 = .ok (.iconst 1, 1) := by decide +kernel
theorem dL_law_1062 : decode cL_law 1062 = .ok (.iadd, 1) := by decide +kernel
theorem dL_law_1063 : decode cL_law 1063 = .ok (.iaload, 1) := by decide +kernel
theorem dL_law_1064 : decode cL_law 1064 = .ok (.aload_n 0, 1) := by decide +kernel
theorem dL_law_1065 : decode cL_law 1065 = .ok (.iload_n 3, 1) := by decide +kernel
theorem dL_law_1066 : decode cL_law 1066 = .ok (.iconst 2, 1) := by decide +kernel
theorem dL_law_1067 : decode cL_law 1067 = .ok (.iadd, 1) := by decide +kernel
theorem dL_law_1068 : decode cL_law 1068 = .ok (.iaload, 1) := by decide +kernel
theorem dL_law_1069 : decode cL_law 1069 = .ok (.invokevirtual 120, 3) := by decide +kernel
theorem dL_law_1072 : decode cL_law 1072 = .ok (.aload_n 2, 1) := by decide +kernel
theorem dL_law_1073 : decode cL_law 1073 = .ok (.aload_n 0, 1) := by decide +kernel
theorem dL_law_1074 : decode cL_law 1074 = .ok (.iload_n 3, 1) := by decide +kernel
theorem dL_law_1075 : decode cL_law 1075 = .ok (.iconst 1, 1) := by decide +kernel
theorem dL_law_1076 : decode cL_law 1076 = .ok (.iadd, 1) := by decide +kernel
theorem dL_law_1077 : decode cL_law 1077 = .ok (.iaload, 1) := by decide +kernel
theorem dL_law_1078 : decode cL_law 1078 = .ok (.aload_n 0, 1) := by decide +kernel
theorem dL_law_1079 : decode cL_law 1079 = .ok (.iload_n 3, 1) := by decide +kernel
theorem dL_law_1080 : decode cL_law 1080 = .ok (.iconst 2, 1) := by decide +kernel
theorem dL_law_1081 : decode cL_law 1081 = .ok (.iadd, 1) := by decide +kernel
theorem dL_law_1082 : decode cL_law 1082 = .ok (.iaload, 1) := by decide +kernel
theorem dL_law_1083 : decode cL_law 1083 = .ok (.invokevirtual 123, 3) := by decide +kernel
theorem dL_law_1086 : decode cL_law 1086 = .ok (.lcmp, 1) := by decide +kernel
theorem dL_law_1087 : decode cL_law 1087 = .ok (.ifCond .eq 164, 3) := by decide +kernel
theorem dL_law_1090 : decode cL_law 1090 = .ok (.iconst 0, 1) := by decide +kernel
theorem dL_law_1091 : decode cL_law 1091 = .ok (.ireturn, 1) := by decide +kernel
theorem dL_law_1092 : decode cL_law 1092 = .ok (.aload_n 1, 1) := by decide +kernel
theorem dL_law_1093 : decode cL_law 1093 = .ok (.aload_n 0, 1) := by decide +kernel
theorem dL_law_1094 : decode cL_law 1094 = .ok (.iload_n 3, 1) := by decide +kernel
theorem dL_law_1095 : decode cL_law 1095 = .ok (.iconst 1, 1) := by decide +kernel
theorem dL_law_1096 : decode cL_law 1096 = .ok (.iadd, 1) := by decide +kernel
theorem dL_law_1097 : decode cL_law 1097 = .ok (.iaload, 1) := by decide +kernel
theorem dL_law_1098 : decode cL_law 1098 = .ok (.aload_n 0, 1) := by decide +kernel
theorem dL_law_1099 : decode cL_law 1099 = .ok (.iload_n 3, 1) := by decide +kernel
theorem dL_law_1100 : decode cL_law 1100 = .ok (.iconst 2, 1) := by decide +kernel
theorem dL_law_1101 : decode cL_law 1101 = .ok (.iadd, 1) := by decide +kernel
theorem dL_law_1102 : decode cL_law 1102 = .ok (.iaload, 1) := by decide +kernel
theorem dL_law_1103 : decode cL_law 1103 = .ok (.aload_n 0, 1) := by decide +kernel
theorem dL_law_1104 : decode cL_law 1104 = .ok (.iload_n 3, 1) := by decide +kernel
theorem dL_law_1105 : decode cL_law 1105 = .ok (.iconst 3, 1) := by decide +kernel
theorem dL_law_1106 : decode cL_law 1106 = .ok (.iadd, 1) := by decide +kernel
theorem dL_law_1107 : decode cL_law 1107 = .ok (.iaload, 1) := by decide +kernel
theorem dL_law_1108 : decode cL_law 1108 = .ok (.invokevirtual 124, 3) := by decide +kernel
theorem dL_law_1111 : decode cL_law 1111 = .ok (.aload_n 2, 1) := by decide +kernel
theorem dL_law_1112 : decode cL_law 1112 = .ok (.aload_n 0, 1) := by decide +kernel
theorem dL_law_1113 : decode cL_law 1113 = .ok (.iload_n 3, 1) := by decide +kernel
theorem dL_law_1114 : decode cL_law 1114 = .ok (.iconst 1, 1) := by decide +kernel
theorem dL_law_1115 : decode cL_law 1115 = .ok (.iadd, 1) := by decide +kernel
theorem dL_law_1116 : decode cL_law 1116 = .ok (.iaload, 1) := by decide +kernel
theorem dL_law_1117 : decode cL_law 1117 = .ok (.aload_n 0, 1) := by decide +kernel
theorem dL_law_1118 : decode cL_law 1118 = .ok (.iload_n 3, 1) := by decide +kernel
theorem dL_law_1119 : decode cL_law 1119 = .ok (.iconst 2, 1) := by decide +kernel
theorem dL_law_1120 : decode cL_law 1120 = .ok (.iadd, 1) := by decide +kernel
theorem dL_law_1121 : decode cL_law 1121 = .ok (.iaload, 1) := by decide +kernel
theorem dL_law_1122 : decode cL_law 1122 = .ok (.aload_n 0, 1) := by decide +kernel
theorem dL_law_1123 : decode cL_law 1123 = .ok (.iload_n 3, 1) := by decide +kernel
theorem dL_law_1124 : decode cL_law 1124 = .ok (.iconst 3, 1) := by decide +kernel
theorem dL_law_1125 : decode cL_law 1125 = .ok (.iadd, 1) := by decide +kernel
theorem dL_law_1126 : decode cL_law 1126 = .ok (.iaload, 1) := by decide +kernel
theorem dL_law_1127 : decode cL_law 1127 = .ok (.invokevirtual 127, 3) := by decide +kernel
theorem dL_law_1130 : decode cL_law 1130 = .ok (.lcmp, 1) := by decide +kernel
theorem dL_law_1131 : decode cL_law 1131 = .ok (.ifCond .eq 120, 3) := by decide +kernel
theorem dL_law_1134 : decode cL_law 1134 = .ok (.iconst 0, 1) := by decide +kernel
theorem dL_law_1135 : decode cL_law 1135 = .ok (.ireturn, 1) := by decide +kernel
theorem dL_law_1136 : decode cL_law 1136 = .ok (.aload_n 1, 1) := by decide +kernel
