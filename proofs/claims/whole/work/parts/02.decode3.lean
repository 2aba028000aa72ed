theorem dX9_ones_21 : decode cX9_ones 21 = .ok (.iload_n 1, 1) := by decide +kernel
theorem dX9_ones_22 : decode cX9_ones 22 = .ok (.ireturn, 1) := by decide +kernel
theorem dX9_lookInto_0 : decode cX9_lookInto 0 = .ok (.aload_n 0, 1) := by decide +kernel
theorem dX9_lookInto_1 : decode cX9_lookInto 1 = .ok (.iload_n 1, 1) := by decide +kernel
theorem dX9_lookInto_2 : decode cX9_lookInto 2 = .ok (.putfield 133, 3) := by decide +kernel
theorem dX9_lookInto_5 : decode cX9_lookInto 5 = .ok (.iconst 0, 1) := by decide +kernel
theorem dX9_lookInto_6 : decode cX9_lookInto 6 = .ok (.istore_n 3, 1) := by decide +kernel
theorem dX9_lookInto_7 : decode cX9_lookInto 7 = .ok (.iload_n 3, 1) := by decide +kernel
theorem dX9_lookInto_8 : decode cX9_lookInto 8 = .ok (.iload_n 1, 1) := by decide +kernel
theorem dX9_lookInto_9 : decode cX9_lookInto 9 = .ok (.if_icmp .ge 68, 3) := by decide +kernel
theorem dX9_lookInto_12 : decode cX9_lookInto 12 = .ok (.aload_n 0, 1) := by decide +kernel
theorem dX9_lookInto_13 : decode cX9_lookInto 13 = .ok (.getfield 49, 3) := by decide +kernel
theorem dX9_lookInto_16 : decode cX9_lookInto 16 = .ok (.iload_n 3, 1) := by decide +kernel
theorem dX9_lookInto_17 : decode cX9_lookInto 17 = .ok (.iconst 0, 1) := by decide +kernel
theorem dX9_lookInto_18 : decode cX9_lookInto 18 = .ok (.iastore, 1) := by decide +kernel
theorem dX9_lookInto_19 : decode cX9_lookInto 19 = .ok (.iconst 0, 1) := by decide +kernel
theorem dX9_lookInto_20 : decode cX9_lookInto 20 = .ok (.istore 4, 2) := by decide +kernel
theorem dX9_lookInto_22 : decode cX9_lookInto 22 = .ok (.iload 4, 2) := by decide +kernel
theorem dX9_lookInto_24 : decode cX9_lookInto 24 = .ok (.iload_n 1, 1) := by decide +kernel
theorem dX9_lookInto_25 : decode cX9_lookInto 25 = .ok (.if_icmp .ge 46, 3) := by decide +kernel
theorem dX9_lookInto_28 : decode cX9_lookInto 28 = .ok (.aload_n 0, 1) := by decide +kernel
theorem dX9_lookInto_29 : decode cX9_lookInto 29 = .ok (.getfield 49, 3) := by decide +kernel
theorem dX9_lookInto_32 : decode cX9_lookInto 32 = .ok (.iload_n 3, 1) := by decide +kernel
theorem dX9_lookInto_33 : decode cX9_lookInto 33 = .ok (.dup2, 1) := by decide +kernel
theorem dX9_lookInto_34 : decode cX9_lookInto 34 = .ok (.iaload, 1) := by decide +kernel
theorem dX9_lookInto_35 : decode cX9_lookInto 35 = .ok (.iload_n 3, 1) := by decide +kernel
theorem dX9_lookInto_36 : decode cX9_lookInto 36 = .ok (.iload 4, 2) := by decide +kernel
theorem dX9_lookInto_38 : decode cX9_lookInto 38 = .ok (.if_icmp .eq 24, 3) := by decide +kernel
theorem dX9_lookInto_41 : decode cX9_lookInto 41 = .ok (.iload_n 2, 1) := by decide +kernel
theorem dX9_lookInto_42 : decode cX9_lookInto 42 = .ok (.iload_n 3, 1) := by decide +kernel
theorem dX9_lookInto_43 : decode cX9_lookInto 43 = .ok (.iload 4, 2) := by decide +kernel
theorem dX9_lookInto_45 : decode cX9_lookInto 45 = .ok (.invokestatic 9, 3) := by decide +kernel
theorem dX9_lookInto_48 : decode cX9_lookInto 48 = .ok (.ishr, 1) := by decide +kernel
theorem dX9_lookInto_49 : decode cX9_lookInto 49 = .ok (.iconst 1, 1) := by decide +kernel
theorem dX9_lookInto_50 : decode cX9_lookInto 50 = .ok (.iand, 1) := by decide +kernel
theorem dX9_lookInto_51 : decode cX9_lookInto 51 = .ok (.iconst 1, 1) := by decide +kernel
theorem dX9_lookInto_52 : decode cX9_lookInto 52 = .ok (.if_icmp .ne 10, 3) := by decide +kernel
theorem dX9_lookInto_55 : decode cX9_lookInto 55 = .ok (.iconst 1, 1) := by decide +kernel
theorem dX9_lookInto_56 : decode cX9_lookInto 56 = .ok (.iload 4, 2) := by decide +kernel
theorem dX9_lookInto_58 : decode cX9_lookInto 58 = .ok (.ishl, 1) := by decide +kernel
theorem dX9_lookInto_59 : decode cX9_lookInto 59 = .ok (.goto 4, 3) := by decide +kernel
theorem dX9_lookInto_62 : decode cX9_lookInto 62 = .ok (.iconst 0, 1) := by decide +kernel
theorem dX9_lookInto_63 : decode cX9_lookInto 63 = .ok (.ior, 1) := by decide +kernel
theorem dX9_lookInto_64 : decode cX9_lookInto 64 = .ok (.iastore, 1) := by decide +kernel
theorem dX9_lookInto_65 : decode cX9_lookInto 65 = .ok (.iinc 4 1, 3) := by decide +kernel
theorem dX9_lookInto_68 : decode cX9_lookInto 68 = .ok (.goto (-46), 3) := by decide +kernel
theorem dX9_lookInto_71 : decode cX9_lookInto 71 = .ok (.iinc 3 1, 3) := by decide +kernel
theorem dX9_lookInto_74 : decode cX9_lookInto 74 = .ok (.goto (-67), 3) := by decide +kernel
theorem dX9_lookInto_77 : decode cX9_lookInto 77 = .ok (.return_, 1) := by decide +kernel
theorem dX9_lookInHand_0 : decode cX9_lookInHand 0 = .ok (.aload_n 0, 1) := by decide +kernel
theorem dX9_lookInHand_1 : decode cX9_lookInHand 1 = .ok (.aload_n 0, 1) := by decide +kernel
theorem dX9_lookInHand_2 : decode cX9_lookInHand 2 = .ok (.getfield 137, 3) := by decide +kernel
theorem dX9_lookInHand_5 : decode cX9_lookInHand 5 = .ok (.putfield 133, 3) := by decide +kernel
theorem dX9_lookInHand_8 : decode cX9_lookInHand 8 = .ok (.iconst 0, 1) := by decide +kernel
theorem dX9_lookInHand_9 : decode cX9_lookInHand 9 = .ok (.istore_n 1, 1) := by decide +kernel
theorem dX9_lookInHand_10 : decode cX9_lookInHand 10 = .ok (.iload_n 1, 1) := by decide +kernel
theorem dX9_lookInHand_11 : decode cX9_lookInHand 11 = .ok (.aload_n 0, 1) := by decide +kernel
theorem dX9_lookInHand_12 : decode cX9_lookInHand 12 = .ok (.getfield 137, 3) := by decide +kernel
theorem dX9_lookInHand_15 : decode cX9_lookInHand 15 = .ok (.if_icmp .ge 21, 3) := by decide +kernel
theorem dX9_lookInHand_18 : decode cX9_lookInHand 18 = .ok (.aload_n 0, 1) := by decide +kernel
theorem dX9_lookInHand_19 : decode cX9_lookInHand 19 = .ok (.getfield 49, 3) := by decide +kernel
theorem dX9_lookInHand_22 : decode cX9_lookInHand 22 = .ok (.iload_n 1, 1) := by decide +kernel
theorem dX9_lookInHand_23 : decode cX9_lookInHand 23 = .ok (.aload_n 0, 1) := by decide +kernel
theorem dX9_lookInHand_24 : decode cX9_lookInHand 24 = .ok (.getfield 46, 3) := by decide +kernel
theorem dX9_lookInHand_27 : decode cX9_lookInHand 27 = .ok (.iload_n 1, 1) := by decide +kernel
theorem dX9_lookInHand_28 : decode cX9_lookInHand 28 = .ok (.iaload, 1) := by decide +kernel
theorem dX9_lookInHand_29 : decode cX9_lookInHand 29 = .ok (.iastore, 1) := by decide +kernel
theorem dX9_lookInHand_30 : decode cX9_lookInHand 30 = .ok (.iinc 1 1, 3) := by decide +kernel
theorem dX9_lookInHand_33 : decode cX9_lookInHand 33 = .ok (.goto (-23), 3) := by decide +kernel
theorem dX9_lookInHand_36 : decode cX9_lookInHand 36 = .ok (.return_, 1) := by decide +kernel
theorem dX9_codeOn_0 : decode cX9_codeOn 0 = .ok (.iconst 0, 1) := by decide +kernel
theorem dX9_codeOn_1 : decode cX9_codeOn 1 = .ok (.istore_n 3, 1) := by decide +kernel
theorem dX9_codeOn_2 : decode cX9_codeOn 2 = .ok (.iload_n 2, 1) := by decide +kernel
theorem dX9_codeOn_3 : decode cX9_codeOn 3 = .ok (.ifCond .lt 12, 3) := by decide +kernel
theorem dX9_codeOn_6 : decode cX9_codeOn 6 = .ok (.aload_n 0, 1) := by decide +kernel
theorem dX9_codeOn_7 : decode cX9_codeOn 7 = .ok (.getfield 84, 3) := by decide +kernel
theorem dX9_codeOn_10 : decode cX9_codeOn 10 = .ok (.iconst 0, 1) := by decide +kernel
theorem dX9_codeOn_11 : decode cX9_codeOn 11 = .ok (.iload_n 2, 1) := by decide +kernel
theorem dX9_codeOn_12 : decode cX9_codeOn 12 = .ok (.iastore, 1) := by decide +kernel
theorem dX9_codeOn_13 : decode cX9_codeOn 13 = .ok (.iconst 1, 1) := by decide +kernel
theorem dX9_codeOn_14 : decode cX9_codeOn 14 = .ok (.istore_n 3, 1) := by decide +kernel
theorem dX9_codeOn_15 : decode cX9_codeOn 15 = .ok (.iconst 0, 1) := by decide +kernel
theorem dX9_codeOn_16 : decode cX9_codeOn 16 = .ok (.istore 4, 2) := by decide +kernel
theorem dX9_codeOn_18 : decode cX9_codeOn 18 = .ok (.iload 4, 2) := by decide +kernel
theorem dX9_codeOn_20 : decode cX9_codeOn 20 = .ok (.aload_n 0, 1) := by decide +kernel
theorem dX9_codeOn_21 : decode cX9_codeOn 21 = .ok (.getfield 133, 3) := by decide +kernel
theorem dX9_codeOn_24 : decode cX9_codeOn 24 = .ok (.if_icmp .ge 36, 3) := by decide +kernel
theorem dX9_codeOn_27 : decode cX9_codeOn 27 = .ok (.iload 4, 2) := by decide +kernel
theorem dX9_codeOn_29 : decode cX9_codeOn 29 = .ok (.iload_n 2, 1) := by decide +kernel
theorem dX9_codeOn_30 : decode cX9_codeOn 30 = .ok (.if_icmp .eq 24, 3) := by decide +kernel
theorem dX9_codeOn_33 : decode cX9_codeOn 33 = .ok (.iload_n 1, 1) := by decide +kernel
theorem dX9_codeOn_34 : decode cX9_codeOn 34 = .ok (.iload 4, 2) := by decide +kernel
theorem dX9_codeOn_36 : decode cX9_codeOn 36 = .ok (.ishr, 1) := by decide +kernel
theorem dX9_codeOn_37 : decode cX9_codeOn 37 = .ok (.iconst 1, 1) := by decide +kernel
theorem dX9_codeOn_38 : decode cX9_codeOn 38 = .ok (.iand, 1) := by decide +kernel
theorem dX9_codeOn_39 : decode cX9_codeOn 39 = .ok (.iconst 1, 1) := by decide +kernel
theorem dX9_codeOn_40 : decode cX9_codeOn 40 = .ok (.if_icmp .ne 14, 3) := by decide +kernel
theorem dX9_codeOn_43 : decode cX9_codeOn 43 = .ok (.aload_n 0, 1) := by decide +kernel
theorem dX9_codeOn_44 : decode cX9_codeOn 44 = .ok (.getfield 84, 3) := by decide +kernel
theorem dX9_codeOn_47 : decode cX9_codeOn 47 = .ok (.iload_n 3, 1) := by decide +kernel
theorem dX9_codeOn_48 : decode cX9_codeOn 48 = .ok (.iload 4, 2) := by decide +kernel
theorem dX9_codeOn_50 : decode cX9_codeOn 50 = .ok (.iastore, 1) := by decide +kernel
theorem dX9_codeOn_51 : decode cX9_codeOn 51 = .ok (.iinc 3 1, 3) := by decide +kernel
theorem dX9_codeOn_54 : decode cX9_codeOn 54 = .ok (.iinc 4 1, 3) := by decide +kernel
theorem dX9_codeOn_57 : decode cX9_codeOn 57 = .ok (.goto (-39), 3) := by decide +kernel
theorem dX9_codeOn_60 : decode cX9_codeOn 60 = .ok (.iconst 0, 1) := by decide +kernel
theorem dX9_codeOn_61 : decode cX9_codeOn 61 = .ok (.istore 4, 2) := by decide +kernel
theorem dX9_codeOn_63 : decode cX9_codeOn 63 = .ok (.iconst 1, 1) := by decide +kernel
theorem dX9_codeOn_64 : decode cX9_codeOn 64 = .ok (.istore 5, 2) := by decide +kernel
theorem dX9_codeOn_66 : decode cX9_codeOn 66 = .ok (.iload 5, 2) := by decide +kernel
theorem dX9_codeOn_68 : decode cX9_codeOn 68 = .ok (.iload_n 3, 1) := by decide +kernel
theorem dX9_codeOn_69 : decode cX9_codeOn 69 = .ok (.if_icmp .ge 69, 3) := by decide +kernel
theorem dX9_codeOn_72 : decode cX9_codeOn 72 = .ok (.iconst 0, 1) := by decide +kernel
theorem dX9_codeOn_73 : decode cX9_codeOn 73 = .ok (.istore 6, 2) := by decide +kernel
theorem dX9_codeOn_75 : decode cX9_codeOn 75 = .ok (.iload 6, 2) := by decide +kernel
theorem dX9_codeOn_77 : decode cX9_codeOn 77 = .ok (.iload 5, 2) := by decide +kernel
theorem dX9_codeOn_79 : decode cX9_codeOn 79 = .ok (.if_icmp .ge 53, 3) := by decide +kernel
theorem dX9_codeOn_82 : decode cX9_codeOn 82 = .ok (.iload 4, 2) := by decide +kernel
theorem dX9_codeOn_84 : decode cX9_codeOn 84 = .ok (.aload_n 0, 1) := by decide +kernel
theorem dX9_codeOn_85 : decode cX9_codeOn 85 = .ok (.getfield 49, 3) := by decide +kernel
theorem dX9_codeOn_88 : decode cX9_codeOn 88 = .ok (.aload_n 0, 1) := by decide +kernel
theorem dX9_codeOn_89 : decode cX9_codeOn 89 = .ok (.getfield 84, 3) := by decide +kernel
theorem dX9_codeOn_92 : decode cX9_codeOn 92 = .ok (.iload 6, 2) := by decide +kernel
theorem dX9_codeOn_94 : decode cX9_codeOn 94 = .ok (.iaload, 1) := by decide +kernel
theorem dX9_codeOn_95 : decode cX9_codeOn 95 = .ok (.iaload, 1) := by decide +kernel
theorem dX9_codeOn_96 : decode cX9_codeOn 96 = .ok (.aload_n 0, 1) := by decide +kernel
theorem dX9_codeOn_97 : decode cX9_codeOn 97 = .ok (.getfield 84, 3) := by decide +kernel
theorem dX9_codeOn_100 : decode cX9_codeOn 100 = .ok (.iload 5, 2) := by decide +kernel
theorem dX9_codeOn_102 : decode cX9_codeOn 102 = .ok (.iaload, 1) := by decide +kernel
theorem dX9_codeOn_103 : decode cX9_codeOn 103 = .ok (.ishr, 1) := by decide +kernel
theorem dX9_codeOn_104 : decode cX9_codeOn 104 = .ok (.iconst 1, 1) := by decide +kernel
theorem dX9_codeOn_105 : decode cX9_codeOn 105 = .ok (.iand, 1) := by decide +kernel
theorem dX9_codeOn_106 : decode cX9_codeOn 106 = .ok (.iconst 1, 1) := by decide +kernel
theorem dX9_codeOn_107 : decode cX9_codeOn 107 = .ok (.if_icmp .ne 15, 3) := by decide +kernel
theorem dX9_codeOn_110 : decode cX9_codeOn 110 = .ok (.iconst 1, 1) := by decide +kernel
theorem dX9_codeOn_111 : decode cX9_codeOn 111 = .ok (.iload 6, 2) := by decide +kernel
theorem dX9_codeOn_113 : decode cX9_codeOn 113 = .ok (.iload 5, 2) := by decide +kernel
theorem dX9_codeOn_115 : decode cX9_codeOn 115 = .ok (.invokestatic 9, 3) := by decide +kernel
theorem dX9_codeOn_118 : decode cX9_codeOn 118 = .ok (.ishl, 1) := by decide +kernel
theorem dX9_codeOn_119 : decode cX9_codeOn 119 = .ok (.goto 4, 3) := by decide +kernel
theorem dX9_codeOn_122 : decode cX9_codeOn 122 = .ok (.iconst 0, 1) := by decide +kernel
theorem dX9_codeOn_123 : decode cX9_codeOn 123 = .ok (.ior, 1) := by decide +kernel
theorem dX9_codeOn_124 : decode cX9_codeOn 124 = .ok (.istore 4, 2) := by decide +kernel
theorem dX9_codeOn_126 : decode cX9_codeOn 126 = .ok (.iinc 6 1, 3) := by decide +kernel
theorem dX9_codeOn_129 : decode cX9_codeOn 129 = .ok (.goto (-54), 3) := by decide +kernel
theorem dX9_codeOn_132 : decode cX9_codeOn 132 = .ok (.iinc 5 1, 3) := by decide +kernel
theorem dX9_codeOn_135 : decode cX9_codeOn 135 = .ok (.goto (-69), 3) := by decide +kernel
theorem dX9_codeOn_138 : decode cX9_codeOn 138 = .ok (.iload 4, 2) := by decide +kernel
theorem dX9_codeOn_140 : decode cX9_codeOn 140 = .ok (.ireturn, 1) := by decide +kernel
theorem dX9_numberOn_0 : decode cX9_numberOn 0 = .ok (.bipush 64, 2) := by decide +kernel
theorem dX9_numberOn_2 : decode cX9_numberOn 2 = .ok (.iload_n 1, 1) := by decide +kernel
theorem dX9_numberOn_3 : decode cX9_numberOn 3 = .ok (.invokestatic 140, 3) := by decide +kernel
theorem dX9_numberOn_6 : decode cX9_numberOn 6 = .ok (.imul, 1) := by decide +kernel
theorem dX9_numberOn_7 : decode cX9_numberOn 7 = .ok (.aload_n 0, 1) := by decide +kernel
theorem dX9_numberOn_8 : decode cX9_numberOn 8 = .ok (.iload_n 1, 1) := by decide +kernel
theorem dX9_numberOn_9 : decode cX9_numberOn 9 = .ok (.iload_n 2, 1) := by decide +kernel
theorem dX9_numberOn_10 : decode cX9_numberOn 10 = .ok (.invokevirtual 143, 3) := by decide +kernel
theorem dX9_numberOn_13 : decode cX9_numberOn 13 = .ok (.iadd, 1) := by decide +kernel
theorem dX9_numberOn_14 : decode cX9_numberOn 14 = .ok (.istore_n 3, 1) := by decide +kernel
theorem dX9_numberOn_15 : decode cX9_numberOn 15 = .ok (.iload_n 2, 1) := by decide +kernel
theorem dX9_numberOn_16 : decode cX9_numberOn 16 = .ok (.ifCond .lt 12, 3) := by decide +kernel
theorem dX9_numberOn_19 : decode cX9_numberOn 19 = .ok (.aload_n 0, 1) := by decide +kernel
theorem dX9_numberOn_20 : decode cX9_numberOn 20 = .ok (.getfield 37, 3) := by decide +kernel
theorem dX9_numberOn_23 : decode cX9_numberOn 23 = .ok (.iload_n 3, 1) := by decide +kernel
theorem dX9_numberOn_24 : decode cX9_numberOn 24 = .ok (.iaload, 1) := by decide +kernel
theorem dX9_numberOn_25 : decode cX9_numberOn 25 = .ok (.goto 9, 3) := by decide +kernel
theorem dX9_numberOn_28 : decode cX9_numberOn 28 = .ok (.aload_n 0, 1) := by decide +kernel
theorem dX9_numberOn_29 : decode cX9_numberOn 29 = .ok (.getfield 34, 3) := by decide +kernel
theorem dX9_numberOn_32 : decode cX9_numberOn 32 = .ok (.iload_n 3, 1) := by decide +kernel
theorem dX9_numberOn_33 : decode cX9_numberOn 33 = .ok (.iaload, 1) := by decide +kernel
theorem dX9_numberOn_34 : decode cX9_numberOn 34 = .ok (.ireturn, 1) := by decide +kernel
theorem dX9_common_0 : decode cX9_common 0 = .ok (.lload_n 0, 1) := by decide +kernel
theorem dX9_common_1 : decode cX9_common 1 = .ok (.lstore 4, 2) := by decide +kernel
theorem dX9_common_3 : decode cX9_common 3 = .ok (.lload_n 2, 1) := by decide +kernel
theorem dX9_common_4 : decode cX9_common 4 = .ok (.lstore 6, 2) := by decide +kernel
theorem dX9_common_6 : decode cX9_common 6 = .ok (.lload 6, 2) := by decide +kernel
theorem dX9_common_8 : decode cX9_common 8 = .ok (.lconst 0, 1) := by decide +kernel
theorem dX9_common_9 : decode cX9_common 9 = .ok (.lcmp, 1) := by decide +kernel
theorem dX9_common_10 : decode cX9_common 10 = .ok (.ifCond .eq 21, 3) := by decide +kernel
theorem dX9_common_13 : decode cX9_common 13 = .ok (.lload 4, 2) := by decide +kernel
theorem dX9_common_15 : decode cX9_common 15 = .ok (.lload 6, 2) := by decide +kernel
theorem dX9_common_17 : decode cX9_common 17 = .ok (.lrem, 1) := by decide +kernel
theorem dX9_common_18 : decode cX9_common 18 = .ok (.lstore 8, 2) := by decide +kernel
theorem dX9_common_20 : decode cX9_common 20 = .ok (.lload 6, 2) := by decide +kernel
theorem dX9_common_22 : decode cX9_common 22 = .ok (.lstore 4, 2) := by decide +kernel
theorem dX9_common_24 : decode cX9_common 24 = .ok (.lload 8, 2) := by decide +kernel
theorem dX9_common_26 : decode cX9_common 26 = .ok (.lstore 6, 2) := by decide +kernel
theorem dX9_common_28 : decode cX9_common 28 = .ok (.goto (-22), 3) := by decide +kernel
theorem dX9_common_31 : decode cX9_common 31 = .ok (.lload 4, 2) := by decide +kernel
theorem dX9_common_33 : decode cX9_common 33 = .ok (.lconst 0, 1) := by decide +kernel
theorem dX9_common_34 : decode cX9_common 34 = .ok (.lcmp, 1) := by decide +kernel
theorem dX9_common_35 : decode cX9_common 35 = .ok (.ifCond .ge 9, 3) := by decide +kernel
theorem dX9_common_38 : decode cX9_common 38 = .ok (.lload 4, 2) := by decide +kernel
theorem dX9_common_40 : decode cX9_common 40 = .ok (.lneg, 1) := by decide +kernel
theorem dX9_common_41 : decode cX9_common 41 = .ok (.goto 5, 3) := by decide +kernel
theorem dX9_common_44 : decode cX9_common 44 = .ok (.lload 4, 2) := by decide +kernel
theorem dX9_common_46 : decode cX9_common 46 = .ok (.lreturn, 1) := by decide +kernel
theorem dX9_lay_0 : decode cX9_lay 0 = .ok (.lload_n 1, 1) := by decide +kernel
theorem dX9_lay_1 : decode cX9_lay 1 = .ok (.lload_n 3, 1) := by decide +kernel
theorem dX9_lay_2 : decode cX9_lay 2 = .ok (.invokestatic 146, 3) := by decide +kernel
theorem dX9_lay_5 : decode cX9_lay 5 = .ok (.lstore 5, 2) := by decide +kernel
theorem dX9_lay_7 : decode cX9_lay 7 = .ok (.aload_n 0, 1) := by decide +kernel
theorem dX9_lay_8 : decode cX9_lay 8 = .ok (.lload_n 1, 1) := by decide +kernel
theorem dX9_lay_9 : decode cX9_lay 9 = .ok (.lload 5, 2) := by decide +kernel
theorem dX9_lay_11 : decode cX9_lay 11 = .ok (.ldiv, 1) := by decide +kernel
theorem dX9_lay_12 : decode cX9_lay 12 = .ok (.putfield 150, 3) := by decide +kernel
theorem dX9_lay_15 : decode cX9_lay 15 = .ok (.aload_n 0, 1) := by decide +kernel
theorem dX9_lay_16 : decode cX9_lay 16 = .ok (.lload_n 3, 1) := by decide +kernel
theorem dX9_lay_17 : decode cX9_lay 17 = .ok (.lload 5, 2) := by decide +kernel
theorem dX9_lay_19 : decode cX9_lay 19 = .ok (.ldiv, 1) := by decide +kernel
theorem dX9_lay_20 : decode cX9_lay 20 = .ok (.putfield 154, 3) := by decide +kernel
theorem dX9_lay_23 : decode cX9_lay 23 = .ok (.return_, 1) := by decide +kernel
theorem dX9_insideOf_0 : decode cX9_insideOf 0 = .ok (.lconst 0, 1) := by decide +kernel
theorem dX9_insideOf_1 : decode cX9_insideOf 1 = .ok (.lstore 4, 2) := by decide +kernel
theorem dX9_insideOf_3 : decode cX9_insideOf 3 = .ok (.lconst 0, 1) := by decide +kernel
theorem dX9_insideOf_4 : decode cX9_insideOf 4 = .ok (.lstore 6, 2) := by decide +kernel
theorem dX9_insideOf_6 : decode cX9_insideOf 6 = .ok (.iconst 0, 1) := by decide +kernel
theorem dX9_insideOf_7 : decode cX9_insideOf 7 = .ok (.istore 8, 2) := by decide +kernel
theorem dX9_insideOf_9 : decode cX9_insideOf 9 = .ok (.iload 8, 2) := by decide +kernel
theorem dX9_insideOf_11 : decode cX9_insideOf 11 = .ok (.iconst 1, 1) := by decide +kernel
theorem dX9_insideOf_12 : decode cX9_insideOf 12 = .ok (.aload_n 0, 1) := by decide +kernel
theorem dX9_insideOf_13 : decode cX9_insideOf 13 = .ok (.getfield 133, 3) := by decide +kernel
theorem dX9_insideOf_16 : decode cX9_insideOf 16 = .ok (.ishl, 1) := by decide +kernel
theorem dX9_insideOf_17 : decode cX9_insideOf 17 = .ok (.if_icmp .ge 59, 3) := by decide +kernel
theorem dX9_insideOf_20 : decode cX9_insideOf 20 = .ok (.iload 8, 2) := by decide +kernel
theorem dX9_insideOf_22 : decode cX9_insideOf 22 = .ok (.invokestatic 140, 3) := by decide +kernel
theorem dX9_insideOf_25 : decode cX9_insideOf 25 = .ok (.iload_n 2, 1) := by decide +kernel
theorem dX9_insideOf_26 : decode cX9_insideOf 26 = .ok (.if_icmp .ne 44, 3) := by decide +kernel
theorem dX9_insideOf_29 : decode cX9_insideOf 29 = .ok (.iload_n 3, 1) := by decide +kernel
theorem dX9_insideOf_30 : decode cX9_insideOf 30 = .ok (.ifCond .lt 13, 3) := by decide +kernel
theorem dX9_insideOf_33 : decode cX9_insideOf 33 = .ok (.iload 8, 2) := by decide +kernel
theorem dX9_insideOf_35 : decode cX9_insideOf 35 = .ok (.iload_n 3, 1) := by decide +kernel
theorem dX9_insideOf_36 : decode cX9_insideOf 36 = .ok (.ishr, 1) := by decide +kernel
theorem dX9_insideOf_37 : decode cX9_insideOf 37 = .ok (.iconst 1, 1) := by decide +kernel
theorem dX9_insideOf_38 : decode cX9_insideOf 38 = .ok (.iand, 1) := by decide +kernel
theorem dX9_insideOf_39 : decode cX9_insideOf 39 = .ok (.iconst 1, 1) := by decide +kernel
theorem dX9_insideOf_40 : decode cX9_insideOf 40 = .ok (.if_icmp .ne 30, 3) := by decide +kernel
theorem dX9_insideOf_43 : decode cX9_insideOf 43 = .ok (.lload 6, 2) := by decide +kernel
theorem dX9_insideOf_45 : decode cX9_insideOf 45 = .ok (.lconst 1, 1) := by decide +kernel
theorem dX9_insideOf_46 : decode cX9_insideOf 46 = .ok (.ladd, 1) := by decide +kernel
theorem dX9_insideOf_47 : decode cX9_insideOf 47 = .ok (.lstore 6, 2) := by decide +kernel
theorem dX9_insideOf_49 : decode cX9_insideOf 49 = .ok (.lload 4, 2) := by decide +kernel
theorem dX9_insideOf_51 : decode cX9_insideOf 51 = .ok (.aload_n 0, 1) := by decide +kernel
theorem dX9_insideOf_52 : decode cX9_insideOf 52 = .ok (.iload 8, 2) := by decide +kernel
theorem dX9_insideOf_54 : decode cX9_insideOf 54 = .ok (.iload_n 3, 1) := by decide +kernel
theorem dX9_insideOf_55 : decode cX9_insideOf 55 = .ok (.invokevirtual 157, 3) := by decide +kernel
theorem dX9_insideOf_58 : decode cX9_insideOf 58 = .ok (.iload_n 1, 1) := by decide +kernel
theorem dX9_insideOf_59 : decode cX9_insideOf 59 = .ok (.if_icmp .ne 7, 3) := by decide +kernel
theorem dX9_insideOf_62 : decode cX9_insideOf 62 = .ok (.lconst 1, 1) := by decide +kernel
theorem dX9_insideOf_63 : decode cX9_insideOf 63 = .ok (.goto 4, 3) := by decide +kernel
theorem dX9_insideOf_66 : decode cX9_insideOf 66 = .ok (.lconst 0, 1) := by decide +kernel
theorem dX9_insideOf_67 : decode cX9_insideOf 67 = .ok (.ladd, 1) := by decide +kernel
theorem dX9_insideOf_68 : decode cX9_insideOf 68 = .ok (.lstore 4, 2) := by decide +kernel
theorem dX9_insideOf_70 : decode cX9_insideOf 70 = .ok (.iinc 8 1, 3) := by decide +kernel
theorem dX9_insideOf_73 : decode cX9_insideOf 73 = .ok (.goto (-64), 3) := by decide +kernel
theorem dX9_insideOf_76 : decode cX9_insideOf 76 = .ok (.aload_n 0, 1) := by decide +kernel
theorem dX9_insideOf_77 : decode cX9_insideOf 77 = .ok (.lload 4, 2) := by decide +kernel
theorem dX9_insideOf_79 : decode cX9_insideOf 79 = .ok (.lload 6, 2) := by decide +kernel
theorem dX9_insideOf_81 : decode cX9_insideOf 81 = .ok (.invokevirtual 160, 3) := by decide +kernel
theorem dX9_insideOf_84 : decode cX9_insideOf 84 = .ok (.return_, 1) := by decide +kernel
theorem dX9_jointOf_0 : decode cX9_jointOf 0 = .ok (.lconst 0, 1) := by decide +kernel
theorem dX9_jointOf_1 : decode cX9_jointOf 1 = .ok (.lstore 6, 2) := by decide +kernel
theorem dX9_jointOf_3 : decode cX9_jointOf 3 = .ok (.lconst 0, 1) := by decide +kernel
theorem dX9_jointOf_4 : decode cX9_jointOf 4 = .ok (.lstore 8, 2) := by decide +kernel
theorem dX9_jointOf_6 : decode cX9_jointOf 6 = .ok (.iconst 0, 1) := by decide +kernel
theorem dX9_jointOf_7 : decode cX9_jointOf 7 = .ok (.istore 10, 2) := by decide +kernel
theorem dX9_jointOf_9 : decode cX9_jointOf 9 = .ok (.iload 10, 2) := by decide +kernel
theorem dX9_jointOf_11 : decode cX9_jointOf 11 = .ok (.iconst 1, 1) := by decide +kernel
theorem dX9_jointOf_12 : decode cX9_jointOf 12 = .ok (.aload_n 0, 1) := by decide +kernel
theorem dX9_jointOf_13 : decode cX9_jointOf 13 = .ok (.getfield 133, 3) := by decide +kernel
theorem dX9_jointOf_16 : decode cX9_jointOf 16 = .ok (.ishl, 1) := by decide +kernel
theorem dX9_jointOf_17 : decode cX9_jointOf 17 = .ok (.if_icmp .ge 53, 3) := by decide +kernel
theorem dX9_jointOf_20 : decode cX9_jointOf 20 = .ok (.aload_n 0, 1) := by decide +kernel
theorem dX9_jointOf_21 : decode cX9_jointOf 21 = .ok (.getfield 87, 3) := by decide +kernel
theorem dX9_jointOf_24 : decode cX9_jointOf 24 = .ok (.iload 10, 2) := by decide +kernel
theorem dX9_jointOf_26 : decode cX9_jointOf 26 = .ok (.iload 10, 2) := by decide +kernel
theorem dX9_jointOf_28 : decode cX9_jointOf 28 = .ok (.invokestatic 140, 3) := by decide +kernel
theorem dX9_jointOf_31 : decode cX9_jointOf 31 = .ok (.iconst 5, 1) := by decide +kernel
theorem dX9_jointOf_32 : decode cX9_jointOf 32 = .ok (.if_icmp .ge 30, 3) := by decide +kernel
theorem dX9_jointOf_35 : decode cX9_jointOf 35 = .ok (.iload 5, 2) := by decide +kernel
theorem dX9_jointOf_37 : decode cX9_jointOf 37 = .ok (.ifCond .lt 14, 3) := by decide +kernel
theorem dX9_jointOf_40 : decode cX9_jointOf 40 = .ok (.iload 10, 2) := by decide +kernel
theorem dX9_jointOf_42 : decode cX9_jointOf 42 = .ok (.iload 5, 2) := by decide +kernel
theorem dX9_jointOf_44 : decode cX9_jointOf 44 = .ok (.ishr, 1) := by decide +kernel
theorem dX9_jointOf_45 : decode cX9_jointOf 45 = .ok (.iconst 1, 1) := by decide +kernel
theorem dX9_jointOf_46 : decode cX9_jointOf 46 = .ok (.iand, 1) := by decide +kernel
theorem dX9_jointOf_47 : decode cX9_jointOf 47 = .ok (.iconst 1, 1) := by decide +kernel
theorem dX9_jointOf_48 : decode cX9_jointOf 48 = .ok (.if_icmp .ne 14, 3) := by decide +kernel
theorem dX9_jointOf_51 : decode cX9_jointOf 51 = .ok (.aload_n 0, 1) := by decide +kernel
theorem dX9_jointOf_52 : decode cX9_jointOf 52 = .ok (.iload 10, 2) := by decide +kernel
theorem dX9_jointOf_54 : decode cX9_jointOf 54 = .ok (.iload 5, 2) := by decide +kernel
theorem dX9_jointOf_56 : decode cX9_jointOf 56 = .ok (.invokevirtual 157, 3) := by decide +kernel
theorem dX9_jointOf_59 : decode cX9_jointOf 59 = .ok (.goto 4, 3) := by decide +kernel
theorem dX9_jointOf_62 : decode cX9_jointOf 62 = .ok (.iconst (-1), 1) := by decide +kernel
theorem dX9_jointOf_63 : decode cX9_jointOf 63 = .ok (.iastore, 1) := by decide +kernel
theorem dX9_jointOf_64 : decode cX9_jointOf 64 = .ok (.iinc 10 1, 3) := by decide +kernel
theorem dX9_jointOf_67 : decode cX9_jointOf 67 = .ok (.goto (-58), 3) := by decide +kernel
theorem dX9_jointOf_70 : decode cX9_jointOf 70 = .ok (.iload 5, 2) := by decide +kernel
theorem dX9_jointOf_72 : decode cX9_jointOf 72 = .ok (.ifCond .ge 7, 3) := by decide +kernel
theorem dX9_jointOf_75 : decode cX9_jointOf 75 = .ok (.iconst 0, 1) := by decide +kernel
theorem dX9_jointOf_76 : decode cX9_jointOf 76 = .ok (.goto 7, 3) := by decide +kernel
theorem dX9_jointOf_79 : decode cX9_jointOf 79 = .ok (.iconst 1, 1) := by decide +kernel
theorem dX9_jointOf_80 : decode cX9_jointOf 80 = .ok (.iload 5, 2) := by decide +kernel
theorem dX9_jointOf_82 : decode cX9_jointOf 82 = .ok (.ishl, 1) := by decide +kernel
theorem dX9_jointOf_83 : decode cX9_jointOf 83 = .ok (.istore 10, 2) := by decide +kernel
theorem dX9_jointOf_85 : decode cX9_jointOf 85 = .ok (.iconst 0, 1) := by decide +kernel
theorem dX9_jointOf_86 : decode cX9_jointOf 86 = .ok (.istore 11, 2) := by decide +kernel
theorem dX9_jointOf_88 : decode cX9_jointOf 88 = .ok (.iload 11, 2) := by decide +kernel
theorem dX9_jointOf_90 : decode cX9_jointOf 90 = .ok (.iconst 1, 1) := by decide +kernel
theorem dX9_jointOf_91 : decode cX9_jointOf 91 = .ok (.aload_n 0, 1) := by decide +kernel
theorem dX9_jointOf_92 : decode cX9_jointOf 92 = .ok (.getfield 133, 3) := by decide +kernel
theorem dX9_jointOf_95 : decode cX9_jointOf 95 = .ok (.ishl, 1) := by decide +kernel
theorem dX9_jointOf_96 : decode cX9_jointOf 96 = .ok (.if_icmp .ge 116, 3) := by decide +kernel
theorem dX9_jointOf_99 : decode cX9_jointOf 99 = .ok (.iconst 0, 1) := by decide +kernel
theorem dX9_jointOf_100 : decode cX9_jointOf 100 = .ok (.istore 12, 2) := by decide +kernel
theorem dX9_jointOf_102 : decode cX9_jointOf 102 = .ok (.iload 12, 2) := by decide +kernel
theorem dX9_jointOf_104 : decode cX9_jointOf 104 = .ok (.iconst 1, 1) := by decide +kernel
theorem dX9_jointOf_105 : decode cX9_jointOf 105 = .ok (.aload_n 0, 1) := by decide +kernel
theorem dX9_jointOf_106 : decode cX9_jointOf 106 = .ok (.getfield 133, 3) := by decide +kernel
theorem dX9_jointOf_109 : decode cX9_jointOf 109 = .ok (.ishl, 1) := by decide +kernel
theorem dX9_jointOf_110 : decode cX9_jointOf 110 = .ok (.if_icmp .ge 96, 3) := by decide +kernel
theorem dX9_jointOf_113 : decode cX9_jointOf 113 = .ok (.aload_n 0, 1) := by decide +kernel
theorem dX9_jointOf_114 : decode cX9_jointOf 114 = .ok (.getfield 87, 3) := by decide +kernel
theorem dX9_jointOf_117 : decode cX9_jointOf 117 = .ok (.iload 11, 2) := by decide +kernel
theorem dX9_jointOf_119 : decode cX9_jointOf 119 = .ok (.iaload, 1) := by decide +kernel
theorem dX9_jointOf_120 : decode cX9_jointOf 120 = .ok (.ifCond .lt 80, 3) := by decide +kernel
theorem dX9_jointOf_123 : decode cX9_jointOf 123 = .ok (.aload_n 0, 1) := by decide +kernel
theorem dX9_jointOf_124 : decode cX9_jointOf 124 = .ok (.getfield 87, 3) := by decide +kernel
theorem dX9_jointOf_127 : decode cX9_jointOf 127 = .ok (.iload 12, 2) := by decide +kernel
theorem dX9_jointOf_129 : decode cX9_jointOf 129 = .ok (.iaload, 1) := by decide +kernel
theorem dX9_jointOf_130 : decode cX9_jointOf 130 = .ok (.ifCond .lt 70, 3) := by decide +kernel
theorem dX9_jointOf_133 : decode cX9_jointOf 133 = .ok (.iload 11, 2) := by decide +kernel
theorem dX9_jointOf_135 : decode cX9_jointOf 135 = .ok (.iload 12, 2) := by decide +kernel
theorem dX9_jointOf_137 : decode cX9_jointOf 137 = .ok (.iand, 1) := by decide +kernel
theorem dX9_jointOf_138 : decode cX9_jointOf 138 = .ok (.iload 10, 2) := by decide +kernel
theorem dX9_jointOf_140 : decode cX9_jointOf 140 = .ok (.if_icmp .ne 60, 3) := by decide +kernel
theorem dX9_jointOf_143 : decode cX9_jointOf 143 = .ok (.iload 11, 2) := by decide +kernel
theorem dX9_jointOf_145 : decode cX9_jointOf 145 = .ok (.invokestatic 140, 3) := by decide +kernel
theorem dX9_jointOf_148 : decode cX9_jointOf 148 = .ok (.iload_n 2, 1) := by decide +kernel
theorem dX9_jointOf_149 : decode cX9_jointOf 149 = .ok (.if_icmp .ne 51, 3) := by decide +kernel
theorem dX9_jointOf_152 : decode cX9_jointOf 152 = .ok (.iload 12, 2) := by decide +kernel
theorem dX9_jointOf_154 : decode cX9_jointOf 154 = .ok (.invokestatic 140, 3) := by decide +kernel
theorem dX9_jointOf_157 : decode cX9_jointOf 157 = .ok (.iload 4, 2) := by decide +kernel
theorem dX9_jointOf_159 : decode cX9_jointOf 159 = .ok (.if_icmp .ne 41, 3) := by decide +kernel
theorem dX9_jointOf_162 : decode cX9_jointOf 162 = .ok (.lload 8, 2) := by decide +kernel
theorem dX9_jointOf_164 : decode cX9_jointOf 164 = .ok (.lconst 1, 1) := by decide +kernel
theorem dX9_jointOf_165 : decode cX9_jointOf 165 = .ok (.ladd, 1) := by decide +kernel
theorem dX9_jointOf_166 : decode cX9_jointOf 166 = .ok (.lstore 8, 2) := by decide +kernel
theorem dX9_jointOf_168 : decode cX9_jointOf 168 = .ok (.lload 6, 2) := by decide +kernel
theorem dX9_jointOf_170 : decode cX9_jointOf 170 = .ok (.aload_n 0, 1) := by decide +kernel
theorem dX9_jointOf_171 : decode cX9_jointOf 171 = .ok (.getfield 87, 3) := by decide +kernel
theorem dX9_jointOf_174 : decode cX9_jointOf 174 = .ok (.iload 11, 2) := by decide +kernel
theorem dX9_jointOf_176 : decode cX9_jointOf 176 = .ok (.iaload, 1) := by decide +kernel
theorem dX9_jointOf_177 : decode cX9_jointOf 177 = .ok (.iload_n 1, 1) := by decide +kernel
theorem dX9_jointOf_178 : decode cX9_jointOf 178 = .ok (.if_icmp .ne 18, 3) := by decide +kernel
theorem dX9_jointOf_181 : decode cX9_jointOf 181 = .ok (.aload_n 0, 1) := by decide +kernel
theorem dX9_jointOf_182 : decode cX9_jointOf 182 = .ok (.getfield 87, 3) := by decide +kernel
theorem dX9_jointOf_185 : decode cX9_jointOf 185 = .ok (.iload 12, 2) := by decide +kernel
theorem dX9_jointOf_187 : decode cX9_jointOf 187 = .ok (.iaload, 1) := by decide +kernel
theorem dX9_jointOf_188 : decode cX9_jointOf 188 = .ok (.iload_n 3, 1) := by decide +kernel
theorem dX9_jointOf_189 : decode cX9_jointOf 189 = .ok (.if_icmp .ne 7, 3) := by decide +kernel
theorem dX9_jointOf_192 : decode cX9_jointOf 192 = .ok (.lconst 1, 1) := by decide +kernel
theorem dX9_jointOf_193 : decode cX9_jointOf 193 = .ok (.goto 4, 3) := by decide +kernel
theorem dX9_jointOf_196 : decode cX9_jointOf 196 = .ok (.lconst 0, 1) := by decide +kernel
theorem dX9_jointOf_197 : decode cX9_jointOf 197 = .ok (.ladd, 1) := by decide +kernel
theorem dX9_jointOf_198 : decode cX9_jointOf 198 = .ok (.lstore 6, 2) := by decide +kernel
theorem dX9_jointOf_200 : decode cX9_jointOf 200 = .ok (.iinc 12 1, 3) := by decide +kernel
theorem dX9_jointOf_203 : decode cX9_jointOf 203 = .ok (.goto (-101), 3) := by decide +kernel
theorem dX9_jointOf_206 : decode cX9_jointOf 206 = .ok (.iinc 11 1, 3) := by decide +kernel
theorem dX9_jointOf_209 : decode cX9_jointOf 209 = .ok (.goto (-121), 3) := by decide +kernel
theorem dX9_jointOf_212 : decode cX9_jointOf 212 = .ok (.aload_n 0, 1) := by decide +kernel
theorem dX9_jointOf_213 : decode cX9_jointOf 213 = .ok (.lload 6, 2) := by decide +kernel
theorem dX9_jointOf_215 : decode cX9_jointOf 215 = .ok (.lload 8, 2) := by decide +kernel
theorem dX9_jointOf_217 : decode cX9_jointOf 217 = .ok (.invokevirtual 160, 3) := by decide +kernel
theorem dX9_jointOf_220 : decode cX9_jointOf 220 = .ok (.return_, 1) := by decide +kernel
theorem dX9_part_0 : decode cX9_part 0 = .ok (.iload_n 1, 1) := by decide +kernel
theorem dX9_part_1 : decode cX9_part 1 = .ok (.ifCond .ne 10, 3) := by decide +kernel
theorem dX9_part_4 : decode cX9_part 4 = .ok (.aload_n 0, 1) := by decide +kernel
theorem dX9_part_5 : decode cX9_part 5 = .ok (.getfield 150, 3) := by decide +kernel
theorem dX9_part_8 : decode cX9_part 8 = .ok (.goto 7, 3) := by decide +kernel
theorem dX9_part_11 : decode cX9_part 11 = .ok (.aload_n 0, 1) := by decide +kernel
theorem dX9_part_12 : decode cX9_part 12 = .ok (.getfield 154, 3) := by decide +kernel
theorem dX9_part_15 : decode cX9_part 15 = .ok (.lreturn, 1) := by decide +kernel
theorem dX9_multiplied_0 : decode cX9_multiplied 0 = .ok (.lload_n 1, 1) := by decide +kernel
theorem dX9_multiplied_1 : decode cX9_multiplied 1 = .ok (.lload_n 3, 1) := by decide +kernel
theorem dX9_multiplied_2 : decode cX9_multiplied 2 = .ok (.lmul, 1) := by decide +kernel
theorem dX9_multiplied_3 : decode cX9_multiplied 3 = .ok (.lstore 5, 2) := by decide +kernel
theorem dX9_multiplied_5 : decode cX9_multiplied 5 = .ok (.lload_n 1, 1) := by decide +kernel
theorem dX9_multiplied_6 : decode cX9_multiplied 6 = .ok (.lconst 0, 1) := by decide +kernel
theorem dX9_multiplied_7 : decode cX9_multiplied 7 = .ok (.lcmp, 1) := by decide +kernel
theorem dX9_multiplied_8 : decode cX9_multiplied 8 = .ok (.ifCond .eq 32, 3) := by decide +kernel
theorem dX9_multiplied_11 : decode cX9_multiplied 11 = .ok (.lload 5, 2) := by decide +kernel
theorem dX9_multiplied_13 : decode cX9_multiplied 13 = .ok (.lload_n 1, 1) := by decide +kernel
theorem dX9_multiplied_14 : decode cX9_multiplied 14 = .ok (.ldiv, 1) := by decide +kernel
theorem dX9_multiplied_15 : decode cX9_multiplied 15 = .ok (.lload_n 3, 1) := by decide +kernel
theorem dX9_multiplied_16 : decode cX9_multiplied 16 = .ok (.lcmp, 1) := by decide +kernel
theorem dX9_multiplied_17 : decode cX9_multiplied 17 = .ok (.ifCond .ne 19, 3) := by decide +kernel
theorem dX9_multiplied_20 : decode cX9_multiplied 20 = .ok (.lload_n 1, 1) := by decide +kernel
theorem dX9_multiplied_21 : decode cX9_multiplied 21 = .ok (.ldc2_w 164, 3) := by decide +kernel
theorem dX9_multiplied_24 : decode cX9_multiplied 24 = .ok (.lcmp, 1) := by decide +kernel
theorem dX9_multiplied_25 : decode cX9_multiplied 25 = .ok (.ifCond .ne 15, 3) := by decide +kernel
theorem dX9_multiplied_28 : decode cX9_multiplied 28 = .ok (.lload_n 3, 1) := by decide +kernel
theorem dX9_multiplied_29 : decode cX9_multiplied 29 = .ok (.ldc2_w 166, 3) := by decide +kernel
theorem dX9_multiplied_32 : decode cX9_multiplied 32 = .ok (.lcmp, 1) := by decide +kernel
theorem dX9_multiplied_33 : decode cX9_multiplied 33 = .ok (.ifCond .ne 7, 3) := by decide +kernel
theorem dX9_multiplied_36 : decode cX9_multiplied 36 = .ok (.iconst 1, 1) := by decide +kernel
theorem dX9_multiplied_37 : decode cX9_multiplied 37 = .ok (.goto 4, 3) := by decide +kernel
theorem dX9_multiplied_40 : decode cX9_multiplied 40 = .ok (.iconst 0, 1) := by decide +kernel
theorem dX9_multiplied_41 : decode cX9_multiplied 41 = .ok (.istore 7, 2) := by decide +kernel
theorem dX9_multiplied_43 : decode cX9_multiplied 43 = .ok (.aload_n 0, 1) := by decide +kernel
theorem dX9_multiplied_44 : decode cX9_multiplied 44 = .ok (.aload_n 0, 1) := by decide +kernel
theorem dX9_multiplied_45 : decode cX9_multiplied 45 = .ok (.getfield 168, 3) := by decide +kernel
theorem dX9_multiplied_48 : decode cX9_multiplied 48 = .ok (.ifCond .ne 8, 3) := by decide +kernel
theorem dX9_multiplied_51 : decode cX9_multiplied 51 = .ok (.iload 7, 2) := by decide +kernel
theorem dX9_multiplied_53 : decode cX9_multiplied 53 = .ok (.ifCond .eq 7, 3) := by decide +kernel
theorem dX9_multiplied_56 : decode cX9_multiplied 56 = .ok (.iconst 1, 1) := by decide +kernel
theorem dX9_multiplied_57 : decode cX9_multiplied 57 = .ok (.goto 4, 3) := by decide +kernel
theorem dX9_multiplied_60 : decode cX9_multiplied 60 = .ok (.iconst 0, 1) := by decide +kernel
theorem dX9_multiplied_61 : decode cX9_multiplied 61 = .ok (.putfield 168, 3) := by decide +kernel
theorem dX9_multiplied_64 : decode cX9_multiplied 64 = .ok (.lload 5, 2) := by decide +kernel
theorem dX9_multiplied_66 : decode cX9_multiplied 66 = .ok (.lreturn, 1) := by decide +kernel
theorem dX9_plus_0 : decode cX9_plus 0 = .ok (.lload_n 3, 1) := by decide +kernel
theorem dX9_plus_1 : decode cX9_plus 1 = .ok (.lload 7, 2) := by decide +kernel
theorem dX9_plus_3 : decode cX9_plus 3 = .ok (.invokestatic 146, 3) := by decide +kernel
theorem dX9_plus_6 : decode cX9_plus 6 = .ok (.lstore 9, 2) := by decide +kernel
theorem dX9_plus_8 : decode cX9_plus 8 = .ok (.aload_n 0, 1) := by decide +kernel
theorem dX9_plus_9 : decode cX9_plus 9 = .ok (.lload_n 1, 1) := by decide +kernel
theorem dX9_plus_10 : decode cX9_plus 10 = .ok (.lload 7, 2) := by decide +kernel
theorem dX9_plus_12 : decode cX9_plus 12 = .ok (.lload 9, 2) := by decide +kernel
theorem dX9_plus_14 : decode cX9_plus 14 = .ok (.ldiv, 1) := by decide +kernel
theorem dX9_plus_15 : decode cX9_plus 15 = .ok (.invokevirtual 172, 3) := by decide +kernel
theorem dX9_plus_18 : decode cX9_plus 18 = .ok (.lstore 11, 2) := by decide +kernel
theorem dX9_plus_20 : decode cX9_plus 20 = .ok (.aload_n 0, 1) := by decide +kernel
theorem dX9_plus_21 : decode cX9_plus 21 = .ok (.lload 5, 2) := by decide +kernel
theorem dX9_plus_23 : decode cX9_plus 23 = .ok (.lload_n 3, 1) := by decide +kernel
theorem dX9_plus_24 : decode cX9_plus 24 = .ok (.lload 9, 2) := by decide +kernel
theorem dX9_plus_26 : decode cX9_plus 26 = .ok (.ldiv, 1) := by decide +kernel
theorem dX9_plus_27 : decode cX9_plus 27 = .ok (.invokevirtual 172, 3) := by decide +kernel
theorem dX9_plus_30 : decode cX9_plus 30 = .ok (.lstore 13, 2) := by decide +kernel
theorem dX9_plus_32 : decode cX9_plus 32 = .ok (.aload_n 0, 1) := by decide +kernel
theorem dX9_plus_33 : decode cX9_plus 33 = .ok (.lload_n 3, 1) := by decide +kernel
theorem dX9_plus_34 : decode cX9_plus 34 = .ok (.lload 7, 2) := by decide +kernel
theorem dX9_plus_36 : decode cX9_plus 36 = .ok (.lload 9, 2) := by decide +kernel
theorem dX9_plus_38 : decode cX9_plus 38 = .ok (.ldiv, 1) := by decide +kernel
theorem dX9_plus_39 : decode cX9_plus 39 = .ok (.invokevirtual 172, 3) := by decide +kernel
theorem dX9_plus_42 : decode cX9_plus 42 = .ok (.lstore 15, 2) := by decide +kernel
theorem dX9_plus_44 : decode cX9_plus 44 = .ok (.lload 11, 2) := by decide +kernel
theorem dX9_plus_46 : decode cX9_plus 46 = .ok (.lload 13, 2) := by decide +kernel
theorem dX9_plus_48 : decode cX9_plus 48 = .ok (.ladd, 1) := by decide +kernel
theorem dX9_plus_49 : decode cX9_plus 49 = .ok (.lstore 17, 2) := by decide +kernel
theorem dX9_plus_51 : decode cX9_plus 51 = .ok (.aload_n 0, 1) := by decide +kernel
theorem dX9_plus_52 : decode cX9_plus 52 = .ok (.aload_n 0, 1) := by decide +kernel
theorem dX9_plus_53 : decode cX9_plus 53 = .ok (.getfield 168, 3) := by decide +kernel
theorem dX9_plus_56 : decode cX9_plus 56 = .ok (.ifCond .ne 19, 3) := by decide +kernel
theorem dX9_plus_59 : decode cX9_plus 59 = .ok (.lload 11, 2) := by decide +kernel
theorem dX9_plus_61 : decode cX9_plus 61 = .ok (.lload 17, 2) := by decide +kernel
theorem dX9_plus_63 : decode cX9_plus 63 = .ok (.lxor, 1) := by decide +kernel
theorem dX9_plus_64 : decode cX9_plus 64 = .ok (.lload 13, 2) := by decide +kernel
theorem dX9_plus_66 : decode cX9_plus 66 = .ok (.lload 17, 2) := by decide +kernel
theorem dX9_plus_68 : decode cX9_plus 68 = .ok (.lxor, 1) := by decide +kernel
theorem dX9_plus_69 : decode cX9_plus 69 = .ok (.land, 1) := by decide +kernel
theorem dX9_plus_70 : decode cX9_plus 70 = .ok (.lconst 0, 1) := by decide +kernel
theorem dX9_plus_71 : decode cX9_plus 71 = .ok (.lcmp, 1) := by decide +kernel
theorem dX9_plus_72 : decode cX9_plus 72 = .ok (.ifCond .ge 7, 3) := by decide +kernel
theorem dX9_plus_75 : decode cX9_plus 75 = .ok (.iconst 1, 1) := by decide +kernel
theorem dX9_plus_76 : decode cX9_plus 76 = .ok (.goto 4, 3) := by decide +kernel
theorem dX9_plus_79 : decode cX9_plus 79 = .ok (.iconst 0, 1) := by decide +kernel
theorem dX9_plus_80 : decode cX9_plus 80 = .ok (.putfield 168, 3) := by decide +kernel
theorem dX9_plus_83 : decode cX9_plus 83 = .ok (.aload_n 0, 1) := by decide +kernel
theorem dX9_plus_84 : decode cX9_plus 84 = .ok (.getfield 168, 3) := by decide +kernel
theorem dX9_plus_87 : decode cX9_plus 87 = .ok (.ifCond .ne 11, 3) := by decide +kernel
theorem dX9_plus_90 : decode cX9_plus 90 = .ok (.aload_n 0, 1) := by decide +kernel
theorem dX9_plus_91 : decode cX9_plus 91 = .ok (.lload 17, 2) := by decide +kernel
theorem dX9_plus_93 : decode cX9_plus 93 = .ok (.lload 15, 2) := by decide +kernel
theorem dX9_plus_95 : decode cX9_plus 95 = .ok (.invokevirtual 160, 3) := by decide +kernel
theorem dX9_plus_98 : decode cX9_plus 98 = .ok (.return_, 1) := by decide +kernel
theorem dX9_times_0 : decode cX9_times 0 = .ok (.lload_n 1, 1) := by decide +kernel
theorem dX9_times_1 : decode cX9_times 1 = .ok (.lload 7, 2) := by decide +kernel
theorem dX9_times_3 : decode cX9_times 3 = .ok (.invokestatic 146, 3) := by decide +kernel
theorem dX9_times_6 : decode cX9_times 6 = .ok (.lstore 9, 2) := by decide +kernel
theorem dX9_times_8 : decode cX9_times 8 = .ok (.lload 5, 2) := by decide +kernel
theorem dX9_times_10 : decode cX9_times 10 = .ok (.lload_n 3, 1) := by decide +kernel
theorem dX9_times_11 : decode cX9_times 11 = .ok (.invokestatic 146, 3) := by decide +kernel
theorem dX9_times_14 : decode cX9_times 14 = .ok (.lstore 11, 2) := by decide +kernel
theorem dX9_times_16 : decode cX9_times 16 = .ok (.aload_n 0, 1) := by decide +kernel
theorem dX9_times_17 : decode cX9_times 17 = .ok (.lload_n 1, 1) := by decide +kernel
theorem dX9_times_18 : decode cX9_times 18 = .ok (.lload 9, 2) := by decide +kernel
theorem dX9_times_20 : decode cX9_times 20 = .ok (.ldiv, 1) := by decide +kernel
theorem dX9_times_21 : decode cX9_times 21 = .ok (.lload 5, 2) := by decide +kernel
theorem dX9_times_23 : decode cX9_times 23 = .ok (.lload 11, 2) := by decide +kernel
theorem dX9_times_25 : decode cX9_times 25 = .ok (.ldiv, 1) := by decide +kernel
theorem dX9_times_26 : decode cX9_times 26 = .ok (.invokevirtual 172, 3) := by decide +kernel
theorem dX9_times_29 : decode cX9_times 29 = .ok (.lstore 13, 2) := by decide +kernel
theorem dX9_times_31 : decode cX9_times 31 = .ok (.aload_n 0, 1) := by decide +kernel
theorem dX9_times_32 : decode cX9_times 32 = .ok (.lload_n 3, 1) := by decide +kernel
theorem dX9_times_33 : decode cX9_times 33 = .ok (.lload 11, 2) := by decide +kernel
theorem dX9_times_35 : decode cX9_times 35 = .ok (.ldiv, 1) := by decide +kernel
theorem dX9_times_36 : decode cX9_times 36 = .ok (.lload 7, 2) := by decide +kernel
theorem dX9_times_38 : decode cX9_times 38 = .ok (.lload 9, 2) := by decide +kernel
theorem dX9_times_40 : decode cX9_times 40 = .ok (.ldiv, 1) := by decide +kernel
theorem dX9_times_41 : decode cX9_times 41 = .ok (.invokevirtual 172, 3) := by decide +kernel
theorem dX9_times_44 : decode cX9_times 44 = .ok (.lstore 15, 2) := by decide +kernel
theorem dX9_times_46 : decode cX9_times 46 = .ok (.aload_n 0, 1) := by decide +kernel
theorem dX9_times_47 : decode cX9_times 47 = .ok (.getfield 168, 3) := by decide +kernel
theorem dX9_times_50 : decode cX9_times 50 = .ok (.ifCond .ne 11, 3) := by decide +kernel
theorem dX9_times_53 : decode cX9_times 53 = .ok (.aload_n 0, 1) := by decide +kernel
theorem dX9_times_54 : decode cX9_times 54 = .ok (.lload 13, 2) := by decide +kernel
theorem dX9_times_56 : decode cX9_times 56 = .ok (.lload 15, 2) := by decide +kernel
theorem dX9_times_58 : decode cX9_times 58 = .ok (.invokevirtual 160, 3) := by decide +kernel
theorem dX9_times_61 : decode cX9_times 61 = .ok (.return_, 1) := by decide +kernel
theorem dX9_addTo_0 : decode cX9_addTo 0 = .ok (.bipush 29, 2) := by decide +kernel
theorem dX9_addTo_2 : decode cX9_addTo 2 = .ok (.iload_n 1, 1) := by decide +kernel
theorem dX9_addTo_3 : decode cX9_addTo 3 = .ok (.imul, 1) := by decide +kernel
theorem dX9_addTo_4 : decode cX9_addTo 4 = .ok (.iload_n 2, 1) := by decide +kernel
theorem dX9_addTo_5 : decode cX9_addTo 5 = .ok (.iadd, 1) := by decide +kernel
theorem dX9_addTo_6 : decode cX9_addTo 6 = .ok (.istore_n 3, 1) := by decide +kernel
theorem dX9_addTo_7 : decode cX9_addTo 7 = .ok (.aload_n 0, 1) := by decide +kernel
theorem dX9_addTo_8 : decode cX9_addTo 8 = .ok (.aload_n 0, 1) := by decide +kernel
theorem dX9_addTo_9 : decode cX9_addTo 9 = .ok (.getfield 59, 3) := by decide +kernel
theorem dX9_addTo_12 : decode cX9_addTo 12 = .ok (.iload_n 3, 1) := by decide +kernel
theorem dX9_addTo_13 : decode cX9_addTo 13 = .ok (.laload, 1) := by decide +kernel
theorem dX9_addTo_14 : decode cX9_addTo 14 = .ok (.aload_n 0, 1) := by decide +kernel
theorem dX9_addTo_15 : decode cX9_addTo 15 = .ok (.getfield 63, 3) := by decide +kernel
theorem dX9_addTo_18 : decode cX9_addTo 18 = .ok (.iload_n 3, 1) := by decide +kernel
theorem dX9_addTo_19 : decode cX9_addTo 19 = .ok (.laload, 1) := by decide +kernel
theorem dX9_addTo_20 : decode cX9_addTo 20 = .ok (.aload_n 0, 1) := by decide +kernel
theorem dX9_addTo_21 : decode cX9_addTo 21 = .ok (.getfield 150, 3) := by decide +kernel
theorem dX9_addTo_24 : decode cX9_addTo 24 = .ok (.aload_n 0, 1) := by decide +kernel
theorem dX9_addTo_25 : decode cX9_addTo 25 = .ok (.getfield 154, 3) := by decide +kernel
theorem dX9_addTo_28 : decode cX9_addTo 28 = .ok (.invokevirtual 175, 3) := by decide +kernel
theorem dX9_addTo_31 : decode cX9_addTo 31 = .ok (.aload_n 0, 1) := by decide +kernel
theorem dX9_addTo_32 : decode cX9_addTo 32 = .ok (.getfield 168, 3) := by decide +kernel
theorem dX9_addTo_35 : decode cX9_addTo 35 = .ok (.ifCond .ne 23, 3) := by decide +kernel
theorem dX9_addTo_38 : decode cX9_addTo 38 = .ok (.aload_n 0, 1) := by decide +kernel
theorem dX9_addTo_39 : decode cX9_addTo 39 = .ok (.getfield 59, 3) := by decide +kernel
theorem dX9_addTo_42 : decode cX9_addTo 42 = .ok (.iload_n 3, 1) := by decide +kernel
theorem dX9_addTo_43 : decode cX9_addTo 43 = .ok (.aload_n 0, 1) := by decide +kernel
theorem dX9_addTo_44 : decode cX9_addTo 44 = .ok (.getfield 150, 3) := by decide +kernel
theorem dX9_addTo_47 : decode cX9_addTo 47 = .ok (.lastore, 1) := by decide +kernel
theorem dX9_addTo_48 : decode cX9_addTo 48 = .ok (.aload_n 0, 1) := by decide +kernel
theorem dX9_addTo_49 : decode cX9_addTo 49 = .ok (.getfield 63, 3) := by decide +kernel
theorem dX9_addTo_52 : decode cX9_addTo 52 = .ok (.iload_n 3, 1) := by decide +kernel
theorem dX9_addTo_53 : decode cX9_addTo 53 = .ok (.aload_n 0, 1) := by decide +kernel
theorem dX9_addTo_54 : decode cX9_addTo 54 = .ok (.getfield 154, 3) := by decide +kernel
theorem dX9_addTo_57 : decode cX9_addTo 57 = .ok (.lastore, 1) := by decide +kernel
theorem dX9_addTo_58 : decode cX9_addTo 58 = .ok (.return_, 1) := by decide +kernel
theorem dX9_empty_0 : decode cX9_empty 0 = .ok (.aload_n 0, 1) := by decide +kernel
theorem dX9_empty_1 : decode cX9_empty 1 = .ok (.getfield 56, 3) := by decide +kernel
theorem dX9_empty_4 : decode cX9_empty 4 = .ok (.iload_n 1, 1) := by decide +kernel
theorem dX9_empty_5 : decode cX9_empty 5 = .ok (.iconst 2, 1) := by decide +kernel
theorem dX9_empty_6 : decode cX9_empty 6 = .ok (.iastore, 1) := by decide +kernel
theorem dX9_empty_7 : decode cX9_empty 7 = .ok (.iconst 0, 1) := by decide +kernel
theorem dX9_empty_8 : decode cX9_empty 8 = .ok (.istore_n 2, 1) := by decide +kernel
theorem dX9_empty_9 : decode cX9_empty 9 = .ok (.iload_n 2, 1) := by decide +kernel
theorem dX9_empty_10 : decode cX9_empty 10 = .ok (.bipush 29, 2) := by decide +kernel
theorem dX9_empty_12 : decode cX9_empty 12 = .ok (.if_icmp .ge 33, 3) := by decide +kernel
theorem dX9_empty_15 : decode cX9_empty 15 = .ok (.aload_n 0, 1) := by decide +kernel
theorem dX9_empty_16 : decode cX9_empty 16 = .ok (.getfield 59, 3) := by decide +kernel
theorem dX9_empty_19 : decode cX9_empty 19 = .ok (.bipush 29, 2) := by decide +kernel
theorem dX9_empty_21 : decode cX9_empty 21 = .ok (.iload_n 1, 1) := by decide +kernel
theorem dX9_empty_22 : decode cX9_empty 22 = .ok (.imul, 1) := by decide +kernel
theorem dX9_empty_23 : decode cX9_empty 23 = .ok (.iload_n 2, 1) := by decide +kernel
theorem dX9_empty_24 : decode cX9_empty 24 = .ok (.iadd, 1) := by decide +kernel
theorem dX9_empty_25 : decode cX9_empty 25 = .ok (.lconst 0, 1) := by decide +kernel
theorem dX9_empty_26 : decode cX9_empty 26 = .ok (.lastore, 1) := by decide +kernel
theorem dX9_empty_27 : decode cX9_empty 27 = .ok (.aload_n 0, 1) := by decide +kernel
theorem dX9_empty_28 : decode cX9_empty 28 = .ok (.getfield 63, 3) := by decide +kernel
theorem dX9_empty_31 : decode cX9_empty 31 = .ok (.bipush 29, 2) := by decide +kernel
theorem dX9_empty_33 : decode cX9_empty 33 = .ok (.iload_n 1, 1) := by decide +kernel
theorem dX9_empty_34 : decode cX9_empty 34 = .ok (.imul, 1) := by decide +kernel
theorem dX9_empty_35 : decode cX9_empty 35 = .ok (.iload_n 2, 1) := by decide +kernel
theorem dX9_empty_36 : decode cX9_empty 36 = .ok (.iadd, 1) := by decide +kernel
theorem dX9_empty_37 : decode cX9_empty 37 = .ok (.lconst 1, 1) := by decide +kernel
theorem dX9_empty_38 : decode cX9_empty 38 = .ok (.lastore, 1) := by decide +kernel
theorem dX9_empty_39 : decode cX9_empty 39 = .ok (.iinc 2 1, 3) := by decide +kernel
theorem dX9_empty_42 : decode cX9_empty 42 = .ok (.goto (-33), 3) := by decide +kernel
theorem dX9_empty_45 : decode cX9_empty 45 = .ok (.return_, 1) := by decide +kernel
theorem dX9_copy_0 : decode cX9_copy 0 = .ok (.aload_n 0, 1) := by decide +kernel
theorem dX9_copy_1 : decode cX9_copy 1 = .ok (.getfield 56, 3) := by decide +kernel
theorem dX9_copy_4 : decode cX9_copy 4 = .ok (.iload_n 2, 1) := by decide +kernel
theorem dX9_copy_5 : decode cX9_copy 5 = .ok (.aload_n 0, 1) := by decide +kernel
theorem dX9_copy_6 : decode cX9_copy 6 = .ok (.getfield 56, 3) := by decide +kernel
theorem dX9_copy_9 : decode cX9_copy 9 = .ok (.iload_n 1, 1) := by decide +kernel
theorem dX9_copy_10 : decode cX9_copy 10 = .ok (.iaload, 1) := by decide +kernel
theorem dX9_copy_11 : decode cX9_copy 11 = .ok (.iastore, 1) := by decide +kernel
theorem dX9_copy_12 : decode cX9_copy 12 = .ok (.iconst 0, 1) := by decide +kernel
theorem dX9_copy_13 : decode cX9_copy 13 = .ok (.istore_n 3, 1) := by decide +kernel
theorem dX9_copy_14 : decode cX9_copy 14 = .ok (.iload_n 3, 1) := by decide +kernel
theorem dX9_copy_15 : decode cX9_copy 15 = .ok (.bipush 29, 2) := by decide +kernel
theorem dX9_copy_17 : decode cX9_copy 17 = .ok (.if_icmp .ge 53, 3) := by decide +kernel
theorem dX9_copy_20 : decode cX9_copy 20 = .ok (.aload_n 0, 1) := by decide +kernel
theorem dX9_copy_21 : decode cX9_copy 21 = .ok (.getfield 59, 3) := by decide +kernel
theorem dX9_copy_24 : decode cX9_copy 24 = .ok (.bipush 29, 2) := by decide +kernel
theorem dX9_copy_26 : decode cX9_copy 26 = .ok (.iload_n 2, 1) := by decide +kernel
theorem dX9_copy_27 : decode cX9_copy 27 = .ok (.imul, 1) := by decide +kernel
theorem dX9_copy_28 : decode cX9_copy 28 = .ok (.iload_n 3, 1) := by decide +kernel
theorem dX9_copy_29 : decode cX9_copy 29 = .ok (.iadd, 1) := by decide +kernel
theorem dX9_copy_30 : decode cX9_copy 30 = .ok (.aload_n 0, 1) := by decide +kernel
theorem dX9_copy_31 : decode cX9_copy 31 = .ok (.getfield 59, 3) := by decide +kernel
theorem dX9_copy_34 : decode cX9_copy 34 = .ok (.bipush 29, 2) := by decide +kernel
theorem dX9_copy_36 : decode cX9_copy 36 = .ok (.iload_n 1, 1) := by decide +kernel
theorem dX9_copy_37 : decode cX9_copy 37 = .ok (.imul, 1) := by decide +kernel
theorem dX9_copy_38 : decode cX9_copy 38 = .ok (.iload_n 3, 1) := by decide +kernel
theorem dX9_copy_39 : decode cX9_copy 39 = .ok (.iadd, 1) := by decide +kernel
theorem dX9_copy_40 : decode cX9_copy 40 = .ok (.laload, 1) := by decide +kernel
theorem dX9_copy_41 : decode cX9_copy 41 = .ok (.lastore, 1) := by decide +kernel
theorem dX9_copy_42 : decode cX9_copy 42 = .ok (.aload_n 0, 1) := by decide +kernel
theorem dX9_copy_43 : decode cX9_copy 43 = .ok (.getfield 63, 3) := by decide +kernel
theorem dX9_copy_46 : decode cX9_copy 46 = .ok (.bipush 29, 2) := by decide +kernel
theorem dX9_copy_48 : decode cX9_copy 48 = .ok (.iload_n 2, 1) := by decide +kernel
theorem dX9_copy_49 : decode cX9_copy 49 = .ok (.imul, 1) := by decide +kernel
theorem dX9_copy_50 : decode cX9_copy 50 = .ok (.iload_n 3, 1) := by decide +kernel
theorem dX9_copy_51 : decode cX9_copy 51 = .ok (.iadd, 1) := by decide +kernel
theorem dX9_copy_52 : decode cX9_copy 52 = .ok (.aload_n 0, 1) := by decide +kernel
theorem dX9_copy_53 : decode cX9_copy 53 = .ok (.getfield 63, 3) := by decide +kernel
theorem dX9_copy_56 : decode cX9_copy 56 = .ok (.bipush 29, 2) := by decide +kernel
theorem dX9_copy_58 : decode cX9_copy 58 = .ok (.iload_n 1, 1) := by decide +kernel
theorem dX9_copy_59 : decode cX9_copy 59 = .ok (.imul, 1) := by decide +kernel
theorem dX9_copy_60 : decode cX9_copy 60 = .ok (.iload_n 3, 1) := by decide +kernel
theorem dX9_copy_61 : decode cX9_copy 61 = .ok (.iadd, 1) := by decide +kernel
theorem dX9_copy_62 : decode cX9_copy 62 = .ok (.laload, 1) := by decide +kernel
theorem dX9_copy_63 : decode cX9_copy 63 = .ok (.lastore, 1) := by decide +kernel
theorem dX9_copy_64 : decode cX9_copy 64 = .ok (.iinc 3 1, 3) := by decide +kernel
theorem dX9_copy_67 : decode cX9_copy 67 = .ok (.goto (-53), 3) := by decide +kernel
theorem dX9_copy_70 : decode cX9_copy 70 = .ok (.return_, 1) := by decide +kernel
theorem dX9_isTerm_0 : decode cX9_isTerm 0 = .ok (.aload_n 0, 1) := by decide +kernel
theorem dX9_isTerm_1 : decode cX9_isTerm 1 = .ok (.getfield 59, 3) := by decide +kernel
theorem dX9_isTerm_4 : decode cX9_isTerm 4 = .ok (.bipush 29, 2) := by decide +kernel
theorem dX9_isTerm_6 : decode cX9_isTerm 6 = .ok (.iload_n 1, 1) := by decide +kernel
theorem dX9_isTerm_7 : decode cX9_isTerm 7 = .ok (.imul, 1) := by decide +kernel
theorem dX9_isTerm_8 : decode cX9_isTerm 8 = .ok (.iload_n 2, 1) := by decide +kernel
theorem dX9_isTerm_9 : decode cX9_isTerm 9 = .ok (.iadd, 1) := by decide +kernel
theorem dX9_isTerm_10 : decode cX9_isTerm 10 = .ok (.laload, 1) := by decide +kernel
theorem dX9_isTerm_11 : decode cX9_isTerm 11 = .ok (.lconst 0, 1) := by decide +kernel
theorem dX9_isTerm_12 : decode cX9_isTerm 12 = .ok (.lcmp, 1) := by decide +kernel
theorem dX9_isTerm_13 : decode cX9_isTerm 13 = .ok (.ifCond .eq 7, 3) := by decide +kernel
theorem dX9_isTerm_16 : decode cX9_isTerm 16 = .ok (.iconst 1, 1) := by decide +kernel
theorem dX9_isTerm_17 : decode cX9_isTerm 17 = .ok (.goto 4, 3) := by decide +kernel
theorem dX9_isTerm_20 : decode cX9_isTerm 20 = .ok (.iconst 0, 1) := by decide +kernel
theorem dX9_isTerm_21 : decode cX9_isTerm 21 = .ok (.ireturn, 1) := by decide +kernel
theorem dX9_terms_0 : decode cX9_terms 0 = .ok (.iconst 0, 1) := by decide +kernel
theorem dX9_terms_1 : decode cX9_terms 1 = .ok (.istore_n 2, 1) := by decide +kernel
theorem dX9_terms_2 : decode cX9_terms 2 = .ok (.iconst 0, 1) := by decide +kernel
theorem dX9_terms_3 : decode cX9_terms 3 = .ok (.istore_n 3, 1) := by decide +kernel
theorem dX9_terms_4 : decode cX9_terms 4 = .ok (.iload_n 3, 1) := by decide +kernel
theorem dX9_terms_5 : decode cX9_terms 5 = .ok (.bipush 29, 2) := by decide +kernel
theorem dX9_terms_7 : decode cX9_terms 7 = .ok (.if_icmp .ge 26, 3) := by decide +kernel
theorem dX9_terms_10 : decode cX9_terms 10 = .ok (.iload_n 2, 1) := by decide +kernel
theorem dX9_terms_11 : decode cX9_terms 11 = .ok (.aload_n 0, 1) := by decide +kernel
theorem dX9_terms_12 : decode cX9_terms 12 = .ok (.iload_n 1, 1) := by decide +kernel
theorem dX9_terms_13 : decode cX9_terms 13 = .ok (.iload_n 3, 1) := by decide +kernel
theorem dX9_terms_14 : decode cX9_terms 14 = .ok (.invokevirtual 179, 3) := by decide +kernel
theorem dX9_terms_17 : decode cX9_terms 17 = .ok (.ifCond .eq 7, 3) := by decide +kernel
theorem dX9_terms_20 : decode cX9_terms 20 = .ok (.iconst 1, 1) := by decide +kernel
theorem dX9_terms_21 : decode cX9_terms 21 = .ok (.goto 4, 3) := by decide +kernel
theorem dX9_terms_24 : decode cX9_terms 24 = .ok (.iconst 0, 1) := by decide +kernel
theorem dX9_terms_25 : decode cX9_terms 25 = .ok (.iadd, 1) := by decide +kernel
theorem dX9_terms_26 : decode cX9_terms 26 = .ok (.istore_n 2, 1) := by decide +kernel
theorem dX9_terms_27 : decode cX9_terms 27 = .ok (.iinc 3 1, 3) := by decide +kernel
theorem dX9_terms_30 : decode cX9_terms 30 = .ok (.goto (-26), 3) := by decide +kernel
theorem dX9_terms_33 : decode cX9_terms 33 = .ok (.iload_n 2, 1) := by decide +kernel
theorem dX9_terms_34 : decode cX9_terms 34 = .ok (.ireturn, 1) := by decide +kernel
theorem dX9_sizeBy_0 : decode cX9_sizeBy 0 = .ok (.iload_n 1, 1) := by decide +kernel
theorem dX9_sizeBy_1 : decode cX9_sizeBy 1 = .ok (.iconst 1, 1) := by decide +kernel
theorem dX9_sizeBy_2 : decode cX9_sizeBy 2 = .ok (.if_icmp .ne 12, 3) := by decide +kernel
theorem dX9_sizeBy_5 : decode cX9_sizeBy 5 = .ok (.aload_n 0, 1) := by decide +kernel
theorem dX9_sizeBy_6 : decode cX9_sizeBy 6 = .ok (.bipush 19, 2) := by decide +kernel
theorem dX9_sizeBy_8 : decode cX9_sizeBy 8 = .ok (.iload_n 2, 1) := by decide +kernel
theorem dX9_sizeBy_9 : decode cX9_sizeBy 9 = .ok (.iadd, 1) := by decide +kernel
theorem dX9_sizeBy_10 : decode cX9_sizeBy 10 = .ok (.iaload, 1) := by decide +kernel
theorem dX9_sizeBy_11 : decode cX9_sizeBy 11 = .ok (.goto 6, 3) := by decide +kernel
theorem dX9_sizeBy_14 : decode cX9_sizeBy 14 = .ok (.aload_n 0, 1) := by decide +kernel
theorem dX9_sizeBy_15 : decode cX9_sizeBy 15 = .ok (.iload_n 2, 1) := by decide +kernel
theorem dX9_sizeBy_16 : decode cX9_sizeBy 16 = .ok (.iaload, 1) := by decide +kernel
theorem dX9_sizeBy_17 : decode cX9_sizeBy 17 = .ok (.ireturn, 1) := by decide +kernel
theorem dX9_areUnlike_0 : decode cX9_areUnlike 0 = .ok (.aload_n 0, 1) := by decide +kernel
theorem dX9_areUnlike_1 : decode cX9_areUnlike 1 = .ok (.getfield 56, 3) := by decide +kernel
theorem dX9_areUnlike_4 : decode cX9_areUnlike 4 = .ok (.iload_n 1, 1) := by decide +kernel
theorem dX9_areUnlike_5 : decode cX9_areUnlike 5 = .ok (.iaload, 1) := by decide +kernel
theorem dX9_areUnlike_6 : decode cX9_areUnlike 6 = .ok (.aload_n 0, 1) := by decide +kernel
theorem dX9_areUnlike_7 : decode cX9_areUnlike 7 = .ok (.getfield 56, 3) := by decide +kernel
theorem dX9_areUnlike_10 : decode cX9_areUnlike 10 = .ok (.iload_n 2, 1) := by decide +kernel
theorem dX9_areUnlike_11 : decode cX9_areUnlike 11 = .ok (.iaload, 1) := by decide +kernel
theorem dX9_areUnlike_12 : decode cX9_areUnlike 12 = .ok (.iadd, 1) := by decide +kernel
theorem dX9_areUnlike_13 : decode cX9_areUnlike 13 = .ok (.iconst 1, 1) := by decide +kernel
theorem dX9_areUnlike_14 : decode cX9_areUnlike 14 = .ok (.if_icmp .ne 7, 3) := by decide +kernel
theorem dX9_areUnlike_17 : decode cX9_areUnlike 17 = .ok (.iconst 1, 1) := by decide +kernel
theorem dX9_areUnlike_18 : decode cX9_areUnlike 18 = .ok (.goto 4, 3) := by decide +kernel
theorem dX9_areUnlike_21 : decode cX9_areUnlike 21 = .ok (.iconst 0, 1) := by decide +kernel
theorem dX9_areUnlike_22 : decode cX9_areUnlike 22 = .ok (.ireturn, 1) := by decide +kernel
theorem dX9_sumUp_0 : decode cX9_sumUp 0 = .ok (.aload_n 0, 1) := by decide +kernel
theorem dX9_sumUp_1 : decode cX9_sumUp 1 = .ok (.getfield 56, 3) := by decide +kernel
theorem dX9_sumUp_4 : decode cX9_sumUp 4 = .ok (.iload_n 1, 1) := by decide +kernel
theorem dX9_sumUp_5 : decode cX9_sumUp 5 = .ok (.iaload, 1) := by decide +kernel
theorem dX9_sumUp_6 : decode cX9_sumUp 6 = .ok (.aload_n 0, 1) := by decide +kernel
theorem dX9_sumUp_7 : decode cX9_sumUp 7 = .ok (.getfield 56, 3) := by decide +kernel
theorem dX9_sumUp_10 : decode cX9_sumUp 10 = .ok (.iload_n 2, 1) := by decide +kernel
theorem dX9_sumUp_11 : decode cX9_sumUp 11 = .ok (.iaload, 1) := by decide +kernel
theorem dX9_sumUp_12 : decode cX9_sumUp 12 = .ok (.if_icmp .ge 12, 3) := by decide +kernel
theorem dX9_sumUp_15 : decode cX9_sumUp 15 = .ok (.aload_n 0, 1) := by decide +kernel
theorem dX9_sumUp_16 : decode cX9_sumUp 16 = .ok (.getfield 56, 3) := by decide +kernel
theorem dX9_sumUp_19 : decode cX9_sumUp 19 = .ok (.iload_n 1, 1) := by decide +kernel
theorem dX9_sumUp_20 : decode cX9_sumUp 20 = .ok (.iaload, 1) := by decide +kernel
theorem dX9_sumUp_21 : decode cX9_sumUp 21 = .ok (.goto 9, 3) := by decide +kernel
theorem dX9_sumUp_24 : decode cX9_sumUp 24 = .ok (.aload_n 0, 1) := by decide +kernel
theorem dX9_sumUp_25 : decode cX9_sumUp 25 = .ok (.getfield 56, 3) := by decide +kernel
theorem dX9_sumUp_28 : decode cX9_sumUp 28 = .ok (.iload_n 2, 1) := by decide +kernel
theorem dX9_sumUp_29 : decode cX9_sumUp 29 = .ok (.iaload, 1) := by decide +kernel
theorem dX9_sumUp_30 : decode cX9_sumUp 30 = .ok (.istore 6, 2) := by decide +kernel
theorem dX9_sumUp_32 : decode cX9_sumUp 32 = .ok (.aload_n 0, 1) := by decide +kernel
theorem dX9_sumUp_33 : decode cX9_sumUp 33 = .ok (.iload_n 1, 1) := by decide +kernel
theorem dX9_sumUp_34 : decode cX9_sumUp 34 = .ok (.iload 5, 2) := by decide +kernel
theorem dX9_sumUp_36 : decode cX9_sumUp 36 = .ok (.invokevirtual 182, 3) := by decide +kernel
theorem dX9_sumUp_39 : decode cX9_sumUp 39 = .ok (.aload_n 0, 1) := by decide +kernel
theorem dX9_sumUp_40 : decode cX9_sumUp 40 = .ok (.getfield 56, 3) := by decide +kernel
theorem dX9_sumUp_43 : decode cX9_sumUp 43 = .ok (.iload 5, 2) := by decide +kernel
theorem dX9_sumUp_45 : decode cX9_sumUp 45 = .ok (.iload 6, 2) := by decide +kernel
theorem dX9_sumUp_47 : decode cX9_sumUp 47 = .ok (.iastore, 1) := by decide +kernel
theorem dX9_sumUp_48 : decode cX9_sumUp 48 = .ok (.iconst 0, 1) := by decide +kernel
theorem dX9_sumUp_49 : decode cX9_sumUp 49 = .ok (.istore 7, 2) := by decide +kernel
theorem dX9_sumUp_51 : decode cX9_sumUp 51 = .ok (.iload 7, 2) := by decide +kernel
theorem dX9_sumUp_53 : decode cX9_sumUp 53 = .ok (.bipush 29, 2) := by decide +kernel
theorem dX9_sumUp_55 : decode cX9_sumUp 55 = .ok (.if_icmp .ge 81, 3) := by decide +kernel
theorem dX9_sumUp_58 : decode cX9_sumUp 58 = .ok (.aload_n 0, 1) := by decide +kernel
theorem dX9_sumUp_59 : decode cX9_sumUp 59 = .ok (.iload_n 2, 1) := by decide +kernel
theorem dX9_sumUp_60 : decode cX9_sumUp 60 = .ok (.iload 7, 2) := by decide +kernel
theorem dX9_sumUp_62 : decode cX9_sumUp 62 = .ok (.invokevirtual 179, 3) := by decide +kernel
theorem dX9_sumUp_65 : decode cX9_sumUp 65 = .ok (.ifCond .eq 65, 3) := by decide +kernel
theorem dX9_sumUp_68 : decode cX9_sumUp 68 = .ok (.aload_n 0, 1) := by decide +kernel
theorem dX9_sumUp_69 : decode cX9_sumUp 69 = .ok (.aload_n 0, 1) := by decide +kernel
theorem dX9_sumUp_70 : decode cX9_sumUp 70 = .ok (.getfield 59, 3) := by decide +kernel
theorem dX9_sumUp_73 : decode cX9_sumUp 73 = .ok (.bipush 29, 2) := by decide +kernel
theorem dX9_sumUp_75 : decode cX9_sumUp 75 = .ok (.iload_n 2, 1) := by decide +kernel
theorem dX9_sumUp_76 : decode cX9_sumUp 76 = .ok (.imul, 1) := by decide +kernel
theorem dX9_sumUp_77 : decode cX9_sumUp 77 = .ok (.iload 7, 2) := by decide +kernel
theorem dX9_sumUp_79 : decode cX9_sumUp 79 = .ok (.iadd, 1) := by decide +kernel
theorem dX9_sumUp_80 : decode cX9_sumUp 80 = .ok (.laload, 1) := by decide +kernel
theorem dX9_sumUp_81 : decode cX9_sumUp 81 = .ok (.putfield 150, 3) := by decide +kernel
theorem dX9_sumUp_84 : decode cX9_sumUp 84 = .ok (.aload_n 0, 1) := by decide +kernel
theorem dX9_sumUp_85 : decode cX9_sumUp 85 = .ok (.aload_n 0, 1) := by decide +kernel
theorem dX9_sumUp_86 : decode cX9_sumUp 86 = .ok (.getfield 63, 3) := by decide +kernel
theorem dX9_sumUp_89 : decode cX9_sumUp 89 = .ok (.bipush 29, 2) := by decide +kernel
theorem dX9_sumUp_91 : decode cX9_sumUp 91 = .ok (.iload_n 2, 1) := by decide +kernel
theorem dX9_sumUp_92 : decode cX9_sumUp 92 = .ok (.imul, 1) := by decide +kernel
theorem dX9_sumUp_93 : decode cX9_sumUp 93 = .ok (.iload 7, 2) := by decide +kernel
theorem dX9_sumUp_95 : decode cX9_sumUp 95 = .ok (.iadd, 1) := by decide +kernel
theorem dX9_sumUp_96 : decode cX9_sumUp 96 = .ok (.laload, 1) := by decide +kernel
theorem dX9_sumUp_97 : decode cX9_sumUp 97 = .ok (.putfield 154, 3) := by decide +kernel
theorem dX9_sumUp_100 : decode cX9_sumUp 100 = .ok (.lload_n 3, 1) := by decide +kernel
theorem dX9_sumUp_101 : decode cX9_sumUp 101 = .ok (.lconst 0, 1) := by decide +kernel
theorem dX9_sumUp_102 : decode cX9_sumUp 102 = .ok (.lcmp, 1) := by decide +kernel
theorem dX9_sumUp_103 : decode cX9_sumUp 103 = .ok (.ifCond .ge 19, 3) := by decide +kernel
theorem dX9_sumUp_106 : decode cX9_sumUp 106 = .ok (.aload_n 0, 1) := by decide +kernel
theorem dX9_sumUp_107 : decode cX9_sumUp 107 = .ok (.ldc2_w 164, 3) := by decide +kernel
theorem dX9_sumUp_110 : decode cX9_sumUp 110 = .ok (.lconst 1, 1) := by decide +kernel
theorem dX9_sumUp_111 : decode cX9_sumUp 111 = .ok (.aload_n 0, 1) := by decide +kernel
theorem dX9_sumUp_112 : decode cX9_sumUp 112 = .ok (.getfield 150, 3) := by decide +kernel
theorem dX9_sumUp_115 : decode cX9_sumUp 115 = .ok (.aload_n 0, 1) := by decide +kernel
theorem dX9_sumUp_116 : decode cX9_sumUp 116 = .ok (.getfield 154, 3) := by decide +kernel
theorem dX9_sumUp_119 : decode cX9_sumUp 119 = .ok (.invokevirtual 186, 3) := by decide +kernel
theorem dX9_sumUp_122 : decode cX9_sumUp 122 = .ok (.aload_n 0, 1) := by decide +kernel
theorem dX9_sumUp_123 : decode cX9_sumUp 123 = .ok (.iload 5, 2) := by decide +kernel
theorem dX9_sumUp_125 : decode cX9_sumUp 125 = .ok (.iload 7, 2) := by decide +kernel
theorem dX9_sumUp_127 : decode cX9_sumUp 127 = .ok (.invokevirtual 189, 3) := by decide +kernel
theorem dX9_sumUp_130 : decode cX9_sumUp 130 = .ok (.iinc 7 1, 3) := by decide +kernel
theorem dX9_sumUp_133 : decode cX9_sumUp 133 = .ok (.goto (-82), 3) := by decide +kernel
theorem dX9_sumUp_136 : decode cX9_sumUp 136 = .ok (.aload_n 0, 1) := by decide +kernel
theorem dX9_sumUp_137 : decode cX9_sumUp 137 = .ok (.iload 5, 2) := by decide +kernel
theorem dX9_sumUp_139 : decode cX9_sumUp 139 = .ok (.invokevirtual 192, 3) := by decide +kernel
theorem dX9_sumUp_142 : decode cX9_sumUp 142 = .ok (.return_, 1) := by decide +kernel
theorem dX9_settle_0 : decode cX9_settle 0 = .ok (.aload_n 0, 1) := by decide +kernel
theorem dX9_settle_1 : decode cX9_settle 1 = .ok (.getfield 56, 3) := by decide +kernel
theorem dX9_settle_4 : decode cX9_settle 4 = .ok (.iload_n 1, 1) := by decide +kernel
theorem dX9_settle_5 : decode cX9_settle 5 = .ok (.aload_n 0, 1) := by decide +kernel
theorem dX9_settle_6 : decode cX9_settle 6 = .ok (.iload_n 1, 1) := by decide +kernel
theorem dX9_settle_7 : decode cX9_settle 7 = .ok (.invokevirtual 196, 3) := by decide +kernel
theorem dX9_settle_10 : decode cX9_settle 10 = .ok (.ifCond .ne 7, 3) := by decide +kernel
theorem dX9_settle_13 : decode cX9_settle 13 = .ok (.iconst 2, 1) := by decide +kernel
theorem dX9_settle_14 : decode cX9_settle 14 = .ok (.goto 9, 3) := by decide +kernel
theorem dX9_settle_17 : decode cX9_settle 17 = .ok (.aload_n 0, 1) := by decide +kernel
theorem dX9_settle_18 : decode cX9_settle 18 = .ok (.getfield 56, 3) := by decide +kernel
theorem dX9_settle_21 : decode cX9_settle 21 = .ok (.iload_n 1, 1) := by decide +kernel
theorem dX9_settle_22 : decode cX9_settle 22 = .ok (.iaload, 1) := by decide +kernel
theorem dX9_settle_23 : decode cX9_settle 23 = .ok (.iastore, 1) := by decide +kernel
theorem dX9_settle_24 : decode cX9_settle 24 = .ok (.return_, 1) := by decide +kernel
theorem dX9_isTooGreat_0 : decode cX9_isTooGreat 0 = .ok (.aload_n 0, 1) := by decide +kernel
theorem dX9_isTooGreat_1 : decode cX9_isTooGreat 1 = .ok (.getfield 56, 3) := by decide +kernel
theorem dX9_isTooGreat_4 : decode cX9_isTooGreat 4 = .ok (.iload_n 1, 1) := by decide +kernel
theorem dX9_isTooGreat_5 : decode cX9_isTooGreat 5 = .ok (.iaload, 1) := by decide +kernel
theorem dX9_isTooGreat_6 : decode cX9_isTooGreat 6 = .ok (.aload_n 0, 1) := by decide +kernel
theorem dX9_isTooGreat_7 : decode cX9_isTooGreat 7 = .ok (.getfield 56, 3) := by decide +kernel
theorem dX9_isTooGreat_10 : decode cX9_isTooGreat 10 = .ok (.iload_n 2, 1) := by decide +kernel
theorem dX9_isTooGreat_11 : decode cX9_isTooGreat 11 = .ok (.iaload, 1) := by decide +kernel
theorem dX9_isTooGreat_12 : decode cX9_isTooGreat 12 = .ok (.if_icmp .ge 12, 3) := by decide +kernel
theorem dX9_isTooGreat_15 : decode cX9_isTooGreat 15 = .ok (.aload_n 0, 1) := by decide +kernel
theorem dX9_isTooGreat_16 : decode cX9_isTooGreat 16 = .ok (.getfield 56, 3) := by decide +kernel
theorem dX9_isTooGreat_19 : decode cX9_isTooGreat 19 = .ok (.iload_n 1, 1) := by decide +kernel
theorem dX9_isTooGreat_20 : decode cX9_isTooGreat 20 = .ok (.iaload, 1) := by decide +kernel
theorem dX9_isTooGreat_21 : decode cX9_isTooGreat 21 = .ok (.goto 9, 3) := by decide +kernel
theorem dX9_isTooGreat_24 : decode cX9_isTooGreat 24 = .ok (.aload_n 0, 1) := by decide +kernel
theorem dX9_isTooGreat_25 : decode cX9_isTooGreat 25 = .ok (.getfield 56, 3) := by decide +kernel
theorem dX9_isTooGreat_28 : decode cX9_isTooGreat 28 = .ok (.iload_n 2, 1) := by decide +kernel
theorem dX9_isTooGreat_29 : decode cX9_isTooGreat 29 = .ok (.iaload, 1) := by decide +kernel
theorem dX9_isTooGreat_30 : decode cX9_isTooGreat 30 = .ok (.istore_n 3, 1) := by decide +kernel
theorem dX9_isTooGreat_31 : decode cX9_isTooGreat 31 = .ok (.iconst 0, 1) := by decide +kernel
theorem dX9_isTooGreat_32 : decode cX9_isTooGreat 32 = .ok (.istore 4, 2) := by decide +kernel
theorem dX9_isTooGreat_34 : decode cX9_isTooGreat 34 = .ok (.iload 4, 2) := by decide +kernel
theorem dX9_isTooGreat_36 : decode cX9_isTooGreat 36 = .ok (.bipush 29, 2) := by decide +kernel
theorem dX9_isTooGreat_38 : decode cX9_isTooGreat 38 = .ok (.if_icmp .ge 76, 3) := by decide +kernel
theorem dX9_isTooGreat_41 : decode cX9_isTooGreat 41 = .ok (.iconst 0, 1) := by decide +kernel
theorem dX9_isTooGreat_42 : decode cX9_isTooGreat 42 = .ok (.istore 5, 2) := by decide +kernel
theorem dX9_isTooGreat_44 : decode cX9_isTooGreat 44 = .ok (.iload 5, 2) := by decide +kernel
theorem dX9_isTooGreat_46 : decode cX9_isTooGreat 46 = .ok (.bipush 29, 2) := by decide +kernel
theorem dX9_isTooGreat_48 : decode cX9_isTooGreat 48 = .ok (.if_icmp .ge 60, 3) := by decide +kernel
theorem dX9_isTooGreat_51 : decode cX9_isTooGreat 51 = .ok (.aload_n 0, 1) := by decide +kernel
theorem dX9_isTooGreat_52 : decode cX9_isTooGreat 52 = .ok (.iload_n 1, 1) := by decide +kernel
theorem dX9_isTooGreat_53 : decode cX9_isTooGreat 53 = .ok (.iload 4, 2) := by decide +kernel
theorem dX9_isTooGreat_55 : decode cX9_isTooGreat 55 = .ok (.invokevirtual 179, 3) := by decide +kernel
theorem dX9_isTooGreat_58 : decode cX9_isTooGreat 58 = .ok (.ifCond .eq 44, 3) := by decide +kernel
theorem dX9_isTooGreat_61 : decode cX9_isTooGreat 61 = .ok (.aload_n 0, 1) := by decide +kernel
theorem dX9_isTooGreat_62 : decode cX9_isTooGreat 62 = .ok (.iload_n 2, 1) := by decide +kernel
theorem dX9_isTooGreat_63 : decode cX9_isTooGreat 63 = .ok (.iload 5, 2) := by decide +kernel
theorem dX9_isTooGreat_65 : decode cX9_isTooGreat 65 = .ok (.invokevirtual 179, 3) := by decide +kernel
theorem dX9_isTooGreat_68 : decode cX9_isTooGreat 68 = .ok (.ifCond .eq 34, 3) := by decide +kernel
theorem dX9_isTooGreat_71 : decode cX9_isTooGreat 71 = .ok (.aload_n 0, 1) := by decide +kernel
theorem dX9_isTooGreat_72 : decode cX9_isTooGreat 72 = .ok (.getfield 28, 3) := by decide +kernel
theorem dX9_isTooGreat_75 : decode cX9_isTooGreat 75 = .ok (.iload_n 3, 1) := by decide +kernel
theorem dX9_isTooGreat_76 : decode cX9_isTooGreat 76 = .ok (.iload 4, 2) := by decide +kernel
theorem dX9_isTooGreat_78 : decode cX9_isTooGreat 78 = .ok (.invokestatic 199, 3) := by decide +kernel
theorem dX9_isTooGreat_81 : decode cX9_isTooGreat 81 = .ok (.aload_n 0, 1) := by decide +kernel
theorem dX9_isTooGreat_82 : decode cX9_isTooGreat 82 = .ok (.getfield 28, 3) := by decide +kernel
theorem dX9_isTooGreat_85 : decode cX9_isTooGreat 85 = .ok (.iload_n 3, 1) := by decide +kernel
theorem dX9_isTooGreat_86 : decode cX9_isTooGreat 86 = .ok (.iload 5, 2) := by decide +kernel
theorem dX9_isTooGreat_88 : decode cX9_isTooGreat 88 = .ok (.invokestatic 199, 3) := by decide +kernel
theorem dX9_isTooGreat_91 : decode cX9_isTooGreat 91 = .ok (.iadd, 1) := by decide +kernel
theorem dX9_isTooGreat_92 : decode cX9_isTooGreat 92 = .ok (.iload_n 3, 1) := by decide +kernel
theorem dX9_isTooGreat_93 : decode cX9_isTooGreat 93 = .ok (.iconst 2, 1) := by decide +kernel
theorem dX9_isTooGreat_94 : decode cX9_isTooGreat 94 = .ok (.irem, 1) := by decide +kernel
theorem dX9_isTooGreat_95 : decode cX9_isTooGreat 95 = .ok (.isub, 1) := by decide +kernel
theorem dX9_isTooGreat_96 : decode cX9_isTooGreat 96 = .ok (.iconst 4, 1) := by decide +kernel
theorem dX9_isTooGreat_97 : decode cX9_isTooGreat 97 = .ok (.if_icmp .le 5, 3) := by decide +kernel
theorem dX9_isTooGreat_100 : decode cX9_isTooGreat 100 = .ok (.iconst 1, 1) := by decide +kernel
theorem dX9_isTooGreat_101 : decode cX9_isTooGreat 101 = .ok (.ireturn, 1) := by decide +kernel
theorem dX9_isTooGreat_102 : decode cX9_isTooGreat 102 = .ok (.iinc 5 1, 3) := by decide +kernel
theorem dX9_isTooGreat_105 : decode cX9_isTooGreat 105 = .ok (.goto (-61), 3) := by decide +kernel
theorem dX9_isTooGreat_108 : decode cX9_isTooGreat 108 = .ok (.iinc 4 1, 3) := by decide +kernel
theorem dX9_isTooGreat_111 : decode cX9_isTooGreat 111 = .ok (.goto (-77), 3) := by decide +kernel
theorem dX9_isTooGreat_114 : decode cX9_isTooGreat 114 = .ok (.iconst 0, 1) := by decide +kernel
theorem dX9_isTooGreat_115 : decode cX9_isTooGreat 115 = .ok (.ireturn, 1) := by decide +kernel
theorem dX9_multiplyBy_0 : decode cX9_multiplyBy 0 = .ok (.aload_n 0, 1) := by decide +kernel
theorem dX9_multiplyBy_1 : decode cX9_multiplyBy 1 = .ok (.getfield 28, 3) := by decide +kernel
theorem dX9_multiplyBy_4 : decode cX9_multiplyBy 4 = .ok (.iload_n 1, 1) := by decide +kernel
theorem dX9_multiplyBy_5 : decode cX9_multiplyBy 5 = .ok (.iload_n 2, 1) := by decide +kernel
theorem dX9_multiplyBy_6 : decode cX9_multiplyBy 6 = .ok (.invokestatic 199, 3) := by decide +kernel
theorem dX9_multiplyBy_9 : decode cX9_multiplyBy 9 = .ok (.istore 9, 2) := by decide +kernel
theorem dX9_multiplyBy_11 : decode cX9_multiplyBy 11 = .ok (.aload_n 0, 1) := by decide +kernel
theorem dX9_multiplyBy_12 : decode cX9_multiplyBy 12 = .ok (.getfield 28, 3) := by decide +kernel
theorem dX9_multiplyBy_15 : decode cX9_multiplyBy 15 = .ok (.iload_n 1, 1) := by decide +kernel
theorem dX9_multiplyBy_16 : decode cX9_multiplyBy 16 = .ok (.iload_n 3, 1) := by decide +kernel
theorem dX9_multiplyBy_17 : decode cX9_multiplyBy 17 = .ok (.invokestatic 199, 3) := by decide +kernel
theorem dX9_multiplyBy_20 : decode cX9_multiplyBy 20 = .ok (.istore 10, 2) := by decide +kernel
theorem dX9_multiplyBy_22 : decode cX9_multiplyBy 22 = .ok (.iload 9, 2) := by decide +kernel
theorem dX9_multiplyBy_24 : decode cX9_multiplyBy 24 = .ok (.iload 10, 2) := by decide +kernel
theorem dX9_multiplyBy_26 : decode cX9_multiplyBy 26 = .ok (.iadd, 1) := by decide +kernel
theorem dX9_multiplyBy_27 : decode cX9_multiplyBy 27 = .ok (.iload_n 1, 1) := by decide +kernel
theorem dX9_multiplyBy_28 : decode cX9_multiplyBy 28 = .ok (.iconst 2, 1) := by decide +kernel
theorem dX9_multiplyBy_29 : decode cX9_multiplyBy 29 = .ok (.irem, 1) := by decide +kernel
theorem dX9_multiplyBy_30 : decode cX9_multiplyBy 30 = .ok (.isub, 1) := by decide +kernel
theorem dX9_multiplyBy_31 : decode cX9_multiplyBy 31 = .ok (.istore 11, 2) := by decide +kernel
theorem dX9_multiplyBy_33 : decode cX9_multiplyBy 33 = .ok (.iconst 0, 1) := by decide +kernel
theorem dX9_multiplyBy_34 : decode cX9_multiplyBy 34 = .ok (.istore 12, 2) := by decide +kernel
theorem dX9_multiplyBy_36 : decode cX9_multiplyBy 36 = .ok (.iload 12, 2) := by decide +kernel
theorem dX9_multiplyBy_38 : decode cX9_multiplyBy 38 = .ok (.iload_n 1, 1) := by decide +kernel
theorem dX9_multiplyBy_39 : decode cX9_multiplyBy 39 = .ok (.iconst 1, 1) := by decide +kernel
theorem dX9_multiplyBy_40 : decode cX9_multiplyBy 40 = .ok (.if_icmp .ne 8, 3) := by decide +kernel
theorem dX9_multiplyBy_43 : decode cX9_multiplyBy 43 = .ok (.bipush 29, 2) := by decide +kernel
theorem dX9_multiplyBy_45 : decode cX9_multiplyBy 45 = .ok (.goto 5, 3) := by decide +kernel
theorem dX9_multiplyBy_48 : decode cX9_multiplyBy 48 = .ok (.bipush 19, 2) := by decide +kernel
theorem dX9_multiplyBy_50 : decode cX9_multiplyBy 50 = .ok (.if_icmp .ge 108, 3) := by decide +kernel
theorem dX9_multiplyBy_53 : decode cX9_multiplyBy 53 = .ok (.aload_n 0, 1) := by decide +kernel
theorem dX9_multiplyBy_54 : decode cX9_multiplyBy 54 = .ok (.getfield 28, 3) := by decide +kernel
theorem dX9_multiplyBy_57 : decode cX9_multiplyBy 57 = .ok (.iload_n 1, 1) := by decide +kernel
theorem dX9_multiplyBy_58 : decode cX9_multiplyBy 58 = .ok (.iload 12, 2) := by decide +kernel
theorem dX9_multiplyBy_60 : decode cX9_multiplyBy 60 = .ok (.invokestatic 199, 3) := by decide +kernel
theorem dX9_multiplyBy_63 : decode cX9_multiplyBy 63 = .ok (.iload 11, 2) := by decide +kernel
theorem dX9_multiplyBy_65 : decode cX9_multiplyBy 65 = .ok (.if_icmp .ne 87, 3) := by decide +kernel
theorem dX9_multiplyBy_68 : decode cX9_multiplyBy 68 = .ok (.aload_n 0, 1) := by decide +kernel
theorem dX9_multiplyBy_69 : decode cX9_multiplyBy 69 = .ok (.iload 11, 2) := by decide +kernel
theorem dX9_multiplyBy_71 : decode cX9_multiplyBy 71 = .ok (.iload_n 1, 1) := by decide +kernel
theorem dX9_multiplyBy_72 : decode cX9_multiplyBy 72 = .ok (.iconst 1, 1) := by decide +kernel
theorem dX9_multiplyBy_73 : decode cX9_multiplyBy 73 = .ok (.if_icmp .ne 16, 3) := by decide +kernel
theorem dX9_multiplyBy_76 : decode cX9_multiplyBy 76 = .ok (.aload_n 0, 1) := by decide +kernel
theorem dX9_multiplyBy_77 : decode cX9_multiplyBy 77 = .ok (.getfield 31, 3) := by decide +kernel
theorem dX9_multiplyBy_80 : decode cX9_multiplyBy 80 = .ok (.bipush 19, 2) := by decide +kernel
theorem dX9_multiplyBy_82 : decode cX9_multiplyBy 82 = .ok (.iload 12, 2) := by decide +kernel
theorem dX9_multiplyBy_84 : decode cX9_multiplyBy 84 = .ok (.iadd, 1) := by decide +kernel
theorem dX9_multiplyBy_85 : decode cX9_multiplyBy 85 = .ok (.iaload, 1) := by decide +kernel
theorem dX9_multiplyBy_86 : decode cX9_multiplyBy 86 = .ok (.goto 10, 3) := by decide +kernel
theorem dX9_multiplyBy_89 : decode cX9_multiplyBy 89 = .ok (.aload_n 0, 1) := by decide +kernel
theorem dX9_multiplyBy_90 : decode cX9_multiplyBy 90 = .ok (.getfield 31, 3) := by decide +kernel
theorem dX9_multiplyBy_93 : decode cX9_multiplyBy 93 = .ok (.iload 12, 2) := by decide +kernel
theorem dX9_multiplyBy_95 : decode cX9_multiplyBy 95 = .ok (.iaload, 1) := by decide +kernel
theorem dX9_multiplyBy_96 : decode cX9_multiplyBy 96 = .ok (.invokevirtual 203, 3) := by decide +kernel
theorem dX9_multiplyBy_99 : decode cX9_multiplyBy 99 = .ok (.aload_n 0, 1) := by decide +kernel
theorem dX9_multiplyBy_100 : decode cX9_multiplyBy 100 = .ok (.iload_n 2, 1) := by decide +kernel
theorem dX9_multiplyBy_101 : decode cX9_multiplyBy 101 = .ok (.iload 9, 2) := by decide +kernel
theorem dX9_multiplyBy_103 : decode cX9_multiplyBy 103 = .ok (.iload_n 3, 1) := by decide +kernel
theorem dX9_multiplyBy_104 : decode cX9_multiplyBy 104 = .ok (.iload 10, 2) := by decide +kernel
theorem dX9_multiplyBy_106 : decode cX9_multiplyBy 106 = .ok (.iload_n 1, 1) := by decide +kernel
theorem dX9_multiplyBy_107 : decode cX9_multiplyBy 107 = .ok (.iconst 1, 1) := by decide +kernel
theorem dX9_multiplyBy_108 : decode cX9_multiplyBy 108 = .ok (.if_icmp .ne 7, 3) := by decide +kernel
theorem dX9_multiplyBy_111 : decode cX9_multiplyBy 111 = .ok (.iconst 0, 1) := by decide +kernel
theorem dX9_multiplyBy_112 : decode cX9_multiplyBy 112 = .ok (.goto 4, 3) := by decide +kernel
theorem dX9_multiplyBy_115 : decode cX9_multiplyBy 115 = .ok (.iconst (-1), 1) := by decide +kernel
theorem dX9_multiplyBy_116 : decode cX9_multiplyBy 116 = .ok (.invokevirtual 206, 3) := by decide +kernel
theorem dX9_multiplyBy_119 : decode cX9_multiplyBy 119 = .ok (.aload_n 0, 1) := by decide +kernel
theorem dX9_multiplyBy_120 : decode cX9_multiplyBy 120 = .ok (.getfield 150, 3) := by decide +kernel
theorem dX9_multiplyBy_123 : decode cX9_multiplyBy 123 = .ok (.lconst 0, 1) := by decide +kernel
theorem dX9_multiplyBy_124 : decode cX9_multiplyBy 124 = .ok (.lcmp, 1) := by decide +kernel
theorem dX9_multiplyBy_125 : decode cX9_multiplyBy 125 = .ok (.ifCond .eq 27, 3) := by decide +kernel
theorem dX9_multiplyBy_128 : decode cX9_multiplyBy 128 = .ok (.aload_n 0, 1) := by decide +kernel
theorem dX9_multiplyBy_129 : decode cX9_multiplyBy 129 = .ok (.lload 4, 2) := by decide +kernel
theorem dX9_multiplyBy_131 : decode cX9_multiplyBy 131 = .ok (.lload 6, 2) := by decide +kernel
theorem dX9_multiplyBy_133 : decode cX9_multiplyBy 133 = .ok (.aload_n 0, 1) := by decide +kernel
theorem dX9_multiplyBy_134 : decode cX9_multiplyBy 134 = .ok (.getfield 150, 3) := by decide +kernel
theorem dX9_multiplyBy_137 : decode cX9_multiplyBy 137 = .ok (.aload_n 0, 1) := by decide +kernel
theorem dX9_multiplyBy_138 : decode cX9_multiplyBy 138 = .ok (.getfield 154, 3) := by decide +kernel
theorem dX9_multiplyBy_141 : decode cX9_multiplyBy 141 = .ok (.invokevirtual 186, 3) := by decide +kernel
theorem dX9_multiplyBy_144 : decode cX9_multiplyBy 144 = .ok (.aload_n 0, 1) := by decide +kernel
theorem dX9_multiplyBy_145 : decode cX9_multiplyBy 145 = .ok (.iload 8, 2) := by decide +kernel
theorem dX9_multiplyBy_147 : decode cX9_multiplyBy 147 = .ok (.iload 12, 2) := by decide +kernel
theorem dX9_multiplyBy_149 : decode cX9_multiplyBy 149 = .ok (.invokevirtual 189, 3) := by decide +kernel
theorem dX9_multiplyBy_152 : decode cX9_multiplyBy 152 = .ok (.iinc 12 1, 3) := by decide +kernel
theorem dX9_multiplyBy_155 : decode cX9_multiplyBy 155 = .ok (.goto (-119), 3) := by decide +kernel
theorem dX9_multiplyBy_158 : decode cX9_multiplyBy 158 = .ok (.return_, 1) := by decide +kernel
theorem dX9_multiply_0 : decode cX9_multiply 0 = .ok (.aload_n 0, 1) := by decide +kernel
theorem dX9_multiply_1 : decode cX9_multiply 1 = .ok (.getfield 56, 3) := by decide +kernel
theorem dX9_multiply_4 : decode cX9_multiply 4 = .ok (.iload_n 1, 1) := by decide +kernel
theorem dX9_multiply_5 : decode cX9_multiply 5 = .ok (.iaload, 1) := by decide +kernel
theorem dX9_multiply_6 : decode cX9_multiply 6 = .ok (.aload_n 0, 1) := by decide +kernel
theorem dX9_multiply_7 : decode cX9_multiply 7 = .ok (.getfield 56, 3) := by decide +kernel
theorem dX9_multiply_10 : decode cX9_multiply 10 = .ok (.iload_n 2, 1) := by decide +kernel
theorem dX9_multiply_11 : decode cX9_multiply 11 = .ok (.iaload, 1) := by decide +kernel
theorem dX9_multiply_12 : decode cX9_multiply 12 = .ok (.if_icmp .ge 12, 3) := by decide +kernel
theorem dX9_multiply_15 : decode cX9_multiply 15 = .ok (.aload_n 0, 1) := by decide +kernel
theorem dX9_multiply_16 : decode cX9_multiply 16 = .ok (.getfield 56, 3) := by decide +kernel
theorem dX9_multiply_19 : decode cX9_multiply 19 = .ok (.iload_n 1, 1) := by decide +kernel
theorem dX9_multiply_20 : decode cX9_multiply 20 = .ok (.iaload, 1) := by decide +kernel
theorem dX9_multiply_21 : decode cX9_multiply 21 = .ok (.goto 9, 3) := by decide +kernel
theorem dX9_multiply_24 : decode cX9_multiply 24 = .ok (.aload_n 0, 1) := by decide +kernel
theorem dX9_multiply_25 : decode cX9_multiply 25 = .ok (.getfield 56, 3) := by decide +kernel
theorem dX9_multiply_28 : decode cX9_multiply 28 = .ok (.iload_n 2, 1) := by decide +kernel
theorem dX9_multiply_29 : decode cX9_multiply 29 = .ok (.iaload, 1) := by decide +kernel
theorem dX9_multiply_30 : decode cX9_multiply 30 = .ok (.istore 4, 2) := by decide +kernel
theorem dX9_multiply_32 : decode cX9_multiply 32 = .ok (.aload_n 0, 1) := by decide +kernel
theorem dX9_multiply_33 : decode cX9_multiply 33 = .ok (.iload_n 3, 1) := by decide +kernel
theorem dX9_multiply_34 : decode cX9_multiply 34 = .ok (.invokevirtual 210, 3) := by decide +kernel
theorem dX9_multiply_37 : decode cX9_multiply 37 = .ok (.iconst 0, 1) := by decide +kernel
theorem dX9_multiply_38 : decode cX9_multiply 38 = .ok (.istore 5, 2) := by decide +kernel
theorem dX9_multiply_40 : decode cX9_multiply 40 = .ok (.iload 5, 2) := by decide +kernel
theorem dX9_multiply_42 : decode cX9_multiply 42 = .ok (.bipush 29, 2) := by decide +kernel
theorem dX9_multiply_44 : decode cX9_multiply 44 = .ok (.if_icmp .ge 130, 3) := by decide +kernel
theorem dX9_multiply_47 : decode cX9_multiply 47 = .ok (.iconst 0, 1) := by decide +kernel
theorem dX9_multiply_48 : decode cX9_multiply 48 = .ok (.istore 6, 2) := by decide +kernel
theorem dX9_multiply_50 : decode cX9_multiply 50 = .ok (.iload 6, 2) := by decide +kernel
theorem dX9_multiply_52 : decode cX9_multiply 52 = .ok (.bipush 29, 2) := by decide +kernel
theorem dX9_multiply_54 : decode cX9_multiply 54 = .ok (.if_icmp .ge 114, 3) := by decide +kernel
theorem dX9_multiply_57 : decode cX9_multiply 57 = .ok (.aload_n 0, 1) := by decide +kernel
theorem dX9_multiply_58 : decode cX9_multiply 58 = .ok (.iload_n 1, 1) := by decide +kernel
theorem dX9_multiply_59 : decode cX9_multiply 59 = .ok (.iload 5, 2) := by decide +kernel
theorem dX9_multiply_61 : decode cX9_multiply 61 = .ok (.invokevirtual 179, 3) := by decide +kernel
theorem dX9_multiply_64 : decode cX9_multiply 64 = .ok (.ifCond .eq 98, 3) := by decide +kernel
theorem dX9_multiply_67 : decode cX9_multiply 67 = .ok (.aload_n 0, 1) := by decide +kernel
theorem dX9_multiply_68 : decode cX9_multiply 68 = .ok (.iload_n 2, 1) := by decide +kernel
theorem dX9_multiply_69 : decode cX9_multiply 69 = .ok (.iload 6, 2) := by decide +kernel
theorem dX9_multiply_71 : decode cX9_multiply 71 = .ok (.invokevirtual 179, 3) := by decide +kernel
theorem dX9_multiply_74 : decode cX9_multiply 74 = .ok (.ifCond .eq 88, 3) := by decide +kernel
theorem dX9_multiply_77 : decode cX9_multiply 77 = .ok (.aload_n 0, 1) := by decide +kernel
theorem dX9_multiply_78 : decode cX9_multiply 78 = .ok (.getfield 168, 3) := by decide +kernel
theorem dX9_multiply_81 : decode cX9_multiply 81 = .ok (.ifCond .ne 81, 3) := by decide +kernel
theorem dX9_multiply_84 : decode cX9_multiply 84 = .ok (.aload_n 0, 1) := by decide +kernel
theorem dX9_multiply_85 : decode cX9_multiply 85 = .ok (.aload_n 0, 1) := by decide +kernel
theorem dX9_multiply_86 : decode cX9_multiply 86 = .ok (.getfield 59, 3) := by decide +kernel
theorem dX9_multiply_89 : decode cX9_multiply 89 = .ok (.bipush 29, 2) := by decide +kernel
theorem dX9_multiply_91 : decode cX9_multiply 91 = .ok (.iload_n 1, 1) := by decide +kernel
theorem dX9_multiply_92 : decode cX9_multiply 92 = .ok (.imul, 1) := by decide +kernel
theorem dX9_multiply_93 : decode cX9_multiply 93 = .ok (.iload 5, 2) := by decide +kernel
theorem dX9_multiply_95 : decode cX9_multiply 95 = .ok (.iadd, 1) := by decide +kernel
theorem dX9_multiply_96 : decode cX9_multiply 96 = .ok (.laload, 1) := by decide +kernel
theorem dX9_multiply_97 : decode cX9_multiply 97 = .ok (.aload_n 0, 1) := by decide +kernel
theorem dX9_multiply_98 : decode cX9_multiply 98 = .ok (.getfield 63, 3) := by decide +kernel
theorem dX9_multiply_101 : decode cX9_multiply 101 = .ok (.bipush 29, 2) := by decide +kernel
theorem dX9_multiply_103 : decode cX9_multiply 103 = .ok (.iload_n 1, 1) := by decide +kernel
theorem dX9_multiply_104 : decode cX9_multiply 104 = .ok (.imul, 1) := by decide +kernel
theorem dX9_multiply_105 : decode cX9_multiply 105 = .ok (.iload 5, 2) := by decide +kernel
theorem dX9_multiply_107 : decode cX9_multiply 107 = .ok (.iadd, 1) := by decide +kernel
theorem dX9_multiply_108 : decode cX9_multiply 108 = .ok (.laload, 1) := by decide +kernel
theorem dX9_multiply_109 : decode cX9_multiply 109 = .ok (.aload_n 0, 1) := by decide +kernel
theorem dX9_multiply_110 : decode cX9_multiply 110 = .ok (.getfield 59, 3) := by decide +kernel
theorem dX9_multiply_113 : decode cX9_multiply 113 = .ok (.bipush 29, 2) := by decide +kernel
theorem dX9_multiply_115 : decode cX9_multiply 115 = .ok (.iload_n 2, 1) := by decide +kernel
theorem dX9_multiply_116 : decode cX9_multiply 116 = .ok (.imul, 1) := by decide +kernel
theorem dX9_multiply_117 : decode cX9_multiply 117 = .ok (.iload 6, 2) := by decide +kernel
theorem dX9_multiply_119 : decode cX9_multiply 119 = .ok (.iadd, 1) := by decide +kernel
theorem dX9_multiply_120 : decode cX9_multiply 120 = .ok (.laload, 1) := by decide +kernel
theorem dX9_multiply_121 : decode cX9_multiply 121 = .ok (.aload_n 0, 1) := by decide +kernel
theorem dX9_multiply_122 : decode cX9_multiply 122 = .ok (.getfield 63, 3) := by decide +kernel
theorem dX9_multiply_125 : decode cX9_multiply 125 = .ok (.bipush 29, 2) := by decide +kernel
theorem dX9_multiply_127 : decode cX9_multiply 127 = .ok (.iload_n 2, 1) := by decide +kernel
theorem dX9_multiply_128 : decode cX9_multiply 128 = .ok (.imul, 1) := by decide +kernel
theorem dX9_multiply_129 : decode cX9_multiply 129 = .ok (.iload 6, 2) := by decide +kernel
theorem dX9_multiply_131 : decode cX9_multiply 131 = .ok (.iadd, 1) := by decide +kernel
theorem dX9_multiply_132 : decode cX9_multiply 132 = .ok (.laload, 1) := by decide +kernel
theorem dX9_multiply_133 : decode cX9_multiply 133 = .ok (.invokevirtual 186, 3) := by decide +kernel
theorem dX9_multiply_136 : decode cX9_multiply 136 = .ok (.aload_n 0, 1) := by decide +kernel
theorem dX9_multiply_137 : decode cX9_multiply 137 = .ok (.getfield 168, 3) := by decide +kernel
theorem dX9_multiply_140 : decode cX9_multiply 140 = .ok (.ifCond .ne 22, 3) := by decide +kernel
theorem dX9_multiply_143 : decode cX9_multiply 143 = .ok (.aload_n 0, 1) := by decide +kernel
theorem dX9_multiply_144 : decode cX9_multiply 144 = .ok (.iload 4, 2) := by decide +kernel
theorem dX9_multiply_146 : decode cX9_multiply 146 = .ok (.iload 5, 2) := by decide +kernel
theorem dX9_multiply_148 : decode cX9_multiply 148 = .ok (.iload 6, 2) := by decide +kernel
theorem dX9_multiply_150 : decode cX9_multiply 150 = .ok (.aload_n 0, 1) := by decide +kernel
theorem dX9_multiply_151 : decode cX9_multiply 151 = .ok (.getfield 150, 3) := by decide +kernel
theorem dX9_multiply_154 : decode cX9_multiply 154 = .ok (.aload_n 0, 1) := by decide +kernel
theorem dX9_multiply_155 : decode cX9_multiply 155 = .ok (.getfield 154, 3) := by decide +kernel
theorem dX9_multiply_158 : decode cX9_multiply 158 = .ok (.iload_n 3, 1) := by decide +kernel
theorem dX9_multiply_159 : decode cX9_multiply 159 = .ok (.invokevirtual 213, 3) := by decide +kernel
theorem dX9_multiply_162 : decode cX9_multiply 162 = .ok (.iinc 6 1, 3) := by decide +kernel
theorem dX9_multiply_165 : decode cX9_multiply 165 = .ok (.goto (-115), 3) := by decide +kernel
theorem dX9_multiply_168 : decode cX9_multiply 168 = .ok (.iinc 5 1, 3) := by decide +kernel
theorem dX9_multiply_171 : decode cX9_multiply 171 = .ok (.goto (-131), 3) := by decide +kernel
theorem dX9_multiply_174 : decode cX9_multiply 174 = .ok (.aload_n 0, 1) := by decide +kernel
theorem dX9_multiply_175 : decode cX9_multiply 175 = .ok (.getfield 56, 3) := by decide +kernel
theorem dX9_multiply_178 : decode cX9_multiply 178 = .ok (.iload_n 3, 1) := by decide +kernel
theorem dX9_multiply_179 : decode cX9_multiply 179 = .ok (.iload 4, 2) := by decide +kernel
theorem dX9_multiply_181 : decode cX9_multiply 181 = .ok (.iastore, 1) := by decide +kernel
theorem dX9_multiply_182 : decode cX9_multiply 182 = .ok (.aload_n 0, 1) := by decide +kernel
theorem dX9_multiply_183 : decode cX9_multiply 183 = .ok (.iload_n 3, 1) := by decide +kernel
theorem dX9_multiply_184 : decode cX9_multiply 184 = .ok (.invokevirtual 192, 3) := by decide +kernel
theorem dX9_multiply_187 : decode cX9_multiply 187 = .ok (.return_, 1) := by decide +kernel
theorem dX9_liftTo_0 : decode cX9_liftTo 0 = .ok (.aload_n 0, 1) := by decide +kernel
theorem dX9_liftTo_1 : decode cX9_liftTo 1 = .ok (.getfield 56, 3) := by decide +kernel
theorem dX9_liftTo_4 : decode cX9_liftTo 4 = .ok (.iload_n 1, 1) := by decide +kernel
theorem dX9_liftTo_5 : decode cX9_liftTo 5 = .ok (.iaload, 1) := by decide +kernel
theorem dX9_liftTo_6 : decode cX9_liftTo 6 = .ok (.istore 4, 2) := by decide +kernel
theorem dX9_liftTo_8 : decode cX9_liftTo 8 = .ok (.aload_n 0, 1) := by decide +kernel
theorem dX9_liftTo_9 : decode cX9_liftTo 9 = .ok (.iload_n 3, 1) := by decide +kernel
theorem dX9_liftTo_10 : decode cX9_liftTo 10 = .ok (.invokevirtual 210, 3) := by decide +kernel
theorem dX9_liftTo_13 : decode cX9_liftTo 13 = .ok (.iconst 0, 1) := by decide +kernel
theorem dX9_liftTo_14 : decode cX9_liftTo 14 = .ok (.istore 5, 2) := by decide +kernel
theorem dX9_liftTo_16 : decode cX9_liftTo 16 = .ok (.iload 5, 2) := by decide +kernel
theorem dX9_liftTo_18 : decode cX9_liftTo 18 = .ok (.bipush 29, 2) := by decide +kernel
theorem dX9_liftTo_20 : decode cX9_liftTo 20 = .ok (.if_icmp .ge 179, 3) := by decide +kernel
theorem dX9_liftTo_23 : decode cX9_liftTo 23 = .ok (.iconst 0, 1) := by decide +kernel
theorem dX9_liftTo_24 : decode cX9_liftTo 24 = .ok (.istore 6, 2) := by decide +kernel
theorem dX9_liftTo_26 : decode cX9_liftTo 26 = .ok (.iload 6, 2) := by decide +kernel
theorem dX9_liftTo_28 : decode cX9_liftTo 28 = .ok (.iload 4, 2) := by decide +kernel
theorem dX9_liftTo_30 : decode cX9_liftTo 30 = .ok (.iconst 1, 1) := by decide +kernel
theorem dX9_liftTo_31 : decode cX9_liftTo 31 = .ok (.if_icmp .ne 8, 3) := by decide +kernel
theorem dX9_liftTo_34 : decode cX9_liftTo 34 = .ok (.bipush 29, 2) := by decide +kernel
theorem dX9_liftTo_36 : decode cX9_liftTo 36 = .ok (.goto 5, 3) := by decide +kernel
theorem dX9_liftTo_39 : decode cX9_liftTo 39 = .ok (.bipush 19, 2) := by decide +kernel
theorem dX9_liftTo_41 : decode cX9_liftTo 41 = .ok (.if_icmp .ge 152, 3) := by decide +kernel
theorem dX9_liftTo_44 : decode cX9_liftTo 44 = .ok (.aload_n 0, 1) := by decide +kernel
theorem dX9_liftTo_45 : decode cX9_liftTo 45 = .ok (.iload_n 1, 1) := by decide +kernel
theorem dX9_liftTo_46 : decode cX9_liftTo 46 = .ok (.iload 5, 2) := by decide +kernel
theorem dX9_liftTo_48 : decode cX9_liftTo 48 = .ok (.invokevirtual 179, 3) := by decide +kernel
theorem dX9_liftTo_51 : decode cX9_liftTo 51 = .ok (.ifCond .eq 136, 3) := by decide +kernel
theorem dX9_liftTo_54 : decode cX9_liftTo 54 = .ok (.aload_n 0, 1) := by decide +kernel
theorem dX9_liftTo_55 : decode cX9_liftTo 55 = .ok (.getfield 28, 3) := by decide +kernel
theorem dX9_liftTo_58 : decode cX9_liftTo 58 = .ok (.iload 4, 2) := by decide +kernel
theorem dX9_liftTo_60 : decode cX9_liftTo 60 = .ok (.iload 6, 2) := by decide +kernel
theorem dX9_liftTo_62 : decode cX9_liftTo 62 = .ok (.invokestatic 199, 3) := by decide +kernel
theorem dX9_liftTo_65 : decode cX9_liftTo 65 = .ok (.iload_n 2, 1) := by decide +kernel
theorem dX9_liftTo_66 : decode cX9_liftTo 66 = .ok (.if_icmp .ne 121, 3) := by decide +kernel
theorem dX9_liftTo_69 : decode cX9_liftTo 69 = .ok (.aload_n 0, 1) := by decide +kernel
theorem dX9_liftTo_70 : decode cX9_liftTo 70 = .ok (.getfield 168, 3) := by decide +kernel
theorem dX9_liftTo_73 : decode cX9_liftTo 73 = .ok (.ifCond .ne 114, 3) := by decide +kernel
theorem dX9_liftTo_76 : decode cX9_liftTo 76 = .ok (.aload_n 0, 1) := by decide +kernel
theorem dX9_liftTo_77 : decode cX9_liftTo 77 = .ok (.iload_n 2, 1) := by decide +kernel
theorem dX9_liftTo_78 : decode cX9_liftTo 78 = .ok (.iload 4, 2) := by decide +kernel
theorem dX9_liftTo_80 : decode cX9_liftTo 80 = .ok (.iconst 1, 1) := by decide +kernel
theorem dX9_liftTo_81 : decode cX9_liftTo 81 = .ok (.if_icmp .ne 16, 3) := by decide +kernel
theorem dX9_liftTo_84 : decode cX9_liftTo 84 = .ok (.aload_n 0, 1) := by decide +kernel
theorem dX9_liftTo_85 : decode cX9_liftTo 85 = .ok (.getfield 31, 3) := by decide +kernel
theorem dX9_liftTo_88 : decode cX9_liftTo 88 = .ok (.bipush 19, 2) := by decide +kernel
theorem dX9_liftTo_90 : decode cX9_liftTo 90 = .ok (.iload 6, 2) := by decide +kernel
theorem dX9_liftTo_92 : decode cX9_liftTo 92 = .ok (.iadd, 1) := by decide +kernel
theorem dX9_liftTo_93 : decode cX9_liftTo 93 = .ok (.iaload, 1) := by decide +kernel
theorem dX9_liftTo_94 : decode cX9_liftTo 94 = .ok (.goto 10, 3) := by decide +kernel
theorem dX9_liftTo_97 : decode cX9_liftTo 97 = .ok (.aload_n 0, 1) := by decide +kernel
theorem dX9_liftTo_98 : decode cX9_liftTo 98 = .ok (.getfield 31, 3) := by decide +kernel
theorem dX9_liftTo_101 : decode cX9_liftTo 101 = .ok (.iload 6, 2) := by decide +kernel
theorem dX9_liftTo_103 : decode cX9_liftTo 103 = .ok (.iaload, 1) := by decide +kernel
theorem dX9_liftTo_104 : decode cX9_liftTo 104 = .ok (.invokevirtual 203, 3) := by decide +kernel
theorem dX9_liftTo_107 : decode cX9_liftTo 107 = .ok (.aload_n 0, 1) := by decide +kernel
theorem dX9_liftTo_108 : decode cX9_liftTo 108 = .ok (.iload 5, 2) := by decide +kernel
theorem dX9_liftTo_110 : decode cX9_liftTo 110 = .ok (.aload_n 0, 1) := by decide +kernel
theorem dX9_liftTo_111 : decode cX9_liftTo 111 = .ok (.getfield 28, 3) := by decide +kernel
theorem dX9_liftTo_114 : decode cX9_liftTo 114 = .ok (.iload 4, 2) := by decide +kernel
theorem dX9_liftTo_116 : decode cX9_liftTo 116 = .ok (.iload 5, 2) := by decide +kernel
theorem dX9_liftTo_118 : decode cX9_liftTo 118 = .ok (.invokestatic 199, 3) := by decide +kernel
theorem dX9_liftTo_121 : decode cX9_liftTo 121 = .ok (.iload 4, 2) := by decide +kernel
theorem dX9_liftTo_123 : decode cX9_liftTo 123 = .ok (.iconst 1, 1) := by decide +kernel
theorem dX9_liftTo_124 : decode cX9_liftTo 124 = .ok (.if_icmp .ne 7, 3) := by decide +kernel
theorem dX9_liftTo_127 : decode cX9_liftTo 127 = .ok (.iconst 0, 1) := by decide +kernel
theorem dX9_liftTo_128 : decode cX9_liftTo 128 = .ok (.goto 4, 3) := by decide +kernel
theorem dX9_liftTo_131 : decode cX9_liftTo 131 = .ok (.iconst (-1), 1) := by decide +kernel
theorem dX9_liftTo_132 : decode cX9_liftTo 132 = .ok (.invokevirtual 217, 3) := by decide +kernel
theorem dX9_liftTo_135 : decode cX9_liftTo 135 = .ok (.aload_n 0, 1) := by decide +kernel
theorem dX9_liftTo_136 : decode cX9_liftTo 136 = .ok (.getfield 150, 3) := by decide +kernel
theorem dX9_liftTo_139 : decode cX9_liftTo 139 = .ok (.lconst 0, 1) := by decide +kernel
theorem dX9_liftTo_140 : decode cX9_liftTo 140 = .ok (.lcmp, 1) := by decide +kernel
theorem dX9_liftTo_141 : decode cX9_liftTo 141 = .ok (.ifCond .eq 46, 3) := by decide +kernel
theorem dX9_liftTo_144 : decode cX9_liftTo 144 = .ok (.aload_n 0, 1) := by decide +kernel
theorem dX9_liftTo_145 : decode cX9_liftTo 145 = .ok (.aload_n 0, 1) := by decide +kernel
theorem dX9_liftTo_146 : decode cX9_liftTo 146 = .ok (.getfield 59, 3) := by decide +kernel
theorem dX9_liftTo_149 : decode cX9_liftTo 149 = .ok (.bipush 29, 2) := by decide +kernel
theorem dX9_liftTo_151 : decode cX9_liftTo 151 = .ok (.iload_n 1, 1) := by decide +kernel
theorem dX9_liftTo_152 : decode cX9_liftTo 152 = .ok (.imul, 1) := by decide +kernel
theorem dX9_liftTo_153 : decode cX9_liftTo 153 = .ok (.iload 5, 2) := by decide +kernel
theorem dX9_liftTo_155 : decode cX9_liftTo 155 = .ok (.iadd, 1) := by decide +kernel
theorem dX9_liftTo_156 : decode cX9_liftTo 156 = .ok (.laload, 1) := by decide +kernel
theorem dX9_liftTo_157 : decode cX9_liftTo 157 = .ok (.aload_n 0, 1) := by decide +kernel
theorem dX9_liftTo_158 : decode cX9_liftTo 158 = .ok (.getfield 63, 3) := by decide +kernel
theorem dX9_liftTo_161 : decode cX9_liftTo 161 = .ok (.bipush 29, 2) := by decide +kernel
theorem dX9_liftTo_163 : decode cX9_liftTo 163 = .ok (.iload_n 1, 1) := by decide +kernel
theorem dX9_liftTo_164 : decode cX9_liftTo 164 = .ok (.imul, 1) := by decide +kernel
theorem dX9_liftTo_165 : decode cX9_liftTo 165 = .ok (.iload 5, 2) := by decide +kernel
theorem dX9_liftTo_167 : decode cX9_liftTo 167 = .ok (.iadd, 1) := by decide +kernel
theorem dX9_liftTo_168 : decode cX9_liftTo 168 = .ok (.laload, 1) := by decide +kernel
theorem dX9_liftTo_169 : decode cX9_liftTo 169 = .ok (.aload_n 0, 1) := by decide +kernel
theorem dX9_liftTo_170 : decode cX9_liftTo 170 = .ok (.getfield 150, 3) := by decide +kernel
theorem dX9_liftTo_173 : decode cX9_liftTo 173 = .ok (.aload_n 0, 1) := by decide +kernel
theorem dX9_liftTo_174 : decode cX9_liftTo 174 = .ok (.getfield 154, 3) := by decide +kernel
theorem dX9_liftTo_177 : decode cX9_liftTo 177 = .ok (.invokevirtual 186, 3) := by decide +kernel
theorem dX9_liftTo_180 : decode cX9_liftTo 180 = .ok (.aload_n 0, 1) := by decide +kernel
theorem dX9_liftTo_181 : decode cX9_liftTo 181 = .ok (.iload_n 3, 1) := by decide +kernel
theorem dX9_liftTo_182 : decode cX9_liftTo 182 = .ok (.iload 6, 2) := by decide +kernel
theorem dX9_liftTo_184 : decode cX9_liftTo 184 = .ok (.invokevirtual 189, 3) := by decide +kernel
theorem dX9_liftTo_187 : decode cX9_liftTo 187 = .ok (.iinc 6 1, 3) := by decide +kernel
theorem dX9_liftTo_190 : decode cX9_liftTo 190 = .ok (.goto (-164), 3) := by decide +kernel
theorem dX9_liftTo_193 : decode cX9_liftTo 193 = .ok (.iinc 5 1, 3) := by decide +kernel
theorem dX9_liftTo_196 : decode cX9_liftTo 196 = .ok (.goto (-180), 3) := by decide +kernel
theorem dX9_liftTo_199 : decode cX9_liftTo 199 = .ok (.aload_n 0, 1) := by decide +kernel
theorem dX9_liftTo_200 : decode cX9_liftTo 200 = .ok (.getfield 56, 3) := by decide +kernel
theorem dX9_liftTo_203 : decode cX9_liftTo 203 = .ok (.iload_n 3, 1) := by decide +kernel
theorem dX9_liftTo_204 : decode cX9_liftTo 204 = .ok (.iload 4, 2) := by decide +kernel
theorem dX9_liftTo_206 : decode cX9_liftTo 206 = .ok (.iastore, 1) := by decide +kernel
theorem dX9_liftTo_207 : decode cX9_liftTo 207 = .ok (.aload_n 0, 1) := by decide +kernel
theorem dX9_liftTo_208 : decode cX9_liftTo 208 = .ok (.iload_n 3, 1) := by decide +kernel
theorem dX9_liftTo_209 : decode cX9_liftTo 209 = .ok (.invokevirtual 192, 3) := by decide +kernel
theorem dX9_liftTo_212 : decode cX9_liftTo 212 = .ok (.return_, 1) := by decide +kernel
theorem dX9_plainOf_0 : decode cX9_plainOf 0 = .ok (.aload_n 0, 1) := by decide +kernel
theorem dX9_plainOf_1 : decode cX9_plainOf 1 = .ok (.getfield 34, 3) := by decide +kernel
theorem dX9_plainOf_4 : decode cX9_plainOf 4 = .ok (.bipush 64, 2) := by decide +kernel
theorem dX9_plainOf_6 : decode cX9_plainOf 6 = .ok (.aload_n 0, 1) := by decide +kernel
theorem dX9_plainOf_7 : decode cX9_plainOf 7 = .ok (.getfield 28, 3) := by decide +kernel
theorem dX9_plainOf_10 : decode cX9_plainOf 10 = .ok (.bipush 19, 2) := by decide +kernel
theorem dX9_plainOf_12 : decode cX9_plainOf 12 = .ok (.iload_n 1, 1) := by decide +kernel
theorem dX9_plainOf_13 : decode cX9_plainOf 13 = .ok (.iadd, 1) := by decide +kernel
theorem dX9_plainOf_14 : decode cX9_plainOf 14 = .ok (.iaload, 1) := by decide +kernel
theorem dX9_plainOf_15 : decode cX9_plainOf 15 = .ok (.imul, 1) := by decide +kernel
theorem dX9_plainOf_16 : decode cX9_plainOf 16 = .ok (.aload_n 0, 1) := by decide +kernel
theorem dX9_plainOf_17 : decode cX9_plainOf 17 = .ok (.getfield 31, 3) := by decide +kernel
theorem dX9_plainOf_20 : decode cX9_plainOf 20 = .ok (.bipush 19, 2) := by decide +kernel
theorem dX9_plainOf_22 : decode cX9_plainOf 22 = .ok (.iload_n 1, 1) := by decide +kernel
theorem dX9_plainOf_23 : decode cX9_plainOf 23 = .ok (.iadd, 1) := by decide +kernel
theorem dX9_plainOf_24 : decode cX9_plainOf 24 = .ok (.iaload, 1) := by decide +kernel
theorem dX9_plainOf_25 : decode cX9_plainOf 25 = .ok (.iadd, 1) := by decide +kernel
theorem dX9_plainOf_26 : decode cX9_plainOf 26 = .ok (.iaload, 1) := by decide +kernel
theorem dX9_plainOf_27 : decode cX9_plainOf 27 = .ok (.ireturn, 1) := by decide +kernel
theorem dX9_rootsOf_0 : decode cX9_rootsOf 0 = .ok (.aload_n 0, 1) := by decide +kernel
theorem dX9_rootsOf_1 : decode cX9_rootsOf 1 = .ok (.iload_n 1, 1) := by decide +kernel
theorem dX9_rootsOf_2 : decode cX9_rootsOf 2 = .ok (.invokevirtual 221, 3) := by decide +kernel
theorem dX9_rootsOf_5 : decode cX9_rootsOf 5 = .ok (.istore_n 2, 1) := by decide +kernel
theorem dX9_rootsOf_6 : decode cX9_rootsOf 6 = .ok (.aload_n 0, 1) := by decide +kernel
theorem dX9_rootsOf_7 : decode cX9_rootsOf 7 = .ok (.aload_n 0, 1) := by decide +kernel
theorem dX9_rootsOf_8 : decode cX9_rootsOf 8 = .ok (.getfield 28, 3) := by decide +kernel
theorem dX9_rootsOf_11 : decode cX9_rootsOf 11 = .ok (.iload_n 2, 1) := by decide +kernel
theorem dX9_rootsOf_12 : decode cX9_rootsOf 12 = .ok (.iaload, 1) := by decide +kernel
theorem dX9_rootsOf_13 : decode cX9_rootsOf 13 = .ok (.aload_n 0, 1) := by decide +kernel
theorem dX9_rootsOf_14 : decode cX9_rootsOf 14 = .ok (.getfield 31, 3) := by decide +kernel
theorem dX9_rootsOf_17 : decode cX9_rootsOf 17 = .ok (.iload_n 2, 1) := by decide +kernel
theorem dX9_rootsOf_18 : decode cX9_rootsOf 18 = .ok (.iaload, 1) := by decide +kernel
theorem dX9_rootsOf_19 : decode cX9_rootsOf 19 = .ok (.invokevirtual 203, 3) := by decide +kernel
theorem dX9_rootsOf_22 : decode cX9_rootsOf 22 = .ok (.iconst 0, 1) := by decide +kernel
theorem dX9_rootsOf_23 : decode cX9_rootsOf 23 = .ok (.istore_n 3, 1) := by decide +kernel
theorem dX9_rootsOf_24 : decode cX9_rootsOf 24 = .ok (.iconst 0, 1) := by decide +kernel
theorem dX9_rootsOf_25 : decode cX9_rootsOf 25 = .ok (.istore 4, 2) := by decide +kernel
theorem dX9_rootsOf_27 : decode cX9_rootsOf 27 = .ok (.iload 4, 2) := by decide +kernel
theorem dX9_rootsOf_29 : decode cX9_rootsOf 29 = .ok (.aload_n 0, 1) := by decide +kernel
theorem dX9_rootsOf_30 : decode cX9_rootsOf 30 = .ok (.getfield 28, 3) := by decide +kernel
theorem dX9_rootsOf_33 : decode cX9_rootsOf 33 = .ok (.iload_n 2, 1) := by decide +kernel
theorem dX9_rootsOf_34 : decode cX9_rootsOf 34 = .ok (.iaload, 1) := by decide +kernel
theorem dX9_rootsOf_35 : decode cX9_rootsOf 35 = .ok (.if_icmp .ge 37, 3) := by decide +kernel
theorem dX9_rootsOf_38 : decode cX9_rootsOf 38 = .ok (.iload_n 3, 1) := by decide +kernel
theorem dX9_rootsOf_39 : decode cX9_rootsOf 39 = .ok (.aload_n 0, 1) := by decide +kernel
theorem dX9_rootsOf_40 : decode cX9_rootsOf 40 = .ok (.iconst 1, 1) := by decide +kernel
theorem dX9_rootsOf_41 : decode cX9_rootsOf 41 = .ok (.aload_n 0, 1) := by decide +kernel
theorem dX9_rootsOf_42 : decode cX9_rootsOf 42 = .ok (.getfield 28, 3) := by decide +kernel
theorem dX9_rootsOf_45 : decode cX9_rootsOf 45 = .ok (.iload_n 2, 1) := by decide +kernel
theorem dX9_rootsOf_46 : decode cX9_rootsOf 46 = .ok (.iaload, 1) := by decide +kernel
theorem dX9_rootsOf_47 : decode cX9_rootsOf 47 = .ok (.ishl, 1) := by decide +kernel
theorem dX9_rootsOf_48 : decode cX9_rootsOf 48 = .ok (.iconst 1, 1) := by decide +kernel
theorem dX9_rootsOf_49 : decode cX9_rootsOf 49 = .ok (.isub, 1) := by decide +kernel
theorem dX9_rootsOf_50 : decode cX9_rootsOf 50 = .ok (.iload 4, 2) := by decide +kernel
theorem dX9_rootsOf_52 : decode cX9_rootsOf 52 = .ok (.invokevirtual 157, 3) := by decide +kernel
theorem dX9_rootsOf_55 : decode cX9_rootsOf 55 = .ok (.iload_n 1, 1) := by decide +kernel
theorem dX9_rootsOf_56 : decode cX9_rootsOf 56 = .ok (.if_icmp .ne 7, 3) := by decide +kernel
theorem dX9_rootsOf_59 : decode cX9_rootsOf 59 = .ok (.iconst 1, 1) := by decide +kernel
theorem dX9_rootsOf_60 : decode cX9_rootsOf 60 = .ok (.goto 4, 3) := by decide +kernel
theorem dX9_rootsOf_63 : decode cX9_rootsOf 63 = .ok (.iconst 0, 1) := by decide +kernel
theorem dX9_rootsOf_64 : decode cX9_rootsOf 64 = .ok (.iadd, 1) := by decide +kernel
theorem dX9_rootsOf_65 : decode cX9_rootsOf 65 = .ok (.istore_n 3, 1) := by decide +kernel
theorem dX9_rootsOf_66 : decode cX9_rootsOf 66 = .ok (.iinc 4 1, 3) := by decide +kernel
theorem dX9_rootsOf_69 : decode cX9_rootsOf 69 = .ok (.goto (-42), 3) := by decide +kernel
theorem dX9_rootsOf_72 : decode cX9_rootsOf 72 = .ok (.iload_n 3, 1) := by decide +kernel
theorem dX9_rootsOf_73 : decode cX9_rootsOf 73 = .ok (.ireturn, 1) := by decide +kernel
theorem dX9_averageTo_0 : decode cX9_averageTo 0 = .ok (.aload_n 0, 1) := by decide +kernel
theorem dX9_averageTo_1 : decode cX9_averageTo 1 = .ok (.iload_n 2, 1) := by decide +kernel
theorem dX9_averageTo_2 : decode cX9_averageTo 2 = .ok (.invokevirtual 210, 3) := by decide +kernel
theorem dX9_averageTo_5 : decode cX9_averageTo 5 = .ok (.iconst 0, 1) := by decide +kernel
theorem dX9_averageTo_6 : decode cX9_averageTo 6 = .ok (.istore_n 3, 1) := by decide +kernel
theorem dX9_averageTo_7 : decode cX9_averageTo 7 = .ok (.iload_n 3, 1) := by decide +kernel
theorem dX9_averageTo_8 : decode cX9_averageTo 8 = .ok (.bipush 29, 2) := by decide +kernel
theorem dX9_averageTo_10 : decode cX9_averageTo 10 = .ok (.if_icmp .ge 89, 3) := by decide +kernel
theorem dX9_averageTo_13 : decode cX9_averageTo 13 = .ok (.aload_n 0, 1) := by decide +kernel
theorem dX9_averageTo_14 : decode cX9_averageTo 14 = .ok (.iload_n 1, 1) := by decide +kernel
theorem dX9_averageTo_15 : decode cX9_averageTo 15 = .ok (.iload_n 3, 1) := by decide +kernel
theorem dX9_averageTo_16 : decode cX9_averageTo 16 = .ok (.invokevirtual 179, 3) := by decide +kernel
theorem dX9_averageTo_19 : decode cX9_averageTo 19 = .ok (.ifCond .eq 74, 3) := by decide +kernel
theorem dX9_averageTo_22 : decode cX9_averageTo 22 = .ok (.aload_n 0, 1) := by decide +kernel
theorem dX9_averageTo_23 : decode cX9_averageTo 23 = .ok (.getfield 168, 3) := by decide +kernel
theorem dX9_averageTo_26 : decode cX9_averageTo 26 = .ok (.ifCond .ne 67, 3) := by decide +kernel
theorem dX9_averageTo_29 : decode cX9_averageTo 29 = .ok (.aload_n 0, 1) := by decide +kernel
theorem dX9_averageTo_30 : decode cX9_averageTo 30 = .ok (.aload_n 0, 1) := by decide +kernel
theorem dX9_averageTo_31 : decode cX9_averageTo 31 = .ok (.iload_n 3, 1) := by decide +kernel
theorem dX9_averageTo_32 : decode cX9_averageTo 32 = .ok (.invokevirtual 224, 3) := by decide +kernel
theorem dX9_averageTo_35 : decode cX9_averageTo 35 = .ok (.i2l, 1) := by decide +kernel
theorem dX9_averageTo_36 : decode cX9_averageTo 36 = .ok (.aload_n 0, 1) := by decide +kernel
theorem dX9_averageTo_37 : decode cX9_averageTo 37 = .ok (.getfield 28, 3) := by decide +kernel
theorem dX9_averageTo_40 : decode cX9_averageTo 40 = .ok (.bipush 19, 2) := by decide +kernel
theorem dX9_averageTo_42 : decode cX9_averageTo 42 = .ok (.iload_n 3, 1) := by decide +kernel
theorem dX9_averageTo_43 : decode cX9_averageTo 43 = .ok (.iadd, 1) := by decide +kernel
theorem dX9_averageTo_44 : decode cX9_averageTo 44 = .ok (.iaload, 1) := by decide +kernel
theorem dX9_averageTo_45 : decode cX9_averageTo 45 = .ok (.i2l, 1) := by decide +kernel
theorem dX9_averageTo_46 : decode cX9_averageTo 46 = .ok (.invokevirtual 160, 3) := by decide +kernel
theorem dX9_averageTo_49 : decode cX9_averageTo 49 = .ok (.aload_n 0, 1) := by decide +kernel
theorem dX9_averageTo_50 : decode cX9_averageTo 50 = .ok (.aload_n 0, 1) := by decide +kernel
theorem dX9_averageTo_51 : decode cX9_averageTo 51 = .ok (.getfield 59, 3) := by decide +kernel
theorem dX9_averageTo_54 : decode cX9_averageTo 54 = .ok (.bipush 29, 2) := by decide +kernel
theorem dX9_averageTo_56 : decode cX9_averageTo 56 = .ok (.iload_n 1, 1) := by decide +kernel
theorem dX9_averageTo_57 : decode cX9_averageTo 57 = .ok (.imul, 1) := by decide +kernel
theorem dX9_averageTo_58 : decode cX9_averageTo 58 = .ok (.iload_n 3, 1) := by decide +kernel
theorem dX9_averageTo_59 : decode cX9_averageTo 59 = .ok (.iadd, 1) := by decide +kernel
theorem dX9_averageTo_60 : decode cX9_averageTo 60 = .ok (.laload, 1) := by decide +kernel
theorem dX9_averageTo_61 : decode cX9_averageTo 61 = .ok (.aload_n 0, 1) := by decide +kernel
theorem dX9_averageTo_62 : decode cX9_averageTo 62 = .ok (.getfield 63, 3) := by decide +kernel
theorem dX9_averageTo_65 : decode cX9_averageTo 65 = .ok (.bipush 29, 2) := by decide +kernel
theorem dX9_averageTo_67 : decode cX9_averageTo 67 = .ok (.iload_n 1, 1) := by decide +kernel
theorem dX9_averageTo_68 : decode cX9_averageTo 68 = .ok (.imul, 1) := by decide +kernel
theorem dX9_averageTo_69 : decode cX9_averageTo 69 = .ok (.iload_n 3, 1) := by decide +kernel
theorem dX9_averageTo_70 : decode cX9_averageTo 70 = .ok (.iadd, 1) := by decide +kernel
theorem dX9_averageTo_71 : decode cX9_averageTo 71 = .ok (.laload, 1) := by decide +kernel
theorem dX9_averageTo_72 : decode cX9_averageTo 72 = .ok (.aload_n 0, 1) := by decide +kernel
theorem dX9_averageTo_73 : decode cX9_averageTo 73 = .ok (.getfield 150, 3) := by decide +kernel
theorem dX9_averageTo_76 : decode cX9_averageTo 76 = .ok (.aload_n 0, 1) := by decide +kernel
theorem dX9_averageTo_77 : decode cX9_averageTo 77 = .ok (.getfield 154, 3) := by decide +kernel
theorem dX9_averageTo_80 : decode cX9_averageTo 80 = .ok (.invokevirtual 186, 3) := by decide +kernel
theorem dX9_averageTo_83 : decode cX9_averageTo 83 = .ok (.aload_n 0, 1) := by decide +kernel
theorem dX9_averageTo_84 : decode cX9_averageTo 84 = .ok (.iload_n 2, 1) := by decide +kernel
theorem dX9_averageTo_85 : decode cX9_averageTo 85 = .ok (.aload_n 0, 1) := by decide +kernel
theorem dX9_averageTo_86 : decode cX9_averageTo 86 = .ok (.iload_n 3, 1) := by decide +kernel
theorem dX9_averageTo_87 : decode cX9_averageTo 87 = .ok (.invokevirtual 221, 3) := by decide +kernel
theorem dX9_averageTo_90 : decode cX9_averageTo 90 = .ok (.invokevirtual 189, 3) := by decide +kernel
theorem dX9_averageTo_93 : decode cX9_averageTo 93 = .ok (.iinc 3 1, 3) := by decide +kernel
theorem dX9_averageTo_96 : decode cX9_averageTo 96 = .ok (.goto (-89), 3) := by decide +kernel
theorem dX9_averageTo_99 : decode cX9_averageTo 99 = .ok (.aload_n 0, 1) := by decide +kernel
theorem dX9_averageTo_100 : decode cX9_averageTo 100 = .ok (.getfield 56, 3) := by decide +kernel
theorem dX9_averageTo_103 : decode cX9_averageTo 103 = .ok (.iload_n 2, 1) := by decide +kernel
theorem dX9_averageTo_104 : decode cX9_averageTo 104 = .ok (.iconst 0, 1) := by decide +kernel
theorem dX9_averageTo_105 : decode cX9_averageTo 105 = .ok (.iastore, 1) := by decide +kernel
theorem dX9_averageTo_106 : decode cX9_averageTo 106 = .ok (.aload_n 0, 1) := by decide +kernel
theorem dX9_averageTo_107 : decode cX9_averageTo 107 = .ok (.iload_n 2, 1) := by decide +kernel
theorem dX9_averageTo_108 : decode cX9_averageTo 108 = .ok (.invokevirtual 192, 3) := by decide +kernel
theorem dX9_averageTo_111 : decode cX9_averageTo 111 = .ok (.return_, 1) := by decide +kernel
theorem dX9_flag_0 : decode cX9_flag 0 = .ok (.iload_n 1, 1) := by decide +kernel
theorem dX9_flag_1 : decode cX9_flag 1 = .ok (.invokestatic 227, 3) := by decide +kernel
theorem dX9_flag_4 : decode cX9_flag 4 = .ok (.ifCond .eq 12, 3) := by decide +kernel
theorem dX9_flag_7 : decode cX9_flag 7 = .ok (.iload_n 2, 1) := by decide +kernel
theorem dX9_flag_8 : decode cX9_flag 8 = .ok (.iconst 0, 1) := by decide +kernel
theorem dX9_flag_9 : decode cX9_flag 9 = .ok (.iconst 4, 1) := by decide +kernel
theorem dX9_flag_10 : decode cX9_flag 10 = .ok (.invokestatic 129, 3) := by decide +kernel
theorem dX9_flag_13 : decode cX9_flag 13 = .ok (.ifCond .ne 5, 3) := by decide +kernel
theorem dX9_flag_16 : decode cX9_flag 16 = .ok (.iconst (-1), 1) := by decide +kernel
theorem dX9_flag_17 : decode cX9_flag 17 = .ok (.ireturn, 1) := by decide +kernel
theorem dX9_flag_18 : decode cX9_flag 18 = .ok (.aload_n 0, 1) := by decide +kernel
theorem dX9_flag_19 : decode cX9_flag 19 = .ok (.getfield 28, 3) := by decide +kernel
theorem dX9_flag_22 : decode cX9_flag 22 = .ok (.iload_n 1, 1) := by decide +kernel
theorem dX9_flag_23 : decode cX9_flag 23 = .ok (.iaload, 1) := by decide +kernel
theorem dX9_flag_24 : decode cX9_flag 24 = .ok (.istore_n 3, 1) := by decide +kernel
theorem dX9_flag_25 : decode cX9_flag 25 = .ok (.iload_n 2, 1) := by decide +kernel
theorem dX9_flag_26 : decode cX9_flag 26 = .ok (.iconst 3, 1) := by decide +kernel
theorem dX9_flag_27 : decode cX9_flag 27 = .ok (.if_icmp .ge 35, 3) := by decide +kernel
theorem dX9_flag_30 : decode cX9_flag 30 = .ok (.iload_n 2, 1) := by decide +kernel
theorem dX9_flag_31 : decode cX9_flag 31 = .ok (.ifCond .ne 7, 3) := by decide +kernel
theorem dX9_flag_34 : decode cX9_flag 34 = .ok (.iload_n 3, 1) := by decide +kernel
theorem dX9_flag_35 : decode cX9_flag 35 = .ok (.goto 26, 3) := by decide +kernel
theorem dX9_flag_38 : decode cX9_flag 38 = .ok (.iload_n 2, 1) := by decide +kernel
theorem dX9_flag_39 : decode cX9_flag 39 = .ok (.iconst 1, 1) := by decide +kernel
theorem dX9_flag_40 : decode cX9_flag 40 = .ok (.if_icmp .ne 12, 3) := by decide +kernel
theorem dX9_flag_43 : decode cX9_flag 43 = .ok (.aload_n 0, 1) := by decide +kernel
theorem dX9_flag_44 : decode cX9_flag 44 = .ok (.getfield 31, 3) := by decide +kernel
theorem dX9_flag_47 : decode cX9_flag 47 = .ok (.iload_n 1, 1) := by decide +kernel
theorem dX9_flag_48 : decode cX9_flag 48 = .ok (.iaload, 1) := by decide +kernel
theorem dX9_flag_49 : decode cX9_flag 49 = .ok (.goto 12, 3) := by decide +kernel
theorem dX9_flag_52 : decode cX9_flag 52 = .ok (.aload_n 0, 1) := by decide +kernel
theorem dX9_flag_53 : decode cX9_flag 53 = .ok (.getfield 31, 3) := by decide +kernel
theorem dX9_flag_56 : decode cX9_flag 56 = .ok (.iload_n 1, 1) := by decide +kernel
theorem dX9_flag_57 : decode cX9_flag 57 = .ok (.iaload, 1) := by decide +kernel
theorem dX9_flag_58 : decode cX9_flag 58 = .ok (.invokestatic 140, 3) := by decide +kernel
theorem dX9_flag_61 : decode cX9_flag 61 = .ok (.ireturn, 1) := by decide +kernel
theorem dX9_flag_62 : decode cX9_flag 62 = .ok (.iload_n 2, 1) := by decide +kernel
theorem dX9_flag_63 : decode cX9_flag 63 = .ok (.iconst 4, 1) := by decide +kernel
theorem dX9_flag_64 : decode cX9_flag 64 = .ok (.if_icmp .ne 27, 3) := by decide +kernel
theorem dX9_flag_67 : decode cX9_flag 67 = .ok (.aload_n 0, 1) := by decide +kernel
theorem dX9_flag_68 : decode cX9_flag 68 = .ok (.getfield 34, 3) := by decide +kernel
theorem dX9_flag_71 : decode cX9_flag 71 = .ok (.bipush 64, 2) := by decide +kernel
theorem dX9_flag_73 : decode cX9_flag 73 = .ok (.iload_n 3, 1) := by decide +kernel
theorem dX9_flag_74 : decode cX9_flag 74 = .ok (.imul, 1) := by decide +kernel
theorem dX9_flag_75 : decode cX9_flag 75 = .ok (.iload_n 3, 1) := by decide +kernel
theorem dX9_flag_76 : decode cX9_flag 76 = .ok (.invokestatic 20, 3) := by decide +kernel
theorem dX9_flag_79 : decode cX9_flag 79 = .ok (.iadd, 1) := by decide +kernel
theorem dX9_flag_80 : decode cX9_flag 80 = .ok (.iconst 1, 1) := by decide +kernel
theorem dX9_flag_81 : decode cX9_flag 81 = .ok (.isub, 1) := by decide +kernel
theorem dX9_flag_82 : decode cX9_flag 82 = .ok (.aload_n 0, 1) := by decide +kernel
theorem dX9_flag_83 : decode cX9_flag 83 = .ok (.getfield 31, 3) := by decide +kernel
theorem dX9_flag_86 : decode cX9_flag 86 = .ok (.iload_n 1, 1) := by decide +kernel
theorem dX9_flag_87 : decode cX9_flag 87 = .ok (.iaload, 1) := by decide +kernel
theorem dX9_flag_88 : decode cX9_flag 88 = .ok (.isub, 1) := by decide +kernel
theorem dX9_flag_89 : decode cX9_flag 89 = .ok (.iaload, 1) := by decide +kernel
theorem dX9_flag_90 : decode cX9_flag 90 = .ok (.ireturn, 1) := by decide +kernel
theorem dX9_flag_91 : decode cX9_flag 91 = .ok (.iconst 0, 1) := by decide +kernel
theorem dX9_flag_92 : decode cX9_flag 92 = .ok (.istore 4, 2) := by decide +kernel
theorem dX9_flag_94 : decode cX9_flag 94 = .ok (.iconst 0, 1) := by decide +kernel
theorem dX9_flag_95 : decode cX9_flag 95 = .ok (.istore 5, 2) := by decide +kernel
theorem dX9_flag_97 : decode cX9_flag 97 = .ok (.iload 5, 2) := by decide +kernel
theorem dX9_flag_99 : decode cX9_flag 99 = .ok (.sipush 256, 3) := by decide +kernel
theorem dX9_flag_102 : decode cX9_flag 102 = .ok (.if_icmp .ge 49, 3) := by decide +kernel
theorem dX9_flag_105 : decode cX9_flag 105 = .ok (.iload 4, 2) := by decide +kernel
theorem dX9_flag_107 : decode cX9_flag 107 = .ok (.aload_n 0, 1) := by decide +kernel
theorem dX9_flag_108 : decode cX9_flag 108 = .ok (.iload 5, 2) := by decide +kernel
theorem dX9_flag_110 : decode cX9_flag 110 = .ok (.iload_n 3, 1) := by decide +kernel
theorem dX9_flag_111 : decode cX9_flag 111 = .ok (.invokevirtual 13, 3) := by decide +kernel
theorem dX9_flag_114 : decode cX9_flag 114 = .ok (.ifCond .eq 27, 3) := by decide +kernel
theorem dX9_flag_117 : decode cX9_flag 117 = .ok (.aload_n 0, 1) := by decide +kernel
theorem dX9_flag_118 : decode cX9_flag 118 = .ok (.aload_n 0, 1) := by decide +kernel
theorem dX9_flag_119 : decode cX9_flag 119 = .ok (.getfield 31, 3) := by decide +kernel
theorem dX9_flag_122 : decode cX9_flag 122 = .ok (.iload_n 1, 1) := by decide +kernel
theorem dX9_flag_123 : decode cX9_flag 123 = .ok (.iaload, 1) := by decide +kernel
theorem dX9_flag_124 : decode cX9_flag 124 = .ok (.iload_n 3, 1) := by decide +kernel
theorem dX9_flag_125 : decode cX9_flag 125 = .ok (.invokevirtual 17, 3) := by decide +kernel
theorem dX9_flag_128 : decode cX9_flag 128 = .ok (.aload_n 0, 1) := by decide +kernel
theorem dX9_flag_129 : decode cX9_flag 129 = .ok (.getfield 31, 3) := by decide +kernel
theorem dX9_flag_132 : decode cX9_flag 132 = .ok (.iload_n 1, 1) := by decide +kernel
theorem dX9_flag_133 : decode cX9_flag 133 = .ok (.iaload, 1) := by decide +kernel
theorem dX9_flag_134 : decode cX9_flag 134 = .ok (.if_icmp .ne 7, 3) := by decide +kernel
theorem dX9_flag_137 : decode cX9_flag 137 = .ok (.iconst 1, 1) := by decide +kernel
theorem dX9_flag_138 : decode cX9_flag 138 = .ok (.goto 4, 3) := by decide +kernel
theorem dX9_flag_141 : decode cX9_flag 141 = .ok (.iconst 0, 1) := by decide +kernel
theorem dX9_flag_142 : decode cX9_flag 142 = .ok (.iadd, 1) := by decide +kernel
theorem dX9_flag_143 : decode cX9_flag 143 = .ok (.istore 4, 2) := by decide +kernel
theorem dX9_flag_145 : decode cX9_flag 145 = .ok (.iinc 5 1, 3) := by decide +kernel
theorem dX9_flag_148 : decode cX9_flag 148 = .ok (.goto (-51), 3) := by decide +kernel
theorem dX9_flag_151 : decode cX9_flag 151 = .ok (.iload 4, 2) := by decide +kernel
theorem dX9_flag_153 : decode cX9_flag 153 = .ok (.ireturn, 1) := by decide +kernel
theorem dX9_rooted_0 : decode cX9_rooted 0 = .ok (.iload_n 1, 1) := by decide +kernel
theorem dX9_rooted_1 : decode cX9_rooted 1 = .ok (.invokestatic 231, 3) := by decide +kernel
theorem dX9_rooted_4 : decode cX9_rooted 4 = .ok (.ifCond .eq 12, 3) := by decide +kernel
theorem dX9_rooted_7 : decode cX9_rooted 7 = .ok (.iload_n 2, 1) := by decide +kernel
theorem dX9_rooted_8 : decode cX9_rooted 8 = .ok (.iconst 0, 1) := by decide +kernel
theorem dX9_rooted_9 : decode cX9_rooted 9 = .ok (.iconst 4, 1) := by decide +kernel
theorem dX9_rooted_10 : decode cX9_rooted 10 = .ok (.invokestatic 129, 3) := by decide +kernel
theorem dX9_rooted_13 : decode cX9_rooted 13 = .ok (.ifCond .ne 5, 3) := by decide +kernel
theorem dX9_rooted_16 : decode cX9_rooted 16 = .ok (.iconst (-1), 1) := by decide +kernel
theorem dX9_rooted_17 : decode cX9_rooted 17 = .ok (.ireturn, 1) := by decide +kernel
theorem dX9_rooted_18 : decode cX9_rooted 18 = .ok (.iload_n 2, 1) := by decide +kernel
theorem dX9_rooted_19 : decode cX9_rooted 19 = .ok (.tableswitch 87 0 3 #[29, 39, 49, 81], 29) := by decide +kernel
theorem dX9_rooted_48 : decode cX9_rooted 48 = .ok (.aload_n 0, 1) := by decide +kernel
theorem dX9_rooted_49 : decode cX9_rooted 49 = .ok (.getfield 28, 3) := by decide +kernel
theorem dX9_rooted_52 : decode cX9_rooted 52 = .ok (.bipush 19, 2) := by decide +kernel
theorem dX9_rooted_54 : decode cX9_rooted 54 = .ok (.iload_n 1, 1) := by decide +kernel
theorem dX9_rooted_55 : decode cX9_rooted 55 = .ok (.iadd, 1) := by decide +kernel
theorem dX9_rooted_56 : decode cX9_rooted 56 = .ok (.iaload, 1) := by decide +kernel
theorem dX9_rooted_57 : decode cX9_rooted 57 = .ok (.ireturn, 1) := by decide +kernel
theorem dX9_rooted_58 : decode cX9_rooted 58 = .ok (.aload_n 0, 1) := by decide +kernel
theorem dX9_rooted_59 : decode cX9_rooted 59 = .ok (.getfield 31, 3) := by decide +kernel
theorem dX9_rooted_62 : decode cX9_rooted 62 = .ok (.bipush 19, 2) := by decide +kernel
theorem dX9_rooted_64 : decode cX9_rooted 64 = .ok (.iload_n 1, 1) := by decide +kernel
theorem dX9_rooted_65 : decode cX9_rooted 65 = .ok (.iadd, 1) := by decide +kernel
theorem dX9_rooted_66 : decode cX9_rooted 66 = .ok (.iaload, 1) := by decide +kernel
theorem dX9_rooted_67 : decode cX9_rooted 67 = .ok (.ireturn, 1) := by decide +kernel
theorem dX9_rooted_68 : decode cX9_rooted 68 = .ok (.aload_n 0, 1) := by decide +kernel
theorem dX9_rooted_69 : decode cX9_rooted 69 = .ok (.aload_n 0, 1) := by decide +kernel
theorem dX9_rooted_70 : decode cX9_rooted 70 = .ok (.getfield 28, 3) := by decide +kernel
theorem dX9_rooted_73 : decode cX9_rooted 73 = .ok (.bipush 19, 2) := by decide +kernel
theorem dX9_rooted_75 : decode cX9_rooted 75 = .ok (.iload_n 1, 1) := by decide +kernel
theorem dX9_rooted_76 : decode cX9_rooted 76 = .ok (.iadd, 1) := by decide +kernel
theorem dX9_rooted_77 : decode cX9_rooted 77 = .ok (.iaload, 1) := by decide +kernel
theorem dX9_rooted_78 : decode cX9_rooted 78 = .ok (.aload_n 0, 1) := by decide +kernel
theorem dX9_rooted_79 : decode cX9_rooted 79 = .ok (.getfield 31, 3) := by decide +kernel
theorem dX9_rooted_82 : decode cX9_rooted 82 = .ok (.bipush 19, 2) := by decide +kernel
theorem dX9_rooted_84 : decode cX9_rooted 84 = .ok (.iload_n 1, 1) := by decide +kernel
theorem dX9_rooted_85 : decode cX9_rooted 85 = .ok (.iadd, 1) := by decide +kernel
theorem dX9_rooted_86 : decode cX9_rooted 86 = .ok (.iaload, 1) := by decide +kernel
theorem dX9_rooted_87 : decode cX9_rooted 87 = .ok (.invokevirtual 203, 3) := by decide +kernel
theorem dX9_rooted_90 : decode cX9_rooted 90 = .ok (.aload_n 0, 1) := by decide +kernel
theorem dX9_rooted_91 : decode cX9_rooted 91 = .ok (.getfield 49, 3) := by decide +kernel
theorem dX9_rooted_94 : decode cX9_rooted 94 = .ok (.iconst 0, 1) := by decide +kernel
theorem dX9_rooted_95 : decode cX9_rooted 95 = .ok (.iaload, 1) := by decide +kernel
theorem dX9_rooted_96 : decode cX9_rooted 96 = .ok (.invokestatic 140, 3) := by decide +kernel
theorem dX9_rooted_99 : decode cX9_rooted 99 = .ok (.ireturn, 1) := by decide +kernel
theorem dX9_rooted_100 : decode cX9_rooted 100 = .ok (.aload_n 0, 1) := by decide +kernel
theorem dX9_rooted_101 : decode cX9_rooted 101 = .ok (.iload_n 1, 1) := by decide +kernel
theorem dX9_rooted_102 : decode cX9_rooted 102 = .ok (.invokevirtual 221, 3) := by decide +kernel
theorem dX9_rooted_105 : decode cX9_rooted 105 = .ok (.ireturn, 1) := by decide +kernel
theorem dX9_rooted_106 : decode cX9_rooted 106 = .ok (.aload_n 0, 1) := by decide +kernel
theorem dX9_rooted_107 : decode cX9_rooted 107 = .ok (.iload_n 1, 1) := by decide +kernel
theorem dX9_rooted_108 : decode cX9_rooted 108 = .ok (.invokevirtual 224, 3) := by decide +kernel
theorem dX9_rooted_111 : decode cX9_rooted 111 = .ok (.ireturn, 1) := by decide +kernel
theorem dX9_alike_0 : decode cX9_alike 0 = .ok (.iload_n 1, 1) := by decide +kernel
theorem dX9_alike_1 : decode cX9_alike 1 = .ok (.iconst 0, 1) := by decide +kernel
theorem dX9_alike_2 : decode cX9_alike 2 = .ok (.iconst 1, 1) := by decide +kernel
theorem dX9_alike_3 : decode cX9_alike 3 = .ok (.invokestatic 129, 3) := by decide +kernel
theorem dX9_alike_6 : decode cX9_alike 6 = .ok (.ifCond .eq 12, 3) := by decide +kernel
theorem dX9_alike_9 : decode cX9_alike 9 = .ok (.iload_n 2, 1) := by decide +kernel
theorem dX9_alike_10 : decode cX9_alike 10 = .ok (.iload_n 1, 1) := by decide +kernel
theorem dX9_alike_11 : decode cX9_alike 11 = .ok (.iconst 4, 1) := by decide +kernel
theorem dX9_alike_12 : decode cX9_alike 12 = .ok (.invokestatic 129, 3) := by decide +kernel
theorem dX9_alike_15 : decode cX9_alike 15 = .ok (.ifCond .ne 5, 3) := by decide +kernel
theorem dX9_alike_18 : decode cX9_alike 18 = .ok (.iconst (-1), 1) := by decide +kernel
theorem dX9_alike_19 : decode cX9_alike 19 = .ok (.ireturn, 1) := by decide +kernel
theorem dX9_alike_20 : decode cX9_alike 20 = .ok (.iload_n 3, 1) := by decide +kernel
theorem dX9_alike_21 : decode cX9_alike 21 = .ok (.iconst 0, 1) := by decide +kernel
theorem dX9_alike_22 : decode cX9_alike 22 = .ok (.iload_n 2, 1) := by decide +kernel
theorem dX9_alike_23 : decode cX9_alike 23 = .ok (.invokestatic 20, 3) := by decide +kernel
theorem dX9_alike_26 : decode cX9_alike 26 = .ok (.iconst 1, 1) := by decide +kernel
theorem dX9_alike_27 : decode cX9_alike 27 = .ok (.isub, 1) := by decide +kernel
theorem dX9_alike_28 : decode cX9_alike 28 = .ok (.invokestatic 129, 3) := by decide +kernel
theorem dX9_alike_31 : decode cX9_alike 31 = .ok (.ifCond .ne 6, 3) := by decide +kernel
theorem dX9_alike_34 : decode cX9_alike 34 = .ok (.bipush (-2), 2) := by decide +kernel
theorem dX9_alike_36 : decode cX9_alike 36 = .ok (.ireturn, 1) := by decide +kernel
theorem dX9_alike_37 : decode cX9_alike 37 = .ok (.iload_n 1, 1) := by decide +kernel
theorem dX9_alike_38 : decode cX9_alike 38 = .ok (.ifCond .ne 17, 3) := by decide +kernel
theorem dX9_alike_41 : decode cX9_alike 41 = .ok (.aload_n 0, 1) := by decide +kernel
theorem dX9_alike_42 : decode cX9_alike 42 = .ok (.getfield 34, 3) := by decide +kernel
theorem dX9_alike_45 : decode cX9_alike 45 = .ok (.bipush 64, 2) := by decide +kernel
theorem dX9_alike_47 : decode cX9_alike 47 = .ok (.iload_n 2, 1) := by decide +kernel
theorem dX9_alike_48 : decode cX9_alike 48 = .ok (.imul, 1) := by decide +kernel
theorem dX9_alike_49 : decode cX9_alike 49 = .ok (.iload_n 3, 1) := by decide +kernel
theorem dX9_alike_50 : decode cX9_alike 50 = .ok (.iadd, 1) := by decide +kernel
theorem dX9_alike_51 : decode cX9_alike 51 = .ok (.iaload, 1) := by decide +kernel
theorem dX9_alike_52 : decode cX9_alike 52 = .ok (.goto 14, 3) := by decide +kernel
theorem dX9_alike_55 : decode cX9_alike 55 = .ok (.aload_n 0, 1) := by decide +kernel
theorem dX9_alike_56 : decode cX9_alike 56 = .ok (.getfield 37, 3) := by decide +kernel
theorem dX9_alike_59 : decode cX9_alike 59 = .ok (.bipush 64, 2) := by decide +kernel
theorem dX9_alike_61 : decode cX9_alike 61 = .ok (.iload_n 2, 1) := by decide +kernel
theorem dX9_alike_62 : decode cX9_alike 62 = .ok (.imul, 1) := by decide +kernel
theorem dX9_alike_63 : decode cX9_alike 63 = .ok (.iload_n 3, 1) := by decide +kernel
theorem dX9_alike_64 : decode cX9_alike 64 = .ok (.iadd, 1) := by decide +kernel
theorem dX9_alike_65 : decode cX9_alike 65 = .ok (.iaload, 1) := by decide +kernel
theorem dX9_alike_66 : decode cX9_alike 66 = .ok (.ireturn, 1) := by decide +kernel
theorem dX9_inside_0 : decode cX9_inside 0 = .ok (.iload_n 1, 1) := by decide +kernel
theorem dX9_inside_1 : decode cX9_inside 1 = .ok (.invokestatic 227, 3) := by decide +kernel
theorem dX9_inside_4 : decode cX9_inside 4 = .ok (.ifCond .eq 34, 3) := by decide +kernel
theorem dX9_inside_7 : decode cX9_inside 7 = .ok (.iload_n 2, 1) := by decide +kernel
theorem dX9_inside_8 : decode cX9_inside 8 = .ok (.invokestatic 227, 3) := by decide +kernel
theorem dX9_inside_11 : decode cX9_inside 11 = .ok (.ifCond .eq 27, 3) := by decide +kernel
theorem dX9_inside_14 : decode cX9_inside 14 = .ok (.iload_n 3, 1) := by decide +kernel
theorem dX9_inside_15 : decode cX9_inside 15 = .ok (.iconst 0, 1) := by decide +kernel
theorem dX9_inside_16 : decode cX9_inside 16 = .ok (.iconst 1, 1) := by decide +kernel
theorem dX9_inside_17 : decode cX9_inside 17 = .ok (.invokestatic 129, 3) := by decide +kernel
theorem dX9_inside_20 : decode cX9_inside 20 = .ok (.ifCond .eq 18, 3) := by decide +kernel
theorem dX9_inside_23 : decode cX9_inside 23 = .ok (.aload_n 0, 1) := by decide +kernel
theorem dX9_inside_24 : decode cX9_inside 24 = .ok (.getfield 28, 3) := by decide +kernel
theorem dX9_inside_27 : decode cX9_inside 27 = .ok (.iload_n 2, 1) := by decide +kernel
theorem dX9_inside_28 : decode cX9_inside 28 = .ok (.iaload, 1) := by decide +kernel
theorem dX9_inside_29 : decode cX9_inside 29 = .ok (.aload_n 0, 1) := by decide +kernel
theorem dX9_inside_30 : decode cX9_inside 30 = .ok (.getfield 28, 3) := by decide +kernel
theorem dX9_inside_33 : decode cX9_inside 33 = .ok (.iload_n 1, 1) := by decide +kernel
theorem dX9_inside_34 : decode cX9_inside 34 = .ok (.iaload, 1) := by decide +kernel
theorem dX9_inside_35 : decode cX9_inside 35 = .ok (.if_icmp .ge 7, 3) := by decide +kernel
theorem dX9_inside_38 : decode cX9_inside 38 = .ok (.ldc2_w 166, 3) := by decide +kernel
theorem dX9_inside_41 : decode cX9_inside 41 = .ok (.lreturn, 1) := by decide +kernel
theorem dX9_inside_42 : decode cX9_inside 42 = .ok (.aload_n 0, 1) := by decide +kernel
theorem dX9_inside_43 : decode cX9_inside 43 = .ok (.aload_n 0, 1) := by decide +kernel
theorem dX9_inside_44 : decode cX9_inside 44 = .ok (.getfield 28, 3) := by decide +kernel
theorem dX9_inside_47 : decode cX9_inside 47 = .ok (.iload_n 2, 1) := by decide +kernel
theorem dX9_inside_48 : decode cX9_inside 48 = .ok (.iaload, 1) := by decide +kernel
theorem dX9_inside_49 : decode cX9_inside 49 = .ok (.aload_n 0, 1) := by decide +kernel
theorem dX9_inside_50 : decode cX9_inside 50 = .ok (.getfield 31, 3) := by decide +kernel
theorem dX9_inside_53 : decode cX9_inside 53 = .ok (.iload_n 2, 1) := by decide +kernel
theorem dX9_inside_54 : decode cX9_inside 54 = .ok (.iaload, 1) := by decide +kernel
theorem dX9_inside_55 : decode cX9_inside 55 = .ok (.invokevirtual 203, 3) := by decide +kernel
theorem dX9_inside_58 : decode cX9_inside 58 = .ok (.aload_n 0, 1) := by decide +kernel
theorem dX9_inside_59 : decode cX9_inside 59 = .ok (.iload_n 1, 1) := by decide +kernel
theorem dX9_inside_60 : decode cX9_inside 60 = .ok (.aload_n 0, 1) := by decide +kernel
theorem dX9_inside_61 : decode cX9_inside 61 = .ok (.getfield 28, 3) := by decide +kernel
theorem dX9_inside_64 : decode cX9_inside 64 = .ok (.iload_n 1, 1) := by decide +kernel
theorem dX9_inside_65 : decode cX9_inside 65 = .ok (.iaload, 1) := by decide +kernel
theorem dX9_inside_66 : decode cX9_inside 66 = .ok (.iconst (-1), 1) := by decide +kernel
theorem dX9_inside_67 : decode cX9_inside 67 = .ok (.invokevirtual 217, 3) := by decide +kernel
theorem dX9_inside_70 : decode cX9_inside 70 = .ok (.aload_n 0, 1) := by decide +kernel
theorem dX9_inside_71 : decode cX9_inside 71 = .ok (.iload_n 3, 1) := by decide +kernel
theorem dX9_inside_72 : decode cX9_inside 72 = .ok (.invokevirtual 234, 3) := by decide +kernel
theorem dX9_inside_75 : decode cX9_inside 75 = .ok (.lreturn, 1) := by decide +kernel
theorem dX9_joint_0 : decode cX9_joint 0 = .ok (.iload_n 1, 1) := by decide +kernel
theorem dX9_joint_1 : decode cX9_joint 1 = .ok (.invokestatic 227, 3) := by decide +kernel
theorem dX9_joint_4 : decode cX9_joint 4 = .ok (.ifCond .eq 49, 3) := by decide +kernel
theorem dX9_joint_7 : decode cX9_joint 7 = .ok (.iload_n 2, 1) := by decide +kernel
theorem dX9_joint_8 : decode cX9_joint 8 = .ok (.invokestatic 227, 3) := by decide +kernel
theorem dX9_joint_11 : decode cX9_joint 11 = .ok (.ifCond .eq 42, 3) := by decide +kernel
theorem dX9_joint_14 : decode cX9_joint 14 = .ok (.iload_n 3, 1) := by decide +kernel
theorem dX9_joint_15 : decode cX9_joint 15 = .ok (.invokestatic 227, 3) := by decide +kernel
theorem dX9_joint_18 : decode cX9_joint 18 = .ok (.ifCond .eq 35, 3) := by decide +kernel
theorem dX9_joint_21 : decode cX9_joint 21 = .ok (.iload 4, 2) := by decide +kernel
theorem dX9_joint_23 : decode cX9_joint 23 = .ok (.iconst 0, 1) := by decide +kernel
theorem dX9_joint_24 : decode cX9_joint 24 = .ok (.iconst 1, 1) := by decide +kernel
theorem dX9_joint_25 : decode cX9_joint 25 = .ok (.invokestatic 129, 3) := by decide +kernel
theorem dX9_joint_28 : decode cX9_joint 28 = .ok (.ifCond .eq 25, 3) := by decide +kernel
theorem dX9_joint_31 : decode cX9_joint 31 = .ok (.aload_n 0, 1) := by decide +kernel
theorem dX9_joint_32 : decode cX9_joint 32 = .ok (.getfield 28, 3) := by decide +kernel
theorem dX9_joint_35 : decode cX9_joint 35 = .ok (.iload_n 3, 1) := by decide +kernel
theorem dX9_joint_36 : decode cX9_joint 36 = .ok (.iaload, 1) := by decide +kernel
theorem dX9_joint_37 : decode cX9_joint 37 = .ok (.aload_n 0, 1) := by decide +kernel
theorem dX9_joint_38 : decode cX9_joint 38 = .ok (.getfield 28, 3) := by decide +kernel
theorem dX9_joint_41 : decode cX9_joint 41 = .ok (.iload_n 1, 1) := by decide +kernel
theorem dX9_joint_42 : decode cX9_joint 42 = .ok (.iaload, 1) := by decide +kernel
theorem dX9_joint_43 : decode cX9_joint 43 = .ok (.aload_n 0, 1) := by decide +kernel
theorem dX9_joint_44 : decode cX9_joint 44 = .ok (.getfield 28, 3) := by decide +kernel
theorem dX9_joint_47 : decode cX9_joint 47 = .ok (.iload_n 2, 1) := by decide +kernel
theorem dX9_joint_48 : decode cX9_joint 48 = .ok (.iaload, 1) := by decide +kernel
theorem dX9_joint_49 : decode cX9_joint 49 = .ok (.iadd, 1) := by decide +kernel
theorem dX9_joint_50 : decode cX9_joint 50 = .ok (.if_icmp .ge 7, 3) := by decide +kernel
theorem dX9_joint_53 : decode cX9_joint 53 = .ok (.ldc2_w 166, 3) := by decide +kernel
theorem dX9_joint_56 : decode cX9_joint 56 = .ok (.lreturn, 1) := by decide +kernel
theorem dX9_joint_57 : decode cX9_joint 57 = .ok (.aload_n 0, 1) := by decide +kernel
theorem dX9_joint_58 : decode cX9_joint 58 = .ok (.aload_n 0, 1) := by decide +kernel
theorem dX9_joint_59 : decode cX9_joint 59 = .ok (.getfield 28, 3) := by decide +kernel
theorem dX9_joint_62 : decode cX9_joint 62 = .ok (.iload_n 3, 1) := by decide +kernel
theorem dX9_joint_63 : decode cX9_joint 63 = .ok (.iaload, 1) := by decide +kernel
theorem dX9_joint_64 : decode cX9_joint 64 = .ok (.aload_n 0, 1) := by decide +kernel
theorem dX9_joint_65 : decode cX9_joint 65 = .ok (.getfield 31, 3) := by decide +kernel
theorem dX9_joint_68 : decode cX9_joint 68 = .ok (.iload_n 3, 1) := by decide +kernel
theorem dX9_joint_69 : decode cX9_joint 69 = .ok (.iaload, 1) := by decide +kernel
theorem dX9_joint_70 : decode cX9_joint 70 = .ok (.invokevirtual 203, 3) := by decide +kernel
theorem dX9_joint_73 : decode cX9_joint 73 = .ok (.aload_n 0, 1) := by decide +kernel
theorem dX9_joint_74 : decode cX9_joint 74 = .ok (.iload_n 1, 1) := by decide +kernel
theorem dX9_joint_75 : decode cX9_joint 75 = .ok (.aload_n 0, 1) := by decide +kernel
theorem dX9_joint_76 : decode cX9_joint 76 = .ok (.getfield 28, 3) := by decide +kernel
theorem dX9_joint_79 : decode cX9_joint 79 = .ok (.iload_n 1, 1) := by decide +kernel
theorem dX9_joint_80 : decode cX9_joint 80 = .ok (.iaload, 1) := by decide +kernel
theorem dX9_joint_81 : decode cX9_joint 81 = .ok (.iload_n 2, 1) := by decide +kernel
theorem dX9_joint_82 : decode cX9_joint 82 = .ok (.aload_n 0, 1) := by decide +kernel
theorem dX9_joint_83 : decode cX9_joint 83 = .ok (.getfield 28, 3) := by decide +kernel
theorem dX9_joint_86 : decode cX9_joint 86 = .ok (.iload_n 2, 1) := by decide +kernel
theorem dX9_joint_87 : decode cX9_joint 87 = .ok (.iaload, 1) := by decide +kernel
theorem dX9_joint_88 : decode cX9_joint 88 = .ok (.iconst (-1), 1) := by decide +kernel
theorem dX9_joint_89 : decode cX9_joint 89 = .ok (.invokevirtual 206, 3) := by decide +kernel
theorem dX9_joint_92 : decode cX9_joint 92 = .ok (.aload_n 0, 1) := by decide +kernel
theorem dX9_joint_93 : decode cX9_joint 93 = .ok (.iload 4, 2) := by decide +kernel
theorem dX9_joint_95 : decode cX9_joint 95 = .ok (.invokevirtual 234, 3) := by decide +kernel
theorem dX9_joint_98 : decode cX9_joint 98 = .ok (.lreturn, 1) := by decide +kernel
theorem dX9_jointRooted_0 : decode cX9_jointRooted 0 = .ok (.iload_n 1, 1) := by decide +kernel
theorem dX9_jointRooted_1 : decode cX9_jointRooted 1 = .ok (.invokestatic 231, 3) := by decide +kernel
theorem dX9_jointRooted_4 : decode cX9_jointRooted 4 = .ok (.ifCond .eq 60, 3) := by decide +kernel
theorem dX9_jointRooted_7 : decode cX9_jointRooted 7 = .ok (.iload_n 2, 1) := by decide +kernel
theorem dX9_jointRooted_8 : decode cX9_jointRooted 8 = .ok (.invokestatic 231, 3) := by decide +kernel
theorem dX9_jointRooted_11 : decode cX9_jointRooted 11 = .ok (.ifCond .eq 53, 3) := by decide +kernel
theorem dX9_jointRooted_14 : decode cX9_jointRooted 14 = .ok (.iload_n 3, 1) := by decide +kernel
theorem dX9_jointRooted_15 : decode cX9_jointRooted 15 = .ok (.invokestatic 231, 3) := by decide +kernel
theorem dX9_jointRooted_18 : decode cX9_jointRooted 18 = .ok (.ifCond .eq 46, 3) := by decide +kernel
theorem dX9_jointRooted_21 : decode cX9_jointRooted 21 = .ok (.iload 4, 2) := by decide +kernel
theorem dX9_jointRooted_23 : decode cX9_jointRooted 23 = .ok (.iconst 0, 1) := by decide +kernel
theorem dX9_jointRooted_24 : decode cX9_jointRooted 24 = .ok (.iconst 1, 1) := by decide +kernel
theorem dX9_jointRooted_25 : decode cX9_jointRooted 25 = .ok (.invokestatic 129, 3) := by decide +kernel
theorem dX9_jointRooted_28 : decode cX9_jointRooted 28 = .ok (.ifCond .eq 36, 3) := by decide +kernel
theorem dX9_jointRooted_31 : decode cX9_jointRooted 31 = .ok (.aload_n 0, 1) := by decide +kernel
theorem dX9_jointRooted_32 : decode cX9_jointRooted 32 = .ok (.getfield 28, 3) := by decide +kernel
theorem dX9_jointRooted_35 : decode cX9_jointRooted 35 = .ok (.bipush 19, 2) := by decide +kernel
theorem dX9_jointRooted_37 : decode cX9_jointRooted 37 = .ok (.iload_n 3, 1) := by decide +kernel
theorem dX9_jointRooted_38 : decode cX9_jointRooted 38 = .ok (.iadd, 1) := by decide +kernel
theorem dX9_jointRooted_39 : decode cX9_jointRooted 39 = .ok (.iaload, 1) := by decide +kernel
theorem dX9_jointRooted_40 : decode cX9_jointRooted 40 = .ok (.aload_n 0, 1) := by decide +kernel
theorem dX9_jointRooted_41 : decode cX9_jointRooted 41 = .ok (.getfield 28, 3) := by decide +kernel
theorem dX9_jointRooted_44 : decode cX9_jointRooted 44 = .ok (.bipush 19, 2) := by decide +kernel
theorem dX9_jointRooted_46 : decode cX9_jointRooted 46 = .ok (.iload_n 1, 1) := by decide +kernel
theorem dX9_jointRooted_47 : decode cX9_jointRooted 47 = .ok (.iadd, 1) := by decide +kernel
theorem dX9_jointRooted_48 : decode cX9_jointRooted 48 = .ok (.iaload, 1) := by decide +kernel
theorem dX9_jointRooted_49 : decode cX9_jointRooted 49 = .ok (.aload_n 0, 1) := by decide +kernel
theorem dX9_jointRooted_50 : decode cX9_jointRooted 50 = .ok (.getfield 28, 3) := by decide +kernel
theorem dX9_jointRooted_53 : decode cX9_jointRooted 53 = .ok (.bipush 19, 2) := by decide +kernel
theorem dX9_jointRooted_55 : decode cX9_jointRooted 55 = .ok (.iload_n 2, 1) := by decide +kernel
theorem dX9_jointRooted_56 : decode cX9_jointRooted 56 = .ok (.iadd, 1) := by decide +kernel
theorem dX9_jointRooted_57 : decode cX9_jointRooted 57 = .ok (.iaload, 1) := by decide +kernel
theorem dX9_jointRooted_58 : decode cX9_jointRooted 58 = .ok (.iadd, 1) := by decide +kernel
theorem dX9_jointRooted_59 : decode cX9_jointRooted 59 = .ok (.iconst 1, 1) := by decide +kernel
theorem dX9_jointRooted_60 : decode cX9_jointRooted 60 = .ok (.isub, 1) := by decide +kernel
theorem dX9_jointRooted_61 : decode cX9_jointRooted 61 = .ok (.if_icmp .ge 7, 3) := by decide +kernel
theorem dX9_jointRooted_64 : decode cX9_jointRooted 64 = .ok (.ldc2_w 166, 3) := by decide +kernel
theorem dX9_jointRooted_67 : decode cX9_jointRooted 67 = .ok (.lreturn, 1) := by decide +kernel
theorem dX9_jointRooted_68 : decode cX9_jointRooted 68 = .ok (.aload_n 0, 1) := by decide +kernel
theorem dX9_jointRooted_69 : decode cX9_jointRooted 69 = .ok (.aload_n 0, 1) := by decide +kernel
theorem dX9_jointRooted_70 : decode cX9_jointRooted 70 = .ok (.getfield 28, 3) := by decide +kernel
theorem dX9_jointRooted_73 : decode cX9_jointRooted 73 = .ok (.bipush 19, 2) := by decide +kernel
theorem dX9_jointRooted_75 : decode cX9_jointRooted 75 = .ok (.iload_n 3, 1) := by decide +kernel
theorem dX9_jointRooted_76 : decode cX9_jointRooted 76 = .ok (.iadd, 1) := by decide +kernel
theorem dX9_jointRooted_77 : decode cX9_jointRooted 77 = .ok (.iaload, 1) := by decide +kernel
theorem dX9_jointRooted_78 : decode cX9_jointRooted 78 = .ok (.aload_n 0, 1) := by decide +kernel
theorem dX9_jointRooted_79 : decode cX9_jointRooted 79 = .ok (.getfield 31, 3) := by decide +kernel
theorem dX9_jointRooted_82 : decode cX9_jointRooted 82 = .ok (.bipush 19, 2) := by decide +kernel
theorem dX9_jointRooted_84 : decode cX9_jointRooted 84 = .ok (.iload_n 3, 1) := by decide +kernel
theorem dX9_jointRooted_85 : decode cX9_jointRooted 85 = .ok (.iadd, 1) := by decide +kernel
theorem dX9_jointRooted_86 : decode cX9_jointRooted 86 = .ok (.iaload, 1) := by decide +kernel
theorem dX9_jointRooted_87 : decode cX9_jointRooted 87 = .ok (.invokevirtual 203, 3) := by decide +kernel
theorem dX9_jointRooted_90 : decode cX9_jointRooted 90 = .ok (.aload_n 0, 1) := by decide +kernel
theorem dX9_jointRooted_91 : decode cX9_jointRooted 91 = .ok (.iload_n 1, 1) := by decide +kernel
theorem dX9_jointRooted_92 : decode cX9_jointRooted 92 = .ok (.aload_n 0, 1) := by decide +kernel
theorem dX9_jointRooted_93 : decode cX9_jointRooted 93 = .ok (.getfield 28, 3) := by decide +kernel
theorem dX9_jointRooted_96 : decode cX9_jointRooted 96 = .ok (.bipush 19, 2) := by decide +kernel
theorem dX9_jointRooted_98 : decode cX9_jointRooted 98 = .ok (.iload_n 1, 1) := by decide +kernel
theorem dX9_jointRooted_99 : decode cX9_jointRooted 99 = .ok (.iadd, 1) := by decide +kernel
theorem dX9_jointRooted_100 : decode cX9_jointRooted 100 = .ok (.iaload, 1) := by decide +kernel
theorem dX9_jointRooted_101 : decode cX9_jointRooted 101 = .ok (.iload_n 2, 1) := by decide +kernel
theorem dX9_jointRooted_102 : decode cX9_jointRooted 102 = .ok (.aload_n 0, 1) := by decide +kernel
theorem dX9_jointRooted_103 : decode cX9_jointRooted 103 = .ok (.getfield 28, 3) := by decide +kernel
theorem dX9_jointRooted_106 : decode cX9_jointRooted 106 = .ok (.bipush 19, 2) := by decide +kernel
theorem dX9_jointRooted_108 : decode cX9_jointRooted 108 = .ok (.iload_n 2, 1) := by decide +kernel
theorem dX9_jointRooted_109 : decode cX9_jointRooted 109 = .ok (.iadd, 1) := by decide +kernel
theorem dX9_jointRooted_110 : decode cX9_jointRooted 110 = .ok (.iaload, 1) := by decide +kernel
theorem dX9_jointRooted_111 : decode cX9_jointRooted 111 = .ok (.iconst 0, 1) := by decide +kernel
theorem dX9_jointRooted_112 : decode cX9_jointRooted 112 = .ok (.invokevirtual 206, 3) := by decide +kernel
theorem dX9_jointRooted_115 : decode cX9_jointRooted 115 = .ok (.aload_n 0, 1) := by decide +kernel
theorem dX9_jointRooted_116 : decode cX9_jointRooted 116 = .ok (.iload 4, 2) := by decide +kernel
theorem dX9_jointRooted_118 : decode cX9_jointRooted 118 = .ok (.invokevirtual 234, 3) := by decide +kernel
theorem dX9_jointRooted_121 : decode cX9_jointRooted 121 = .ok (.lreturn, 1) := by decide +kernel
theorem dX9_points_0 : decode cX9_points 0 = .ok (.iload_n 1, 1) := by decide +kernel
theorem dX9_points_1 : decode cX9_points 1 = .ok (.iconst 0, 1) := by decide +kernel
theorem dX9_points_2 : decode cX9_points 2 = .ok (.bipush 8, 2) := by decide +kernel
theorem dX9_points_4 : decode cX9_points 4 = .ok (.invokestatic 129, 3) := by decide +kernel
theorem dX9_points_7 : decode cX9_points 7 = .ok (.ifCond .ne 6, 3) := by decide +kernel
theorem dX9_points_10 : decode cX9_points 10 = .ok (.bipush (-2), 2) := by decide +kernel
theorem dX9_points_12 : decode cX9_points 12 = .ok (.ireturn, 1) := by decide +kernel
theorem dX9_points_13 : decode cX9_points 13 = .ok (.aload_n 0, 1) := by decide +kernel
theorem dX9_points_14 : decode cX9_points 14 = .ok (.getfield 137, 3) := by decide +kernel
theorem dX9_points_17 : decode cX9_points 17 = .ok (.istore_n 2, 1) := by decide +kernel
theorem dX9_points_18 : decode cX9_points 18 = .ok (.aload_n 0, 1) := by decide +kernel
theorem dX9_points_19 : decode cX9_points 19 = .ok (.iload_n 1, 1) := by decide +kernel
theorem dX9_points_20 : decode cX9_points 20 = .ok (.putfield 137, 3) := by decide +kernel
theorem dX9_points_23 : decode cX9_points 23 = .ok (.iconst 0, 1) := by decide +kernel
theorem dX9_points_24 : decode cX9_points 24 = .ok (.istore_n 3, 1) := by decide +kernel
theorem dX9_points_25 : decode cX9_points 25 = .ok (.iload_n 3, 1) := by decide +kernel
theorem dX9_points_26 : decode cX9_points 26 = .ok (.iload_n 1, 1) := by decide +kernel
theorem dX9_points_27 : decode cX9_points 27 = .ok (.if_icmp .ge 16, 3) := by decide +kernel
theorem dX9_points_30 : decode cX9_points 30 = .ok (.aload_n 0, 1) := by decide +kernel
theorem dX9_points_31 : decode cX9_points 31 = .ok (.getfield 46, 3) := by decide +kernel
theorem dX9_points_34 : decode cX9_points 34 = .ok (.iload_n 3, 1) := by decide +kernel
theorem dX9_points_35 : decode cX9_points 35 = .ok (.iconst 0, 1) := by decide +kernel
theorem dX9_points_36 : decode cX9_points 36 = .ok (.iastore, 1) := by decide +kernel
theorem dX9_points_37 : decode cX9_points 37 = .ok (.iinc 3 1, 3) := by decide +kernel
theorem dX9_points_40 : decode cX9_points 40 = .ok (.goto (-15), 3) := by decide +kernel
theorem dX9_points_43 : decode cX9_points 43 = .ok (.iload_n 2, 1) := by decide +kernel
theorem dX9_points_44 : decode cX9_points 44 = .ok (.ireturn, 1) := by decide +kernel
theorem dX9_isPoint_0 : decode cX9_isPoint 0 = .ok (.iload_n 1, 1) := by decide +kernel
theorem dX9_isPoint_1 : decode cX9_isPoint 1 = .ok (.iconst 0, 1) := by decide +kernel
theorem dX9_isPoint_2 : decode cX9_isPoint 2 = .ok (.aload_n 0, 1) := by decide +kernel
theorem dX9_isPoint_3 : decode cX9_isPoint 3 = .ok (.getfield 137, 3) := by decide +kernel
theorem dX9_isPoint_6 : decode cX9_isPoint 6 = .ok (.iconst 1, 1) := by decide +kernel
theorem dX9_isPoint_7 : decode cX9_isPoint 7 = .ok (.isub, 1) := by decide +kernel
theorem dX9_isPoint_8 : decode cX9_isPoint 8 = .ok (.invokestatic 129, 3) := by decide +kernel
theorem dX9_isPoint_11 : decode cX9_isPoint 11 = .ok (.ireturn, 1) := by decide +kernel
theorem dX9_line_0 : decode cX9_line 0 = .ok (.aload_n 0, 1) := by decide +kernel
theorem dX9_line_1 : decode cX9_line 1 = .ok (.iload_n 1, 1) := by decide +kernel
theorem dX9_line_2 : decode cX9_line 2 = .ok (.invokevirtual 238, 3) := by decide +kernel
theorem dX9_line_5 : decode cX9_line 5 = .ok (.ifCond .eq 11, 3) := by decide +kernel
theorem dX9_line_8 : decode cX9_line 8 = .ok (.aload_n 0, 1) := by decide +kernel
theorem dX9_line_9 : decode cX9_line 9 = .ok (.iload_n 2, 1) := by decide +kernel
theorem dX9_line_10 : decode cX9_line 10 = .ok (.invokevirtual 238, 3) := by decide +kernel
theorem dX9_line_13 : decode cX9_line 13 = .ok (.ifCond .ne 5, 3) := by decide +kernel
theorem dX9_line_16 : decode cX9_line 16 = .ok (.iconst (-1), 1) := by decide +kernel
theorem dX9_line_17 : decode cX9_line 17 = .ok (.ireturn, 1) := by decide +kernel
theorem dX9_line_18 : decode cX9_line 18 = .ok (.iload_n 3, 1) := by decide +kernel
theorem dX9_line_19 : decode cX9_line 19 = .ok (.iconst 0, 1) := by decide +kernel
theorem dX9_line_20 : decode cX9_line 20 = .ok (.iconst 1, 1) := by decide +kernel
theorem dX9_line_21 : decode cX9_line 21 = .ok (.invokestatic 129, 3) := by decide +kernel
theorem dX9_line_24 : decode cX9_line 24 = .ok (.ifCond .eq 8, 3) := by decide +kernel
theorem dX9_line_27 : decode cX9_line 27 = .ok (.iload_n 1, 1) := by decide +kernel
theorem dX9_line_28 : decode cX9_line 28 = .ok (.iload_n 2, 1) := by decide +kernel
theorem dX9_line_29 : decode cX9_line 29 = .ok (.if_icmp .ne 6, 3) := by decide +kernel
theorem dX9_line_32 : decode cX9_line 32 = .ok (.bipush (-2), 2) := by decide +kernel
theorem dX9_line_34 : decode cX9_line 34 = .ok (.ireturn, 1) := by decide +kernel
theorem dX9_line_35 : decode cX9_line 35 = .ok (.aload_n 0, 1) := by decide +kernel
theorem dX9_line_36 : decode cX9_line 36 = .ok (.getfield 46, 3) := by decide +kernel
theorem dX9_line_39 : decode cX9_line 39 = .ok (.iload_n 1, 1) := by decide +kernel
theorem dX9_line_40 : decode cX9_line 40 = .ok (.iaload, 1) := by decide +kernel
theorem dX9_line_41 : decode cX9_line 41 = .ok (.iload_n 2, 1) := by decide +kernel
theorem dX9_line_42 : decode cX9_line 42 = .ok (.ishr, 1) := by decide +kernel
theorem dX9_line_43 : decode cX9_line 43 = .ok (.iconst 1, 1) := by decide +kernel
theorem dX9_line_44 : decode cX9_line 44 = .ok (.iand, 1) := by decide +kernel
theorem dX9_line_45 : decode cX9_line 45 = .ok (.istore 4, 2) := by decide +kernel
theorem dX9_line_47 : decode cX9_line 47 = .ok (.iload 4, 2) := by decide +kernel
theorem dX9_line_49 : decode cX9_line 49 = .ok (.iload_n 3, 1) := by decide +kernel
theorem dX9_line_50 : decode cX9_line 50 = .ok (.if_icmp .eq 27, 3) := by decide +kernel
theorem dX9_line_53 : decode cX9_line 53 = .ok (.aload_n 0, 1) := by decide +kernel
theorem dX9_line_54 : decode cX9_line 54 = .ok (.getfield 46, 3) := by decide +kernel
theorem dX9_line_57 : decode cX9_line 57 = .ok (.iload_n 1, 1) := by decide +kernel
theorem dX9_line_58 : decode cX9_line 58 = .ok (.dup2, 1) := by decide +kernel
theorem dX9_line_59 : decode cX9_line 59 = .ok (.iaload, 1) := by decide +kernel
theorem dX9_line_60 : decode cX9_line 60 = .ok (.iconst 1, 1) := by decide +kernel
theorem dX9_line_61 : decode cX9_line 61 = .ok (.iload_n 2, 1) := by decide +kernel
theorem dX9_line_62 : decode cX9_line 62 = .ok (.ishl, 1) := by decide +kernel
theorem dX9_line_63 : decode cX9_line 63 = .ok (.ixor, 1) := by decide +kernel
theorem dX9_line_64 : decode cX9_line 64 = .ok (.iastore, 1) := by decide +kernel
theorem dX9_line_65 : decode cX9_line 65 = .ok (.aload_n 0, 1) := by decide +kernel
theorem dX9_line_66 : decode cX9_line 66 = .ok (.getfield 46, 3) := by decide +kernel
theorem dX9_line_69 : decode cX9_line 69 = .ok (.iload_n 2, 1) := by decide +kernel
theorem dX9_line_70 : decode cX9_line 70 = .ok (.dup2, 1) := by decide +kernel
theorem dX9_line_71 : decode cX9_line 71 = .ok (.iaload, 1) := by decide +kernel
theorem dX9_line_72 : decode cX9_line 72 = .ok (.iconst 1, 1) := by decide +kernel
theorem dX9_line_73 : decode cX9_line 73 = .ok (.iload_n 1, 1) := by decide +kernel
theorem dX9_line_74 : decode cX9_line 74 = .ok (.ishl, 1) := by decide +kernel
theorem dX9_line_75 : decode cX9_line 75 = .ok (.ixor, 1) := by decide +kernel
theorem dX9_line_76 : decode cX9_line 76 = .ok (.iastore, 1) := by decide +kernel
theorem dX9_line_77 : decode cX9_line 77 = .ok (.iload 4, 2) := by decide +kernel
theorem dX9_line_79 : decode cX9_line 79 = .ok (.ireturn, 1) := by decide +kernel
theorem dX9_told_0 : decode cX9_told 0 = .ok (.iload_n 1, 1) := by decide +kernel
theorem dX9_told_1 : decode cX9_told 1 = .ok (.iconst 0, 1) := by decide +kernel
theorem dX9_told_2 : decode cX9_told 2 = .ok (.iconst 3, 1) := by decide +kernel
theorem dX9_told_3 : decode cX9_told 3 = .ok (.invokestatic 129, 3) := by decide +kernel
theorem dX9_told_6 : decode cX9_told 6 = .ok (.ifCond .ne 5, 3) := by decide +kernel
theorem dX9_told_9 : decode cX9_told 9 = .ok (.iconst (-1), 1) := by decide +kernel
theorem dX9_told_10 : decode cX9_told 10 = .ok (.ireturn, 1) := by decide +kernel
theorem dX9_told_11 : decode cX9_told 11 = .ok (.iconst 0, 1) := by decide +kernel
theorem dX9_told_12 : decode cX9_told 12 = .ok (.istore_n 2, 1) := by decide +kernel
theorem dX9_told_13 : decode cX9_told 13 = .ok (.iconst 0, 1) := by decide +kernel
theorem dX9_told_14 : decode cX9_told 14 = .ok (.istore_n 3, 1) := by decide +kernel
theorem dX9_told_15 : decode cX9_told 15 = .ok (.iconst 0, 1) := by decide +kernel
theorem dX9_told_16 : decode cX9_told 16 = .ok (.istore 4, 2) := by decide +kernel
theorem dX9_told_18 : decode cX9_told 18 = .ok (.iconst 0, 1) := by decide +kernel
theorem dX9_told_19 : decode cX9_told 19 = .ok (.istore 5, 2) := by decide +kernel
theorem dX9_told_21 : decode cX9_told 21 = .ok (.iload 5, 2) := by decide +kernel
theorem dX9_told_23 : decode cX9_told 23 = .ok (.aload_n 0, 1) := by decide +kernel
theorem dX9_told_24 : decode cX9_told 24 = .ok (.getfield 137, 3) := by decide +kernel
theorem dX9_told_27 : decode cX9_told 27 = .ok (.if_icmp .ge 128, 3) := by decide +kernel
theorem dX9_told_30 : decode cX9_told 30 = .ok (.aload_n 0, 1) := by decide +kernel
theorem dX9_told_31 : decode cX9_told 31 = .ok (.getfield 46, 3) := by decide +kernel
theorem dX9_told_34 : decode cX9_told 34 = .ok (.iload 5, 2) := by decide +kernel
theorem dX9_told_36 : decode cX9_told 36 = .ok (.iaload, 1) := by decide +kernel
theorem dX9_told_37 : decode cX9_told 37 = .ok (.invokestatic 140, 3) := by decide +kernel
theorem dX9_told_40 : decode cX9_told 40 = .ok (.istore 6, 2) := by decide +kernel
theorem dX9_told_42 : decode cX9_told 42 = .ok (.iload_n 2, 1) := by decide +kernel
theorem dX9_told_43 : decode cX9_told 43 = .ok (.iload 6, 2) := by decide +kernel
theorem dX9_told_45 : decode cX9_told 45 = .ok (.iadd, 1) := by decide +kernel
theorem dX9_told_46 : decode cX9_told 46 = .ok (.istore_n 2, 1) := by decide +kernel
theorem dX9_told_47 : decode cX9_told 47 = .ok (.iload 6, 2) := by decide +kernel
theorem dX9_told_49 : decode cX9_told 49 = .ok (.iload_n 3, 1) := by decide +kernel
theorem dX9_told_50 : decode cX9_told 50 = .ok (.if_icmp .le 8, 3) := by decide +kernel
theorem dX9_told_53 : decode cX9_told 53 = .ok (.iload 6, 2) := by decide +kernel
theorem dX9_told_55 : decode cX9_told 55 = .ok (.goto 4, 3) := by decide +kernel
theorem dX9_told_58 : decode cX9_told 58 = .ok (.iload_n 3, 1) := by decide +kernel
theorem dX9_told_59 : decode cX9_told 59 = .ok (.istore_n 3, 1) := by decide +kernel
theorem dX9_told_60 : decode cX9_told 60 = .ok (.iconst 0, 1) := by decide +kernel
theorem dX9_told_61 : decode cX9_told 61 = .ok (.istore 7, 2) := by decide +kernel
theorem dX9_told_63 : decode cX9_told 63 = .ok (.iload 7, 2) := by decide +kernel
theorem dX9_told_65 : decode cX9_told 65 = .ok (.iload 5, 2) := by decide +kernel
theorem dX9_told_67 : decode cX9_told 67 = .ok (.if_icmp .ge 82, 3) := by decide +kernel
theorem dX9_told_70 : decode cX9_told 70 = .ok (.iconst 0, 1) := by decide +kernel
theorem dX9_told_71 : decode cX9_told 71 = .ok (.istore 8, 2) := by decide +kernel
theorem dX9_told_73 : decode cX9_told 73 = .ok (.iload 8, 2) := by decide +kernel
theorem dX9_told_75 : decode cX9_told 75 = .ok (.iload 7, 2) := by decide +kernel
theorem dX9_told_77 : decode cX9_told 77 = .ok (.if_icmp .ge 66, 3) := by decide +kernel
theorem dX9_told_80 : decode cX9_told 80 = .ok (.aload_n 0, 1) := by decide +kernel
theorem dX9_told_81 : decode cX9_told 81 = .ok (.getfield 46, 3) := by decide +kernel
theorem dX9_told_84 : decode cX9_told 84 = .ok (.iload 5, 2) := by decide +kernel
theorem dX9_told_86 : decode cX9_told 86 = .ok (.iaload, 1) := by decide +kernel
theorem dX9_told_87 : decode cX9_told 87 = .ok (.iload 7, 2) := by decide +kernel
theorem dX9_told_89 : decode cX9_told 89 = .ok (.ishr, 1) := by decide +kernel
theorem dX9_told_90 : decode cX9_told 90 = .ok (.iconst 1, 1) := by decide +kernel
theorem dX9_told_91 : decode cX9_told 91 = .ok (.iand, 1) := by decide +kernel
theorem dX9_told_92 : decode cX9_told 92 = .ok (.aload_n 0, 1) := by decide +kernel
theorem dX9_told_93 : decode cX9_told 93 = .ok (.getfield 46, 3) := by decide +kernel
theorem dX9_told_96 : decode cX9_told 96 = .ok (.iload 5, 2) := by decide +kernel
theorem dX9_told_98 : decode cX9_told 98 = .ok (.iaload, 1) := by decide +kernel
theorem dX9_told_99 : decode cX9_told 99 = .ok (.iload 8, 2) := by decide +kernel
theorem dX9_told_101 : decode cX9_told 101 = .ok (.ishr, 1) := by decide +kernel
theorem dX9_told_102 : decode cX9_told 102 = .ok (.iconst 1, 1) := by decide +kernel
theorem dX9_told_103 : decode cX9_told 103 = .ok (.iand, 1) := by decide +kernel
theorem dX9_told_104 : decode cX9_told 104 = .ok (.iadd, 1) := by decide +kernel
theorem dX9_told_105 : decode cX9_told 105 = .ok (.aload_n 0, 1) := by decide +kernel
theorem dX9_told_106 : decode cX9_told 106 = .ok (.getfield 46, 3) := by decide +kernel
theorem dX9_told_109 : decode cX9_told 109 = .ok (.iload 7, 2) := by decide +kernel
theorem dX9_told_111 : decode cX9_told 111 = .ok (.iaload, 1) := by decide +kernel
theorem dX9_told_112 : decode cX9_told 112 = .ok (.iload 8, 2) := by decide +kernel
theorem dX9_told_114 : decode cX9_told 114 = .ok (.ishr, 1) := by decide +kernel
theorem dX9_told_115 : decode cX9_told 115 = .ok (.iconst 1, 1) := by decide +kernel
theorem dX9_told_116 : decode cX9_told 116 = .ok (.iand, 1) := by decide +kernel
theorem dX9_told_117 : decode cX9_told 117 = .ok (.iadd, 1) := by decide +kernel
theorem dX9_told_118 : decode cX9_told 118 = .ok (.istore 9, 2) := by decide +kernel
theorem dX9_told_120 : decode cX9_told 120 = .ok (.iload 4, 2) := by decide +kernel
theorem dX9_told_122 : decode cX9_told 122 = .ok (.iload 9, 2) := by decide +kernel
theorem dX9_told_124 : decode cX9_told 124 = .ok (.iconst 3, 1) := by decide +kernel
theorem dX9_told_125 : decode cX9_told 125 = .ok (.irem, 1) := by decide +kernel
theorem dX9_told_126 : decode cX9_told 126 = .ok (.ifCond .ne 7, 3) := by decide +kernel
theorem dX9_told_129 : decode cX9_told 129 = .ok (.iconst 1, 1) := by decide +kernel
theorem dX9_told_130 : decode cX9_told 130 = .ok (.goto 4, 3) := by decide +kernel
theorem dX9_told_133 : decode cX9_told 133 = .ok (.iconst 0, 1) := by decide +kernel
theorem dX9_told_134 : decode cX9_told 134 = .ok (.iadd, 1) := by decide +kernel
theorem dX9_told_135 : decode cX9_told 135 = .ok (.istore 4, 2) := by decide +kernel
theorem dX9_told_137 : decode cX9_told 137 = .ok (.iinc 8 1, 3) := by decide +kernel
theorem dX9_told_140 : decode cX9_told 140 = .ok (.goto (-67), 3) := by decide +kernel
theorem dX9_told_143 : decode cX9_told 143 = .ok (.iinc 7 1, 3) := by decide +kernel
theorem dX9_told_146 : decode cX9_told 146 = .ok (.goto (-83), 3) := by decide +kernel
theorem dX9_told_149 : decode cX9_told 149 = .ok (.iinc 5 1, 3) := by decide +kernel
theorem dX9_told_152 : decode cX9_told 152 = .ok (.goto (-131), 3) := by decide +kernel
theorem dX9_told_155 : decode cX9_told 155 = .ok (.iload_n 1, 1) := by decide +kernel
theorem dX9_told_156 : decode cX9_told 156 = .ok (.ifCond .ne 10, 3) := by decide +kernel
theorem dX9_told_159 : decode cX9_told 159 = .ok (.aload_n 0, 1) := by decide +kernel
theorem dX9_told_160 : decode cX9_told 160 = .ok (.getfield 137, 3) := by decide +kernel
theorem dX9_told_163 : decode cX9_told 163 = .ok (.goto 25, 3) := by decide +kernel
theorem dX9_told_166 : decode cX9_told 166 = .ok (.iload_n 1, 1) := by decide +kernel
theorem dX9_told_167 : decode cX9_told 167 = .ok (.iconst 1, 1) := by decide +kernel
theorem dX9_told_168 : decode cX9_told 168 = .ok (.if_icmp .ne 9, 3) := by decide +kernel
theorem dX9_told_171 : decode cX9_told 171 = .ok (.iload_n 2, 1) := by decide +kernel
theorem dX9_told_172 : decode cX9_told 172 = .ok (.iconst 2, 1) := by decide +kernel
theorem dX9_told_173 : decode cX9_told 173 = .ok (.idiv, 1) := by decide +kernel
theorem dX9_told_174 : decode cX9_told 174 = .ok (.goto 14, 3) := by decide +kernel
theorem dX9_told_177 : decode cX9_told 177 = .ok (.iload_n 1, 1) := by decide +kernel
theorem dX9_told_178 : decode cX9_told 178 = .ok (.iconst 2, 1) := by decide +kernel
theorem dX9_told_179 : decode cX9_told 179 = .ok (.if_icmp .ne 7, 3) := by decide +kernel
theorem dX9_told_182 : decode cX9_told 182 = .ok (.iload_n 3, 1) := by decide +kernel
theorem dX9_told_183 : decode cX9_told 183 = .ok (.goto 5, 3) := by decide +kernel
theorem dX9_told_186 : decode cX9_told 186 = .ok (.iload 4, 2) := by decide +kernel
theorem dX9_told_188 : decode cX9_told 188 = .ok (.ireturn, 1) := by decide +kernel
theorem dX9_beside_0 : decode cX9_beside 0 = .ok (.aload_n 0, 1) := by decide +kernel
theorem dX9_beside_1 : decode cX9_beside 1 = .ok (.iload_n 1, 1) := by decide +kernel
theorem dX9_beside_2 : decode cX9_beside 2 = .ok (.invokevirtual 238, 3) := by decide +kernel
theorem dX9_beside_5 : decode cX9_beside 5 = .ok (.ifCond .eq 12, 3) := by decide +kernel
theorem dX9_beside_8 : decode cX9_beside 8 = .ok (.aload_n 0, 1) := by decide +kernel
theorem dX9_beside_9 : decode cX9_beside 9 = .ok (.getfield 46, 3) := by decide +kernel
theorem dX9_beside_12 : decode cX9_beside 12 = .ok (.iload_n 1, 1) := by decide +kernel
theorem dX9_beside_13 : decode cX9_beside 13 = .ok (.iaload, 1) := by decide +kernel
theorem dX9_beside_14 : decode cX9_beside 14 = .ok (.goto 4, 3) := by decide +kernel
theorem dX9_beside_17 : decode cX9_beside 17 = .ok (.iconst (-1), 1) := by decide +kernel
theorem dX9_beside_18 : decode cX9_beside 18 = .ok (.ireturn, 1) := by decide +kernel
theorem dX9_share_0 : decode cX9_share 0 = .ok (.iload_n 1, 1) := by decide +kernel
theorem dX9_share_1 : decode cX9_share 1 = .ok (.invokestatic 227, 3) := by decide +kernel
theorem dX9_share_4 : decode cX9_share 4 = .ok (.ifCond .eq 25, 3) := by decide +kernel
theorem dX9_share_7 : decode cX9_share 7 = .ok (.iload_n 2, 1) := by decide +kernel
theorem dX9_share_8 : decode cX9_share 8 = .ok (.iconst 0, 1) := by decide +kernel
theorem dX9_share_9 : decode cX9_share 9 = .ok (.iconst 1, 1) := by decide +kernel
theorem dX9_share_10 : decode cX9_share 10 = .ok (.invokestatic 129, 3) := by decide +kernel
theorem dX9_share_13 : decode cX9_share 13 = .ok (.ifCond .eq 16, 3) := by decide +kernel
theorem dX9_share_16 : decode cX9_share 16 = .ok (.aload_n 0, 1) := by decide +kernel
theorem dX9_share_17 : decode cX9_share 17 = .ok (.getfield 28, 3) := by decide +kernel
theorem dX9_share_20 : decode cX9_share 20 = .ok (.iload_n 1, 1) := by decide +kernel
theorem dX9_share_21 : decode cX9_share 21 = .ok (.iaload, 1) := by decide +kernel
theorem dX9_share_22 : decode cX9_share 22 = .ok (.aload_n 0, 1) := by decide +kernel
theorem dX9_share_23 : decode cX9_share 23 = .ok (.getfield 137, 3) := by decide +kernel
theorem dX9_share_26 : decode cX9_share 26 = .ok (.if_icmp .le 7, 3) := by decide +kernel
theorem dX9_share_29 : decode cX9_share 29 = .ok (.ldc2_w 166, 3) := by decide +kernel
theorem dX9_share_32 : decode cX9_share 32 = .ok (.lreturn, 1) := by decide +kernel
theorem dX9_share_33 : decode cX9_share 33 = .ok (.aload_n 0, 1) := by decide +kernel
theorem dX9_share_34 : decode cX9_share 34 = .ok (.invokevirtual 241, 3) := by decide +kernel
theorem dX9_share_37 : decode cX9_share 37 = .ok (.aload_n 0, 1) := by decide +kernel
theorem dX9_share_38 : decode cX9_share 38 = .ok (.iload_n 1, 1) := by decide +kernel
theorem dX9_share_39 : decode cX9_share 39 = .ok (.aload_n 0, 1) := by decide +kernel
theorem dX9_share_40 : decode cX9_share 40 = .ok (.getfield 28, 3) := by decide +kernel
theorem dX9_share_43 : decode cX9_share 43 = .ok (.iload_n 1, 1) := by decide +kernel
theorem dX9_share_44 : decode cX9_share 44 = .ok (.iaload, 1) := by decide +kernel
theorem dX9_share_45 : decode cX9_share 45 = .ok (.iconst (-1), 1) := by decide +kernel
theorem dX9_share_46 : decode cX9_share 46 = .ok (.invokevirtual 217, 3) := by decide +kernel
theorem dX9_share_49 : decode cX9_share 49 = .ok (.aload_n 0, 1) := by decide +kernel
theorem dX9_share_50 : decode cX9_share 50 = .ok (.iload_n 2, 1) := by decide +kernel
theorem dX9_share_51 : decode cX9_share 51 = .ok (.invokevirtual 234, 3) := by decide +kernel
theorem dX9_share_54 : decode cX9_share 54 = .ok (.lreturn, 1) := by decide +kernel
theorem dX9_shareAt_0 : decode cX9_shareAt 0 = .ok (.aload_n 0, 1) := by decide +kernel
theorem dX9_shareAt_1 : decode cX9_shareAt 1 = .ok (.iload_n 1, 1) := by decide +kernel
theorem dX9_shareAt_2 : decode cX9_shareAt 2 = .ok (.invokevirtual 238, 3) := by decide +kernel
theorem dX9_shareAt_5 : decode cX9_shareAt 5 = .ok (.ifCond .eq 35, 3) := by decide +kernel
theorem dX9_shareAt_8 : decode cX9_shareAt 8 = .ok (.iload_n 2, 1) := by decide +kernel
theorem dX9_shareAt_9 : decode cX9_shareAt 9 = .ok (.invokestatic 231, 3) := by decide +kernel
theorem dX9_shareAt_12 : decode cX9_shareAt 12 = .ok (.ifCond .eq 28, 3) := by decide +kernel
theorem dX9_shareAt_15 : decode cX9_shareAt 15 = .ok (.iload_n 3, 1) := by decide +kernel
theorem dX9_shareAt_16 : decode cX9_shareAt 16 = .ok (.iconst 0, 1) := by decide +kernel
theorem dX9_shareAt_17 : decode cX9_shareAt 17 = .ok (.iconst 1, 1) := by decide +kernel
theorem dX9_shareAt_18 : decode cX9_shareAt 18 = .ok (.invokestatic 129, 3) := by decide +kernel
theorem dX9_shareAt_21 : decode cX9_shareAt 21 = .ok (.ifCond .eq 19, 3) := by decide +kernel
theorem dX9_shareAt_24 : decode cX9_shareAt 24 = .ok (.aload_n 0, 1) := by decide +kernel
theorem dX9_shareAt_25 : decode cX9_shareAt 25 = .ok (.getfield 28, 3) := by decide +kernel
theorem dX9_shareAt_28 : decode cX9_shareAt 28 = .ok (.bipush 19, 2) := by decide +kernel
theorem dX9_shareAt_30 : decode cX9_shareAt 30 = .ok (.iload_n 2, 1) := by decide +kernel
theorem dX9_shareAt_31 : decode cX9_shareAt 31 = .ok (.iadd, 1) := by decide +kernel
theorem dX9_shareAt_32 : decode cX9_shareAt 32 = .ok (.iaload, 1) := by decide +kernel
theorem dX9_shareAt_33 : decode cX9_shareAt 33 = .ok (.aload_n 0, 1) := by decide +kernel
theorem dX9_shareAt_34 : decode cX9_shareAt 34 = .ok (.getfield 137, 3) := by decide +kernel
theorem dX9_shareAt_37 : decode cX9_shareAt 37 = .ok (.if_icmp .le 7, 3) := by decide +kernel
theorem dX9_shareAt_40 : decode cX9_shareAt 40 = .ok (.ldc2_w 166, 3) := by decide +kernel
theorem dX9_shareAt_43 : decode cX9_shareAt 43 = .ok (.lreturn, 1) := by decide +kernel
theorem dX9_shareAt_44 : decode cX9_shareAt 44 = .ok (.aload_n 0, 1) := by decide +kernel
theorem dX9_shareAt_45 : decode cX9_shareAt 45 = .ok (.invokevirtual 241, 3) := by decide +kernel
theorem dX9_shareAt_48 : decode cX9_shareAt 48 = .ok (.aload_n 0, 1) := by decide +kernel
theorem dX9_shareAt_49 : decode cX9_shareAt 49 = .ok (.iload_n 2, 1) := by decide +kernel
theorem dX9_shareAt_50 : decode cX9_shareAt 50 = .ok (.aload_n 0, 1) := by decide +kernel
theorem dX9_shareAt_51 : decode cX9_shareAt 51 = .ok (.getfield 28, 3) := by decide +kernel
theorem dX9_shareAt_54 : decode cX9_shareAt 54 = .ok (.bipush 19, 2) := by decide +kernel
theorem dX9_shareAt_56 : decode cX9_shareAt 56 = .ok (.iload_n 2, 1) := by decide +kernel
theorem dX9_shareAt_57 : decode cX9_shareAt 57 = .ok (.iadd, 1) := by decide +kernel
theorem dX9_shareAt_58 : decode cX9_shareAt 58 = .ok (.iaload, 1) := by decide +kernel
theorem dX9_shareAt_59 : decode cX9_shareAt 59 = .ok (.iload_n 1, 1) := by decide +kernel
theorem dX9_shareAt_60 : decode cX9_shareAt 60 = .ok (.invokevirtual 217, 3) := by decide +kernel
theorem dX9_shareAt_63 : decode cX9_shareAt 63 = .ok (.aload_n 0, 1) := by decide +kernel
theorem dX9_shareAt_64 : decode cX9_shareAt 64 = .ok (.iload_n 3, 1) := by decide +kernel
theorem dX9_shareAt_65 : decode cX9_shareAt 65 = .ok (.invokevirtual 234, 3) := by decide +kernel
theorem dX9_shareAt_68 : decode cX9_shareAt 68 = .ok (.lreturn, 1) := by decide +kernel
theorem dX9_isMap_0 : decode cX9_isMap 0 = .ok (.iload_n 2, 1) := by decide +kernel
theorem dX9_isMap_1 : decode cX9_isMap 1 = .ok (.istore_n 3, 1) := by decide +kernel
theorem dX9_isMap_2 : decode cX9_isMap 2 = .ok (.iconst 0, 1) := by decide +kernel
theorem dX9_isMap_3 : decode cX9_isMap 3 = .ok (.istore 4, 2) := by decide +kernel
theorem dX9_isMap_5 : decode cX9_isMap 5 = .ok (.iload 4, 2) := by decide +kernel
theorem dX9_isMap_7 : decode cX9_isMap 7 = .ok (.aload_n 0, 1) := by decide +kernel
theorem dX9_isMap_8 : decode cX9_isMap 8 = .ok (.getfield 28, 3) := by decide +kernel
theorem dX9_isMap_11 : decode cX9_isMap 11 = .ok (.iload_n 1, 1) := by decide +kernel
theorem dX9_isMap_12 : decode cX9_isMap 12 = .ok (.iaload, 1) := by decide +kernel
theorem dX9_isMap_13 : decode cX9_isMap 13 = .ok (.if_icmp .ge 41, 3) := by decide +kernel
theorem dX9_isMap_16 : decode cX9_isMap 16 = .ok (.aload_n 0, 1) := by decide +kernel
theorem dX9_isMap_17 : decode cX9_isMap 17 = .ok (.getfield 84, 3) := by decide +kernel
theorem dX9_isMap_20 : decode cX9_isMap 20 = .ok (.iload 4, 2) := by decide +kernel
theorem dX9_isMap_22 : decode cX9_isMap 22 = .ok (.iload_n 3, 1) := by decide +kernel
theorem dX9_isMap_23 : decode cX9_isMap 23 = .ok (.bipush 8, 2) := by decide +kernel
theorem dX9_isMap_25 : decode cX9_isMap 25 = .ok (.irem, 1) := by decide +kernel
theorem dX9_isMap_26 : decode cX9_isMap 26 = .ok (.iastore, 1) := by decide +kernel
theorem dX9_isMap_27 : decode cX9_isMap 27 = .ok (.iload_n 3, 1) := by decide +kernel
theorem dX9_isMap_28 : decode cX9_isMap 28 = .ok (.bipush 8, 2) := by decide +kernel
theorem dX9_isMap_30 : decode cX9_isMap 30 = .ok (.idiv, 1) := by decide +kernel
theorem dX9_isMap_31 : decode cX9_isMap 31 = .ok (.istore_n 3, 1) := by decide +kernel
theorem dX9_isMap_32 : decode cX9_isMap 32 = .ok (.aload_n 0, 1) := by decide +kernel
theorem dX9_isMap_33 : decode cX9_isMap 33 = .ok (.getfield 84, 3) := by decide +kernel
theorem dX9_isMap_36 : decode cX9_isMap 36 = .ok (.iload 4, 2) := by decide +kernel
theorem dX9_isMap_38 : decode cX9_isMap 38 = .ok (.iaload, 1) := by decide +kernel
theorem dX9_isMap_39 : decode cX9_isMap 39 = .ok (.aload_n 0, 1) := by decide +kernel
theorem dX9_isMap_40 : decode cX9_isMap 40 = .ok (.getfield 137, 3) := by decide +kernel
theorem dX9_isMap_43 : decode cX9_isMap 43 = .ok (.if_icmp .lt 5, 3) := by decide +kernel
theorem dX9_isMap_46 : decode cX9_isMap 46 = .ok (.iconst 0, 1) := by decide +kernel
theorem dX9_isMap_47 : decode cX9_isMap 47 = .ok (.ireturn, 1) := by decide +kernel
theorem dX9_isMap_48 : decode cX9_isMap 48 = .ok (.iinc 4 1, 3) := by decide +kernel
theorem dX9_isMap_51 : decode cX9_isMap 51 = .ok (.goto (-46), 3) := by decide +kernel
theorem dX9_isMap_54 : decode cX9_isMap 54 = .ok (.iconst 1, 1) := by decide +kernel
theorem dX9_isMap_55 : decode cX9_isMap 55 = .ok (.istore 4, 2) := by decide +kernel
theorem dX9_isMap_57 : decode cX9_isMap 57 = .ok (.iload 4, 2) := by decide +kernel
theorem dX9_isMap_59 : decode cX9_isMap 59 = .ok (.aload_n 0, 1) := by decide +kernel
theorem dX9_isMap_60 : decode cX9_isMap 60 = .ok (.getfield 28, 3) := by decide +kernel
theorem dX9_isMap_63 : decode cX9_isMap 63 = .ok (.iload_n 1, 1) := by decide +kernel
theorem dX9_isMap_64 : decode cX9_isMap 64 = .ok (.iaload, 1) := by decide +kernel
theorem dX9_isMap_65 : decode cX9_isMap 65 = .ok (.if_icmp .ge 72, 3) := by decide +kernel
theorem dX9_isMap_68 : decode cX9_isMap 68 = .ok (.iconst 0, 1) := by decide +kernel
theorem dX9_isMap_69 : decode cX9_isMap 69 = .ok (.istore 5, 2) := by decide +kernel
theorem dX9_isMap_71 : decode cX9_isMap 71 = .ok (.iload 5, 2) := by decide +kernel
theorem dX9_isMap_73 : decode cX9_isMap 73 = .ok (.iload 4, 2) := by decide +kernel
theorem dX9_isMap_75 : decode cX9_isMap 75 = .ok (.if_icmp .ge 56, 3) := by decide +kernel
theorem dX9_isMap_78 : decode cX9_isMap 78 = .ok (.aload_n 0, 1) := by decide +kernel
theorem dX9_isMap_79 : decode cX9_isMap 79 = .ok (.getfield 31, 3) := by decide +kernel
theorem dX9_isMap_82 : decode cX9_isMap 82 = .ok (.iload_n 1, 1) := by decide +kernel
theorem dX9_isMap_83 : decode cX9_isMap 83 = .ok (.iaload, 1) := by decide +kernel
theorem dX9_isMap_84 : decode cX9_isMap 84 = .ok (.iload 5, 2) := by decide +kernel
theorem dX9_isMap_86 : decode cX9_isMap 86 = .ok (.iload 4, 2) := by decide +kernel
theorem dX9_isMap_88 : decode cX9_isMap 88 = .ok (.invokestatic 9, 3) := by decide +kernel
theorem dX9_isMap_91 : decode cX9_isMap 91 = .ok (.ishr, 1) := by decide +kernel
theorem dX9_isMap_92 : decode cX9_isMap 92 = .ok (.iconst 1, 1) := by decide +kernel
theorem dX9_isMap_93 : decode cX9_isMap 93 = .ok (.iand, 1) := by decide +kernel
theorem dX9_isMap_94 : decode cX9_isMap 94 = .ok (.iconst 1, 1) := by decide +kernel
theorem dX9_isMap_95 : decode cX9_isMap 95 = .ok (.if_icmp .ne 30, 3) := by decide +kernel
theorem dX9_isMap_98 : decode cX9_isMap 98 = .ok (.aload_n 0, 1) := by decide +kernel
theorem dX9_isMap_99 : decode cX9_isMap 99 = .ok (.getfield 46, 3) := by decide +kernel
theorem dX9_isMap_102 : decode cX9_isMap 102 = .ok (.aload_n 0, 1) := by decide +kernel
theorem dX9_isMap_103 : decode cX9_isMap 103 = .ok (.getfield 84, 3) := by decide +kernel
theorem dX9_isMap_106 : decode cX9_isMap 106 = .ok (.iload 5, 2) := by decide +kernel
theorem dX9_isMap_108 : decode cX9_isMap 108 = .ok (.iaload, 1) := by decide +kernel
theorem dX9_isMap_109 : decode cX9_isMap 109 = .ok (.iaload, 1) := by decide +kernel
theorem dX9_isMap_110 : decode cX9_isMap 110 = .ok (.aload_n 0, 1) := by decide +kernel
theorem dX9_isMap_111 : decode cX9_isMap 111 = .ok (.getfield 84, 3) := by decide +kernel
theorem dX9_isMap_114 : decode cX9_isMap 114 = .ok (.iload 4, 2) := by decide +kernel
theorem dX9_isMap_116 : decode cX9_isMap 116 = .ok (.iaload, 1) := by decide +kernel
theorem dX9_isMap_117 : decode cX9_isMap 117 = .ok (.ishr, 1) := by decide +kernel
theorem dX9_isMap_118 : decode cX9_isMap 118 = .ok (.iconst 1, 1) := by decide +kernel
theorem dX9_isMap_119 : decode cX9_isMap 119 = .ok (.iand, 1) := by decide +kernel
theorem dX9_isMap_120 : decode cX9_isMap 120 = .ok (.ifCond .ne 5, 3) := by decide +kernel
theorem dX9_isMap_123 : decode cX9_isMap 123 = .ok (.iconst 0, 1) := by decide +kernel
theorem dX9_isMap_124 : decode cX9_isMap 124 = .ok (.ireturn, 1) := by decide +kernel
theorem dX9_isMap_125 : decode cX9_isMap 125 = .ok (.iinc 5 1, 3) := by decide +kernel
theorem dX9_isMap_128 : decode cX9_isMap 128 = .ok (.goto (-57), 3) := by decide +kernel
theorem dX9_isMap_131 : decode cX9_isMap 131 = .ok (.iinc 4 1, 3) := by decide +kernel
theorem dX9_isMap_134 : decode cX9_isMap 134 = .ok (.goto (-77), 3) := by decide +kernel
theorem dX9_isMap_137 : decode cX9_isMap 137 = .ok (.iconst 1, 1) := by decide +kernel
theorem dX9_isMap_138 : decode cX9_isMap 138 = .ok (.ireturn, 1) := by decide +kernel
theorem dX9_maps_0 : decode cX9_maps 0 = .ok (.iload_n 1, 1) := by decide +kernel
theorem dX9_maps_1 : decode cX9_maps 1 = .ok (.invokestatic 227, 3) := by decide +kernel
theorem dX9_maps_4 : decode cX9_maps 4 = .ok (.ifCond .ne 5, 3) := by decide +kernel
theorem dX9_maps_7 : decode cX9_maps 7 = .ok (.iconst (-1), 1) := by decide +kernel
theorem dX9_maps_8 : decode cX9_maps 8 = .ok (.ireturn, 1) := by decide +kernel
theorem dX9_maps_9 : decode cX9_maps 9 = .ok (.iconst 0, 1) := by decide +kernel
theorem dX9_maps_10 : decode cX9_maps 10 = .ok (.istore_n 2, 1) := by decide +kernel
theorem dX9_maps_11 : decode cX9_maps 11 = .ok (.iconst 0, 1) := by decide +kernel
theorem dX9_maps_12 : decode cX9_maps 12 = .ok (.istore_n 3, 1) := by decide +kernel
theorem dX9_maps_13 : decode cX9_maps 13 = .ok (.iload_n 3, 1) := by decide +kernel
theorem dX9_maps_14 : decode cX9_maps 14 = .ok (.iconst 1, 1) := by decide +kernel
theorem dX9_maps_15 : decode cX9_maps 15 = .ok (.iconst 3, 1) := by decide +kernel
theorem dX9_maps_16 : decode cX9_maps 16 = .ok (.aload_n 0, 1) := by decide +kernel
theorem dX9_maps_17 : decode cX9_maps 17 = .ok (.getfield 28, 3) := by decide +kernel
theorem dX9_maps_20 : decode cX9_maps 20 = .ok (.iload_n 1, 1) := by decide +kernel
theorem dX9_maps_21 : decode cX9_maps 21 = .ok (.iaload, 1) := by decide +kernel
theorem dX9_maps_22 : decode cX9_maps 22 = .ok (.imul, 1) := by decide +kernel
theorem dX9_maps_23 : decode cX9_maps 23 = .ok (.ishl, 1) := by decide +kernel
theorem dX9_maps_24 : decode cX9_maps 24 = .ok (.if_icmp .ge 26, 3) := by decide +kernel
theorem dX9_maps_27 : decode cX9_maps 27 = .ok (.iload_n 2, 1) := by decide +kernel
theorem dX9_maps_28 : decode cX9_maps 28 = .ok (.aload_n 0, 1) := by decide +kernel
theorem dX9_maps_29 : decode cX9_maps 29 = .ok (.iload_n 1, 1) := by decide +kernel
theorem dX9_maps_30 : decode cX9_maps 30 = .ok (.iload_n 3, 1) := by decide +kernel
theorem dX9_maps_31 : decode cX9_maps 31 = .ok (.invokevirtual 244, 3) := by decide +kernel
theorem dX9_maps_34 : decode cX9_maps 34 = .ok (.ifCond .eq 7, 3) := by decide +kernel
theorem dX9_maps_37 : decode cX9_maps 37 = .ok (.iconst 1, 1) := by decide +kernel
theorem dX9_maps_38 : decode cX9_maps 38 = .ok (.goto 4, 3) := by decide +kernel
theorem dX9_maps_41 : decode cX9_maps 41 = .ok (.iconst 0, 1) := by decide +kernel
theorem dX9_maps_42 : decode cX9_maps 42 = .ok (.iadd, 1) := by decide +kernel
theorem dX9_maps_43 : decode cX9_maps 43 = .ok (.istore_n 2, 1) := by decide +kernel
theorem dX9_maps_44 : decode cX9_maps 44 = .ok (.iinc 3 1, 3) := by decide +kernel
theorem dX9_maps_47 : decode cX9_maps 47 = .ok (.goto (-34), 3) := by decide +kernel
theorem dX9_maps_50 : decode cX9_maps 50 = .ok (.iload_n 2, 1) := by decide +kernel
theorem dX9_maps_51 : decode cX9_maps 51 = .ok (.ireturn, 1) := by decide +kernel
theorem dX9_countAll_0 : decode cX9_countAll 0 = .ok (.aload_n 0, 1) := by decide +kernel
theorem dX9_countAll_1 : decode cX9_countAll 1 = .ok (.invokevirtual 241, 3) := by decide +kernel
theorem dX9_countAll_4 : decode cX9_countAll 4 = .ok (.iconst 0, 1) := by decide +kernel
theorem dX9_countAll_5 : decode cX9_countAll 5 = .ok (.istore_n 2, 1) := by decide +kernel
theorem dX9_countAll_6 : decode cX9_countAll 6 = .ok (.iload_n 2, 1) := by decide +kernel
theorem dX9_countAll_7 : decode cX9_countAll 7 = .ok (.bipush 19, 2) := by decide +kernel
theorem dX9_countAll_9 : decode cX9_countAll 9 = .ok (.if_icmp .ge 16, 3) := by decide +kernel
theorem dX9_countAll_12 : decode cX9_countAll 12 = .ok (.aload_n 0, 1) := by decide +kernel
theorem dX9_countAll_13 : decode cX9_countAll 13 = .ok (.getfield 90, 3) := by decide +kernel
theorem dX9_countAll_16 : decode cX9_countAll 16 = .ok (.iload_n 2, 1) := by decide +kernel
theorem dX9_countAll_17 : decode cX9_countAll 17 = .ok (.iconst 0, 1) := by decide +kernel
theorem dX9_countAll_18 : decode cX9_countAll 18 = .ok (.iastore, 1) := by decide +kernel
theorem dX9_countAll_19 : decode cX9_countAll 19 = .ok (.iinc 2 1, 3) := by decide +kernel
theorem dX9_countAll_22 : decode cX9_countAll 22 = .ok (.goto (-16), 3) := by decide +kernel
theorem dX9_countAll_25 : decode cX9_countAll 25 = .ok (.iconst 0, 1) := by decide +kernel
theorem dX9_countAll_26 : decode cX9_countAll 26 = .ok (.istore_n 2, 1) := by decide +kernel
theorem dX9_countAll_27 : decode cX9_countAll 27 = .ok (.iload_n 2, 1) := by decide +kernel
theorem dX9_countAll_28 : decode cX9_countAll 28 = .ok (.iconst 1, 1) := by decide +kernel
theorem dX9_countAll_29 : decode cX9_countAll 29 = .ok (.aload_n 0, 1) := by decide +kernel
theorem dX9_countAll_30 : decode cX9_countAll 30 = .ok (.getfield 137, 3) := by decide +kernel
theorem dX9_countAll_33 : decode cX9_countAll 33 = .ok (.ishl, 1) := by decide +kernel
theorem dX9_countAll_34 : decode cX9_countAll 34 = .ok (.if_icmp .ge 32, 3) := by decide +kernel
theorem dX9_countAll_37 : decode cX9_countAll 37 = .ok (.iload_n 2, 1) := by decide +kernel
theorem dX9_countAll_38 : decode cX9_countAll 38 = .ok (.invokestatic 140, 3) := by decide +kernel
theorem dX9_countAll_41 : decode cX9_countAll 41 = .ok (.iload_n 1, 1) := by decide +kernel
theorem dX9_countAll_42 : decode cX9_countAll 42 = .ok (.if_icmp .ne 18, 3) := by decide +kernel
theorem dX9_countAll_45 : decode cX9_countAll 45 = .ok (.aload_n 0, 1) := by decide +kernel
theorem dX9_countAll_46 : decode cX9_countAll 46 = .ok (.getfield 90, 3) := by decide +kernel
theorem dX9_countAll_49 : decode cX9_countAll 49 = .ok (.aload_n 0, 1) := by decide +kernel
theorem dX9_countAll_50 : decode cX9_countAll 50 = .ok (.iload_n 2, 1) := by decide +kernel
theorem dX9_countAll_51 : decode cX9_countAll 51 = .ok (.iconst (-1), 1) := by decide +kernel
theorem dX9_countAll_52 : decode cX9_countAll 52 = .ok (.invokevirtual 157, 3) := by decide +kernel
theorem dX9_countAll_55 : decode cX9_countAll 55 = .ok (.dup2, 1) := by decide +kernel
theorem dX9_countAll_56 : decode cX9_countAll 56 = .ok (.iaload, 1) := by decide +kernel
theorem dX9_countAll_57 : decode cX9_countAll 57 = .ok (.iconst 1, 1) := by decide +kernel
theorem dX9_countAll_58 : decode cX9_countAll 58 = .ok (.iadd, 1) := by decide +kernel
theorem dX9_countAll_59 : decode cX9_countAll 59 = .ok (.iastore, 1) := by decide +kernel
theorem dX9_countAll_60 : decode cX9_countAll 60 = .ok (.iinc 2 1, 3) := by decide +kernel
theorem dX9_countAll_63 : decode cX9_countAll 63 = .ok (.goto (-36), 3) := by decide +kernel
theorem dX9_countAll_66 : decode cX9_countAll 66 = .ok (.return_, 1) := by decide +kernel
theorem dX9_rank_0 : decode cX9_rank 0 = .ok (.iload_n 1, 1) := by decide +kernel
theorem dX9_rank_1 : decode cX9_rank 1 = .ok (.iconst 0, 1) := by decide +kernel
theorem dX9_rank_2 : decode cX9_rank 2 = .ok (.iconst 4, 1) := by decide +kernel
theorem dX9_rank_3 : decode cX9_rank 3 = .ok (.invokestatic 129, 3) := by decide +kernel
theorem dX9_rank_6 : decode cX9_rank 6 = .ok (.ifCond .eq 7, 3) := by decide +kernel
theorem dX9_rank_9 : decode cX9_rank 9 = .ok (.iload_n 2, 1) := by decide +kernel
theorem dX9_rank_10 : decode cX9_rank 10 = .ok (.ifCond .ge 5, 3) := by decide +kernel
theorem dX9_rank_13 : decode cX9_rank 13 = .ok (.iconst (-1), 1) := by decide +kernel
theorem dX9_rank_14 : decode cX9_rank 14 = .ok (.ireturn, 1) := by decide +kernel
theorem dX9_rank_15 : decode cX9_rank 15 = .ok (.iconst 0, 1) := by decide +kernel
theorem dX9_rank_16 : decode cX9_rank 16 = .ok (.istore_n 3, 1) := by decide +kernel
theorem dX9_rank_17 : decode cX9_rank 17 = .ok (.iconst 0, 1) := by decide +kernel
theorem dX9_rank_18 : decode cX9_rank 18 = .ok (.istore 4, 2) := by decide +kernel
theorem dX9_rank_20 : decode cX9_rank 20 = .ok (.iload 4, 2) := by decide +kernel
theorem dX9_rank_22 : decode cX9_rank 22 = .ok (.bipush 19, 2) := by decide +kernel
theorem dX9_rank_24 : decode cX9_rank 24 = .ok (.if_icmp .ge 28, 3) := by decide +kernel
theorem dX9_rank_27 : decode cX9_rank 27 = .ok (.iload_n 3, 1) := by decide +kernel
theorem dX9_rank_28 : decode cX9_rank 28 = .ok (.aload_n 0, 1) := by decide +kernel
theorem dX9_rank_29 : decode cX9_rank 29 = .ok (.getfield 28, 3) := by decide +kernel
theorem dX9_rank_32 : decode cX9_rank 32 = .ok (.iload 4, 2) := by decide +kernel
theorem dX9_rank_34 : decode cX9_rank 34 = .ok (.iaload, 1) := by decide +kernel
theorem dX9_rank_35 : decode cX9_rank 35 = .ok (.iload_n 1, 1) := by decide +kernel
theorem dX9_rank_36 : decode cX9_rank 36 = .ok (.if_icmp .ne 7, 3) := by decide +kernel
theorem dX9_rank_39 : decode cX9_rank 39 = .ok (.iconst 1, 1) := by decide +kernel
theorem dX9_rank_40 : decode cX9_rank 40 = .ok (.goto 4, 3) := by decide +kernel
theorem dX9_rank_43 : decode cX9_rank 43 = .ok (.iconst 0, 1) := by decide +kernel
theorem dX9_rank_44 : decode cX9_rank 44 = .ok (.iadd, 1) := by decide +kernel
theorem dX9_rank_45 : decode cX9_rank 45 = .ok (.istore_n 3, 1) := by decide +kernel
theorem dX9_rank_46 : decode cX9_rank 46 = .ok (.iinc 4 1, 3) := by decide +kernel
theorem dX9_rank_49 : decode cX9_rank 49 = .ok (.goto (-29), 3) := by decide +kernel
theorem dX9_rank_52 : decode cX9_rank 52 = .ok (.iload_n 2, 1) := by decide +kernel
theorem dX9_rank_53 : decode cX9_rank 53 = .ok (.iload_n 3, 1) := by decide +kernel
theorem dX9_rank_54 : decode cX9_rank 54 = .ok (.if_icmp .lt 5, 3) := by decide +kernel
theorem dX9_rank_57 : decode cX9_rank 57 = .ok (.iconst (-1), 1) := by decide +kernel
theorem dX9_rank_58 : decode cX9_rank 58 = .ok (.ireturn, 1) := by decide +kernel
theorem dX9_rank_59 : decode cX9_rank 59 = .ok (.aload_n 0, 1) := by decide +kernel
theorem dX9_rank_60 : decode cX9_rank 60 = .ok (.getfield 137, 3) := by decide +kernel
theorem dX9_rank_63 : decode cX9_rank 63 = .ok (.iload_n 1, 1) := by decide +kernel
theorem dX9_rank_64 : decode cX9_rank 64 = .ok (.if_icmp .ge 6, 3) := by decide +kernel
theorem dX9_rank_67 : decode cX9_rank 67 = .ok (.bipush (-3), 2) := by decide +kernel
theorem dX9_rank_69 : decode cX9_rank 69 = .ok (.ireturn, 1) := by decide +kernel
theorem dX9_rank_70 : decode cX9_rank 70 = .ok (.aload_n 0, 1) := by decide +kernel
theorem dX9_rank_71 : decode cX9_rank 71 = .ok (.iload_n 1, 1) := by decide +kernel
theorem dX9_rank_72 : decode cX9_rank 72 = .ok (.invokevirtual 247, 3) := by decide +kernel
theorem dX9_rank_75 : decode cX9_rank 75 = .ok (.iconst (-1), 1) := by decide +kernel
theorem dX9_rank_76 : decode cX9_rank 76 = .ok (.istore 4, 2) := by decide +kernel
theorem dX9_rank_78 : decode cX9_rank 78 = .ok (.iconst 0, 1) := by decide +kernel
theorem dX9_rank_79 : decode cX9_rank 79 = .ok (.istore 5, 2) := by decide +kernel
theorem dX9_rank_81 : decode cX9_rank 81 = .ok (.iload 5, 2) := by decide +kernel
theorem dX9_rank_83 : decode cX9_rank 83 = .ok (.bipush 19, 2) := by decide +kernel
theorem dX9_rank_85 : decode cX9_rank 85 = .ok (.if_icmp .ge 128, 3) := by decide +kernel
theorem dX9_rank_88 : decode cX9_rank 88 = .ok (.iconst 0, 1) := by decide +kernel
theorem dX9_rank_89 : decode cX9_rank 89 = .ok (.istore 6, 2) := by decide +kernel
theorem dX9_rank_91 : decode cX9_rank 91 = .ok (.iconst 0, 1) := by decide +kernel
theorem dX9_rank_92 : decode cX9_rank 92 = .ok (.istore 7, 2) := by decide +kernel
theorem dX9_rank_94 : decode cX9_rank 94 = .ok (.iload 7, 2) := by decide +kernel
theorem dX9_rank_96 : decode cX9_rank 96 = .ok (.bipush 19, 2) := by decide +kernel
theorem dX9_rank_98 : decode cX9_rank 98 = .ok (.if_icmp .ge 83, 3) := by decide +kernel
theorem dX9_rank_101 : decode cX9_rank 101 = .ok (.aload_n 0, 1) := by decide +kernel
theorem dX9_rank_102 : decode cX9_rank 102 = .ok (.getfield 28, 3) := by decide +kernel
theorem dX9_rank_105 : decode cX9_rank 105 = .ok (.iload 7, 2) := by decide +kernel
theorem dX9_rank_107 : decode cX9_rank 107 = .ok (.iaload, 1) := by decide +kernel
theorem dX9_rank_108 : decode cX9_rank 108 = .ok (.iload_n 1, 1) := by decide +kernel
theorem dX9_rank_109 : decode cX9_rank 109 = .ok (.if_icmp .ne 48, 3) := by decide +kernel
theorem dX9_rank_112 : decode cX9_rank 112 = .ok (.aload_n 0, 1) := by decide +kernel
theorem dX9_rank_113 : decode cX9_rank 113 = .ok (.getfield 90, 3) := by decide +kernel
theorem dX9_rank_116 : decode cX9_rank 116 = .ok (.iload 7, 2) := by decide +kernel
theorem dX9_rank_118 : decode cX9_rank 118 = .ok (.iaload, 1) := by decide +kernel
theorem dX9_rank_119 : decode cX9_rank 119 = .ok (.aload_n 0, 1) := by decide +kernel
theorem dX9_rank_120 : decode cX9_rank 120 = .ok (.getfield 90, 3) := by decide +kernel
theorem dX9_rank_123 : decode cX9_rank 123 = .ok (.iload 5, 2) := by decide +kernel
theorem dX9_rank_125 : decode cX9_rank 125 = .ok (.iaload, 1) := by decide +kernel
theorem dX9_rank_126 : decode cX9_rank 126 = .ok (.if_icmp .gt 27, 3) := by decide +kernel
theorem dX9_rank_129 : decode cX9_rank 129 = .ok (.aload_n 0, 1) := by decide +kernel
theorem dX9_rank_130 : decode cX9_rank 130 = .ok (.getfield 90, 3) := by decide +kernel
theorem dX9_rank_133 : decode cX9_rank 133 = .ok (.iload 7, 2) := by decide +kernel
theorem dX9_rank_135 : decode cX9_rank 135 = .ok (.iaload, 1) := by decide +kernel
theorem dX9_rank_136 : decode cX9_rank 136 = .ok (.aload_n 0, 1) := by decide +kernel
theorem dX9_rank_137 : decode cX9_rank 137 = .ok (.getfield 90, 3) := by decide +kernel
theorem dX9_rank_140 : decode cX9_rank 140 = .ok (.iload 5, 2) := by decide +kernel
theorem dX9_rank_142 : decode cX9_rank 142 = .ok (.iaload, 1) := by decide +kernel
theorem dX9_rank_143 : decode cX9_rank 143 = .ok (.if_icmp .ne 14, 3) := by decide +kernel
theorem dX9_rank_146 : decode cX9_rank 146 = .ok (.iload 7, 2) := by decide +kernel
theorem dX9_rank_148 : decode cX9_rank 148 = .ok (.iload 5, 2) := by decide +kernel
theorem dX9_rank_150 : decode cX9_rank 150 = .ok (.if_icmp .ge 7, 3) := by decide +kernel
theorem dX9_rank_153 : decode cX9_rank 153 = .ok (.iconst 1, 1) := by decide +kernel
theorem dX9_rank_154 : decode cX9_rank 154 = .ok (.goto 4, 3) := by decide +kernel
theorem dX9_rank_157 : decode cX9_rank 157 = .ok (.iconst 0, 1) := by decide +kernel
theorem dX9_rank_158 : decode cX9_rank 158 = .ok (.istore 8, 2) := by decide +kernel
theorem dX9_rank_160 : decode cX9_rank 160 = .ok (.iload 6, 2) := by decide +kernel
theorem dX9_rank_162 : decode cX9_rank 162 = .ok (.iload 8, 2) := by decide +kernel
theorem dX9_rank_164 : decode cX9_rank 164 = .ok (.ifCond .eq 7, 3) := by decide +kernel
theorem dX9_rank_167 : decode cX9_rank 167 = .ok (.iconst 1, 1) := by decide +kernel
theorem dX9_rank_168 : decode cX9_rank 168 = .ok (.goto 4, 3) := by decide +kernel
theorem dX9_rank_171 : decode cX9_rank 171 = .ok (.iconst 0, 1) := by decide +kernel
theorem dX9_rank_172 : decode cX9_rank 172 = .ok (.iadd, 1) := by decide +kernel
theorem dX9_rank_173 : decode cX9_rank 173 = .ok (.istore 6, 2) := by decide +kernel
theorem dX9_rank_175 : decode cX9_rank 175 = .ok (.iinc 7 1, 3) := by decide +kernel
theorem dX9_rank_178 : decode cX9_rank 178 = .ok (.goto (-84), 3) := by decide +kernel
theorem dX9_rank_181 : decode cX9_rank 181 = .ok (.aload_n 0, 1) := by decide +kernel
theorem dX9_rank_182 : decode cX9_rank 182 = .ok (.getfield 28, 3) := by decide +kernel
theorem dX9_rank_185 : decode cX9_rank 185 = .ok (.iload 5, 2) := by decide +kernel
theorem dX9_rank_187 : decode cX9_rank 187 = .ok (.iaload, 1) := by decide +kernel
theorem dX9_rank_188 : decode cX9_rank 188 = .ok (.iload_n 1, 1) := by decide +kernel
theorem dX9_rank_189 : decode cX9_rank 189 = .ok (.if_icmp .ne 14, 3) := by decide +kernel
theorem dX9_rank_192 : decode cX9_rank 192 = .ok (.iload 6, 2) := by decide +kernel
theorem dX9_rank_194 : decode cX9_rank 194 = .ok (.iload_n 2, 1) := by decide +kernel
theorem dX9_rank_195 : decode cX9_rank 195 = .ok (.if_icmp .ne 8, 3) := by decide +kernel
theorem dX9_rank_198 : decode cX9_rank 198 = .ok (.iload 5, 2) := by decide +kernel
theorem dX9_rank_200 : decode cX9_rank 200 = .ok (.goto 5, 3) := by decide +kernel
theorem dX9_rank_203 : decode cX9_rank 203 = .ok (.iload 4, 2) := by decide +kernel
theorem dX9_rank_205 : decode cX9_rank 205 = .ok (.istore 4, 2) := by decide +kernel
theorem dX9_rank_207 : decode cX9_rank 207 = .ok (.iinc 5 1, 3) := by decide +kernel
theorem dX9_rank_210 : decode cX9_rank 210 = .ok (.goto (-129), 3) := by decide +kernel
theorem dX9_rank_213 : decode cX9_rank 213 = .ok (.iload 4, 2) := by decide +kernel
theorem dX9_rank_215 : decode cX9_rank 215 = .ok (.ireturn, 1) := by decide +kernel
theorem dX9_foundAll_0 : decode cX9_foundAll 0 = .ok (.aload_n 0, 1) := by decide +kernel
theorem dX9_foundAll_1 : decode cX9_foundAll 1 = .ok (.invokevirtual 241, 3) := by decide +kernel
theorem dX9_foundAll_4 : decode cX9_foundAll 4 = .ok (.iconst 0, 1) := by decide +kernel
theorem dX9_foundAll_5 : decode cX9_foundAll 5 = .ok (.istore_n 2, 1) := by decide +kernel
theorem dX9_foundAll_6 : decode cX9_foundAll 6 = .ok (.iconst 0, 1) := by decide +kernel
theorem dX9_foundAll_7 : decode cX9_foundAll 7 = .ok (.istore_n 3, 1) := by decide +kernel
theorem dX9_foundAll_8 : decode cX9_foundAll 8 = .ok (.iload_n 3, 1) := by decide +kernel
theorem dX9_foundAll_9 : decode cX9_foundAll 9 = .ok (.iconst 1, 1) := by decide +kernel
theorem dX9_foundAll_10 : decode cX9_foundAll 10 = .ok (.aload_n 0, 1) := by decide +kernel
theorem dX9_foundAll_11 : decode cX9_foundAll 11 = .ok (.getfield 137, 3) := by decide +kernel
theorem dX9_foundAll_14 : decode cX9_foundAll 14 = .ok (.ishl, 1) := by decide +kernel
theorem dX9_foundAll_15 : decode cX9_foundAll 15 = .ok (.if_icmp .ge 83, 3) := by decide +kernel
theorem dX9_foundAll_18 : decode cX9_foundAll 18 = .ok (.iload_n 3, 1) := by decide +kernel
theorem dX9_foundAll_19 : decode cX9_foundAll 19 = .ok (.invokestatic 140, 3) := by decide +kernel
theorem dX9_foundAll_22 : decode cX9_foundAll 22 = .ok (.iload_n 1, 1) := by decide +kernel
theorem dX9_foundAll_23 : decode cX9_foundAll 23 = .ok (.if_icmp .ne 69, 3) := by decide +kernel
theorem dX9_foundAll_26 : decode cX9_foundAll 26 = .ok (.aload_n 0, 1) := by decide +kernel
theorem dX9_foundAll_27 : decode cX9_foundAll 27 = .ok (.iload_n 3, 1) := by decide +kernel
theorem dX9_foundAll_28 : decode cX9_foundAll 28 = .ok (.iconst (-1), 1) := by decide +kernel
theorem dX9_foundAll_29 : decode cX9_foundAll 29 = .ok (.invokevirtual 157, 3) := by decide +kernel
theorem dX9_foundAll_32 : decode cX9_foundAll 32 = .ok (.istore 4, 2) := by decide +kernel
theorem dX9_foundAll_34 : decode cX9_foundAll 34 = .ok (.iconst 0, 1) := by decide +kernel
theorem dX9_foundAll_35 : decode cX9_foundAll 35 = .ok (.istore 5, 2) := by decide +kernel
theorem dX9_foundAll_37 : decode cX9_foundAll 37 = .ok (.iconst 0, 1) := by decide +kernel
theorem dX9_foundAll_38 : decode cX9_foundAll 38 = .ok (.istore 6, 2) := by decide +kernel
theorem dX9_foundAll_40 : decode cX9_foundAll 40 = .ok (.iload 6, 2) := by decide +kernel
theorem dX9_foundAll_42 : decode cX9_foundAll 42 = .ok (.iload_n 2, 1) := by decide +kernel
theorem dX9_foundAll_43 : decode cX9_foundAll 43 = .ok (.if_icmp .ge 33, 3) := by decide +kernel
theorem dX9_foundAll_46 : decode cX9_foundAll 46 = .ok (.iload 5, 2) := by decide +kernel
theorem dX9_foundAll_48 : decode cX9_foundAll 48 = .ok (.ifCond .ne 15, 3) := by decide +kernel
theorem dX9_foundAll_51 : decode cX9_foundAll 51 = .ok (.aload_n 0, 1) := by decide +kernel
theorem dX9_foundAll_52 : decode cX9_foundAll 52 = .ok (.getfield 93, 3) := by decide +kernel
theorem dX9_foundAll_55 : decode cX9_foundAll 55 = .ok (.iload 6, 2) := by decide +kernel
theorem dX9_foundAll_57 : decode cX9_foundAll 57 = .ok (.iaload, 1) := by decide +kernel
theorem dX9_foundAll_58 : decode cX9_foundAll 58 = .ok (.iload 4, 2) := by decide +kernel
theorem dX9_foundAll_60 : decode cX9_foundAll 60 = .ok (.if_icmp .ne 7, 3) := by decide +kernel
theorem dX9_foundAll_63 : decode cX9_foundAll 63 = .ok (.iconst 1, 1) := by decide +kernel
theorem dX9_foundAll_64 : decode cX9_foundAll 64 = .ok (.goto 4, 3) := by decide +kernel
theorem dX9_foundAll_67 : decode cX9_foundAll 67 = .ok (.iconst 0, 1) := by decide +kernel
theorem dX9_foundAll_68 : decode cX9_foundAll 68 = .ok (.istore 5, 2) := by decide +kernel
theorem dX9_foundAll_70 : decode cX9_foundAll 70 = .ok (.iinc 6 1, 3) := by decide +kernel
theorem dX9_foundAll_73 : decode cX9_foundAll 73 = .ok (.goto (-33), 3) := by decide +kernel
theorem dX9_foundAll_76 : decode cX9_foundAll 76 = .ok (.iload 5, 2) := by decide +kernel
theorem dX9_foundAll_78 : decode cX9_foundAll 78 = .ok (.ifCond .ne 14, 3) := by decide +kernel
theorem dX9_foundAll_81 : decode cX9_foundAll 81 = .ok (.aload_n 0, 1) := by decide +kernel
theorem dX9_foundAll_82 : decode cX9_foundAll 82 = .ok (.getfield 93, 3) := by decide +kernel
theorem dX9_foundAll_85 : decode cX9_foundAll 85 = .ok (.iload_n 2, 1) := by decide +kernel
theorem dX9_foundAll_86 : decode cX9_foundAll 86 = .ok (.iload 4, 2) := by decide +kernel
theorem dX9_foundAll_88 : decode cX9_foundAll 88 = .ok (.iastore, 1) := by decide +kernel
theorem dX9_foundAll_89 : decode cX9_foundAll 89 = .ok (.iinc 2 1, 3) := by decide +kernel
theorem dX9_foundAll_92 : decode cX9_foundAll 92 = .ok (.iinc 3 1, 3) := by decide +kernel
theorem dX9_foundAll_95 : decode cX9_foundAll 95 = .ok (.goto (-87), 3) := by decide +kernel
theorem dX9_foundAll_98 : decode cX9_foundAll 98 = .ok (.iload_n 2, 1) := by decide +kernel
theorem dX9_foundAll_99 : decode cX9_foundAll 99 = .ok (.ireturn, 1) := by decide +kernel
theorem dX9_found_0 : decode cX9_found 0 = .ok (.iload_n 1, 1) := by decide +kernel
theorem dX9_found_1 : decode cX9_found 1 = .ok (.iconst 0, 1) := by decide +kernel
theorem dX9_found_2 : decode cX9_found 2 = .ok (.iconst 4, 1) := by decide +kernel
theorem dX9_found_3 : decode cX9_found 3 = .ok (.invokestatic 129, 3) := by decide +kernel
theorem dX9_found_6 : decode cX9_found 6 = .ok (.ifCond .eq 8, 3) := by decide +kernel
theorem dX9_found_9 : decode cX9_found 9 = .ok (.iload_n 2, 1) := by decide +kernel
theorem dX9_found_10 : decode cX9_found 10 = .ok (.iconst (-1), 1) := by decide +kernel
theorem dX9_found_11 : decode cX9_found 11 = .ok (.if_icmp .ge 5, 3) := by decide +kernel
theorem dX9_found_14 : decode cX9_found 14 = .ok (.iconst (-1), 1) := by decide +kernel
theorem dX9_found_15 : decode cX9_found 15 = .ok (.ireturn, 1) := by decide +kernel
theorem dX9_found_16 : decode cX9_found 16 = .ok (.aload_n 0, 1) := by decide +kernel
theorem dX9_found_17 : decode cX9_found 17 = .ok (.getfield 137, 3) := by decide +kernel
theorem dX9_found_20 : decode cX9_found 20 = .ok (.iload_n 1, 1) := by decide +kernel
theorem dX9_found_21 : decode cX9_found 21 = .ok (.if_icmp .ge 6, 3) := by decide +kernel
theorem dX9_found_24 : decode cX9_found 24 = .ok (.bipush (-3), 2) := by decide +kernel
theorem dX9_found_26 : decode cX9_found 26 = .ok (.ireturn, 1) := by decide +kernel
theorem dX9_found_27 : decode cX9_found 27 = .ok (.aload_n 0, 1) := by decide +kernel
theorem dX9_found_28 : decode cX9_found 28 = .ok (.iload_n 1, 1) := by decide +kernel
theorem dX9_found_29 : decode cX9_found 29 = .ok (.invokevirtual 250, 3) := by decide +kernel
theorem dX9_found_32 : decode cX9_found 32 = .ok (.istore_n 3, 1) := by decide +kernel
theorem dX9_found_33 : decode cX9_found 33 = .ok (.iload_n 2, 1) := by decide +kernel
theorem dX9_found_34 : decode cX9_found 34 = .ok (.iconst (-1), 1) := by decide +kernel
theorem dX9_found_35 : decode cX9_found 35 = .ok (.if_icmp .ne 7, 3) := by decide +kernel
theorem dX9_found_38 : decode cX9_found 38 = .ok (.iload_n 3, 1) := by decide +kernel
theorem dX9_found_39 : decode cX9_found 39 = .ok (.goto 19, 3) := by decide +kernel
theorem dX9_found_42 : decode cX9_found 42 = .ok (.iload_n 2, 1) := by decide +kernel
theorem dX9_found_43 : decode cX9_found 43 = .ok (.iload_n 3, 1) := by decide +kernel
theorem dX9_found_44 : decode cX9_found 44 = .ok (.if_icmp .ge 12, 3) := by decide +kernel
theorem dX9_found_47 : decode cX9_found 47 = .ok (.aload_n 0, 1) := by decide +kernel
theorem dX9_found_48 : decode cX9_found 48 = .ok (.getfield 93, 3) := by decide +kernel
theorem dX9_found_51 : decode cX9_found 51 = .ok (.iload_n 2, 1) := by decide +kernel
theorem dX9_found_52 : decode cX9_found 52 = .ok (.iaload, 1) := by decide +kernel
theorem dX9_found_53 : decode cX9_found 53 = .ok (.goto 5, 3) := by decide +kernel
theorem dX9_found_56 : decode cX9_found 56 = .ok (.bipush (-5), 2) := by decide +kernel
theorem dX9_found_58 : decode cX9_found 58 = .ok (.ireturn, 1) := by decide +kernel
theorem dX9_feed_0 : decode cX9_feed 0 = .ok (.iload_n 1, 1) := by decide +kernel
theorem dX9_feed_1 : decode cX9_feed 1 = .ok (.iconst 0, 1) := by decide +kernel
theorem dX9_feed_2 : decode cX9_feed 2 = .ok (.bipush 127, 2) := by decide +kernel
theorem dX9_feed_4 : decode cX9_feed 4 = .ok (.invokestatic 129, 3) := by decide +kernel
theorem dX9_feed_7 : decode cX9_feed 7 = .ok (.ifCond .ne 6, 3) := by decide +kernel
theorem dX9_feed_10 : decode cX9_feed 10 = .ok (.bipush (-2), 2) := by decide +kernel
theorem dX9_feed_12 : decode cX9_feed 12 = .ok (.ireturn, 1) := by decide +kernel
theorem dX9_feed_13 : decode cX9_feed 13 = .ok (.aload_n 0, 1) := by decide +kernel
theorem dX9_feed_14 : decode cX9_feed 14 = .ok (.getfield 253, 3) := by decide +kernel
theorem dX9_feed_17 : decode cX9_feed 17 = .ok (.bipush 60, 2) := by decide +kernel
theorem dX9_feed_19 : decode cX9_feed 19 = .ok (.if_icmp .ne 6, 3) := by decide +kernel
theorem dX9_feed_22 : decode cX9_feed 22 = .ok (.bipush (-4), 2) := by decide +kernel
theorem dX9_feed_24 : decode cX9_feed 24 = .ok (.ireturn, 1) := by decide +kernel
theorem dX9_feed_25 : decode cX9_feed 25 = .ok (.aload_n 0, 1) := by decide +kernel
theorem dX9_feed_26 : decode cX9_feed 26 = .ok (.getfield 66, 3) := by decide +kernel
theorem dX9_feed_29 : decode cX9_feed 29 = .ok (.aload_n 0, 1) := by decide +kernel
theorem dX9_feed_30 : decode cX9_feed 30 = .ok (.getfield 253, 3) := by decide +kernel
theorem dX9_feed_33 : decode cX9_feed 33 = .ok (.iload_n 1, 1) := by decide +kernel
theorem dX9_feed_34 : decode cX9_feed 34 = .ok (.iastore, 1) := by decide +kernel
theorem dX9_feed_35 : decode cX9_feed 35 = .ok (.aload_n 0, 1) := by decide +kernel
theorem dX9_feed_36 : decode cX9_feed 36 = .ok (.dup, 1) := by decide +kernel
theorem dX9_feed_37 : decode cX9_feed 37 = .ok (.getfield 253, 3) := by decide +kernel
theorem dX9_feed_40 : decode cX9_feed 40 = .ok (.iconst 1, 1) := by decide +kernel
theorem dX9_feed_41 : decode cX9_feed 41 = .ok (.iadd, 1) := by decide +kernel
theorem dX9_feed_42 : decode cX9_feed 42 = .ok (.putfield 253, 3) := by decide +kernel
theorem dX9_feed_45 : decode cX9_feed 45 = .ok (.aload_n 0, 1) := by decide +kernel
theorem dX9_feed_46 : decode cX9_feed 46 = .ok (.getfield 253, 3) := by decide +kernel
theorem dX9_feed_49 : decode cX9_feed 49 = .ok (.ireturn, 1) := by decide +kernel
theorem dX9_here_0 : decode cX9_here 0 = .ok (.aload_n 0, 1) := by decide +kernel
theorem dX9_here_1 : decode cX9_here 1 = .ok (.getfield 256, 3) := by decide +kernel
theorem dX9_here_4 : decode cX9_here 4 = .ok (.aload_n 0, 1) := by decide +kernel
theorem dX9_here_5 : decode cX9_here 5 = .ok (.getfield 253, 3) := by decide +kernel
theorem dX9_here_8 : decode cX9_here 8 = .ok (.if_icmp .ge 15, 3) := by decide +kernel
theorem dX9_here_11 : decode cX9_here 11 = .ok (.aload_n 0, 1) := by decide +kernel
theorem dX9_here_12 : decode cX9_here 12 = .ok (.getfield 66, 3) := by decide +kernel
theorem dX9_here_15 : decode cX9_here 15 = .ok (.aload_n 0, 1) := by decide +kernel
theorem dX9_here_16 : decode cX9_here 16 = .ok (.getfield 256, 3) := by decide +kernel
theorem dX9_here_19 : decode cX9_here 19 = .ok (.iaload, 1) := by decide +kernel
theorem dX9_here_20 : decode cX9_here 20 = .ok (.goto 4, 3) := by decide +kernel
theorem dX9_here_23 : decode cX9_here 23 = .ok (.iconst (-1), 1) := by decide +kernel
theorem dX9_here_24 : decode cX9_here 24 = .ok (.ireturn, 1) := by decide +kernel
theorem dX9_isFigure_0 : decode cX9_isFigure 0 = .ok (.aload_n 0, 1) := by decide +kernel
theorem dX9_isFigure_1 : decode cX9_isFigure 1 = .ok (.invokevirtual 259, 3) := by decide +kernel
theorem dX9_isFigure_4 : decode cX9_isFigure 4 = .ok (.bipush 48, 2) := by decide +kernel
theorem dX9_isFigure_6 : decode cX9_isFigure 6 = .ok (.bipush 57, 2) := by decide +kernel
theorem dX9_isFigure_8 : decode cX9_isFigure 8 = .ok (.invokestatic 129, 3) := by decide +kernel
theorem dX9_isFigure_11 : decode cX9_isFigure 11 = .ok (.ireturn, 1) := by decide +kernel
theorem dX9_number_0 : decode cX9_number 0 = .ok (.iconst 0, 1) := by decide +kernel
theorem dX9_number_1 : decode cX9_number 1 = .ok (.istore_n 1, 1) := by decide +kernel
theorem dX9_number_2 : decode cX9_number 2 = .ok (.iconst 0, 1) := by decide +kernel
theorem dX9_number_3 : decode cX9_number 3 = .ok (.istore_n 2, 1) := by decide +kernel
theorem dX9_number_4 : decode cX9_number 4 = .ok (.iload_n 2, 1) := by decide +kernel
theorem dX9_number_5 : decode cX9_number 5 = .ok (.iconst 3, 1) := by decide +kernel
theorem dX9_number_6 : decode cX9_number 6 = .ok (.if_icmp .ge 39, 3) := by decide +kernel
theorem dX9_number_9 : decode cX9_number 9 = .ok (.aload_n 0, 1) := by decide +kernel
theorem dX9_number_10 : decode cX9_number 10 = .ok (.invokevirtual 263, 3) := by decide +kernel
theorem dX9_number_13 : decode cX9_number 13 = .ok (.ifCond .eq 32, 3) := by decide +kernel
theorem dX9_number_16 : decode cX9_number 16 = .ok (.bipush 10, 2) := by decide +kernel
theorem dX9_number_18 : decode cX9_number 18 = .ok (.iload_n 1, 1) := by decide +kernel
theorem dX9_number_19 : decode cX9_number 19 = .ok (.imul, 1) := by decide +kernel
theorem dX9_number_20 : decode cX9_number 20 = .ok (.aload_n 0, 1) := by decide +kernel
theorem dX9_number_21 : decode cX9_number 21 = .ok (.invokevirtual 259, 3) := by decide +kernel
theorem dX9_number_24 : decode cX9_number 24 = .ok (.iadd, 1) := by decide +kernel
theorem dX9_number_25 : decode cX9_number 25 = .ok (.bipush 48, 2) := by decide +kernel
theorem dX9_number_27 : decode cX9_number 27 = .ok (.isub, 1) := by decide +kernel
theorem dX9_number_28 : decode cX9_number 28 = .ok (.istore_n 1, 1) := by decide +kernel
theorem dX9_number_29 : decode cX9_number 29 = .ok (.aload_n 0, 1) := by decide +kernel
theorem dX9_number_30 : decode cX9_number 30 = .ok (.dup, 1) := by decide +kernel
theorem dX9_number_31 : decode cX9_number 31 = .ok (.getfield 256, 3) := by decide +kernel
theorem dX9_number_34 : decode cX9_number 34 = .ok (.iconst 1, 1) := by decide +kernel
theorem dX9_number_35 : decode cX9_number 35 = .ok (.iadd, 1) := by decide +kernel
theorem dX9_number_36 : decode cX9_number 36 = .ok (.putfield 256, 3) := by decide +kernel
theorem dX9_number_39 : decode cX9_number 39 = .ok (.iinc 2 1, 3) := by decide +kernel
theorem dX9_number_42 : decode cX9_number 42 = .ok (.goto (-38), 3) := by decide +kernel
theorem dX9_number_45 : decode cX9_number 45 = .ok (.iload_n 2, 1) := by decide +kernel
theorem dX9_number_46 : decode cX9_number 46 = .ok (.ifCond .ne 7, 3) := by decide +kernel
theorem dX9_number_49 : decode cX9_number 49 = .ok (.iconst (-1), 1) := by decide +kernel
theorem dX9_number_50 : decode cX9_number 50 = .ok (.goto 4, 3) := by decide +kernel
theorem dX9_number_53 : decode cX9_number 53 = .ok (.iload_n 1, 1) := by decide +kernel
theorem dX9_number_54 : decode cX9_number 54 = .ok (.ireturn, 1) := by decide +kernel
theorem dX9_add_0 : decode cX9_add 0 = .ok (.aload_n 0, 1) := by decide +kernel
theorem dX9_add_1 : decode cX9_add 1 = .ok (.getfield 96, 3) := by decide +kernel
theorem dX9_add_4 : decode cX9_add 4 = .ok (.aload_n 0, 1) := by decide +kernel
theorem dX9_add_5 : decode cX9_add 5 = .ok (.getfield 267, 3) := by decide +kernel
theorem dX9_add_8 : decode cX9_add 8 = .ok (.iload_n 1, 1) := by decide +kernel
theorem dX9_add_9 : decode cX9_add 9 = .ok (.iastore, 1) := by decide +kernel
theorem dX9_add_10 : decode cX9_add 10 = .ok (.aload_n 0, 1) := by decide +kernel
theorem dX9_add_11 : decode cX9_add 11 = .ok (.getfield 99, 3) := by decide +kernel
theorem dX9_add_14 : decode cX9_add 14 = .ok (.aload_n 0, 1) := by decide +kernel
theorem dX9_add_15 : decode cX9_add 15 = .ok (.getfield 267, 3) := by decide +kernel
theorem dX9_add_18 : decode cX9_add 18 = .ok (.iload_n 2, 1) := by decide +kernel
theorem dX9_add_19 : decode cX9_add 19 = .ok (.iastore, 1) := by decide +kernel
theorem dX9_add_20 : decode cX9_add 20 = .ok (.aload_n 0, 1) := by decide +kernel
theorem dX9_add_21 : decode cX9_add 21 = .ok (.getfield 102, 3) := by decide +kernel
theorem dX9_add_24 : decode cX9_add 24 = .ok (.aload_n 0, 1) := by decide +kernel
theorem dX9_add_25 : decode cX9_add 25 = .ok (.getfield 267, 3) := by decide +kernel
theorem dX9_add_28 : decode cX9_add 28 = .ok (.iload_n 3, 1) := by decide +kernel
theorem dX9_add_29 : decode cX9_add 29 = .ok (.iastore, 1) := by decide +kernel
theorem dX9_add_30 : decode cX9_add 30 = .ok (.aload_n 0, 1) := by decide +kernel
theorem dX9_add_31 : decode cX9_add 31 = .ok (.getfield 105, 3) := by decide +kernel
theorem dX9_add_34 : decode cX9_add 34 = .ok (.aload_n 0, 1) := by decide +kernel
theorem dX9_add_35 : decode cX9_add 35 = .ok (.getfield 267, 3) := by decide +kernel
theorem dX9_add_38 : decode cX9_add 38 = .ok (.iload 4, 2) := by decide +kernel
theorem dX9_add_40 : decode cX9_add 40 = .ok (.iastore, 1) := by decide +kernel
theorem dX9_add_41 : decode cX9_add 41 = .ok (.aload_n 0, 1) := by decide +kernel
theorem dX9_add_42 : decode cX9_add 42 = .ok (.dup, 1) := by decide +kernel
theorem dX9_add_43 : decode cX9_add 43 = .ok (.getfield 267, 3) := by decide +kernel
theorem dX9_add_46 : decode cX9_add 46 = .ok (.iconst 1, 1) := by decide +kernel
theorem dX9_add_47 : decode cX9_add 47 = .ok (.iadd, 1) := by decide +kernel
theorem dX9_add_48 : decode cX9_add 48 = .ok (.putfield 267, 3) := by decide +kernel
theorem dX9_add_51 : decode cX9_add 51 = .ok (.return_, 1) := by decide +kernel
theorem dX9_isFraction_0 : decode cX9_isFraction 0 = .ok (.aload_n 0, 1) := by decide +kernel
theorem dX9_isFraction_1 : decode cX9_isFraction 1 = .ok (.getfield 256, 3) := by decide +kernel
theorem dX9_isFraction_4 : decode cX9_isFraction 4 = .ok (.istore_n 1, 1) := by decide +kernel
theorem dX9_isFraction_5 : decode cX9_isFraction 5 = .ok (.aload_n 0, 1) := by decide +kernel
theorem dX9_isFraction_6 : decode cX9_isFraction 6 = .ok (.invokevirtual 270, 3) := by decide +kernel
theorem dX9_isFraction_9 : decode cX9_isFraction 9 = .ok (.istore_n 2, 1) := by decide +kernel
theorem dX9_isFraction_10 : decode cX9_isFraction 10 = .ok (.iconst 1, 1) := by decide +kernel
theorem dX9_isFraction_11 : decode cX9_isFraction 11 = .ok (.istore_n 3, 1) := by decide +kernel
theorem dX9_isFraction_12 : decode cX9_isFraction 12 = .ok (.aload_n 0, 1) := by decide +kernel
theorem dX9_isFraction_13 : decode cX9_isFraction 13 = .ok (.invokevirtual 259, 3) := by decide +kernel
theorem dX9_isFraction_16 : decode cX9_isFraction 16 = .ok (.bipush 47, 2) := by decide +kernel
theorem dX9_isFraction_18 : decode cX9_isFraction 18 = .ok (.if_icmp .ne 49, 3) := by decide +kernel
theorem dX9_isFraction_21 : decode cX9_isFraction 21 = .ok (.aload_n 0, 1) := by decide +kernel
theorem dX9_isFraction_22 : decode cX9_isFraction 22 = .ok (.dup, 1) := by decide +kernel
theorem dX9_isFraction_23 : decode cX9_isFraction 23 = .ok (.getfield 256, 3) := by decide +kernel
theorem dX9_isFraction_26 : decode cX9_isFraction 26 = .ok (.iconst 1, 1) := by decide +kernel
theorem dX9_isFraction_27 : decode cX9_isFraction 27 = .ok (.iadd, 1) := by decide +kernel
theorem dX9_isFraction_28 : decode cX9_isFraction 28 = .ok (.putfield 256, 3) := by decide +kernel
theorem dX9_isFraction_31 : decode cX9_isFraction 31 = .ok (.aload_n 0, 1) := by decide +kernel
theorem dX9_isFraction_32 : decode cX9_isFraction 32 = .ok (.getfield 256, 3) := by decide +kernel
theorem dX9_isFraction_35 : decode cX9_isFraction 35 = .ok (.istore 4, 2) := by decide +kernel
theorem dX9_isFraction_37 : decode cX9_isFraction 37 = .ok (.aload_n 0, 1) := by decide +kernel
theorem dX9_isFraction_38 : decode cX9_isFraction 38 = .ok (.invokevirtual 270, 3) := by decide +kernel
theorem dX9_isFraction_41 : decode cX9_isFraction 41 = .ok (.istore_n 3, 1) := by decide +kernel
theorem dX9_isFraction_42 : decode cX9_isFraction 42 = .ok (.iload_n 3, 1) := by decide +kernel
theorem dX9_isFraction_43 : decode cX9_isFraction 43 = .ok (.ifCond .lt 10, 3) := by decide +kernel
theorem dX9_isFraction_46 : decode cX9_isFraction 46 = .ok (.aload_n 0, 1) := by decide +kernel
theorem dX9_isFraction_47 : decode cX9_isFraction 47 = .ok (.invokevirtual 263, 3) := by decide +kernel
theorem dX9_isFraction_50 : decode cX9_isFraction 50 = .ok (.ifCond .eq 5, 3) := by decide +kernel
theorem dX9_isFraction_53 : decode cX9_isFraction 53 = .ok (.iconst 0, 1) := by decide +kernel
theorem dX9_isFraction_54 : decode cX9_isFraction 54 = .ok (.ireturn, 1) := by decide +kernel
theorem dX9_isFraction_55 : decode cX9_isFraction 55 = .ok (.iload_n 3, 1) := by decide +kernel
theorem dX9_isFraction_56 : decode cX9_isFraction 56 = .ok (.ifCond .ne 11, 3) := by decide +kernel
theorem dX9_isFraction_59 : decode cX9_isFraction 59 = .ok (.aload_n 0, 1) := by decide +kernel
theorem dX9_isFraction_60 : decode cX9_isFraction 60 = .ok (.iload 4, 2) := by decide +kernel
theorem dX9_isFraction_62 : decode cX9_isFraction 62 = .ok (.putfield 256, 3) := by decide +kernel
theorem dX9_isFraction_65 : decode cX9_isFraction 65 = .ok (.iconst 0, 1) := by decide +kernel
theorem dX9_isFraction_66 : decode cX9_isFraction 66 = .ok (.ireturn, 1) := by decide +kernel
theorem dX9_isFraction_67 : decode cX9_isFraction 67 = .ok (.aload_n 0, 1) := by decide +kernel
theorem dX9_isFraction_68 : decode cX9_isFraction 68 = .ok (.bipush 49, 2) := by decide +kernel
theorem dX9_isFraction_70 : decode cX9_isFraction 70 = .ok (.iload_n 1, 1) := by decide +kernel
theorem dX9_isFraction_71 : decode cX9_isFraction 71 = .ok (.iload_n 2, 1) := by decide +kernel
theorem dX9_isFraction_72 : decode cX9_isFraction 72 = .ok (.iload_n 3, 1) := by decide +kernel
theorem dX9_isFraction_73 : decode cX9_isFraction 73 = .ok (.invokevirtual 273, 3) := by decide +kernel
theorem dX9_isFraction_76 : decode cX9_isFraction 76 = .ok (.iconst 1, 1) := by decide +kernel
theorem dX9_isFraction_77 : decode cX9_isFraction 77 = .ok (.ireturn, 1) := by decide +kernel
theorem dX9_isNetwork_0 : decode cX9_isNetwork 0 = .ok (.aload_n 0, 1) := by decide +kernel
theorem dX9_isNetwork_1 : decode cX9_isNetwork 1 = .ok (.getfield 256, 3) := by decide +kernel
theorem dX9_isNetwork_4 : decode cX9_isNetwork 4 = .ok (.istore_n 2, 1) := by decide +kernel
theorem dX9_isNetwork_5 : decode cX9_isNetwork 5 = .ok (.iconst 0, 1) := by decide +kernel
theorem dX9_isNetwork_6 : decode cX9_isNetwork 6 = .ok (.istore_n 3, 1) := by decide +kernel
theorem dX9_isNetwork_7 : decode cX9_isNetwork 7 = .ok (.iconst 0, 1) := by decide +kernel
theorem dX9_isNetwork_8 : decode cX9_isNetwork 8 = .ok (.istore 4, 2) := by decide +kernel
theorem dX9_isNetwork_10 : decode cX9_isNetwork 10 = .ok (.iconst 0, 1) := by decide +kernel
theorem dX9_isNetwork_11 : decode cX9_isNetwork 11 = .ok (.istore 5, 2) := by decide +kernel
theorem dX9_isNetwork_13 : decode cX9_isNetwork 13 = .ok (.iconst 0, 1) := by decide +kernel
theorem dX9_isNetwork_14 : decode cX9_isNetwork 14 = .ok (.istore 6, 2) := by decide +kernel
theorem dX9_isNetwork_16 : decode cX9_isNetwork 16 = .ok (.iconst 1, 1) := by decide +kernel
theorem dX9_isNetwork_17 : decode cX9_isNetwork 17 = .ok (.istore 7, 2) := by decide +kernel
theorem dX9_isNetwork_19 : decode cX9_isNetwork 19 = .ok (.aload_n 0, 1) := by decide +kernel
theorem dX9_isNetwork_20 : decode cX9_isNetwork 20 = .ok (.dup, 1) := by decide +kernel
theorem dX9_isNetwork_21 : decode cX9_isNetwork 21 = .ok (.getfield 256, 3) := by decide +kernel
theorem dX9_isNetwork_24 : decode cX9_isNetwork 24 = .ok (.iconst 1, 1) := by decide +kernel
theorem dX9_isNetwork_25 : decode cX9_isNetwork 25 = .ok (.iadd, 1) := by decide +kernel
theorem dX9_isNetwork_26 : decode cX9_isNetwork 26 = .ok (.putfield 256, 3) := by decide +kernel
theorem dX9_isNetwork_29 : decode cX9_isNetwork 29 = .ok (.iload_n 3, 1) := by decide +kernel
theorem dX9_isNetwork_30 : decode cX9_isNetwork 30 = .ok (.bipush 9, 2) := by decide +kernel
theorem dX9_isNetwork_32 : decode cX9_isNetwork 32 = .ok (.if_icmp .ge 135, 3) := by decide +kernel
theorem dX9_isNetwork_35 : decode cX9_isNetwork 35 = .ok (.aload_n 0, 1) := by decide +kernel
theorem dX9_isNetwork_36 : decode cX9_isNetwork 36 = .ok (.invokevirtual 263, 3) := by decide +kernel
theorem dX9_isNetwork_39 : decode cX9_isNetwork 39 = .ok (.ifCond .eq 128, 3) := by decide +kernel
theorem dX9_isNetwork_42 : decode cX9_isNetwork 42 = .ok (.aload_n 0, 1) := by decide +kernel
theorem dX9_isNetwork_43 : decode cX9_isNetwork 43 = .ok (.invokevirtual 259, 3) := by decide +kernel
theorem dX9_isNetwork_46 : decode cX9_isNetwork 46 = .ok (.bipush 48, 2) := by decide +kernel
theorem dX9_isNetwork_48 : decode cX9_isNetwork 48 = .ok (.isub, 1) := by decide +kernel
theorem dX9_isNetwork_49 : decode cX9_isNetwork 49 = .ok (.istore 8, 2) := by decide +kernel
theorem dX9_isNetwork_51 : decode cX9_isNetwork 51 = .ok (.iload_n 3, 1) := by decide +kernel
theorem dX9_isNetwork_52 : decode cX9_isNetwork 52 = .ok (.ifCond .ne 29, 3) := by decide +kernel
theorem dX9_isNetwork_55 : decode cX9_isNetwork 55 = .ok (.iload 8, 2) := by decide +kernel
theorem dX9_isNetwork_57 : decode cX9_isNetwork 57 = .ok (.istore 4, 2) := by decide +kernel
theorem dX9_isNetwork_59 : decode cX9_isNetwork 59 = .ok (.iload 4, 2) := by decide +kernel
theorem dX9_isNetwork_61 : decode cX9_isNetwork 61 = .ok (.iload_n 1, 1) := by decide +kernel
theorem dX9_isNetwork_62 : decode cX9_isNetwork 62 = .ok (.bipush 91, 2) := by decide +kernel
theorem dX9_isNetwork_64 : decode cX9_isNetwork 64 = .ok (.if_icmp .ne 7, 3) := by decide +kernel
theorem dX9_isNetwork_67 : decode cX9_isNetwork 67 = .ok (.iconst 0, 1) := by decide +kernel
theorem dX9_isNetwork_68 : decode cX9_isNetwork 68 = .ok (.goto 4, 3) := by decide +kernel
theorem dX9_isNetwork_71 : decode cX9_isNetwork 71 = .ok (.iconst 1, 1) := by decide +kernel
theorem dX9_isNetwork_72 : decode cX9_isNetwork 72 = .ok (.iconst 4, 1) := by decide +kernel
theorem dX9_isNetwork_73 : decode cX9_isNetwork 73 = .ok (.invokestatic 129, 3) := by decide +kernel
theorem dX9_isNetwork_76 : decode cX9_isNetwork 76 = .ok (.istore 7, 2) := by decide +kernel
theorem dX9_isNetwork_78 : decode cX9_isNetwork 78 = .ok (.goto 73, 3) := by decide +kernel
theorem dX9_isNetwork_81 : decode cX9_isNetwork 81 = .ok (.iload_n 3, 1) := by decide +kernel
theorem dX9_isNetwork_82 : decode cX9_isNetwork 82 = .ok (.iconst 2, 1) := by decide +kernel
theorem dX9_isNetwork_83 : decode cX9_isNetwork 83 = .ok (.irem, 1) := by decide +kernel
theorem dX9_isNetwork_84 : decode cX9_isNetwork 84 = .ok (.iconst 1, 1) := by decide +kernel
theorem dX9_isNetwork_85 : decode cX9_isNetwork 85 = .ok (.if_icmp .ne 10, 3) := by decide +kernel
theorem dX9_isNetwork_88 : decode cX9_isNetwork 88 = .ok (.iload 8, 2) := by decide +kernel
theorem dX9_isNetwork_90 : decode cX9_isNetwork 90 = .ok (.istore 6, 2) := by decide +kernel
theorem dX9_isNetwork_92 : decode cX9_isNetwork 92 = .ok (.goto 59, 3) := by decide +kernel
theorem dX9_isNetwork_95 : decode cX9_isNetwork 95 = .ok (.iload 7, 2) := by decide +kernel
theorem dX9_isNetwork_97 : decode cX9_isNetwork 97 = .ok (.ifCond .eq 28, 3) := by decide +kernel
theorem dX9_isNetwork_100 : decode cX9_isNetwork 100 = .ok (.iload 8, 2) := by decide +kernel
theorem dX9_isNetwork_102 : decode cX9_isNetwork 102 = .ok (.iload 6, 2) := by decide +kernel
theorem dX9_isNetwork_104 : decode cX9_isNetwork 104 = .ok (.if_icmp .eq 21, 3) := by decide +kernel
theorem dX9_isNetwork_107 : decode cX9_isNetwork 107 = .ok (.iload 8, 2) := by decide +kernel
theorem dX9_isNetwork_109 : decode cX9_isNetwork 109 = .ok (.iload 4, 2) := by decide +kernel
theorem dX9_isNetwork_111 : decode cX9_isNetwork 111 = .ok (.if_icmp .ge 14, 3) := by decide +kernel
theorem dX9_isNetwork_114 : decode cX9_isNetwork 114 = .ok (.iload 6, 2) := by decide +kernel
theorem dX9_isNetwork_116 : decode cX9_isNetwork 116 = .ok (.iload 4, 2) := by decide +kernel
theorem dX9_isNetwork_118 : decode cX9_isNetwork 118 = .ok (.if_icmp .ge 7, 3) := by decide +kernel
theorem dX9_isNetwork_121 : decode cX9_isNetwork 121 = .ok (.iconst 1, 1) := by decide +kernel
theorem dX9_isNetwork_122 : decode cX9_isNetwork 122 = .ok (.goto 4, 3) := by decide +kernel
theorem dX9_isNetwork_125 : decode cX9_isNetwork 125 = .ok (.iconst 0, 1) := by decide +kernel
theorem dX9_isNetwork_126 : decode cX9_isNetwork 126 = .ok (.istore 7, 2) := by decide +kernel
theorem dX9_isNetwork_128 : decode cX9_isNetwork 128 = .ok (.iload 5, 2) := by decide +kernel
theorem dX9_isNetwork_130 : decode cX9_isNetwork 130 = .ok (.iload 7, 2) := by decide +kernel
theorem dX9_isNetwork_132 : decode cX9_isNetwork 132 = .ok (.ifCond .eq 15, 3) := by decide +kernel
theorem dX9_isNetwork_135 : decode cX9_isNetwork 135 = .ok (.iconst 1, 1) := by decide +kernel
theorem dX9_isNetwork_136 : decode cX9_isNetwork 136 = .ok (.iload 6, 2) := by decide +kernel
theorem dX9_isNetwork_138 : decode cX9_isNetwork 138 = .ok (.iload 8, 2) := by decide +kernel
theorem dX9_isNetwork_140 : decode cX9_isNetwork 140 = .ok (.invokestatic 9, 3) := by decide +kernel
theorem dX9_isNetwork_143 : decode cX9_isNetwork 143 = .ok (.ishl, 1) := by decide +kernel
theorem dX9_isNetwork_144 : decode cX9_isNetwork 144 = .ok (.goto 4, 3) := by decide +kernel
theorem dX9_isNetwork_147 : decode cX9_isNetwork 147 = .ok (.iconst 0, 1) := by decide +kernel
theorem dX9_isNetwork_148 : decode cX9_isNetwork 148 = .ok (.ior, 1) := by decide +kernel
theorem dX9_isNetwork_149 : decode cX9_isNetwork 149 = .ok (.istore 5, 2) := by decide +kernel
theorem dX9_isNetwork_151 : decode cX9_isNetwork 151 = .ok (.aload_n 0, 1) := by decide +kernel
theorem dX9_isNetwork_152 : decode cX9_isNetwork 152 = .ok (.dup, 1) := by decide +kernel
theorem dX9_isNetwork_153 : decode cX9_isNetwork 153 = .ok (.getfield 256, 3) := by decide +kernel
theorem dX9_isNetwork_156 : decode cX9_isNetwork 156 = .ok (.iconst 1, 1) := by decide +kernel
theorem dX9_isNetwork_157 : decode cX9_isNetwork 157 = .ok (.iadd, 1) := by decide +kernel
theorem dX9_isNetwork_158 : decode cX9_isNetwork 158 = .ok (.putfield 256, 3) := by decide +kernel
theorem dX9_isNetwork_161 : decode cX9_isNetwork 161 = .ok (.iinc 3 1, 3) := by decide +kernel
theorem dX9_isNetwork_164 : decode cX9_isNetwork 164 = .ok (.goto (-135), 3) := by decide +kernel
theorem dX9_isNetwork_167 : decode cX9_isNetwork 167 = .ok (.iload_n 3, 1) := by decide +kernel
theorem dX9_isNetwork_168 : decode cX9_isNetwork 168 = .ok (.ifCond .eq 23, 3) := by decide +kernel
theorem dX9_isNetwork_171 : decode cX9_isNetwork 171 = .ok (.aload_n 0, 1) := by decide +kernel
theorem dX9_isNetwork_172 : decode cX9_isNetwork 172 = .ok (.invokevirtual 259, 3) := by decide +kernel
theorem dX9_isNetwork_175 : decode cX9_isNetwork 175 = .ok (.iload_n 1, 1) := by decide +kernel
theorem dX9_isNetwork_176 : decode cX9_isNetwork 176 = .ok (.bipush 91, 2) := by decide +kernel
theorem dX9_isNetwork_178 : decode cX9_isNetwork 178 = .ok (.if_icmp .ne 8, 3) := by decide +kernel
theorem dX9_isNetwork_181 : decode cX9_isNetwork 181 = .ok (.bipush 93, 2) := by decide +kernel
theorem dX9_isNetwork_183 : decode cX9_isNetwork 183 = .ok (.goto 5, 3) := by decide +kernel
theorem dX9_isNetwork_186 : decode cX9_isNetwork 186 = .ok (.bipush 62, 2) := by decide +kernel
theorem dX9_isNetwork_188 : decode cX9_isNetwork 188 = .ok (.if_icmp .eq 5, 3) := by decide +kernel
theorem dX9_isNetwork_191 : decode cX9_isNetwork 191 = .ok (.iconst 0, 1) := by decide +kernel
theorem dX9_isNetwork_192 : decode cX9_isNetwork 192 = .ok (.ireturn, 1) := by decide +kernel
theorem dX9_isNetwork_193 : decode cX9_isNetwork 193 = .ok (.aload_n 0, 1) := by decide +kernel
theorem dX9_isNetwork_194 : decode cX9_isNetwork 194 = .ok (.dup, 1) := by decide +kernel
theorem dX9_isNetwork_195 : decode cX9_isNetwork 195 = .ok (.getfield 256, 3) := by decide +kernel
theorem dX9_isNetwork_198 : decode cX9_isNetwork 198 = .ok (.iconst 1, 1) := by decide +kernel
theorem dX9_isNetwork_199 : decode cX9_isNetwork 199 = .ok (.iadd, 1) := by decide +kernel
theorem dX9_isNetwork_200 : decode cX9_isNetwork 200 = .ok (.putfield 256, 3) := by decide +kernel
theorem dX9_isNetwork_203 : decode cX9_isNetwork 203 = .ok (.iload 7, 2) := by decide +kernel
theorem dX9_isNetwork_205 : decode cX9_isNetwork 205 = .ok (.ifCond .eq 14, 3) := by decide +kernel
theorem dX9_isNetwork_208 : decode cX9_isNetwork 208 = .ok (.iload_n 3, 1) := by decide +kernel
theorem dX9_isNetwork_209 : decode cX9_isNetwork 209 = .ok (.iconst 2, 1) := by decide +kernel
theorem dX9_isNetwork_210 : decode cX9_isNetwork 210 = .ok (.irem, 1) := by decide +kernel
theorem dX9_isNetwork_211 : decode cX9_isNetwork 211 = .ok (.iconst 1, 1) := by decide +kernel
theorem dX9_isNetwork_212 : decode cX9_isNetwork 212 = .ok (.if_icmp .ne 7, 3) := by decide +kernel
theorem dX9_isNetwork_215 : decode cX9_isNetwork 215 = .ok (.iconst 1, 1) := by decide +kernel
theorem dX9_isNetwork_216 : decode cX9_isNetwork 216 = .ok (.goto 4, 3) := by decide +kernel
theorem dX9_isNetwork_219 : decode cX9_isNetwork 219 = .ok (.iconst 0, 1) := by decide +kernel
theorem dX9_isNetwork_220 : decode cX9_isNetwork 220 = .ok (.istore 7, 2) := by decide +kernel
theorem dX9_isNetwork_222 : decode cX9_isNetwork 222 = .ok (.iload 7, 2) := by decide +kernel
theorem dX9_isNetwork_224 : decode cX9_isNetwork 224 = .ok (.ifCond .ne 7, 3) := by decide +kernel
theorem dX9_isNetwork_227 : decode cX9_isNetwork 227 = .ok (.iconst (-1), 1) := by decide +kernel
theorem dX9_isNetwork_228 : decode cX9_isNetwork 228 = .ok (.goto 38, 3) := by decide +kernel
theorem dX9_isNetwork_231 : decode cX9_isNetwork 231 = .ok (.iload_n 1, 1) := by decide +kernel
theorem dX9_isNetwork_232 : decode cX9_isNetwork 232 = .ok (.bipush 91, 2) := by decide +kernel
theorem dX9_isNetwork_234 : decode cX9_isNetwork 234 = .ok (.if_icmp .ne 19, 3) := by decide +kernel
theorem dX9_isNetwork_237 : decode cX9_isNetwork 237 = .ok (.aload_n 0, 1) := by decide +kernel
theorem dX9_isNetwork_238 : decode cX9_isNetwork 238 = .ok (.getfield 34, 3) := by decide +kernel
theorem dX9_isNetwork_241 : decode cX9_isNetwork 241 = .ok (.bipush 64, 2) := by decide +kernel
theorem dX9_isNetwork_243 : decode cX9_isNetwork 243 = .ok (.iload 4, 2) := by decide +kernel
theorem dX9_isNetwork_245 : decode cX9_isNetwork 245 = .ok (.imul, 1) := by decide +kernel
theorem dX9_isNetwork_246 : decode cX9_isNetwork 246 = .ok (.iload 5, 2) := by decide +kernel
theorem dX9_isNetwork_248 : decode cX9_isNetwork 248 = .ok (.iadd, 1) := by decide +kernel
theorem dX9_isNetwork_249 : decode cX9_isNetwork 249 = .ok (.iaload, 1) := by decide +kernel
theorem dX9_isNetwork_250 : decode cX9_isNetwork 250 = .ok (.goto 16, 3) := by decide +kernel
theorem dX9_isNetwork_253 : decode cX9_isNetwork 253 = .ok (.aload_n 0, 1) := by decide +kernel
theorem dX9_isNetwork_254 : decode cX9_isNetwork 254 = .ok (.getfield 37, 3) := by decide +kernel
theorem dX9_isNetwork_257 : decode cX9_isNetwork 257 = .ok (.bipush 64, 2) := by decide +kernel
theorem dX9_isNetwork_259 : decode cX9_isNetwork 259 = .ok (.iload 4, 2) := by decide +kernel
theorem dX9_isNetwork_261 : decode cX9_isNetwork 261 = .ok (.imul, 1) := by decide +kernel
theorem dX9_isNetwork_262 : decode cX9_isNetwork 262 = .ok (.iload 5, 2) := by decide +kernel
theorem dX9_isNetwork_264 : decode cX9_isNetwork 264 = .ok (.iadd, 1) := by decide +kernel
theorem dX9_isNetwork_265 : decode cX9_isNetwork 265 = .ok (.iaload, 1) := by decide +kernel
theorem dX9_isNetwork_266 : decode cX9_isNetwork 266 = .ok (.istore 8, 2) := by decide +kernel
theorem dX9_isNetwork_268 : decode cX9_isNetwork 268 = .ok (.aload_n 0, 1) := by decide +kernel
theorem dX9_isNetwork_269 : decode cX9_isNetwork 269 = .ok (.iload_n 1, 1) := by decide +kernel
theorem dX9_isNetwork_270 : decode cX9_isNetwork 270 = .ok (.iload_n 2, 1) := by decide +kernel
theorem dX9_isNetwork_271 : decode cX9_isNetwork 271 = .ok (.iload 8, 2) := by decide +kernel
theorem dX9_isNetwork_273 : decode cX9_isNetwork 273 = .ok (.iconst 0, 1) := by decide +kernel
theorem dX9_isNetwork_274 : decode cX9_isNetwork 274 = .ok (.invokevirtual 273, 3) := by decide +kernel
theorem dX9_isNetwork_277 : decode cX9_isNetwork 277 = .ok (.iconst 1, 1) := by decide +kernel
theorem dX9_isNetwork_278 : decode cX9_isNetwork 278 = .ok (.ireturn, 1) := by decide +kernel
theorem dX9_isOne_0 : decode cX9_isOne 0 = .ok (.aload_n 0, 1) := by decide +kernel
theorem dX9_isOne_1 : decode cX9_isOne 1 = .ok (.invokevirtual 259, 3) := by decide +kernel
theorem dX9_isOne_4 : decode cX9_isOne 4 = .ok (.istore_n 1, 1) := by decide +kernel
theorem dX9_isOne_5 : decode cX9_isOne 5 = .ok (.iload_n 1, 1) := by decide +kernel
theorem dX9_isOne_6 : decode cX9_isOne 6 = .ok (.bipush 40, 2) := by decide +kernel
theorem dX9_isOne_8 : decode cX9_isOne 8 = .ok (.if_icmp .eq 9, 3) := by decide +kernel
theorem dX9_isOne_11 : decode cX9_isOne 11 = .ok (.iload_n 1, 1) := by decide +kernel
theorem dX9_isOne_12 : decode cX9_isOne 12 = .ok (.bipush 123, 2) := by decide +kernel
