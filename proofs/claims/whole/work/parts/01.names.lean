-- ===== PART A: goes FIRST, ahead of the names: the tables' words, and 'selects' of the private methods out of them =====
/-- a private method of a class that the tables say can be made, by its rows of tables_1 -/
def lw_okq (q : MethodName × Nat) : Prop := (q.1.cls ≠ "java/lang/invoke/MethodHandle" ∧ q.1.cls ≠ "java/lang/invoke/VarHandle") ∧ Cond.instantiable q.1.cls q.2 ∈ tables_1 ∧ Cond.privateMethod q.1 ∈ tables_1 ∧ Cond.instanceMethod q.1 ∈ tables_1
theorem lw_p0 : lw_okq (⟨"DensitiesOfNets$Family", "numberAll", "()V"⟩, 13) := ⟨⟨by decide +kernel, by decide +kernel⟩, List.mem_of_getElem? (i := 22) (by decide +kernel), List.mem_of_getElem? (i := 38) (by decide +kernel), List.mem_of_getElem? (i := 39) (by decide +kernel)⟩
theorem lw_p1 : lw_okq (⟨"DensitiesOfNets$Family", "leastCode", "(II)I"⟩, 13) := ⟨⟨by decide +kernel, by decide +kernel⟩, List.mem_of_getElem? (i := 22) (by decide +kernel), List.mem_of_getElem? (i := 49) (by decide +kernel), List.mem_of_getElem? (i := 50) (by decide +kernel)⟩
theorem lw_p2 : lw_okq (⟨"DensitiesOfNets$Family", "suits", "(II)Z"⟩, 13) := ⟨⟨by decide +kernel, by decide +kernel⟩, List.mem_of_getElem? (i := 22) (by decide +kernel), List.mem_of_getElem? (i := 53) (by decide +kernel), List.mem_of_getElem? (i := 54) (by decide +kernel)⟩
theorem lw_p3 : lw_okq (⟨"DensitiesOfNets", "jointPart", "(LDensitiesOfNets$Family;IIII)J"⟩, 12) := ⟨⟨by decide +kernel, by decide +kernel⟩, List.mem_of_getElem? (i := 14) (by decide +kernel), List.mem_of_getElem? (i := 437) (by decide +kernel), List.mem_of_getElem? (i := 438) (by decide +kernel)⟩
theorem lw_p4 : lw_okq (⟨"DensitiesOfNets$Net", "keepsLines", "(LDensitiesOfNets$Net;I)Z"⟩, 3) := ⟨⟨by decide +kernel, by decide +kernel⟩, List.mem_of_getElem? (i := 65) (by decide +kernel), List.mem_of_getElem? (i := 539) (by decide +kernel), List.mem_of_getElem? (i := 540) (by decide +kernel)⟩
theorem lw_p5 : lw_okq (⟨"DensitiesOfNets$Text", "takeAll", "()I"⟩, 14) := ⟨⟨by decide +kernel, by decide +kernel⟩, List.mem_of_getElem? (i := 265) (by decide +kernel), List.mem_of_getElem? (i := 575) (by decide +kernel), List.mem_of_getElem? (i := 576) (by decide +kernel)⟩
theorem lw_p6 : lw_okq (⟨"DensitiesOfNets$Text", "startLevel", "(II)V"⟩, 14) := ⟨⟨by decide +kernel, by decide +kernel⟩, List.mem_of_getElem? (i := 265) (by decide +kernel), List.mem_of_getElem? (i := 579) (by decide +kernel), List.mem_of_getElem? (i := 580) (by decide +kernel)⟩
theorem lw_p7 : lw_okq (⟨"DensitiesOfNets$Text", "takeBehindOne", "(I)I"⟩, 14) := ⟨⟨by decide +kernel, by decide +kernel⟩, List.mem_of_getElem? (i := 265) (by decide +kernel), List.mem_of_getElem? (i := 583) (by decide +kernel), List.mem_of_getElem? (i := 584) (by decide +kernel)⟩
theorem lw_p8 : lw_okq (⟨"DensitiesOfNets$Text", "endProduct", "()V"⟩, 14) := ⟨⟨by decide +kernel, by decide +kernel⟩, List.mem_of_getElem? (i := 265) (by decide +kernel), List.mem_of_getElem? (i := 587) (by decide +kernel), List.mem_of_getElem? (i := 588) (by decide +kernel)⟩
theorem lw_p9 : lw_okq (⟨"DensitiesOfNets$Text", "order", "(IIII)V"⟩, 14) := ⟨⟨by decide +kernel, by decide +kernel⟩, List.mem_of_getElem? (i := 265) (by decide +kernel), List.mem_of_getElem? (i := 591) (by decide +kernel), List.mem_of_getElem? (i := 592) (by decide +kernel)⟩
theorem lw_p10 : lw_okq (⟨"DensitiesOfNets$Text", "endLevel", "(I)V"⟩, 14) := ⟨⟨by decide +kernel, by decide +kernel⟩, List.mem_of_getElem? (i := 265) (by decide +kernel), List.mem_of_getElem? (i := 595) (by decide +kernel), List.mem_of_getElem? (i := 596) (by decide +kernel)⟩
theorem lw_p11 : lw_okq (⟨"DensitiesOfNets$Text", "endOne", "()V"⟩, 14) := ⟨⟨by decide +kernel, by decide +kernel⟩, List.mem_of_getElem? (i := 265) (by decide +kernel), List.mem_of_getElem? (i := 600) (by decide +kernel), List.mem_of_getElem? (i := 601) (by decide +kernel)⟩
theorem lw_p12 : lw_okq (⟨"DensitiesOfNets$Text", "takeOpening", "()I"⟩, 14) := ⟨⟨by decide +kernel, by decide +kernel⟩, List.mem_of_getElem? (i := 265) (by decide +kernel), List.mem_of_getElem? (i := 604) (by decide +kernel), List.mem_of_getElem? (i := 605) (by decide +kernel)⟩
theorem lw_p13 : lw_okq (⟨"DensitiesOfNets$Text", "takeOne", "(I)I"⟩, 14) := ⟨⟨by decide +kernel, by decide +kernel⟩, List.mem_of_getElem? (i := 265) (by decide +kernel), List.mem_of_getElem? (i := 608) (by decide +kernel), List.mem_of_getElem? (i := 609) (by decide +kernel)⟩
theorem lw_p14 : lw_okq (⟨"DensitiesOfNets$Text", "takeNet", "(ILDensitiesOfNets$Family;)I"⟩, 14) := ⟨⟨by decide +kernel, by decide +kernel⟩, List.mem_of_getElem? (i := 265) (by decide +kernel), List.mem_of_getElem? (i := 612) (by decide +kernel), List.mem_of_getElem? (i := 613) (by decide +kernel)⟩
theorem lw_p15 : lw_okq (⟨"DensitiesOfNets$Text", "endOfFigures", "(I)I"⟩, 14) := ⟨⟨by decide +kernel, by decide +kernel⟩, List.mem_of_getElem? (i := 265) (by decide +kernel), List.mem_of_getElem? (i := 616) (by decide +kernel), List.mem_of_getElem? (i := 617) (by decide +kernel)⟩
def lw_privs_1 : List (MethodName × Nat) := [(⟨"DensitiesOfNets$Family", "numberAll", "()V"⟩, 13), (⟨"DensitiesOfNets$Family", "leastCode", "(II)I"⟩, 13), (⟨"DensitiesOfNets$Family", "suits", "(II)Z"⟩, 13), (⟨"DensitiesOfNets", "jointPart", "(LDensitiesOfNets$Family;IIII)J"⟩, 12), (⟨"DensitiesOfNets$Net", "keepsLines", "(LDensitiesOfNets$Net;I)Z"⟩, 3), (⟨"DensitiesOfNets$Text", "takeAll", "()I"⟩, 14), (⟨"DensitiesOfNets$Text", "startLevel", "(II)V"⟩, 14), (⟨"DensitiesOfNets$Text", "takeBehindOne", "(I)I"⟩, 14), (⟨"DensitiesOfNets$Text", "endProduct", "()V"⟩, 14), (⟨"DensitiesOfNets$Text", "order", "(IIII)V"⟩, 14), (⟨"DensitiesOfNets$Text", "endLevel", "(I)V"⟩, 14), (⟨"DensitiesOfNets$Text", "endOne", "()V"⟩, 14), (⟨"DensitiesOfNets$Text", "takeOpening", "()I"⟩, 14), (⟨"DensitiesOfNets$Text", "takeOne", "(I)I"⟩, 14), (⟨"DensitiesOfNets$Text", "takeNet", "(ILDensitiesOfNets$Family;)I"⟩, 14), (⟨"DensitiesOfNets$Text", "endOfFigures", "(I)I"⟩, 14)]
theorem lw_r1 : ∀ q ∈ lw_privs_1, lw_okq q := List.forall_mem_cons.mpr ⟨lw_p0, List.forall_mem_cons.mpr ⟨lw_p1, List.forall_mem_cons.mpr ⟨lw_p2, List.forall_mem_cons.mpr ⟨lw_p3, List.forall_mem_cons.mpr ⟨lw_p4, List.forall_mem_cons.mpr ⟨lw_p5, List.forall_mem_cons.mpr ⟨lw_p6, List.forall_mem_cons.mpr ⟨lw_p7, List.forall_mem_cons.mpr ⟨lw_p8, List.forall_mem_cons.mpr ⟨lw_p9, List.forall_mem_cons.mpr ⟨lw_p10, List.forall_mem_cons.mpr ⟨lw_p11, List.forall_mem_cons.mpr ⟨lw_p12, List.forall_mem_cons.mpr ⟨lw_p13, List.forall_mem_cons.mpr ⟨lw_p14, List.forall_mem_cons.mpr ⟨lw_p15, fun _ h => absurd h List.not_mem_nil⟩⟩⟩⟩⟩⟩⟩⟩⟩⟩⟩⟩⟩⟩⟩⟩
theorem lw_p16 : lw_okq (⟨"DensitiesOfNets$Text", "netOf", "(IILDensitiesOfNets$Family;)I"⟩, 14) := ⟨⟨by decide +kernel, by decide +kernel⟩, List.mem_of_getElem? (i := 265) (by decide +kernel), List.mem_of_getElem? (i := 623) (by decide +kernel), List.mem_of_getElem? (i := 624) (by decide +kernel)⟩
theorem lw_p17 : lw_okq (⟨"DensitiesOfNets$Text", "takeFraction", "()I"⟩, 14) := ⟨⟨by decide +kernel, by decide +kernel⟩, List.mem_of_getElem? (i := 265) (by decide +kernel), List.mem_of_getElem? (i := 629) (by decide +kernel), List.mem_of_getElem? (i := 630) (by decide +kernel)⟩
theorem lw_p18 : lw_okq (⟨"DensitiesOfNets$Text", "numberOf", "(II)I"⟩, 14) := ⟨⟨by decide +kernel, by decide +kernel⟩, List.mem_of_getElem? (i := 265) (by decide +kernel), List.mem_of_getElem? (i := 633) (by decide +kernel), List.mem_of_getElem? (i := 634) (by decide +kernel)⟩
theorem lw_p19 : lw_okq (⟨"DensitiesOfNets$Algebra", "familyOf", "(I)LDensitiesOfNets$Family;"⟩, 8) := ⟨⟨by decide +kernel, by decide +kernel⟩, List.mem_of_getElem? (i := 175) (by decide +kernel), List.mem_of_getElem? (i := 652) (by decide +kernel), List.mem_of_getElem? (i := 653) (by decide +kernel)⟩
theorem lw_p20 : lw_okq (⟨"DensitiesOfNets$Algebra", "multiply", "(LDensitiesOfNets$Sum;LDensitiesOfNets$Sum;II)Z"⟩, 8) := ⟨⟨by decide +kernel, by decide +kernel⟩, List.mem_of_getElem? (i := 175) (by decide +kernel), List.mem_of_getElem? (i := 660) (by decide +kernel), List.mem_of_getElem? (i := 661) (by decide +kernel)⟩
theorem lw_p21 : lw_okq (⟨"DensitiesOfNets$Algebra", "spread", "(IILDensitiesOfNets$Family;I)Z"⟩, 8) := ⟨⟨by decide +kernel, by decide +kernel⟩, List.mem_of_getElem? (i := 175) (by decide +kernel), List.mem_of_getElem? (i := 675) (by decide +kernel), List.mem_of_getElem? (i := 676) (by decide +kernel)⟩
theorem lw_p22 : lw_okq (⟨"DensitiesOfNets$Algebra", "unite", "(LDensitiesOfNets$Sum;LDensitiesOfNets$Sum;Z)Z"⟩, 8) := ⟨⟨by decide +kernel, by decide +kernel⟩, List.mem_of_getElem? (i := 175) (by decide +kernel), List.mem_of_getElem? (i := 688) (by decide +kernel), List.mem_of_getElem? (i := 689) (by decide +kernel)⟩
theorem lw_p23 : lw_okq (⟨"DensitiesOfNets$Reckoner", "pileOne", "(III)V"⟩, 4) := ⟨⟨by decide +kernel, by decide +kernel⟩, List.mem_of_getElem? (i := 321) (by decide +kernel), List.mem_of_getElem? (i := 709) (by decide +kernel), List.mem_of_getElem? (i := 710) (by decide +kernel)⟩
theorem lw_p24 : lw_okq (⟨"DensitiesOfNetsModel", "layTables", "()V"⟩, 44) := ⟨⟨by decide +kernel, by decide +kernel⟩, List.mem_of_getElem? (i := 842) (by decide +kernel), List.mem_of_getElem? (i := 848) (by decide +kernel), List.mem_of_getElem? (i := 849) (by decide +kernel)⟩
theorem lw_p25 : lw_okq (⟨"DensitiesOfNetsModel", "leastCode", "(IIZ)I"⟩, 44) := ⟨⟨by decide +kernel, by decide +kernel⟩, List.mem_of_getElem? (i := 842) (by decide +kernel), List.mem_of_getElem? (i := 855) (by decide +kernel), List.mem_of_getElem? (i := 856) (by decide +kernel)⟩
theorem lw_p26 : lw_okq (⟨"DensitiesOfNetsModel", "isRenaming", "(II)Z"⟩, 44) := ⟨⟨by decide +kernel, by decide +kernel⟩, List.mem_of_getElem? (i := 842) (by decide +kernel), List.mem_of_getElem? (i := 859) (by decide +kernel), List.mem_of_getElem? (i := 860) (by decide +kernel)⟩
theorem lw_p27 : lw_okq (⟨"DensitiesOfNetsModel", "renamedCode", "(II)I"⟩, 44) := ⟨⟨by decide +kernel, by decide +kernel⟩, List.mem_of_getElem? (i := 842) (by decide +kernel), List.mem_of_getElem? (i := 863) (by decide +kernel), List.mem_of_getElem? (i := 864) (by decide +kernel)⟩
theorem lw_p28 : lw_okq (⟨"DensitiesOfNetsModel", "lookInto", "(II)V"⟩, 44) := ⟨⟨by decide +kernel, by decide +kernel⟩, List.mem_of_getElem? (i := 842) (by decide +kernel), List.mem_of_getElem? (i := 1023) (by decide +kernel), List.mem_of_getElem? (i := 1024) (by decide +kernel)⟩
theorem lw_p29 : lw_okq (⟨"DensitiesOfNetsModel", "plainOf", "(I)I"⟩, 44) := ⟨⟨by decide +kernel, by decide +kernel⟩, List.mem_of_getElem? (i := 842) (by decide +kernel), List.mem_of_getElem? (i := 1027) (by decide +kernel), List.mem_of_getElem? (i := 1028) (by decide +kernel)⟩
theorem lw_p30 : lw_okq (⟨"DensitiesOfNetsModel", "rootsOf", "(I)I"⟩, 44) := ⟨⟨by decide +kernel, by decide +kernel⟩, List.mem_of_getElem? (i := 842) (by decide +kernel), List.mem_of_getElem? (i := 1031) (by decide +kernel), List.mem_of_getElem? (i := 1032) (by decide +kernel)⟩
theorem lw_p31 : lw_okq (⟨"DensitiesOfNetsModel", "numberOn", "(II)I"⟩, 44) := ⟨⟨by decide +kernel, by decide +kernel⟩, List.mem_of_getElem? (i := 842) (by decide +kernel), List.mem_of_getElem? (i := 1035) (by decide +kernel), List.mem_of_getElem? (i := 1036) (by decide +kernel)⟩
def lw_privs_2 : List (MethodName × Nat) := [(⟨"DensitiesOfNets$Text", "netOf", "(IILDensitiesOfNets$Family;)I"⟩, 14), (⟨"DensitiesOfNets$Text", "takeFraction", "()I"⟩, 14), (⟨"DensitiesOfNets$Text", "numberOf", "(II)I"⟩, 14), (⟨"DensitiesOfNets$Algebra", "familyOf", "(I)LDensitiesOfNets$Family;"⟩, 8), (⟨"DensitiesOfNets$Algebra", "multiply", "(LDensitiesOfNets$Sum;LDensitiesOfNets$Sum;II)Z"⟩, 8), (⟨"DensitiesOfNets$Algebra", "spread", "(IILDensitiesOfNets$Family;I)Z"⟩, 8), (⟨"DensitiesOfNets$Algebra", "unite", "(LDensitiesOfNets$Sum;LDensitiesOfNets$Sum;Z)Z"⟩, 8), (⟨"DensitiesOfNets$Reckoner", "pileOne", "(III)V"⟩, 4), (⟨"DensitiesOfNetsModel", "layTables", "()V"⟩, 44), (⟨"DensitiesOfNetsModel", "leastCode", "(IIZ)I"⟩, 44), (⟨"DensitiesOfNetsModel", "isRenaming", "(II)Z"⟩, 44), (⟨"DensitiesOfNetsModel", "renamedCode", "(II)I"⟩, 44), (⟨"DensitiesOfNetsModel", "lookInto", "(II)V"⟩, 44), (⟨"DensitiesOfNetsModel", "plainOf", "(I)I"⟩, 44), (⟨"DensitiesOfNetsModel", "rootsOf", "(I)I"⟩, 44), (⟨"DensitiesOfNetsModel", "numberOn", "(II)I"⟩, 44)]
theorem lw_r2 : ∀ q ∈ lw_privs_2, lw_okq q := List.forall_mem_cons.mpr ⟨lw_p16, List.forall_mem_cons.mpr ⟨lw_p17, List.forall_mem_cons.mpr ⟨lw_p18, List.forall_mem_cons.mpr ⟨lw_p19, List.forall_mem_cons.mpr ⟨lw_p20, List.forall_mem_cons.mpr ⟨lw_p21, List.forall_mem_cons.mpr ⟨lw_p22, List.forall_mem_cons.mpr ⟨lw_p23, List.forall_mem_cons.mpr ⟨lw_p24, List.forall_mem_cons.mpr ⟨lw_p25, List.forall_mem_cons.mpr ⟨lw_p26, List.forall_mem_cons.mpr ⟨lw_p27, List.forall_mem_cons.mpr ⟨lw_p28, List.forall_mem_cons.mpr ⟨lw_p29, List.forall_mem_cons.mpr ⟨lw_p30, List.forall_mem_cons.mpr ⟨lw_p31, fun _ h => absurd h List.not_mem_nil⟩⟩⟩⟩⟩⟩⟩⟩⟩⟩⟩⟩⟩⟩⟩⟩
theorem lw_p32 : lw_okq (⟨"DensitiesOfNetsModel", "codeOn", "(II)I"⟩, 44) := ⟨⟨by decide +kernel, by decide +kernel⟩, List.mem_of_getElem? (i := 842) (by decide +kernel), List.mem_of_getElem? (i := 1039) (by decide +kernel), List.mem_of_getElem? (i := 1040) (by decide +kernel)⟩
theorem lw_p33 : lw_okq (⟨"DensitiesOfNetsModel", "insideOf", "(III)V"⟩, 44) := ⟨⟨by decide +kernel, by decide +kernel⟩, List.mem_of_getElem? (i := 842) (by decide +kernel), List.mem_of_getElem? (i := 1052) (by decide +kernel), List.mem_of_getElem? (i := 1053) (by decide +kernel)⟩
theorem lw_p34 : lw_okq (⟨"DensitiesOfNetsModel", "lay", "(JJ)V"⟩, 44) := ⟨⟨by decide +kernel, by decide +kernel⟩, List.mem_of_getElem? (i := 842) (by decide +kernel), List.mem_of_getElem? (i := 1056) (by decide +kernel), List.mem_of_getElem? (i := 1057) (by decide +kernel)⟩
theorem lw_p35 : lw_okq (⟨"DensitiesOfNetsModel", "part", "(I)J"⟩, 44) := ⟨⟨by decide +kernel, by decide +kernel⟩, List.mem_of_getElem? (i := 842) (by decide +kernel), List.mem_of_getElem? (i := 1063) (by decide +kernel), List.mem_of_getElem? (i := 1064) (by decide +kernel)⟩
theorem lw_p36 : lw_okq (⟨"DensitiesOfNetsModel", "jointOf", "(IIIII)V"⟩, 44) := ⟨⟨by decide +kernel, by decide +kernel⟩, List.mem_of_getElem? (i := 842) (by decide +kernel), List.mem_of_getElem? (i := 1071) (by decide +kernel), List.mem_of_getElem? (i := 1072) (by decide +kernel)⟩
theorem lw_p37 : lw_okq (⟨"DensitiesOfNetsModel", "isPoint", "(I)Z"⟩, 44) := ⟨⟨by decide +kernel, by decide +kernel⟩, List.mem_of_getElem? (i := 842) (by decide +kernel), List.mem_of_getElem? (i := 1087) (by decide +kernel), List.mem_of_getElem? (i := 1088) (by decide +kernel)⟩
theorem lw_p38 : lw_okq (⟨"DensitiesOfNetsModel", "lookInHand", "()V"⟩, 44) := ⟨⟨by decide +kernel, by decide +kernel⟩, List.mem_of_getElem? (i := 842) (by decide +kernel), List.mem_of_getElem? (i := 1103) (by decide +kernel), List.mem_of_getElem? (i := 1104) (by decide +kernel)⟩
theorem lw_p39 : lw_okq (⟨"DensitiesOfNetsModel", "isMap", "(II)Z"⟩, 44) := ⟨⟨by decide +kernel, by decide +kernel⟩, List.mem_of_getElem? (i := 842) (by decide +kernel), List.mem_of_getElem? (i := 1115) (by decide +kernel), List.mem_of_getElem? (i := 1116) (by decide +kernel)⟩
theorem lw_p40 : lw_okq (⟨"DensitiesOfNetsModel", "countAll", "(I)V"⟩, 44) := ⟨⟨by decide +kernel, by decide +kernel⟩, List.mem_of_getElem? (i := 842) (by decide +kernel), List.mem_of_getElem? (i := 1123) (by decide +kernel), List.mem_of_getElem? (i := 1124) (by decide +kernel)⟩
theorem lw_p41 : lw_okq (⟨"DensitiesOfNetsModel", "foundAll", "(I)I"⟩, 44) := ⟨⟨by decide +kernel, by decide +kernel⟩, List.mem_of_getElem? (i := 842) (by decide +kernel), List.mem_of_getElem? (i := 1131) (by decide +kernel), List.mem_of_getElem? (i := 1132) (by decide +kernel)⟩
theorem lw_p42 : lw_okq (⟨"DensitiesOfNetsModel", "isText", "()Z"⟩, 44) := ⟨⟨by decide +kernel, by decide +kernel⟩, List.mem_of_getElem? (i := 842) (by decide +kernel), List.mem_of_getElem? (i := 1143) (by decide +kernel), List.mem_of_getElem? (i := 1144) (by decide +kernel)⟩
theorem lw_p43 : lw_okq (⟨"DensitiesOfNetsModel", "isOne", "()Z"⟩, 44) := ⟨⟨by decide +kernel, by decide +kernel⟩, List.mem_of_getElem? (i := 842) (by decide +kernel), List.mem_of_getElem? (i := 1147) (by decide +kernel), List.mem_of_getElem? (i := 1148) (by decide +kernel)⟩
theorem lw_p44 : lw_okq (⟨"DensitiesOfNetsModel", "here", "()I"⟩, 44) := ⟨⟨by decide +kernel, by decide +kernel⟩, List.mem_of_getElem? (i := 842) (by decide +kernel), List.mem_of_getElem? (i := 1151) (by decide +kernel), List.mem_of_getElem? (i := 1152) (by decide +kernel)⟩
theorem lw_p45 : lw_okq (⟨"DensitiesOfNetsModel", "add", "(IIII)V"⟩, 44) := ⟨⟨by decide +kernel, by decide +kernel⟩, List.mem_of_getElem? (i := 842) (by decide +kernel), List.mem_of_getElem? (i := 1155) (by decide +kernel), List.mem_of_getElem? (i := 1156) (by decide +kernel)⟩
theorem lw_p46 : lw_okq (⟨"DensitiesOfNetsModel", "isNetwork", "(I)Z"⟩, 44) := ⟨⟨by decide +kernel, by decide +kernel⟩, List.mem_of_getElem? (i := 842) (by decide +kernel), List.mem_of_getElem? (i := 1159) (by decide +kernel), List.mem_of_getElem? (i := 1160) (by decide +kernel)⟩
theorem lw_p47 : lw_okq (⟨"DensitiesOfNetsModel", "isFigure", "()Z"⟩, 44) := ⟨⟨by decide +kernel, by decide +kernel⟩, List.mem_of_getElem? (i := 842) (by decide +kernel), List.mem_of_getElem? (i := 1163) (by decide +kernel), List.mem_of_getElem? (i := 1164) (by decide +kernel)⟩
def lw_privs_3 : List (MethodName × Nat) := [(⟨"DensitiesOfNetsModel", "codeOn", "(II)I"⟩, 44), (⟨"DensitiesOfNetsModel", "insideOf", "(III)V"⟩, 44), (⟨"DensitiesOfNetsModel", "lay", "(JJ)V"⟩, 44), (⟨"DensitiesOfNetsModel", "part", "(I)J"⟩, 44), (⟨"DensitiesOfNetsModel", "jointOf", "(IIIII)V"⟩, 44), (⟨"DensitiesOfNetsModel", "isPoint", "(I)Z"⟩, 44), (⟨"DensitiesOfNetsModel", "lookInHand", "()V"⟩, 44), (⟨"DensitiesOfNetsModel", "isMap", "(II)Z"⟩, 44), (⟨"DensitiesOfNetsModel", "countAll", "(I)V"⟩, 44), (⟨"DensitiesOfNetsModel", "foundAll", "(I)I"⟩, 44), (⟨"DensitiesOfNetsModel", "isText", "()Z"⟩, 44), (⟨"DensitiesOfNetsModel", "isOne", "()Z"⟩, 44), (⟨"DensitiesOfNetsModel", "here", "()I"⟩, 44), (⟨"DensitiesOfNetsModel", "add", "(IIII)V"⟩, 44), (⟨"DensitiesOfNetsModel", "isNetwork", "(I)Z"⟩, 44), (⟨"DensitiesOfNetsModel", "isFigure", "()Z"⟩, 44)]
theorem lw_r3 : ∀ q ∈ lw_privs_3, lw_okq q := List.forall_mem_cons.mpr ⟨lw_p32, List.forall_mem_cons.mpr ⟨lw_p33, List.forall_mem_cons.mpr ⟨lw_p34, List.forall_mem_cons.mpr ⟨lw_p35, List.forall_mem_cons.mpr ⟨lw_p36, List.forall_mem_cons.mpr ⟨lw_p37, List.forall_mem_cons.mpr ⟨lw_p38, List.forall_mem_cons.mpr ⟨lw_p39, List.forall_mem_cons.mpr ⟨lw_p40, List.forall_mem_cons.mpr ⟨lw_p41, List.forall_mem_cons.mpr ⟨lw_p42, List.forall_mem_cons.mpr ⟨lw_p43, List.forall_mem_cons.mpr ⟨lw_p44, List.forall_mem_cons.mpr ⟨lw_p45, List.forall_mem_cons.mpr ⟨lw_p46, List.forall_mem_cons.mpr ⟨lw_p47, fun _ h => absurd h List.not_mem_nil⟩⟩⟩⟩⟩⟩⟩⟩⟩⟩⟩⟩⟩⟩⟩⟩
theorem lw_p48 : lw_okq (⟨"DensitiesOfNetsModel", "isFraction", "()Z"⟩, 44) := ⟨⟨by decide +kernel, by decide +kernel⟩, List.mem_of_getElem? (i := 842) (by decide +kernel), List.mem_of_getElem? (i := 1167) (by decide +kernel), List.mem_of_getElem? (i := 1168) (by decide +kernel)⟩
theorem lw_p49 : lw_okq (⟨"DensitiesOfNetsModel", "number", "()I"⟩, 44) := ⟨⟨by decide +kernel, by decide +kernel⟩, List.mem_of_getElem? (i := 842) (by decide +kernel), List.mem_of_getElem? (i := 1171) (by decide +kernel), List.mem_of_getElem? (i := 1172) (by decide +kernel)⟩
theorem lw_p50 : lw_okq (⟨"DensitiesOfNetsModel", "begin", "(I)V"⟩, 44) := ⟨⟨by decide +kernel, by decide +kernel⟩, List.mem_of_getElem? (i := 842) (by decide +kernel), List.mem_of_getElem? (i := 1175) (by decide +kernel), List.mem_of_getElem? (i := 1176) (by decide +kernel)⟩
theorem lw_p51 : lw_okq (⟨"DensitiesOfNetsModel", "workOut", "(I)V"⟩, 44) := ⟨⟨by decide +kernel, by decide +kernel⟩, List.mem_of_getElem? (i := 842) (by decide +kernel), List.mem_of_getElem? (i := 1179) (by decide +kernel), List.mem_of_getElem? (i := 1180) (by decide +kernel)⟩
theorem lw_p52 : lw_okq (⟨"DensitiesOfNetsModel", "empty", "(I)V"⟩, 44) := ⟨⟨by decide +kernel, by decide +kernel⟩, List.mem_of_getElem? (i := 842) (by decide +kernel), List.mem_of_getElem? (i := 1183) (by decide +kernel), List.mem_of_getElem? (i := 1184) (by decide +kernel)⟩
theorem lw_p53 : lw_okq (⟨"DensitiesOfNetsModel", "comes", "()V"⟩, 44) := ⟨⟨by decide +kernel, by decide +kernel⟩, List.mem_of_getElem? (i := 842) (by decide +kernel), List.mem_of_getElem? (i := 1187) (by decide +kernel), List.mem_of_getElem? (i := 1188) (by decide +kernel)⟩
theorem lw_p54 : lw_okq (⟨"DensitiesOfNetsModel", "sumRow", "()I"⟩, 44) := ⟨⟨by decide +kernel, by decide +kernel⟩, List.mem_of_getElem? (i := 842) (by decide +kernel), List.mem_of_getElem? (i := 1191) (by decide +kernel), List.mem_of_getElem? (i := 1192) (by decide +kernel)⟩
theorem lw_p55 : lw_okq (⟨"DensitiesOfNetsModel", "copy", "(II)V"⟩, 44) := ⟨⟨by decide +kernel, by decide +kernel⟩, List.mem_of_getElem? (i := 842) (by decide +kernel), List.mem_of_getElem? (i := 1195) (by decide +kernel), List.mem_of_getElem? (i := 1196) (by decide +kernel)⟩
theorem lw_p56 : lw_okq (⟨"DensitiesOfNetsModel", "areUnlike", "(II)Z"⟩, 44) := ⟨⟨by decide +kernel, by decide +kernel⟩, List.mem_of_getElem? (i := 842) (by decide +kernel), List.mem_of_getElem? (i := 1199) (by decide +kernel), List.mem_of_getElem? (i := 1200) (by decide +kernel)⟩
theorem lw_p57 : lw_okq (⟨"DensitiesOfNetsModel", "blame", "(II)V"⟩, 44) := ⟨⟨by decide +kernel, by decide +kernel⟩, List.mem_of_getElem? (i := 842) (by decide +kernel), List.mem_of_getElem? (i := 1203) (by decide +kernel), List.mem_of_getElem? (i := 1204) (by decide +kernel)⟩
theorem lw_p58 : lw_okq (⟨"DensitiesOfNetsModel", "isTooGreat", "(II)Z"⟩, 44) := ⟨⟨by decide +kernel, by decide +kernel⟩, List.mem_of_getElem? (i := 842) (by decide +kernel), List.mem_of_getElem? (i := 1207) (by decide +kernel), List.mem_of_getElem? (i := 1208) (by decide +kernel)⟩
theorem lw_p59 : lw_okq (⟨"DensitiesOfNetsModel", "isTerm", "(II)Z"⟩, 44) := ⟨⟨by decide +kernel, by decide +kernel⟩, List.mem_of_getElem? (i := 842) (by decide +kernel), List.mem_of_getElem? (i := 1211) (by decide +kernel), List.mem_of_getElem? (i := 1212) (by decide +kernel)⟩
theorem lw_p60 : lw_okq (⟨"DensitiesOfNetsModel", "multiply", "(III)V"⟩, 44) := ⟨⟨by decide +kernel, by decide +kernel⟩, List.mem_of_getElem? (i := 842) (by decide +kernel), List.mem_of_getElem? (i := 1218) (by decide +kernel), List.mem_of_getElem? (i := 1219) (by decide +kernel)⟩
theorem lw_p61 : lw_okq (⟨"DensitiesOfNetsModel", "times", "(JJJJ)V"⟩, 44) := ⟨⟨by decide +kernel, by decide +kernel⟩, List.mem_of_getElem? (i := 842) (by decide +kernel), List.mem_of_getElem? (i := 1222) (by decide +kernel), List.mem_of_getElem? (i := 1223) (by decide +kernel)⟩
theorem lw_p62 : lw_okq (⟨"DensitiesOfNetsModel", "multiplied", "(JJ)J"⟩, 44) := ⟨⟨by decide +kernel, by decide +kernel⟩, List.mem_of_getElem? (i := 842) (by decide +kernel), List.mem_of_getElem? (i := 1226) (by decide +kernel), List.mem_of_getElem? (i := 1227) (by decide +kernel)⟩
theorem lw_p63 : lw_okq (⟨"DensitiesOfNetsModel", "multiplyBy", "(IIIJJI)V"⟩, 44) := ⟨⟨by decide +kernel, by decide +kernel⟩, List.mem_of_getElem? (i := 842) (by decide +kernel), List.mem_of_getElem? (i := 1231) (by decide +kernel), List.mem_of_getElem? (i := 1232) (by decide +kernel)⟩
def lw_privs_4 : List (MethodName × Nat) := [(⟨"DensitiesOfNetsModel", "isFraction", "()Z"⟩, 44), (⟨"DensitiesOfNetsModel", "number", "()I"⟩, 44), (⟨"DensitiesOfNetsModel", "begin", "(I)V"⟩, 44), (⟨"DensitiesOfNetsModel", "workOut", "(I)V"⟩, 44), (⟨"DensitiesOfNetsModel", "empty", "(I)V"⟩, 44), (⟨"DensitiesOfNetsModel", "comes", "()V"⟩, 44), (⟨"DensitiesOfNetsModel", "sumRow", "()I"⟩, 44), (⟨"DensitiesOfNetsModel", "copy", "(II)V"⟩, 44), (⟨"DensitiesOfNetsModel", "areUnlike", "(II)Z"⟩, 44), (⟨"DensitiesOfNetsModel", "blame", "(II)V"⟩, 44), (⟨"DensitiesOfNetsModel", "isTooGreat", "(II)Z"⟩, 44), (⟨"DensitiesOfNetsModel", "isTerm", "(II)Z"⟩, 44), (⟨"DensitiesOfNetsModel", "multiply", "(III)V"⟩, 44), (⟨"DensitiesOfNetsModel", "times", "(JJJJ)V"⟩, 44), (⟨"DensitiesOfNetsModel", "multiplied", "(JJ)J"⟩, 44), (⟨"DensitiesOfNetsModel", "multiplyBy", "(IIIJJI)V"⟩, 44)]
theorem lw_r4 : ∀ q ∈ lw_privs_4, lw_okq q := List.forall_mem_cons.mpr ⟨lw_p48, List.forall_mem_cons.mpr ⟨lw_p49, List.forall_mem_cons.mpr ⟨lw_p50, List.forall_mem_cons.mpr ⟨lw_p51, List.forall_mem_cons.mpr ⟨lw_p52, List.forall_mem_cons.mpr ⟨lw_p53, List.forall_mem_cons.mpr ⟨lw_p54, List.forall_mem_cons.mpr ⟨lw_p55, List.forall_mem_cons.mpr ⟨lw_p56, List.forall_mem_cons.mpr ⟨lw_p57, List.forall_mem_cons.mpr ⟨lw_p58, List.forall_mem_cons.mpr ⟨lw_p59, List.forall_mem_cons.mpr ⟨lw_p60, List.forall_mem_cons.mpr ⟨lw_p61, List.forall_mem_cons.mpr ⟨lw_p62, List.forall_mem_cons.mpr ⟨lw_p63, fun _ h => absurd h List.not_mem_nil⟩⟩⟩⟩⟩⟩⟩⟩⟩⟩⟩⟩⟩⟩⟩⟩
theorem lw_p64 : lw_okq (⟨"DensitiesOfNetsModel", "addTo", "(II)V"⟩, 44) := ⟨⟨by decide +kernel, by decide +kernel⟩, List.mem_of_getElem? (i := 842) (by decide +kernel), List.mem_of_getElem? (i := 1235) (by decide +kernel), List.mem_of_getElem? (i := 1236) (by decide +kernel)⟩
theorem lw_p65 : lw_okq (⟨"DensitiesOfNetsModel", "plus", "(JJJJ)V"⟩, 44) := ⟨⟨by decide +kernel, by decide +kernel⟩, List.mem_of_getElem? (i := 842) (by decide +kernel), List.mem_of_getElem? (i := 1239) (by decide +kernel), List.mem_of_getElem? (i := 1240) (by decide +kernel)⟩
theorem lw_p66 : lw_okq (⟨"DensitiesOfNetsModel", "settle", "(I)V"⟩, 44) := ⟨⟨by decide +kernel, by decide +kernel⟩, List.mem_of_getElem? (i := 842) (by decide +kernel), List.mem_of_getElem? (i := 1243) (by decide +kernel), List.mem_of_getElem? (i := 1244) (by decide +kernel)⟩
theorem lw_p67 : lw_okq (⟨"DensitiesOfNetsModel", "terms", "(I)I"⟩, 44) := ⟨⟨by decide +kernel, by decide +kernel⟩, List.mem_of_getElem? (i := 842) (by decide +kernel), List.mem_of_getElem? (i := 1247) (by decide +kernel), List.mem_of_getElem? (i := 1248) (by decide +kernel)⟩
theorem lw_p68 : lw_okq (⟨"DensitiesOfNetsModel", "close", "()V"⟩, 44) := ⟨⟨by decide +kernel, by decide +kernel⟩, List.mem_of_getElem? (i := 842) (by decide +kernel), List.mem_of_getElem? (i := 1251) (by decide +kernel), List.mem_of_getElem? (i := 1252) (by decide +kernel)⟩
theorem lw_p69 : lw_okq (⟨"DensitiesOfNetsModel", "endProduct", "()V"⟩, 44) := ⟨⟨by decide +kernel, by decide +kernel⟩, List.mem_of_getElem? (i := 842) (by decide +kernel), List.mem_of_getElem? (i := 1255) (by decide +kernel), List.mem_of_getElem? (i := 1256) (by decide +kernel)⟩
theorem lw_p70 : lw_okq (⟨"DensitiesOfNetsModel", "sumUp", "(IIJI)V"⟩, 44) := ⟨⟨by decide +kernel, by decide +kernel⟩, List.mem_of_getElem? (i := 842) (by decide +kernel), List.mem_of_getElem? (i := 1259) (by decide +kernel), List.mem_of_getElem? (i := 1260) (by decide +kernel)⟩
theorem lw_p71 : lw_okq (⟨"DensitiesOfNetsModel", "averageTo", "(II)V"⟩, 44) := ⟨⟨by decide +kernel, by decide +kernel⟩, List.mem_of_getElem? (i := 842) (by decide +kernel), List.mem_of_getElem? (i := 1263) (by decide +kernel), List.mem_of_getElem? (i := 1264) (by decide +kernel)⟩
theorem lw_p72 : lw_okq (⟨"DensitiesOfNetsModel", "termsIn", "(I)I"⟩, 44) := ⟨⟨by decide +kernel, by decide +kernel⟩, List.mem_of_getElem? (i := 842) (by decide +kernel), List.mem_of_getElem? (i := 1274) (by decide +kernel), List.mem_of_getElem? (i := 1275) (by decide +kernel)⟩
theorem lw_p73 : lw_okq (⟨"DensitiesOfNetsModel", "greatest", "(I)I"⟩, 44) := ⟨⟨by decide +kernel, by decide +kernel⟩, List.mem_of_getElem? (i := 842) (by decide +kernel), List.mem_of_getElem? (i := 1282) (by decide +kernel), List.mem_of_getElem? (i := 1283) (by decide +kernel)⟩
theorem lw_p74 : lw_okq (⟨"DensitiesOfNetsModel", "sizeIn", "(II)I"⟩, 44) := ⟨⟨by decide +kernel, by decide +kernel⟩, List.mem_of_getElem? (i := 842) (by decide +kernel), List.mem_of_getElem? (i := 1286) (by decide +kernel), List.mem_of_getElem? (i := 1287) (by decide +kernel)⟩
theorem lw_p75 : lw_okq (⟨"DensitiesOfNetsModel", "termAt", "(II)I"⟩, 44) := ⟨⟨by decide +kernel, by decide +kernel⟩, List.mem_of_getElem? (i := 842) (by decide +kernel), List.mem_of_getElem? (i := 1294) (by decide +kernel), List.mem_of_getElem? (i := 1295) (by decide +kernel)⟩
theorem lw_p76 : lw_okq (⟨"DensitiesOfNetsModel", "liftTo", "(III)V"⟩, 44) := ⟨⟨by decide +kernel, by decide +kernel⟩, List.mem_of_getElem? (i := 842) (by decide +kernel), List.mem_of_getElem? (i := 1310) (by decide +kernel), List.mem_of_getElem? (i := 1311) (by decide +kernel)⟩
theorem lw_p77 : lw_okq (⟨"DensitiesOfNetsModel", "isValued", "(II)Z"⟩, 44) := ⟨⟨by decide +kernel, by decide +kernel⟩, List.mem_of_getElem? (i := 842) (by decide +kernel), List.mem_of_getElem? (i := 1330) (by decide +kernel), List.mem_of_getElem? (i := 1331) (by decide +kernel)⟩
def lw_privs_5 : List (MethodName × Nat) := [(⟨"DensitiesOfNetsModel", "addTo", "(II)V"⟩, 44), (⟨"DensitiesOfNetsModel", "plus", "(JJJJ)V"⟩, 44), (⟨"DensitiesOfNetsModel", "settle", "(I)V"⟩, 44), (⟨"DensitiesOfNetsModel", "terms", "(I)I"⟩, 44), (⟨"DensitiesOfNetsModel", "close", "()V"⟩, 44), (⟨"DensitiesOfNetsModel", "endProduct", "()V"⟩, 44), (⟨"DensitiesOfNetsModel", "sumUp", "(IIJI)V"⟩, 44), (⟨"DensitiesOfNetsModel", "averageTo", "(II)V"⟩, 44), (⟨"DensitiesOfNetsModel", "termsIn", "(I)I"⟩, 44), (⟨"DensitiesOfNetsModel", "greatest", "(I)I"⟩, 44), (⟨"DensitiesOfNetsModel", "sizeIn", "(II)I"⟩, 44), (⟨"DensitiesOfNetsModel", "termAt", "(II)I"⟩, 44), (⟨"DensitiesOfNetsModel", "liftTo", "(III)V"⟩, 44), (⟨"DensitiesOfNetsModel", "isValued", "(II)Z"⟩, 44)]
theorem lw_r5 : ∀ q ∈ lw_privs_5, lw_okq q := List.forall_mem_cons.mpr ⟨lw_p64, List.forall_mem_cons.mpr ⟨lw_p65, List.forall_mem_cons.mpr ⟨lw_p66, List.forall_mem_cons.mpr ⟨lw_p67, List.forall_mem_cons.mpr ⟨lw_p68, List.forall_mem_cons.mpr ⟨lw_p69, List.forall_mem_cons.mpr ⟨lw_p70, List.forall_mem_cons.mpr ⟨lw_p71, List.forall_mem_cons.mpr ⟨lw_p72, List.forall_mem_cons.mpr ⟨lw_p73, List.forall_mem_cons.mpr ⟨lw_p74, List.forall_mem_cons.mpr ⟨lw_p75, List.forall_mem_cons.mpr ⟨lw_p76, List.forall_mem_cons.mpr ⟨lw_p77, fun _ h => absurd h List.not_mem_nil⟩⟩⟩⟩⟩⟩⟩⟩⟩⟩⟩⟩⟩⟩
def lw_privs : List (MethodName × Nat) := lw_privs_1 ++ (lw_privs_2 ++ (lw_privs_3 ++ (lw_privs_4 ++ (lw_privs_5))))
def lw_tbl : List Cond := k2_sels lw_privs ++ tables_1
theorem lw_privs_ok : ∀ q ∈ lw_privs, lw_okq q := by
  show ∀ q ∈ lw_privs_1 ++ (lw_privs_2 ++ (lw_privs_3 ++ (lw_privs_4 ++ (lw_privs_5)))), lw_okq q
  exact List.forall_mem_append.mpr ⟨lw_r1, List.forall_mem_append.mpr ⟨lw_r2, List.forall_mem_append.mpr ⟨lw_r3, List.forall_mem_append.mpr ⟨lw_r4, lw_r5⟩⟩⟩⟩
def RX0 : String := "DensitiesOfNets$Algebra"
def TX0 : u_T := fun k => match k with
  | 0 => ("DensitiesOfNets$Algebra", "flags", "LDensitiesOfNets$Family;", true)
  | 1 => ("DensitiesOfNets$Algebra", "roots", "LDensitiesOfNets$Family;", true)
  | 2 => ("DensitiesOfNets$Algebra", "bare", "[I", true)
  | 3 => ("DensitiesOfNets$Algebra", "ways", "[I", true)
  | 4 => ("DensitiesOfNets$Algebra", "result", "LDensitiesOfNets$Sum;", true)
  | 5 => ("DensitiesOfNets$Algebra", "both", "LDensitiesOfNets$Fraction;", true)
  | 6 => ("DensitiesOfNets$Algebra", "more", "LDensitiesOfNets$Fraction;", true)
  | _ => ("DensitiesOfNets$Algebra", "unit", "LDensitiesOfNets$Sum;", true)
def tyX0 : Nat → FieldType := fun k => match k with
  | 0 => .object "DensitiesOfNets$Family"
  | 1 => .object "DensitiesOfNets$Family"
  | 2 => .array .int
  | 3 => .array .int
  | 4 => .object "DensitiesOfNets$Sum"
  | 5 => .object "DensitiesOfNets$Fraction"
  | 6 => .object "DensitiesOfNets$Fraction"
  | _ => .object "DensitiesOfNets$Sum"
theorem nmX0 : ∀ a, a < 8 → ∀ b, b < 8 → a ≠ b → (TX0 a).2.1 ≠ (TX0 b).2.1 := by decide +kernel
theorem tyX0_ok : ∀ k, k < 8 → parseFieldDescriptor (TX0 k).2.2.1 = some (tyX0 k) := by decide +kernel
abbrev cX0_init : ByteArray := prog_2_method_1_code
def yX0_init : MethodName := ⟨RX0, "<init>", "(LDensitiesOfNets$Family;LDensitiesOfNets$Family;)V"⟩
abbrev cX0_familyOf : ByteArray := prog_2_method_2_code
def yX0_familyOf : MethodName := ⟨RX0, "familyOf", "(I)LDensitiesOfNets$Family;"⟩
abbrev cX0_greatestSize : ByteArray := prog_2_method_3_code
def yX0_greatestSize : MethodName := ⟨RX0, "greatestSize", "(LDensitiesOfNets$Sum;I)I"⟩
abbrev cX0_combine : ByteArray := prog_2_method_4_code
def yX0_combine : MethodName := ⟨RX0, "combine", "(LDensitiesOfNets$Sum;LDensitiesOfNets$Sum;ILDensitiesOfNets$Sum;)I"⟩
abbrev cX0_isTooLarge : ByteArray := prog_2_method_5_code
def yX0_isTooLarge : MethodName := ⟨RX0, "isTooLarge", "(III)Z"⟩
abbrev cX0_unite : ByteArray := prog_2_method_6_code
def yX0_unite : MethodName := ⟨RX0, "unite", "(LDensitiesOfNets$Sum;LDensitiesOfNets$Sum;Z)Z"⟩
abbrev cX0_multiply : ByteArray := prog_2_method_7_code
def yX0_multiply : MethodName := ⟨RX0, "multiply", "(LDensitiesOfNets$Sum;LDensitiesOfNets$Sum;II)Z"⟩
abbrev cX0_spread : ByteArray := prog_2_method_8_code
def yX0_spread : MethodName := ⟨RX0, "spread", "(IILDensitiesOfNets$Family;I)Z"⟩
abbrev cX0_raise : ByteArray := prog_2_method_9_code
def yX0_raise : MethodName := ⟨RX0, "raise", "(LDensitiesOfNets$Sum;ILDensitiesOfNets$Sum;)Z"⟩
abbrev cX0_uproot : ByteArray := prog_2_method_10_code
def yX0_uproot : MethodName := ⟨RX0, "uproot", "(LDensitiesOfNets$Sum;LDensitiesOfNets$Sum;)I"⟩
abbrev cX0_weigh : ByteArray := prog_2_method_11_code
def yX0_weigh : MethodName := ⟨RX0, "weigh", "(LDensitiesOfNets$Sum;LDensitiesOfNets$Net;ILDensitiesOfNets$Fraction;)Z"⟩
def RX1 : String := "DensitiesOfNets$Family"
def TX1 : u_T := fun k => match k with
  | 0 => ("DensitiesOfNets$Family", "isRooted", "Z", true)
  | 1 => ("DensitiesOfNets$Family", "shared", "I", true)
  | 2 => ("DensitiesOfNets$Family", "many", "I", true)
  | 3 => ("DensitiesOfNets$Family", "sizes", "[I", true)
  | 4 => ("DensitiesOfNets$Family", "codes", "[I", true)
  | 5 => ("DensitiesOfNets$Family", "nets", "[LDensitiesOfNets$Net;", true)
  | 6 => ("DensitiesOfNets$Family", "firsts", "[I", true)
  | 7 => ("DensitiesOfNets$Family", "numbers", "[[I", true)
  | 8 => ("DensitiesOfNets$Family", "onSets", "[[I", true)
  | 9 => ("DensitiesOfNets$Family", "renamings", "[I", true)
  | 10 => ("DensitiesOfNets$Family", "tallies", "[I", true)
  | 11 => ("DensitiesOfNets$Family", "come", "[I", true)
  | _ => ("DensitiesOfNets$Family", "comers", "I", false)
def tyX1 : Nat → FieldType := fun k => match k with
  | 0 => .boolean
  | 1 => .int
  | 2 => .int
  | 3 => .array .int
  | 4 => .array .int
  | 5 => .array (.object "DensitiesOfNets$Net")
  | 6 => .array .int
  | 7 => .array (.array .int)
  | 8 => .array (.array .int)
  | 9 => .array .int
  | 10 => .array .int
  | 11 => .array .int
  | _ => .int
theorem nmX1 : ∀ a, a < 13 → ∀ b, b < 13 → a ≠ b → (TX1 a).2.1 ≠ (TX1 b).2.1 := by decide +kernel
theorem tyX1_ok : ∀ k, k < 13 → parseFieldDescriptor (TX1 k).2.2.1 = some (tyX1 k) := by decide +kernel
abbrev cX1_init : ByteArray := prog_3_method_1_code
def yX1_init : MethodName := ⟨RX1, "<init>", "(ZI)V"⟩
abbrev cX1_numberAll : ByteArray := prog_3_method_2_code
def yX1_numberAll : MethodName := ⟨RX1, "numberAll", "()V"⟩
abbrev cX1_leastCode : ByteArray := prog_3_method_3_code
def yX1_leastCode : MethodName := ⟨RX1, "leastCode", "(II)I"⟩
abbrev cX1_suits : ByteArray := prog_3_method_4_code
def yX1_suits : MethodName := ⟨RX1, "suits", "(II)Z"⟩
abbrev cX1_allRenamings : ByteArray := prog_3_method_5_code
def yX1_allRenamings : MethodName := ⟨RX1, "allRenamings", "()[I"⟩
abbrev cX1_newName : ByteArray := prog_3_method_6_code
def yX1_newName : MethodName := ⟨RX1, "newName", "(II)I"⟩
abbrev cX1_renamed : ByteArray := prog_3_method_7_code
def yX1_renamed : MethodName := ⟨RX1, "renamed", "(III)I"⟩
abbrev cX1_bitOf : ByteArray := prog_3_method_8_code
def yX1_bitOf : MethodName := ⟨RX1, "bitOf", "(II)I"⟩
abbrev cX1_codesOf : ByteArray := prog_3_method_9_code
def yX1_codesOf : MethodName := ⟨RX1, "codesOf", "(I)I"⟩
abbrev cX1_has : ByteArray := prog_3_method_10_code
def yX1_has : MethodName := ⟨RX1, "has", "(I)Z"⟩
abbrev cX1_hasSize : ByteArray := prog_3_method_11_code
def yX1_hasSize : MethodName := ⟨RX1, "hasSize", "(I)Z"⟩
abbrev cX1_manyOf : ByteArray := prog_3_method_12_code
def yX1_manyOf : MethodName := ⟨RX1, "manyOf", "(I)I"⟩
abbrev cX1_symmetriesOf : ByteArray := prog_3_method_13_code
def yX1_symmetriesOf : MethodName := ⟨RX1, "symmetriesOf", "(I)I"⟩
abbrev cX1_oppositeOf : ByteArray := prog_3_method_14_code
def yX1_oppositeOf : MethodName := ⟨RX1, "oppositeOf", "(I)I"⟩
abbrev cX1_numberOn : ByteArray := prog_3_method_15_code
def yX1_numberOn : MethodName := ⟨RX1, "numberOn", "(LDensitiesOfNets$Net;II)I"⟩
abbrev cX1_sizeOfBoth : ByteArray := prog_3_method_16_code
def yX1_sizeOfBoth : MethodName := ⟨RX1, "sizeOfBoth", "(II)I"⟩
abbrev cX1_setsIn : ByteArray := prog_3_method_17_code
def yX1_setsIn : MethodName := ⟨RX1, "setsIn", "(II)I"⟩
abbrev cX1_pairsIn : ByteArray := prog_3_method_18_code
def yX1_pairsIn : MethodName := ⟨RX1, "pairsIn", "(III)I"⟩
abbrev cX1_ways : ByteArray := prog_3_method_19_code
def yX1_ways : MethodName := ⟨RX1, "ways", "(II)I"⟩
abbrev cX1_jointsIn : ByteArray := prog_3_method_20_code
def yX1_jointsIn : MethodName := ⟨RX1, "jointsIn", "(III)I"⟩
abbrev cX1_tally : ByteArray := prog_3_method_21_code
def yX1_tally : MethodName := ⟨RX1, "tally", "(LDensitiesOfNets$Net;II)V"⟩
abbrev cX1_shareOf : ByteArray := prog_3_method_22_code
def yX1_shareOf : MethodName := ⟨RX1, "shareOf", "(ILDensitiesOfNets$Net;ILDensitiesOfNets$Fraction;)V"⟩
abbrev cX1_ranked : ByteArray := prog_3_method_23_code
def yX1_ranked : MethodName := ⟨RX1, "ranked", "(II)I"⟩
def RX2 : String := "DensitiesOfNets$Fraction"
def TX2 : u_T := fun k => match k with
  | 0 => ("DensitiesOfNets$Fraction", "above", "J", false)
  | _ => ("DensitiesOfNets$Fraction", "below", "J", false)
def tyX2 : Nat → FieldType := fun k => match k with
  | 0 => .long
  | _ => .long
theorem nmX2 : ∀ a, a < 2 → ∀ b, b < 2 → a ≠ b → (TX2 a).2.1 ≠ (TX2 b).2.1 := by decide +kernel
theorem tyX2_ok : ∀ k, k < 2 → parseFieldDescriptor (TX2 k).2.2.1 = some (tyX2 k) := by decide +kernel
abbrev cX2_init : ByteArray := prog_4_method_1_code
def yX2_init : MethodName := ⟨RX2, "<init>", "()V"⟩
abbrev cX2_become : ByteArray := prog_4_method_2_code
def yX2_become : MethodName := ⟨RX2, "become", "(JJ)V"⟩
abbrev cX2_times : ByteArray := prog_4_method_3_code
def yX2_times : MethodName := ⟨RX2, "times", "(JJ)Z"⟩
abbrev cX2_part : ByteArray := prog_4_method_4_code
def yX2_part : MethodName := ⟨RX2, "part", "(I)J"⟩
abbrev cX2_greatestIn : ByteArray := prog_4_method_5_code
def yX2_greatestIn : MethodName := ⟨RX2, "greatestIn", "(JJ)J"⟩
abbrev cX2_isBeyond : ByteArray := prog_4_method_6_code
def yX2_isBeyond : MethodName := ⟨RX2, "isBeyond", "(JJ)Z"⟩
abbrev cX2_isLess : ByteArray := prog_4_method_7_code
def yX2_isLess : MethodName := ⟨RX2, "isLess", "(JJJJ)Z"⟩
def RX3 : String := "DensitiesOfNets$Net"
def TX3 : u_T := fun k => match k with
  | 0 => ("DensitiesOfNets$Net", "many", "I", false)
  | 1 => ("DensitiesOfNets$Net", "rows", "[I", true)
  | _ => ("DensitiesOfNets$Net", "chosen", "[I", true)
def tyX3 : Nat → FieldType := fun k => match k with
  | 0 => .int
  | 1 => .array .int
  | _ => .array .int
theorem nmX3 : ∀ a, a < 3 → ∀ b, b < 3 → a ≠ b → (TX3 a).2.1 ≠ (TX3 b).2.1 := by decide +kernel
theorem tyX3_ok : ∀ k, k < 3 → parseFieldDescriptor (TX3 k).2.2.1 = some (tyX3 k) := by decide +kernel
abbrev cX3_init : ByteArray := prog_5_method_1_code
def yX3_init : MethodName := ⟨RX3, "<init>", "()V"⟩
abbrev cX3_startWith : ByteArray := prog_5_method_2_code
def yX3_startWith : MethodName := ⟨RX3, "startWith", "(I)V"⟩
abbrev cX3_become : ByteArray := prog_5_method_3_code
def yX3_become : MethodName := ⟨RX3, "become", "(LDensitiesOfNets$Net;)V"⟩
abbrev cX3_unfold : ByteArray := prog_5_method_4_code
def yX3_unfold : MethodName := ⟨RX3, "unfold", "(II)V"⟩
abbrev cX3_has : ByteArray := prog_5_method_5_code
def yX3_has : MethodName := ⟨RX3, "has", "(I)Z"⟩
abbrev cX3_joins : ByteArray := prog_5_method_6_code
def yX3_joins : MethodName := ⟨RX3, "joins", "(II)Z"⟩
abbrev cX3_draw : ByteArray := prog_5_method_7_code
def yX3_draw : MethodName := ⟨RX3, "draw", "(IIZ)V"⟩
abbrev cX3_lines : ByteArray := prog_5_method_8_code
def yX3_lines : MethodName := ⟨RX3, "lines", "()I"⟩
abbrev cX3_mostLines : ByteArray := prog_5_method_9_code
def yX3_mostLines : MethodName := ⟨RX3, "mostLines", "()I"⟩
abbrev cX3_evenTriples : ByteArray := prog_5_method_10_code
def yX3_evenTriples : MethodName := ⟨RX3, "evenTriples", "()I"⟩
abbrev cX3_codeOn : ByteArray := prog_5_method_11_code
def yX3_codeOn : MethodName := ⟨RX3, "codeOn", "(II)I"⟩
abbrev cX3_mapsFrom : ByteArray := prog_5_method_12_code
def yX3_mapsFrom : MethodName := ⟨RX3, "mapsFrom", "(LDensitiesOfNets$Net;)I"⟩
abbrev cX3_keepsLines : ByteArray := prog_5_method_13_code
def yX3_keepsLines : MethodName := ⟨RX3, "keepsLines", "(LDensitiesOfNets$Net;I)Z"⟩
def RX4 : String := "DensitiesOfNets$Reckoner"
def TX4 : u_T := fun k => match k with
  | 0 => ("DensitiesOfNets$Reckoner", "algebra", "LDensitiesOfNets$Algebra;", true)
  | 1 => ("DensitiesOfNets$Reckoner", "pile", "[LDensitiesOfNets$Sum;", true)
  | 2 => ("DensitiesOfNets$Reckoner", "piled", "I", false)
  | _ => ("DensitiesOfNets$Reckoner", "read", "LDensitiesOfNets$Fraction;", true)
def tyX4 : Nat → FieldType := fun k => match k with
  | 0 => .object "DensitiesOfNets$Algebra"
  | 1 => .array (.object "DensitiesOfNets$Sum")
  | 2 => .int
  | _ => .object "DensitiesOfNets$Fraction"
theorem nmX4 : ∀ a, a < 4 → ∀ b, b < 4 → a ≠ b → (TX4 a).2.1 ≠ (TX4 b).2.1 := by decide +kernel
theorem tyX4_ok : ∀ k, k < 4 → parseFieldDescriptor (TX4 k).2.2.1 = some (tyX4 k) := by decide +kernel
abbrev cX4_init : ByteArray := prog_6_method_1_code
def yX4_init : MethodName := ⟨RX4, "<init>", "(LDensitiesOfNets$Algebra;)V"⟩
abbrev cX4_outcome : ByteArray := prog_6_method_2_code
def yX4_outcome : MethodName := ⟨RX4, "outcome", "()LDensitiesOfNets$Sum;"⟩
abbrev cX4_workOut : ByteArray := prog_6_method_3_code
def yX4_workOut : MethodName := ⟨RX4, "workOut", "(LDensitiesOfNets$Text;)I"⟩
abbrev cX4_pileOne : ByteArray := prog_6_method_4_code
def yX4_pileOne : MethodName := ⟨RX4, "pileOne", "(III)V"⟩
def RX5 : String := "DensitiesOfNets$Shelf"
def TX5 : u_T := fun k => match k with
  | 0 => ("DensitiesOfNets$Shelf", "holds", "[Z", true)
  | _ => ("DensitiesOfNets$Shelf", "sums", "[LDensitiesOfNets$Sum;", true)
def tyX5 : Nat → FieldType := fun k => match k with
  | 0 => .array .boolean
  | _ => .array (.object "DensitiesOfNets$Sum")
theorem nmX5 : ∀ a, a < 2 → ∀ b, b < 2 → a ≠ b → (TX5 a).2.1 ≠ (TX5 b).2.1 := by decide +kernel
theorem tyX5_ok : ∀ k, k < 2 → parseFieldDescriptor (TX5 k).2.2.1 = some (tyX5 k) := by decide +kernel
abbrev cX5_init : ByteArray := prog_7_method_1_code
def yX5_init : MethodName := ⟨RX5, "<init>", "()V"⟩
abbrev cX5_become : ByteArray := prog_7_method_2_code
def yX5_become : MethodName := ⟨RX5, "become", "(LDensitiesOfNets$Shelf;)V"⟩
abbrev cX5_put : ByteArray := prog_7_method_3_code
def yX5_put : MethodName := ⟨RX5, "put", "(ILDensitiesOfNets$Sum;)I"⟩
abbrev cX5_drop : ByteArray := prog_7_method_4_code
def yX5_drop : MethodName := ⟨RX5, "drop", "(I)V"⟩
abbrev cX5_held : ByteArray := prog_7_method_5_code
def yX5_held : MethodName := ⟨RX5, "held", "()I"⟩
abbrev cX5_terms : ByteArray := prog_7_method_6_code
def yX5_terms : MethodName := ⟨RX5, "terms", "()I"⟩
def RX6 : String := "DensitiesOfNets$Sum"
def TX6 : u_T := fun k => match k with
  | 0 => ("DensitiesOfNets$Sum", "kind", "I", false)
  | 1 => ("DensitiesOfNets$Sum", "above", "[J", true)
  | _ => ("DensitiesOfNets$Sum", "below", "[J", true)
def tyX6 : Nat → FieldType := fun k => match k with
  | 0 => .int
  | 1 => .array .long
  | _ => .array .long
theorem nmX6 : ∀ a, a < 3 → ∀ b, b < 3 → a ≠ b → (TX6 a).2.1 ≠ (TX6 b).2.1 := by decide +kernel
theorem tyX6_ok : ∀ k, k < 3 → parseFieldDescriptor (TX6 k).2.2.1 = some (tyX6 k) := by decide +kernel
abbrev cX6_init : ByteArray := prog_8_method_1_code
def yX6_init : MethodName := ⟨RX6, "<init>", "()V"⟩
abbrev cX6_empty : ByteArray := prog_8_method_2_code
def yX6_empty : MethodName := ⟨RX6, "empty", "()V"⟩
abbrev cX6_become : ByteArray := prog_8_method_3_code
def yX6_become : MethodName := ⟨RX6, "become", "(LDensitiesOfNets$Sum;)V"⟩
abbrev cX6_terms : ByteArray := prog_8_method_4_code
def yX6_terms : MethodName := ⟨RX6, "terms", "()I"⟩
abbrev cX6_numberOfTerm : ByteArray := prog_8_method_5_code
def yX6_numberOfTerm : MethodName := ⟨RX6, "numberOfTerm", "(I)I"⟩
abbrev cX6_take : ByteArray := prog_8_method_6_code
def yX6_take : MethodName := ⟨RX6, "take", "(ILDensitiesOfNets$Fraction;)V"⟩
abbrev cX6_add : ByteArray := prog_8_method_7_code
def yX6_add : MethodName := ⟨RX6, "add", "(ILDensitiesOfNets$Fraction;)Z"⟩
abbrev cX6_settle : ByteArray := prog_8_method_8_code
def yX6_settle : MethodName := ⟨RX6, "settle", "(I)V"⟩
abbrev cX6_extremeOf : ByteArray := prog_8_method_9_code
def yX6_extremeOf : MethodName := ⟨RX6, "extremeOf", "(IIZ)I"⟩
def RX7 : String := "DensitiesOfNets$Text"
def TX7 : u_T := fun k => match k with
  | 0 => ("DensitiesOfNets$Text", "flags", "LDensitiesOfNets$Family;", true)
  | 1 => ("DensitiesOfNets$Text", "roots", "LDensitiesOfNets$Family;", true)
  | 2 => ("DensitiesOfNets$Text", "bytes", "[I", true)
  | 3 => ("DensitiesOfNets$Text", "size", "I", false)
  | 4 => ("DensitiesOfNets$Text", "orders", "I", false)
  | 5 => ("DensitiesOfNets$Text", "signs", "[I", true)
  | 6 => ("DensitiesOfNets$Text", "places", "[I", true)
  | 7 => ("DensitiesOfNets$Text", "firsts", "[I", true)
  | 8 => ("DensitiesOfNets$Text", "seconds", "[I", true)
  | 9 => ("DensitiesOfNets$Text", "at", "I", false)
  | 10 => ("DensitiesOfNets$Text", "open", "I", false)
  | 11 => ("DensitiesOfNets$Text", "openedAt", "[I", true)
  | 12 => ("DensitiesOfNets$Text", "addingAt", "[I", true)
  | _ => ("DensitiesOfNets$Text", "timesAt", "[I", true)
def tyX7 : Nat → FieldType := fun k => match k with
  | 0 => .object "DensitiesOfNets$Family"
  | 1 => .object "DensitiesOfNets$Family"
  | 2 => .array .int
  | 3 => .int
  | 4 => .int
  | 5 => .array .int
  | 6 => .array .int
  | 7 => .array .int
  | 8 => .array .int
  | 9 => .int
  | 10 => .int
  | 11 => .array .int
  | 12 => .array .int
  | _ => .array .int
theorem nmX7 : ∀ a, a < 14 → ∀ b, b < 14 → a ≠ b → (TX7 a).2.1 ≠ (TX7 b).2.1 := by decide +kernel
theorem tyX7_ok : ∀ k, k < 14 → parseFieldDescriptor (TX7 k).2.2.1 = some (tyX7 k) := by decide +kernel
abbrev cX7_init : ByteArray := prog_9_method_1_code
def yX7_init : MethodName := ⟨RX7, "<init>", "(LDensitiesOfNets$Family;LDensitiesOfNets$Family;)V"⟩
abbrev cX7_takeApart : ByteArray := prog_9_method_2_code
def yX7_takeApart : MethodName := ⟨RX7, "takeApart", "()I"⟩
abbrev cX7_faultOf : ByteArray := prog_9_method_3_code
def yX7_faultOf : MethodName := ⟨RX7, "faultOf", "(II)I"⟩
abbrev cX7_takeAll : ByteArray := prog_9_method_4_code
def yX7_takeAll : MethodName := ⟨RX7, "takeAll", "()I"⟩
abbrev cX7_startLevel : ByteArray := prog_9_method_5_code
def yX7_startLevel : MethodName := ⟨RX7, "startLevel", "(II)V"⟩
abbrev cX7_takeOpening : ByteArray := prog_9_method_6_code
def yX7_takeOpening : MethodName := ⟨RX7, "takeOpening", "()I"⟩
abbrev cX7_takeBehindOne : ByteArray := prog_9_method_7_code
def yX7_takeBehindOne : MethodName := ⟨RX7, "takeBehindOne", "(I)I"⟩
abbrev cX7_endLevel : ByteArray := prog_9_method_8_code
def yX7_endLevel : MethodName := ⟨RX7, "endLevel", "(I)V"⟩
abbrev cX7_endOne : ByteArray := prog_9_method_9_code
def yX7_endOne : MethodName := ⟨RX7, "endOne", "()V"⟩
abbrev cX7_endProduct : ByteArray := prog_9_method_10_code
def yX7_endProduct : MethodName := ⟨RX7, "endProduct", "()V"⟩
abbrev cX7_order : ByteArray := prog_9_method_11_code
def yX7_order : MethodName := ⟨RX7, "order", "(IIII)V"⟩
abbrev cX7_takeOne : ByteArray := prog_9_method_12_code
def yX7_takeOne : MethodName := ⟨RX7, "takeOne", "(I)I"⟩
abbrev cX7_takeNet : ByteArray := prog_9_method_13_code
def yX7_takeNet : MethodName := ⟨RX7, "takeNet", "(ILDensitiesOfNets$Family;)I"⟩
abbrev cX7_takeFraction : ByteArray := prog_9_method_14_code
def yX7_takeFraction : MethodName := ⟨RX7, "takeFraction", "()I"⟩
abbrev cX7_endOfFigures : ByteArray := prog_9_method_15_code
def yX7_endOfFigures : MethodName := ⟨RX7, "endOfFigures", "(I)I"⟩
abbrev cX7_badFigure : ByteArray := prog_9_method_16_code
def yX7_badFigure : MethodName := ⟨RX7, "badFigure", "(III)I"⟩
abbrev cX7_numberOf : ByteArray := prog_9_method_17_code
def yX7_numberOf : MethodName := ⟨RX7, "numberOf", "(II)I"⟩
abbrev cX7_netOf : ByteArray := prog_9_method_18_code
def yX7_netOf : MethodName := ⟨RX7, "netOf", "(IILDensitiesOfNets$Family;)I"⟩
def RX8 : String := "DensitiesOfNets"
def TX8 : u_T := fun k => match k with
  | 0 => ("DensitiesOfNets", "flags", "LDensitiesOfNets$Family;", true)
  | 1 => ("DensitiesOfNets", "roots", "LDensitiesOfNets$Family;", true)
  | 2 => ("DensitiesOfNets", "algebra", "LDensitiesOfNets$Algebra;", true)
  | 3 => ("DensitiesOfNets", "tape", "LDensitiesOfNets$Text;", true)
  | 4 => ("DensitiesOfNets", "reckoner", "LDensitiesOfNets$Reckoner;", true)
  | 5 => ("DensitiesOfNets", "answer", "LDensitiesOfNets$Fraction;", true)
  | 6 => ("DensitiesOfNets", "scratch", "LDensitiesOfNets$Sum;", true)
  | 7 => ("DensitiesOfNets", "hand", "LDensitiesOfNets$Net;", true)
  | 8 => ("DensitiesOfNets", "shelf", "LDensitiesOfNets$Shelf;", true)
  | 9 => ("DensitiesOfNets", "keptHand", "LDensitiesOfNets$Net;", true)
  | 10 => ("DensitiesOfNets", "keptShelf", "LDensitiesOfNets$Shelf;", true)
  | _ => ("DensitiesOfNets", "hasImage", "Z", false)
def tyX8 : Nat → FieldType := fun k => match k with
  | 0 => .object "DensitiesOfNets$Family"
  | 1 => .object "DensitiesOfNets$Family"
  | 2 => .object "DensitiesOfNets$Algebra"
  | 3 => .object "DensitiesOfNets$Text"
  | 4 => .object "DensitiesOfNets$Reckoner"
  | 5 => .object "DensitiesOfNets$Fraction"
  | 6 => .object "DensitiesOfNets$Sum"
  | 7 => .object "DensitiesOfNets$Net"
  | 8 => .object "DensitiesOfNets$Shelf"
  | 9 => .object "DensitiesOfNets$Net"
  | 10 => .object "DensitiesOfNets$Shelf"
  | _ => .boolean
theorem nmX8 : ∀ a, a < 12 → ∀ b, b < 12 → a ≠ b → (TX8 a).2.1 ≠ (TX8 b).2.1 := by decide +kernel
theorem tyX8_ok : ∀ k, k < 12 → parseFieldDescriptor (TX8 k).2.2.1 = some (tyX8 k) := by decide +kernel
abbrev cX8_init : ByteArray := prog_1_method_1_code
def yX8_init : MethodName := ⟨RX8, "<init>", "()V"⟩
abbrev cX8_flag : ByteArray := prog_1_method_2_code
def yX8_flag : MethodName := ⟨RX8, "flag", "(II)I"⟩
abbrev cX8_rooted : ByteArray := prog_1_method_3_code
def yX8_rooted : MethodName := ⟨RX8, "rooted", "(II)I"⟩
abbrev cX8_alike : ByteArray := prog_1_method_4_code
def yX8_alike : MethodName := ⟨RX8, "alike", "(III)I"⟩
abbrev cX8_inside : ByteArray := prog_1_method_5_code
def yX8_inside : MethodName := ⟨RX8, "inside", "(III)J"⟩
abbrev cX8_joint : ByteArray := prog_1_method_6_code
def yX8_joint : MethodName := ⟨RX8, "joint", "(IIII)J"⟩
abbrev cX8_jointRooted : ByteArray := prog_1_method_7_code
def yX8_jointRooted : MethodName := ⟨RX8, "jointRooted", "(IIII)J"⟩
abbrev cX8_jointPart : ByteArray := prog_1_method_8_code
def yX8_jointPart : MethodName := ⟨RX8, "jointPart", "(LDensitiesOfNets$Family;IIII)J"⟩
abbrev cX8_points : ByteArray := prog_1_method_9_code
def yX8_points : MethodName := ⟨RX8, "points", "(I)I"⟩
abbrev cX8_line : ByteArray := prog_1_method_10_code
def yX8_line : MethodName := ⟨RX8, "line", "(III)I"⟩
abbrev cX8_told : ByteArray := prog_1_method_11_code
def yX8_told : MethodName := ⟨RX8, "told", "(I)I"⟩
abbrev cX8_beside : ByteArray := prog_1_method_12_code
def yX8_beside : MethodName := ⟨RX8, "beside", "(I)I"⟩
abbrev cX8_share : ByteArray := prog_1_method_13_code
def yX8_share : MethodName := ⟨RX8, "share", "(II)J"⟩
abbrev cX8_shareAt : ByteArray := prog_1_method_14_code
def yX8_shareAt : MethodName := ⟨RX8, "shareAt", "(III)J"⟩
abbrev cX8_maps : ByteArray := prog_1_method_15_code
def yX8_maps : MethodName := ⟨RX8, "maps", "(I)I"⟩
abbrev cX8_rank : ByteArray := prog_1_method_16_code
def yX8_rank : MethodName := ⟨RX8, "rank", "(II)I"⟩
abbrev cX8_found : ByteArray := prog_1_method_17_code
def yX8_found : MethodName := ⟨RX8, "found", "(II)I"⟩
abbrev cX8_feed : ByteArray := prog_1_method_18_code
def yX8_feed : MethodName := ⟨RX8, "feed", "(I)I"⟩
abbrev cX8_read : ByteArray := prog_1_method_19_code
def yX8_read : MethodName := ⟨RX8, "read", "(I)I"⟩
abbrev cX8_clear : ByteArray := prog_1_method_20_code
def yX8_clear : MethodName := ⟨RX8, "clear", "(I)I"⟩
abbrev cX8_sum : ByteArray := prog_1_method_21_code
def yX8_sum : MethodName := ⟨RX8, "sum", "(II)I"⟩
abbrev cX8_term : ByteArray := prog_1_method_22_code
def yX8_term : MethodName := ⟨RX8, "term", "(II)I"⟩
abbrev cX8_coefficient : ByteArray := prog_1_method_23_code
def yX8_coefficient : MethodName := ⟨RX8, "coefficient", "(III)J"⟩
abbrev cX8_makes : ByteArray := prog_1_method_24_code
def yX8_makes : MethodName := ⟨RX8, "makes", "(IIII)I"⟩
abbrev cX8_lift : ByteArray := prog_1_method_25_code
def yX8_lift : MethodName := ⟨RX8, "lift", "(II)I"⟩
abbrev cX8_average : ByteArray := prog_1_method_26_code
def yX8_average : MethodName := ⟨RX8, "average", "(I)I"⟩
abbrev cX8_bound : ByteArray := prog_1_method_27_code
def yX8_bound : MethodName := ⟨RX8, "bound", "(IIII)J"⟩
abbrev cX8_value : ByteArray := prog_1_method_28_code
def yX8_value : MethodName := ⟨RX8, "value", "(II)J"⟩
abbrev cX8_valueAt : ByteArray := prog_1_method_29_code
def yX8_valueAt : MethodName := ⟨RX8, "valueAt", "(III)J"⟩
abbrev cX8_move : ByteArray := prog_1_method_30_code
def yX8_move : MethodName := ⟨RX8, "move", "(II)I"⟩
abbrev cX8_film : ByteArray := prog_1_method_31_code
def yX8_film : MethodName := ⟨RX8, "film", "(II)I"⟩
abbrev cX8_image : ByteArray := prog_1_method_32_code
def yX8_image : MethodName := ⟨RX8, "image", "()I"⟩
abbrev cX8_back : ByteArray := prog_1_method_33_code
def yX8_back : MethodName := ⟨RX8, "back", "()I"⟩
abbrev cX8_count : ByteArray := prog_1_method_34_code
def yX8_count : MethodName := ⟨RX8, "count", "(I)I"⟩
abbrev cX8_isStore : ByteArray := prog_1_method_35_code
def yX8_isStore : MethodName := ⟨RX8, "isStore", "(I)Z"⟩
abbrev cX8_isPart : ByteArray := prog_1_method_36_code
def yX8_isPart : MethodName := ⟨RX8, "isPart", "(I)Z"⟩
def RX9 : String := "DensitiesOfNetsModel"
def TX9 : u_T := fun k => match k with
  | 0 => ("DensitiesOfNetsModel", "sizeOf", "[I", true)
  | 1 => ("DensitiesOfNetsModel", "codeOf", "[I", true)
  | 2 => ("DensitiesOfNetsModel", "flagBy", "[I", true)
  | 3 => ("DensitiesOfNetsModel", "rootBy", "[I", true)
  | 4 => ("DensitiesOfNetsModel", "renamed", "[I", true)
  | 5 => ("DensitiesOfNetsModel", "points", "I", false)
  | 6 => ("DensitiesOfNetsModel", "lines", "[I", true)
  | 7 => ("DensitiesOfNetsModel", "lookMany", "I", false)
  | 8 => ("DensitiesOfNetsModel", "look", "[I", true)
  | 9 => ("DensitiesOfNetsModel", "holds", "[Z", true)
  | 10 => ("DensitiesOfNetsModel", "kind", "[I", true)
  | 11 => ("DensitiesOfNetsModel", "up", "[J", true)
  | 12 => ("DensitiesOfNetsModel", "low", "[J", true)
  | 13 => ("DensitiesOfNetsModel", "taped", "I", false)
  | 14 => ("DensitiesOfNetsModel", "tape", "[I", true)
  | 15 => ("DensitiesOfNetsModel", "hasImage", "Z", false)
  | 16 => ("DensitiesOfNetsModel", "points1", "I", false)
  | 17 => ("DensitiesOfNetsModel", "lines1", "[I", true)
  | 18 => ("DensitiesOfNetsModel", "holds1", "[Z", true)
  | 19 => ("DensitiesOfNetsModel", "kind1", "[I", true)
  | 20 => ("DensitiesOfNetsModel", "up1", "[J", true)
  | 21 => ("DensitiesOfNetsModel", "low1", "[J", true)
  | 22 => ("DensitiesOfNetsModel", "chosen", "[I", true)
  | 23 => ("DensitiesOfNetsModel", "above", "J", false)
  | 24 => ("DensitiesOfNetsModel", "below", "J", false)
  | 25 => ("DensitiesOfNetsModel", "isOver", "Z", false)
  | 26 => ("DensitiesOfNetsModel", "numbers", "[I", true)
  | 27 => ("DensitiesOfNetsModel", "counts", "[I", true)
  | 28 => ("DensitiesOfNetsModel", "first", "[I", true)
  | 29 => ("DensitiesOfNetsModel", "at", "I", false)
  | 30 => ("DensitiesOfNetsModel", "tokens", "I", false)
  | 31 => ("DensitiesOfNetsModel", "token", "[I", true)
  | 32 => ("DensitiesOfNetsModel", "place", "[I", true)
  | 33 => ("DensitiesOfNetsModel", "upper", "[I", true)
  | 34 => ("DensitiesOfNetsModel", "lower", "[I", true)
  | 35 => ("DensitiesOfNetsModel", "opens", "I", false)
  | 36 => ("DensitiesOfNetsModel", "opened", "[I", true)
  | 37 => ("DensitiesOfNetsModel", "level", "I", false)
  | 38 => ("DensitiesOfNetsModel", "hasSum", "[Z", true)
  | 39 => ("DensitiesOfNetsModel", "hasProduct", "[Z", true)
  | 40 => ("DensitiesOfNetsModel", "signAt", "[I", true)
  | 41 => ("DensitiesOfNetsModel", "timesAt", "[I", true)
  | 42 => ("DensitiesOfNetsModel", "braceAt", "[I", true)
  | _ => ("DensitiesOfNetsModel", "fault", "I", false)
def tyX9 : Nat → FieldType := fun k => match k with
  | 0 => .array .int
  | 1 => .array .int
  | 2 => .array .int
  | 3 => .array .int
  | 4 => .array .int
  | 5 => .int
  | 6 => .array .int
  | 7 => .int
  | 8 => .array .int
  | 9 => .array .boolean
  | 10 => .array .int
  | 11 => .array .long
  | 12 => .array .long
  | 13 => .int
  | 14 => .array .int
  | 15 => .boolean
  | 16 => .int
  | 17 => .array .int
  | 18 => .array .boolean
  | 19 => .array .int
  | 20 => .array .long
  | 21 => .array .long
  | 22 => .array .int
  | 23 => .long
  | 24 => .long
  | 25 => .boolean
  | 26 => .array .int
  | 27 => .array .int
  | 28 => .array .int
  | 29 => .int
  | 30 => .int
  | 31 => .array .int
  | 32 => .array .int
  | 33 => .array .int
  | 34 => .array .int
  | 35 => .int
  | 36 => .array .int
  | 37 => .int
  | 38 => .array .boolean
  | 39 => .array .boolean
  | 40 => .array .int
  | 41 => .array .int
  | 42 => .array .int
  | _ => .int
theorem nmX9 : ∀ a, a < 44 → ∀ b, b < 44 → a ≠ b → (TX9 a).2.1 ≠ (TX9 b).2.1 := by decide +kernel
theorem tyX9_ok : ∀ k, k < 44 → parseFieldDescriptor (TX9 k).2.2.1 = some (tyX9 k) := by decide +kernel
abbrev cX9_in : ByteArray := prog_11_method_1_code
def yX9_in : MethodName := ⟨RX9, "in", "(III)Z"⟩
abbrev cX9_bit : ByteArray := prog_11_method_2_code
def yX9_bit : MethodName := ⟨RX9, "bit", "(II)I"⟩
abbrev cX9_codes : ByteArray := prog_11_method_3_code
def yX9_codes : MethodName := ⟨RX9, "codes", "(I)I"⟩
abbrev cX9_isRenaming : ByteArray := prog_11_method_4_code
def yX9_isRenaming : MethodName := ⟨RX9, "isRenaming", "(II)Z"⟩
abbrev cX9_renamedCode : ByteArray := prog_11_method_5_code
def yX9_renamedCode : MethodName := ⟨RX9, "renamedCode", "(II)I"⟩
abbrev cX9_leastCode : ByteArray := prog_11_method_6_code
def yX9_leastCode : MethodName := ⟨RX9, "leastCode", "(IIZ)I"⟩
abbrev cX9_layTables : ByteArray := prog_11_method_7_code
def yX9_layTables : MethodName := ⟨RX9, "layTables", "()V"⟩
abbrev cX9_init : ByteArray := prog_11_method_8_code
def yX9_init : MethodName := ⟨RX9, "<init>", "()V"⟩
abbrev cX9_isFlag : ByteArray := prog_11_method_9_code
def yX9_isFlag : MethodName := ⟨RX9, "isFlag", "(I)Z"⟩
abbrev cX9_isRooted : ByteArray := prog_11_method_10_code
def yX9_isRooted : MethodName := ⟨RX9, "isRooted", "(I)Z"⟩
abbrev cX9_ones : ByteArray := prog_11_method_11_code
def yX9_ones : MethodName := ⟨RX9, "ones", "(I)I"⟩
abbrev cX9_lookInto : ByteArray := prog_11_method_12_code
def yX9_lookInto : MethodName := ⟨RX9, "lookInto", "(II)V"⟩
abbrev cX9_lookInHand : ByteArray := prog_11_method_13_code
def yX9_lookInHand : MethodName := ⟨RX9, "lookInHand", "()V"⟩
abbrev cX9_codeOn : ByteArray := prog_11_method_14_code
def yX9_codeOn : MethodName := ⟨RX9, "codeOn", "(II)I"⟩
abbrev cX9_numberOn : ByteArray := prog_11_method_15_code
def yX9_numberOn : MethodName := ⟨RX9, "numberOn", "(II)I"⟩
abbrev cX9_common : ByteArray := prog_11_method_16_code
def yX9_common : MethodName := ⟨RX9, "common", "(JJ)J"⟩
abbrev cX9_lay : ByteArray := prog_11_method_17_code
def yX9_lay : MethodName := ⟨RX9, "lay", "(JJ)V"⟩
abbrev cX9_insideOf : ByteArray := prog_11_method_18_code
def yX9_insideOf : MethodName := ⟨RX9, "insideOf", "(III)V"⟩
abbrev cX9_jointOf : ByteArray := prog_11_method_19_code
def yX9_jointOf : MethodName := ⟨RX9, "jointOf", "(IIIII)V"⟩
abbrev cX9_part : ByteArray := prog_11_method_20_code
def yX9_part : MethodName := ⟨RX9, "part", "(I)J"⟩
abbrev cX9_multiplied : ByteArray := prog_11_method_21_code
def yX9_multiplied : MethodName := ⟨RX9, "multiplied", "(JJ)J"⟩
abbrev cX9_plus : ByteArray := prog_11_method_22_code
def yX9_plus : MethodName := ⟨RX9, "plus", "(JJJJ)V"⟩
abbrev cX9_times : ByteArray := prog_11_method_23_code
def yX9_times : MethodName := ⟨RX9, "times", "(JJJJ)V"⟩
abbrev cX9_addTo : ByteArray := prog_11_method_24_code
def yX9_addTo : MethodName := ⟨RX9, "addTo", "(II)V"⟩
abbrev cX9_empty : ByteArray := prog_11_method_25_code
def yX9_empty : MethodName := ⟨RX9, "empty", "(I)V"⟩
abbrev cX9_copy : ByteArray := prog_11_method_26_code
def yX9_copy : MethodName := ⟨RX9, "copy", "(II)V"⟩
abbrev cX9_isTerm : ByteArray := prog_11_method_27_code
def yX9_isTerm : MethodName := ⟨RX9, "isTerm", "(II)Z"⟩
abbrev cX9_terms : ByteArray := prog_11_method_28_code
def yX9_terms : MethodName := ⟨RX9, "terms", "(I)I"⟩
abbrev cX9_sizeBy : ByteArray := prog_11_method_29_code
def yX9_sizeBy : MethodName := ⟨RX9, "sizeBy", "([III)I"⟩
abbrev cX9_areUnlike : ByteArray := prog_11_method_30_code
def yX9_areUnlike : MethodName := ⟨RX9, "areUnlike", "(II)Z"⟩
abbrev cX9_sumUp : ByteArray := prog_11_method_31_code
def yX9_sumUp : MethodName := ⟨RX9, "sumUp", "(IIJI)V"⟩
abbrev cX9_settle : ByteArray := prog_11_method_32_code
def yX9_settle : MethodName := ⟨RX9, "settle", "(I)V"⟩
abbrev cX9_isTooGreat : ByteArray := prog_11_method_33_code
def yX9_isTooGreat : MethodName := ⟨RX9, "isTooGreat", "(II)Z"⟩
abbrev cX9_multiplyBy : ByteArray := prog_11_method_34_code
def yX9_multiplyBy : MethodName := ⟨RX9, "multiplyBy", "(IIIJJI)V"⟩
abbrev cX9_multiply : ByteArray := prog_11_method_35_code
def yX9_multiply : MethodName := ⟨RX9, "multiply", "(III)V"⟩
abbrev cX9_liftTo : ByteArray := prog_11_method_36_code
def yX9_liftTo : MethodName := ⟨RX9, "liftTo", "(III)V"⟩
abbrev cX9_plainOf : ByteArray := prog_11_method_37_code
def yX9_plainOf : MethodName := ⟨RX9, "plainOf", "(I)I"⟩
abbrev cX9_rootsOf : ByteArray := prog_11_method_38_code
def yX9_rootsOf : MethodName := ⟨RX9, "rootsOf", "(I)I"⟩
abbrev cX9_averageTo : ByteArray := prog_11_method_39_code
def yX9_averageTo : MethodName := ⟨RX9, "averageTo", "(II)V"⟩
abbrev cX9_flag : ByteArray := prog_11_method_40_code
def yX9_flag : MethodName := ⟨RX9, "flag", "(II)I"⟩
abbrev cX9_rooted : ByteArray := prog_11_method_41_code
def yX9_rooted : MethodName := ⟨RX9, "rooted", "(II)I"⟩
abbrev cX9_alike : ByteArray := prog_11_method_42_code
def yX9_alike : MethodName := ⟨RX9, "alike", "(III)I"⟩
abbrev cX9_inside : ByteArray := prog_11_method_43_code
def yX9_inside : MethodName := ⟨RX9, "inside", "(III)J"⟩
abbrev cX9_joint : ByteArray := prog_11_method_44_code
def yX9_joint : MethodName := ⟨RX9, "joint", "(IIII)J"⟩
abbrev cX9_jointRooted : ByteArray := prog_11_method_45_code
def yX9_jointRooted : MethodName := ⟨RX9, "jointRooted", "(IIII)J"⟩
abbrev cX9_points : ByteArray := prog_11_method_46_code
def yX9_points : MethodName := ⟨RX9, "points", "(I)I"⟩
abbrev cX9_isPoint : ByteArray := prog_11_method_47_code
def yX9_isPoint : MethodName := ⟨RX9, "isPoint", "(I)Z"⟩
abbrev cX9_line : ByteArray := prog_11_method_48_code
def yX9_line : MethodName := ⟨RX9, "line", "(III)I"⟩
abbrev cX9_told : ByteArray := prog_11_method_49_code
def yX9_told : MethodName := ⟨RX9, "told", "(I)I"⟩
abbrev cX9_beside : ByteArray := prog_11_method_50_code
def yX9_beside : MethodName := ⟨RX9, "beside", "(I)I"⟩
abbrev cX9_share : ByteArray := prog_11_method_51_code
def yX9_share : MethodName := ⟨RX9, "share", "(II)J"⟩
abbrev cX9_shareAt : ByteArray := prog_11_method_52_code
def yX9_shareAt : MethodName := ⟨RX9, "shareAt", "(III)J"⟩
abbrev cX9_isMap : ByteArray := prog_11_method_53_code
def yX9_isMap : MethodName := ⟨RX9, "isMap", "(II)Z"⟩
abbrev cX9_maps : ByteArray := prog_11_method_54_code
def yX9_maps : MethodName := ⟨RX9, "maps", "(I)I"⟩
abbrev cX9_countAll : ByteArray := prog_11_method_55_code
def yX9_countAll : MethodName := ⟨RX9, "countAll", "(I)V"⟩
abbrev cX9_rank : ByteArray := prog_11_method_56_code
def yX9_rank : MethodName := ⟨RX9, "rank", "(II)I"⟩
abbrev cX9_foundAll : ByteArray := prog_11_method_57_code
def yX9_foundAll : MethodName := ⟨RX9, "foundAll", "(I)I"⟩
abbrev cX9_found : ByteArray := prog_11_method_58_code
def yX9_found : MethodName := ⟨RX9, "found", "(II)I"⟩
abbrev cX9_feed : ByteArray := prog_11_method_59_code
def yX9_feed : MethodName := ⟨RX9, "feed", "(I)I"⟩
abbrev cX9_here : ByteArray := prog_11_method_60_code
def yX9_here : MethodName := ⟨RX9, "here", "()I"⟩
abbrev cX9_isFigure : ByteArray := prog_11_method_61_code
def yX9_isFigure : MethodName := ⟨RX9, "isFigure", "()Z"⟩
abbrev cX9_number : ByteArray := prog_11_method_62_code
def yX9_number : MethodName := ⟨RX9, "number", "()I"⟩
abbrev cX9_add : ByteArray := prog_11_method_63_code
def yX9_add : MethodName := ⟨RX9, "add", "(IIII)V"⟩
abbrev cX9_isFraction : ByteArray := prog_11_method_64_code
def yX9_isFraction : MethodName := ⟨RX9, "isFraction", "()Z"⟩
abbrev cX9_isNetwork : ByteArray := prog_11_method_65_code
def yX9_isNetwork : MethodName := ⟨RX9, "isNetwork", "(I)Z"⟩
abbrev cX9_isOne : ByteArray := prog_11_method_66_code
def yX9_isOne : MethodName := ⟨RX9, "isOne", "()Z"⟩
abbrev cX9_isText : ByteArray := prog_11_method_67_code
def yX9_isText : MethodName := ⟨RX9, "isText", "()Z"⟩
abbrev cX9_sumRow : ByteArray := prog_11_method_68_code
def yX9_sumRow : MethodName := ⟨RX9, "sumRow", "()I"⟩
abbrev cX9_blame : ByteArray := prog_11_method_69_code
def yX9_blame : MethodName := ⟨RX9, "blame", "(II)V"⟩
abbrev cX9_comes : ByteArray := prog_11_method_70_code
def yX9_comes : MethodName := ⟨RX9, "comes", "()V"⟩
abbrev cX9_endProduct : ByteArray := prog_11_method_71_code
def yX9_endProduct : MethodName := ⟨RX9, "endProduct", "()V"⟩
abbrev cX9_begin : ByteArray := prog_11_method_72_code
def yX9_begin : MethodName := ⟨RX9, "begin", "(I)V"⟩
abbrev cX9_close : ByteArray := prog_11_method_73_code
def yX9_close : MethodName := ⟨RX9, "close", "()V"⟩
abbrev cX9_workOut : ByteArray := prog_11_method_74_code
def yX9_workOut : MethodName := ⟨RX9, "workOut", "(I)V"⟩
abbrev cX9_read : ByteArray := prog_11_method_75_code
def yX9_read : MethodName := ⟨RX9, "read", "(I)I"⟩
abbrev cX9_isStore : ByteArray := prog_11_method_76_code
def yX9_isStore : MethodName := ⟨RX9, "isStore", "(I)Z"⟩
abbrev cX9_termsIn : ByteArray := prog_11_method_77_code
def yX9_termsIn : MethodName := ⟨RX9, "termsIn", "(I)I"⟩
abbrev cX9_clear : ByteArray := prog_11_method_78_code
def yX9_clear : MethodName := ⟨RX9, "clear", "(I)I"⟩
abbrev cX9_sizeIn : ByteArray := prog_11_method_79_code
def yX9_sizeIn : MethodName := ⟨RX9, "sizeIn", "(II)I"⟩
abbrev cX9_greatest : ByteArray := prog_11_method_80_code
def yX9_greatest : MethodName := ⟨RX9, "greatest", "(I)I"⟩
abbrev cX9_sum : ByteArray := prog_11_method_81_code
def yX9_sum : MethodName := ⟨RX9, "sum", "(II)I"⟩
abbrev cX9_termAt : ByteArray := prog_11_method_82_code
def yX9_termAt : MethodName := ⟨RX9, "termAt", "(II)I"⟩
abbrev cX9_term : ByteArray := prog_11_method_83_code
def yX9_term : MethodName := ⟨RX9, "term", "(II)I"⟩
abbrev cX9_coefficient : ByteArray := prog_11_method_84_code
def yX9_coefficient : MethodName := ⟨RX9, "coefficient", "(III)J"⟩
abbrev cX9_makes : ByteArray := prog_11_method_85_code
def yX9_makes : MethodName := ⟨RX9, "makes", "(IIII)I"⟩
abbrev cX9_lift : ByteArray := prog_11_method_86_code
def yX9_lift : MethodName := ⟨RX9, "lift", "(II)I"⟩
abbrev cX9_average : ByteArray := prog_11_method_87_code
def yX9_average : MethodName := ⟨RX9, "average", "(I)I"⟩
abbrev cX9_isLess : ByteArray := prog_11_method_88_code
def yX9_isLess : MethodName := ⟨RX9, "isLess", "(JJJJ)Z"⟩
abbrev cX9_bound : ByteArray := prog_11_method_89_code
def yX9_bound : MethodName := ⟨RX9, "bound", "(IIII)J"⟩
abbrev cX9_isValued : ByteArray := prog_11_method_90_code
def yX9_isValued : MethodName := ⟨RX9, "isValued", "(II)Z"⟩
abbrev cX9_value : ByteArray := prog_11_method_91_code
def yX9_value : MethodName := ⟨RX9, "value", "(II)J"⟩
abbrev cX9_valueAt : ByteArray := prog_11_method_92_code
def yX9_valueAt : MethodName := ⟨RX9, "valueAt", "(III)J"⟩
abbrev cX9_move : ByteArray := prog_11_method_93_code
def yX9_move : MethodName := ⟨RX9, "move", "(II)I"⟩
abbrev cX9_film : ByteArray := prog_11_method_94_code
def yX9_film : MethodName := ⟨RX9, "film", "(II)I"⟩
abbrev cX9_image : ByteArray := prog_11_method_95_code
def yX9_image : MethodName := ⟨RX9, "image", "()I"⟩
abbrev cX9_back : ByteArray := prog_11_method_96_code
def yX9_back : MethodName := ⟨RX9, "back", "()I"⟩
abbrev cX9_count : ByteArray := prog_11_method_97_code
def yX9_count : MethodName := ⟨RX9, "count", "(I)I"⟩
def RJ6 : String := "java/lang/Integer"
def TJ6 : u_T := fun k => match k with
  | _ => ("", "", "", false)
def tyJ6 : Nat → FieldType := fun k => match k with
  | _ => .int
theorem nmJ6 : ∀ a, a < 0 → ∀ b, b < 0 → a ≠ b → (TJ6 a).2.1 ≠ (TJ6 b).2.1 := by decide +kernel
theorem tyJ6_ok : ∀ k, k < 0 → parseFieldDescriptor (TJ6 k).2.2.1 = some (tyJ6 k) := by decide +kernel
abbrev cJ6_bitCount_0f7a4 : ByteArray := prog_12_method_49_code
def yJ6_bitCount_0f7a4 : MethodName := ⟨RJ6, "bitCount", "(I)I"⟩
def RJ9 : String := "java/lang/Math"
def TJ9 : u_T := fun k => match k with
  | _ => ("", "", "", false)
def tyJ9 : Nat → FieldType := fun k => match k with
  | _ => .int
theorem nmJ9 : ∀ a, a < 0 → ∀ b, b < 0 → a ≠ b → (TJ9 a).2.1 ≠ (TJ9 b).2.1 := by decide +kernel
theorem tyJ9_ok : ∀ k, k < 0 → parseFieldDescriptor (TJ9 k).2.2.1 = some (tyJ9 k) := by decide +kernel
abbrev cJ9_floorDiv_f86c9 : ByteArray := prog_13_method_49_code
def yJ9_floorDiv_f86c9 : MethodName := ⟨RJ9, "floorDiv", "(JJ)J"⟩
abbrev cJ9_floorMod_f86c9 : ByteArray := prog_13_method_52_code
def yJ9_floorMod_f86c9 : MethodName := ⟨RJ9, "floorMod", "(JJ)J"⟩
abbrev cJ9_max_7cf53 : ByteArray := prog_13_method_65_code
def yJ9_max_7cf53 : MethodName := ⟨RJ9, "max", "(II)I"⟩
abbrev cJ9_min_7cf53 : ByteArray := prog_13_method_69_code
def yJ9_min_7cf53 : MethodName := ⟨RJ9, "min", "(II)I"⟩
def RL : String := "DensitiesOfNetsLaw"
abbrev cL_law : ByteArray := code
def yL_law : MethodName := ⟨RL, "law", "([I)Z"⟩
def TT : List Cond := lw_tbl.filter goodWord
theorem tt_sub {w : Cond} (h : w ∈ TT) : w ∈ lw_tbl := (List.mem_filter.mp h).1
theorem tt_good {w : Cond} (h : w ∈ TT) : goodWord w = true := (List.mem_filter.mp h).2
theorem tt_mem {w : Cond} (i : Nat) (h : lw_tbl[i]? = some w) (g : goodWord w = true) : w ∈ TT := List.mem_filter.mpr ⟨List.mem_of_getElem? h, g⟩
theorem tt_in {y : MethodName} {bytes : ByteArray} {n : Nat} {ret : Option FieldType} (h : Cond.code y bytes n ret ∈ TT) : GoodIn TT (Cond.code y bytes n ret :: TT) := by
  intro w hw
  rcases List.mem_cons.mp hw with rfl | hw
  · exact ⟨h, good_of_word (tt_good h)⟩
  · exact ⟨hw, good_of_word (tt_good hw)⟩
