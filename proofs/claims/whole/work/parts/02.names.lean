-- ===== PART A: goes FIRST, ahead of the names: the tables' words, and 'selects' of the private methods out of them =====
/-- a private method of a class that the tables say can be made, by its rows of tables_1 -/
def lw_okq (q : MethodName × Nat) : Prop := (q.1.cls ≠ "java/lang/invoke/MethodHandle" ∧ q.1.cls ≠ "java/lang/invoke/VarHandle") ∧ Cond.instantiable q.1.cls q.2 ∈ tables_1 ∧ Cond.privateMethod q.1 ∈ tables_1 ∧ Cond.instanceMethod q.1 ∈ tables_1
theorem lw_p0 : lw_okq (⟨"LandUses", "bestSearch", "()LLandUses$Search;"⟩, 14) := ⟨⟨by decide +kernel, by decide +kernel⟩, List.mem_of_getElem? (i := 25) (by decide +kernel), List.mem_of_getElem? (i := 353) (by decide +kernel), List.mem_of_getElem? (i := 354) (by decide +kernel)⟩
theorem lw_p1 : lw_okq (⟨"LandUses$Search", "listSquares", "(J)V"⟩, 8) := ⟨⟨by decide +kernel, by decide +kernel⟩, List.mem_of_getElem? (i := 177) (by decide +kernel), List.mem_of_getElem? (i := 362) (by decide +kernel), List.mem_of_getElem? (i := 363) (by decide +kernel)⟩
theorem lw_p2 : lw_okq (⟨"LandUses$Search", "putFrom", "(III)V"⟩, 8) := ⟨⟨by decide +kernel, by decide +kernel⟩, List.mem_of_getElem? (i := 177) (by decide +kernel), List.mem_of_getElem? (i := 382) (by decide +kernel), List.mem_of_getElem? (i := 383) (by decide +kernel)⟩
theorem lw_p3 : lw_okq (⟨"LandUses$Search", "judge", "(II)V"⟩, 8) := ⟨⟨by decide +kernel, by decide +kernel⟩, List.mem_of_getElem? (i := 177) (by decide +kernel), List.mem_of_getElem? (i := 397) (by decide +kernel), List.mem_of_getElem? (i := 398) (by decide +kernel)⟩
theorem lw_p4 : lw_okq (⟨"LandUses$Line", "countNewPairs", "(JLLandUses$Uses;I)I"⟩, 7) := ⟨⟨by decide +kernel, by decide +kernel⟩, List.mem_of_getElem? (i := 131) (by decide +kernel), List.mem_of_getElem? (i := 410) (by decide +kernel), List.mem_of_getElem? (i := 411) (by decide +kernel)⟩
theorem lw_p5 : lw_okq (⟨"java/lang/Throwable", "fillInStackTrace", "(I)Ljava/lang/Throwable;"⟩, 6) := ⟨⟨by decide +kernel, by decide +kernel⟩, List.mem_of_getElem? (i := 511) (by decide +kernel), List.mem_of_getElem? (i := 509) (by decide +kernel), List.mem_of_getElem? (i := 510) (by decide +kernel)⟩
theorem lw_p6 : lw_okq (⟨"LandUses$Reader", "skipBlanks", "()V"⟩, 3) := ⟨⟨by decide +kernel, by decide +kernel⟩, List.mem_of_getElem? (i := 49) (by decide +kernel), List.mem_of_getElem? (i := 597) (by decide +kernel), List.mem_of_getElem? (i := 598) (by decide +kernel)⟩
theorem lw_p7 : lw_okq (⟨"LandUses$Reader", "readLine", "(LLandUses$Line;)V"⟩, 3) := ⟨⟨by decide +kernel, by decide +kernel⟩, List.mem_of_getElem? (i := 49) (by decide +kernel), List.mem_of_getElem? (i := 605) (by decide +kernel), List.mem_of_getElem? (i := 606) (by decide +kernel)⟩
theorem lw_p8 : lw_okq (⟨"LandUses$Reader", "skipWord", "(Ljava/lang/String;)Z"⟩, 3) := ⟨⟨by decide +kernel, by decide +kernel⟩, List.mem_of_getElem? (i := 49) (by decide +kernel), List.mem_of_getElem? (i := 610) (by decide +kernel), List.mem_of_getElem? (i := 611) (by decide +kernel)⟩
theorem lw_p9 : lw_okq (⟨"LandUses$Reader", "runLength", "(CC)I"⟩, 3) := ⟨⟨by decide +kernel, by decide +kernel⟩, List.mem_of_getElem? (i := 49) (by decide +kernel), List.mem_of_getElem? (i := 614) (by decide +kernel), List.mem_of_getElem? (i := 615) (by decide +kernel)⟩
theorem lw_p10 : lw_okq (⟨"LandUses$Reader", "readLaw", "(LLandUses$Line;)V"⟩, 3) := ⟨⟨by decide +kernel, by decide +kernel⟩, List.mem_of_getElem? (i := 49) (by decide +kernel), List.mem_of_getElem? (i := 666) (by decide +kernel), List.mem_of_getElem? (i := 667) (by decide +kernel)⟩
theorem lw_p11 : lw_okq (⟨"LandUses$Reader", "readUse", "()I"⟩, 3) := ⟨⟨by decide +kernel, by decide +kernel⟩, List.mem_of_getElem? (i := 49) (by decide +kernel), List.mem_of_getElem? (i := 670) (by decide +kernel), List.mem_of_getElem? (i := 671) (by decide +kernel)⟩
theorem lw_p12 : lw_okq (⟨"LandUses$Reader", "refuseNext", "()V"⟩, 3) := ⟨⟨by decide +kernel, by decide +kernel⟩, List.mem_of_getElem? (i := 49) (by decide +kernel), List.mem_of_getElem? (i := 679) (by decide +kernel), List.mem_of_getElem? (i := 680) (by decide +kernel)⟩
theorem lw_p13 : lw_okq (⟨"LandUses$Reader", "readNumber", "(II)I"⟩, 3) := ⟨⟨by decide +kernel, by decide +kernel⟩, List.mem_of_getElem? (i := 49) (by decide +kernel), List.mem_of_getElem? (i := 684) (by decide +kernel), List.mem_of_getElem? (i := 685) (by decide +kernel)⟩
theorem lw_p14 : lw_okq (⟨"LandUses$Reader", "readGrow", "(LLandUses$Line;)V"⟩, 3) := ⟨⟨by decide +kernel, by decide +kernel⟩, List.mem_of_getElem? (i := 49) (by decide +kernel), List.mem_of_getElem? (i := 692) (by decide +kernel), List.mem_of_getElem? (i := 693) (by decide +kernel)⟩
theorem lw_p15 : lw_okq (⟨"LandUses$Reader", "readWord", "(Ljava/lang/String;)V"⟩, 3) := ⟨⟨by decide +kernel, by decide +kernel⟩, List.mem_of_getElem? (i := 49) (by decide +kernel), List.mem_of_getElem? (i := 697) (by decide +kernel), List.mem_of_getElem? (i := 698) (by decide +kernel)⟩
def lw_privs_1 : List (MethodName × Nat) := [(⟨"LandUses", "bestSearch", "()LLandUses$Search;"⟩, 14), (⟨"LandUses$Search", "listSquares", "(J)V"⟩, 8), (⟨"LandUses$Search", "putFrom", "(III)V"⟩, 8), (⟨"LandUses$Search", "judge", "(II)V"⟩, 8), (⟨"LandUses$Line", "countNewPairs", "(JLLandUses$Uses;I)I"⟩, 7), (⟨"java/lang/Throwable", "fillInStackTrace", "(I)Ljava/lang/Throwable;"⟩, 6), (⟨"LandUses$Reader", "skipBlanks", "()V"⟩, 3), (⟨"LandUses$Reader", "readLine", "(LLandUses$Line;)V"⟩, 3), (⟨"LandUses$Reader", "skipWord", "(Ljava/lang/String;)Z"⟩, 3), (⟨"LandUses$Reader", "runLength", "(CC)I"⟩, 3), (⟨"LandUses$Reader", "readLaw", "(LLandUses$Line;)V"⟩, 3), (⟨"LandUses$Reader", "readUse", "()I"⟩, 3), (⟨"LandUses$Reader", "refuseNext", "()V"⟩, 3), (⟨"LandUses$Reader", "readNumber", "(II)I"⟩, 3), (⟨"LandUses$Reader", "readGrow", "(LLandUses$Line;)V"⟩, 3), (⟨"LandUses$Reader", "readWord", "(Ljava/lang/String;)V"⟩, 3)]
theorem lw_r1 : ∀ q ∈ lw_privs_1, lw_okq q := List.forall_mem_cons.mpr ⟨lw_p0, List.forall_mem_cons.mpr ⟨lw_p1, List.forall_mem_cons.mpr ⟨lw_p2, List.forall_mem_cons.mpr ⟨lw_p3, List.forall_mem_cons.mpr ⟨lw_p4, List.forall_mem_cons.mpr ⟨lw_p5, List.forall_mem_cons.mpr ⟨lw_p6, List.forall_mem_cons.mpr ⟨lw_p7, List.forall_mem_cons.mpr ⟨lw_p8, List.forall_mem_cons.mpr ⟨lw_p9, List.forall_mem_cons.mpr ⟨lw_p10, List.forall_mem_cons.mpr ⟨lw_p11, List.forall_mem_cons.mpr ⟨lw_p12, List.forall_mem_cons.mpr ⟨lw_p13, List.forall_mem_cons.mpr ⟨lw_p14, List.forall_mem_cons.mpr ⟨lw_p15, fun _ h => absurd h List.not_mem_nil⟩⟩⟩⟩⟩⟩⟩⟩⟩⟩⟩⟩⟩⟩⟩⟩
theorem lw_p16 : lw_okq (⟨"LandUses$Reader", "readWorth", "(LLandUses$Line;)V"⟩, 3) := ⟨⟨by decide +kernel, by decide +kernel⟩, List.mem_of_getElem? (i := 49) (by decide +kernel), List.mem_of_getElem? (i := 703) (by decide +kernel), List.mem_of_getElem? (i := 704) (by decide +kernel)⟩
theorem lw_p17 : lw_okq (⟨"LandUses$Reader", "readSemicolon", "()Z"⟩, 3) := ⟨⟨by decide +kernel, by decide +kernel⟩, List.mem_of_getElem? (i := 49) (by decide +kernel), List.mem_of_getElem? (i := 709) (by decide +kernel), List.mem_of_getElem? (i := 710) (by decide +kernel)⟩
theorem lw_p18 : lw_okq (⟨"LandUses", "checkLine", "(I)V"⟩, 14) := ⟨⟨by decide +kernel, by decide +kernel⟩, List.mem_of_getElem? (i := 25) (by decide +kernel), List.mem_of_getElem? (i := 721) (by decide +kernel), List.mem_of_getElem? (i := 722) (by decide +kernel)⟩
theorem lw_p19 : lw_okq (⟨"LandUses", "planOrLand", "(I)LLandUses$Uses;"⟩, 14) := ⟨⟨by decide +kernel, by decide +kernel⟩, List.mem_of_getElem? (i := 25) (by decide +kernel), List.mem_of_getElem? (i := 815) (by decide +kernel), List.mem_of_getElem? (i := 816) (by decide +kernel)⟩
theorem lw_p20 : lw_okq (⟨"LandUses", "checkPlan", "(I)V"⟩, 14) := ⟨⟨by decide +kernel, by decide +kernel⟩, List.mem_of_getElem? (i := 25) (by decide +kernel), List.mem_of_getElem? (i := 819) (by decide +kernel), List.mem_of_getElem? (i := 820) (by decide +kernel)⟩
theorem lw_p21 : lw_okq (⟨"LandUsesModel", "throwsIf", "(ZI)Z"⟩, 33) := ⟨⟨by decide +kernel, by decide +kernel⟩, List.mem_of_getElem? (i := 835) (by decide +kernel), List.mem_of_getElem? (i := 956) (by decide +kernel), List.mem_of_getElem? (i := 957) (by decide +kernel)⟩
theorem lw_p22 : lw_okq (⟨"LandUsesModel", "readAll", "()I"⟩, 33) := ⟨⟨by decide +kernel, by decide +kernel⟩, List.mem_of_getElem? (i := 835) (by decide +kernel), List.mem_of_getElem? (i := 989) (by decide +kernel), List.mem_of_getElem? (i := 990) (by decide +kernel)⟩
theorem lw_p23 : lw_okq (⟨"LandUsesModel", "blanks", "()V"⟩, 33) := ⟨⟨by decide +kernel, by decide +kernel⟩, List.mem_of_getElem? (i := 835) (by decide +kernel), List.mem_of_getElem? (i := 993) (by decide +kernel), List.mem_of_getElem? (i := 994) (by decide +kernel)⟩
theorem lw_p24 : lw_okq (⟨"LandUsesModel", "isAt", "(II)Z"⟩, 33) := ⟨⟨by decide +kernel, by decide +kernel⟩, List.mem_of_getElem? (i := 835) (by decide +kernel), List.mem_of_getElem? (i := 997) (by decide +kernel), List.mem_of_getElem? (i := 998) (by decide +kernel)⟩
theorem lw_p25 : lw_okq (⟨"LandUsesModel", "readLine", "(I)Z"⟩, 33) := ⟨⟨by decide +kernel, by decide +kernel⟩, List.mem_of_getElem? (i := 835) (by decide +kernel), List.mem_of_getElem? (i := 1001) (by decide +kernel), List.mem_of_getElem? (i := 1002) (by decide +kernel)⟩
theorem lw_p26 : lw_okq (⟨"LandUsesModel", "word", "()V"⟩, 33) := ⟨⟨by decide +kernel, by decide +kernel⟩, List.mem_of_getElem? (i := 835) (by decide +kernel), List.mem_of_getElem? (i := 1005) (by decide +kernel), List.mem_of_getElem? (i := 1006) (by decide +kernel)⟩
theorem lw_p27 : lw_okq (⟨"LandUsesModel", "isWord", "(Ljava/lang/String;)Z"⟩, 33) := ⟨⟨by decide +kernel, by decide +kernel⟩, List.mem_of_getElem? (i := 835) (by decide +kernel), List.mem_of_getElem? (i := 1010) (by decide +kernel), List.mem_of_getElem? (i := 1011) (by decide +kernel)⟩
theorem lw_p28 : lw_okq (⟨"LandUsesModel", "readLaw", "(I)Z"⟩, 33) := ⟨⟨by decide +kernel, by decide +kernel⟩, List.mem_of_getElem? (i := 835) (by decide +kernel), List.mem_of_getElem? (i := 1016) (by decide +kernel), List.mem_of_getElem? (i := 1017) (by decide +kernel)⟩
theorem lw_p29 : lw_okq (⟨"LandUsesModel", "readUse", "()I"⟩, 33) := ⟨⟨by decide +kernel, by decide +kernel⟩, List.mem_of_getElem? (i := 835) (by decide +kernel), List.mem_of_getElem? (i := 1020) (by decide +kernel), List.mem_of_getElem? (i := 1021) (by decide +kernel)⟩
theorem lw_p30 : lw_okq (⟨"LandUsesModel", "useOf", "()I"⟩, 33) := ⟨⟨by decide +kernel, by decide +kernel⟩, List.mem_of_getElem? (i := 835) (by decide +kernel), List.mem_of_getElem? (i := 1024) (by decide +kernel), List.mem_of_getElem? (i := 1025) (by decide +kernel)⟩
theorem lw_p31 : lw_okq (⟨"LandUsesModel", "number", "(II)I"⟩, 33) := ⟨⟨by decide +kernel, by decide +kernel⟩, List.mem_of_getElem? (i := 835) (by decide +kernel), List.mem_of_getElem? (i := 1035) (by decide +kernel), List.mem_of_getElem? (i := 1036) (by decide +kernel)⟩
def lw_privs_2 : List (MethodName × Nat) := [(⟨"LandUses$Reader", "readWorth", "(LLandUses$Line;)V"⟩, 3), (⟨"LandUses$Reader", "readSemicolon", "()Z"⟩, 3), (⟨"LandUses", "checkLine", "(I)V"⟩, 14), (⟨"LandUses", "planOrLand", "(I)LLandUses$Uses;"⟩, 14), (⟨"LandUses", "checkPlan", "(I)V"⟩, 14), (⟨"LandUsesModel", "throwsIf", "(ZI)Z"⟩, 33), (⟨"LandUsesModel", "readAll", "()I"⟩, 33), (⟨"LandUsesModel", "blanks", "()V"⟩, 33), (⟨"LandUsesModel", "isAt", "(II)Z"⟩, 33), (⟨"LandUsesModel", "readLine", "(I)Z"⟩, 33), (⟨"LandUsesModel", "word", "()V"⟩, 33), (⟨"LandUsesModel", "isWord", "(Ljava/lang/String;)Z"⟩, 33), (⟨"LandUsesModel", "readLaw", "(I)Z"⟩, 33), (⟨"LandUsesModel", "readUse", "()I"⟩, 33), (⟨"LandUsesModel", "useOf", "()I"⟩, 33), (⟨"LandUsesModel", "number", "(II)I"⟩, 33)]
theorem lw_r2 : ∀ q ∈ lw_privs_2, lw_okq q := List.forall_mem_cons.mpr ⟨lw_p16, List.forall_mem_cons.mpr ⟨lw_p17, List.forall_mem_cons.mpr ⟨lw_p18, List.forall_mem_cons.mpr ⟨lw_p19, List.forall_mem_cons.mpr ⟨lw_p20, List.forall_mem_cons.mpr ⟨lw_p21, List.forall_mem_cons.mpr ⟨lw_p22, List.forall_mem_cons.mpr ⟨lw_p23, List.forall_mem_cons.mpr ⟨lw_p24, List.forall_mem_cons.mpr ⟨lw_p25, List.forall_mem_cons.mpr ⟨lw_p26, List.forall_mem_cons.mpr ⟨lw_p27, List.forall_mem_cons.mpr ⟨lw_p28, List.forall_mem_cons.mpr ⟨lw_p29, List.forall_mem_cons.mpr ⟨lw_p30, List.forall_mem_cons.mpr ⟨lw_p31, fun _ h => absurd h List.not_mem_nil⟩⟩⟩⟩⟩⟩⟩⟩⟩⟩⟩⟩⟩⟩⟩⟩
theorem lw_p32 : lw_okq (⟨"LandUsesModel", "readGrow", "(I)Z"⟩, 33) := ⟨⟨by decide +kernel, by decide +kernel⟩, List.mem_of_getElem? (i := 835) (by decide +kernel), List.mem_of_getElem? (i := 1042) (by decide +kernel), List.mem_of_getElem? (i := 1043) (by decide +kernel)⟩
theorem lw_p33 : lw_okq (⟨"LandUsesModel", "need", "(Ljava/lang/String;)Z"⟩, 33) := ⟨⟨by decide +kernel, by decide +kernel⟩, List.mem_of_getElem? (i := 835) (by decide +kernel), List.mem_of_getElem? (i := 1047) (by decide +kernel), List.mem_of_getElem? (i := 1048) (by decide +kernel)⟩
theorem lw_p34 : lw_okq (⟨"LandUsesModel", "readWorth", "(I)Z"⟩, 33) := ⟨⟨by decide +kernel, by decide +kernel⟩, List.mem_of_getElem? (i := 835) (by decide +kernel), List.mem_of_getElem? (i := 1053) (by decide +kernel), List.mem_of_getElem? (i := 1054) (by decide +kernel)⟩
theorem lw_p35 : lw_okq (⟨"LandUsesModel", "worthOf", "()I"⟩, 33) := ⟨⟨by decide +kernel, by decide +kernel⟩, List.mem_of_getElem? (i := 835) (by decide +kernel), List.mem_of_getElem? (i := 1067) (by decide +kernel), List.mem_of_getElem? (i := 1068) (by decide +kernel)⟩
theorem lw_p36 : lw_okq (⟨"LandUsesModel", "addsOf", "(I)I"⟩, 33) := ⟨⟨by decide +kernel, by decide +kernel⟩, List.mem_of_getElem? (i := 835) (by decide +kernel), List.mem_of_getElem? (i := 1071) (by decide +kernel), List.mem_of_getElem? (i := 1072) (by decide +kernel)⟩
theorem lw_p37 : lw_okq (⟨"LandUsesModel", "alone", "(III)I"⟩, 33) := ⟨⟨by decide +kernel, by decide +kernel⟩, List.mem_of_getElem? (i := 835) (by decide +kernel), List.mem_of_getElem? (i := 1075) (by decide +kernel), List.mem_of_getElem? (i := 1076) (by decide +kernel)⟩
theorem lw_p38 : lw_okq (⟨"LandUsesModel", "pair", "(IIIII)I"⟩, 33) := ⟨⟨by decide +kernel, by decide +kernel⟩, List.mem_of_getElem? (i := 835) (by decide +kernel), List.mem_of_getElem? (i := 1079) (by decide +kernel), List.mem_of_getElem? (i := 1080) (by decide +kernel)⟩
theorem lw_p39 : lw_okq (⟨"LandUsesModel", "holds", "(I)Z"⟩, 33) := ⟨⟨by decide +kernel, by decide +kernel⟩, List.mem_of_getElem? (i := 835) (by decide +kernel), List.mem_of_getElem? (i := 1097) (by decide +kernel), List.mem_of_getElem? (i := 1098) (by decide +kernel)⟩
theorem lw_p40 : lw_okq (⟨"LandUsesModel", "areApart", "(I)Z"⟩, 33) := ⟨⟨by decide +kernel, by decide +kernel⟩, List.mem_of_getElem? (i := 835) (by decide +kernel), List.mem_of_getElem? (i := 1101) (by decide +kernel), List.mem_of_getElem? (i := 1102) (by decide +kernel)⟩
theorem lw_p41 : lw_okq (⟨"LandUsesModel", "countOf", "(I)I"⟩, 33) := ⟨⟨by decide +kernel, by decide +kernel⟩, List.mem_of_getElem? (i := 835) (by decide +kernel), List.mem_of_getElem? (i := 1105) (by decide +kernel), List.mem_of_getElem? (i := 1106) (by decide +kernel)⟩
theorem lw_p42 : lw_okq (⟨"LandUsesModel", "areJoined", "(I)Z"⟩, 33) := ⟨⟨by decide +kernel, by decide +kernel⟩, List.mem_of_getElem? (i := 835) (by decide +kernel), List.mem_of_getElem? (i := 1109) (by decide +kernel), List.mem_of_getElem? (i := 1110) (by decide +kernel)⟩
theorem lw_p43 : lw_okq (⟨"LandUsesModel", "grows", "(II)Z"⟩, 33) := ⟨⟨by decide +kernel, by decide +kernel⟩, List.mem_of_getElem? (i := 835) (by decide +kernel), List.mem_of_getElem? (i := 1120) (by decide +kernel), List.mem_of_getElem? (i := 1121) (by decide +kernel)⟩
theorem lw_p44 : lw_okq (⟨"LandUsesModel", "seeks", "(I)Z"⟩, 33) := ⟨⟨by decide +kernel, by decide +kernel⟩, List.mem_of_getElem? (i := 835) (by decide +kernel), List.mem_of_getElem? (i := 1128) (by decide +kernel), List.mem_of_getElem? (i := 1129) (by decide +kernel)⟩
theorem lw_p45 : lw_okq (⟨"LandUsesModel", "weighs", "()V"⟩, 33) := ⟨⟨by decide +kernel, by decide +kernel⟩, List.mem_of_getElem? (i := 835) (by decide +kernel), List.mem_of_getElem? (i := 1132) (by decide +kernel), List.mem_of_getElem? (i := 1133) (by decide +kernel)⟩
theorem lw_p46 : lw_okq (⟨"LandUsesModel", "others", "()I"⟩, 33) := ⟨⟨by decide +kernel, by decide +kernel⟩, List.mem_of_getElem? (i := 835) (by decide +kernel), List.mem_of_getElem? (i := 1139) (by decide +kernel), List.mem_of_getElem? (i := 1140) (by decide +kernel)⟩
theorem lw_p47 : lw_okq (⟨"LandUsesModel", "allHold", "(I)Z"⟩, 33) := ⟨⟨by decide +kernel, by decide +kernel⟩, List.mem_of_getElem? (i := 835) (by decide +kernel), List.mem_of_getElem? (i := 1143) (by decide +kernel), List.mem_of_getElem? (i := 1144) (by decide +kernel)⟩
def lw_privs_3 : List (MethodName × Nat) := [(⟨"LandUsesModel", "readGrow", "(I)Z"⟩, 33), (⟨"LandUsesModel", "need", "(Ljava/lang/String;)Z"⟩, 33), (⟨"LandUsesModel", "readWorth", "(I)Z"⟩, 33), (⟨"LandUsesModel", "worthOf", "()I"⟩, 33), (⟨"LandUsesModel", "addsOf", "(I)I"⟩, 33), (⟨"LandUsesModel", "alone", "(III)I"⟩, 33), (⟨"LandUsesModel", "pair", "(IIIII)I"⟩, 33), (⟨"LandUsesModel", "holds", "(I)Z"⟩, 33), (⟨"LandUsesModel", "areApart", "(I)Z"⟩, 33), (⟨"LandUsesModel", "countOf", "(I)I"⟩, 33), (⟨"LandUsesModel", "areJoined", "(I)Z"⟩, 33), (⟨"LandUsesModel", "grows", "(II)Z"⟩, 33), (⟨"LandUsesModel", "seeks", "(I)Z"⟩, 33), (⟨"LandUsesModel", "weighs", "()V"⟩, 33), (⟨"LandUsesModel", "others", "()I"⟩, 33), (⟨"LandUsesModel", "allHold", "(I)Z"⟩, 33)]
theorem lw_r3 : ∀ q ∈ lw_privs_3, lw_okq q := List.forall_mem_cons.mpr ⟨lw_p32, List.forall_mem_cons.mpr ⟨lw_p33, List.forall_mem_cons.mpr ⟨lw_p34, List.forall_mem_cons.mpr ⟨lw_p35, List.forall_mem_cons.mpr ⟨lw_p36, List.forall_mem_cons.mpr ⟨lw_p37, List.forall_mem_cons.mpr ⟨lw_p38, List.forall_mem_cons.mpr ⟨lw_p39, List.forall_mem_cons.mpr ⟨lw_p40, List.forall_mem_cons.mpr ⟨lw_p41, List.forall_mem_cons.mpr ⟨lw_p42, List.forall_mem_cons.mpr ⟨lw_p43, List.forall_mem_cons.mpr ⟨lw_p44, List.forall_mem_cons.mpr ⟨lw_p45, List.forall_mem_cons.mpr ⟨lw_p46, List.forall_mem_cons.mpr ⟨lw_p47, fun _ h => absurd h List.not_mem_nil⟩⟩⟩⟩⟩⟩⟩⟩⟩⟩⟩⟩⟩⟩⟩⟩
theorem lw_p48 : lw_okq (⟨"LandUsesModel", "isLaw", "(I)Z"⟩, 33) := ⟨⟨by decide +kernel, by decide +kernel⟩, List.mem_of_getElem? (i := 835) (by decide +kernel), List.mem_of_getElem? (i := 1163) (by decide +kernel), List.mem_of_getElem? (i := 1164) (by decide +kernel)⟩
theorem lw_p49 : lw_okq (⟨"LandUsesModel", "useIn", "(II)I"⟩, 33) := ⟨⟨by decide +kernel, by decide +kernel⟩, List.mem_of_getElem? (i := 835) (by decide +kernel), List.mem_of_getElem? (i := 1179) (by decide +kernel), List.mem_of_getElem? (i := 1180) (by decide +kernel)⟩
def lw_privs_4 : List (MethodName × Nat) := [(⟨"LandUsesModel", "isLaw", "(I)Z"⟩, 33), (⟨"LandUsesModel", "useIn", "(II)I"⟩, 33)]
theorem lw_r4 : ∀ q ∈ lw_privs_4, lw_okq q := List.forall_mem_cons.mpr ⟨lw_p48, List.forall_mem_cons.mpr ⟨lw_p49, fun _ h => absurd h List.not_mem_nil⟩⟩
def lw_privs : List (MethodName × Nat) := lw_privs_1 ++ (lw_privs_2 ++ (lw_privs_3 ++ (lw_privs_4)))
def lw_tbl : List Cond := k2_sels lw_privs ++ tables_1
theorem lw_privs_ok : ∀ q ∈ lw_privs, lw_okq q := by
  show ∀ q ∈ lw_privs_1 ++ (lw_privs_2 ++ (lw_privs_3 ++ (lw_privs_4))), lw_okq q
  exact List.forall_mem_append.mpr ⟨lw_r1, List.forall_mem_append.mpr ⟨lw_r2, List.forall_mem_append.mpr ⟨lw_r3, lw_r4⟩⟩⟩
def RX0 : String := "LandUses$Book"
def TX0 : u_T := fun k => match k with
  | 0 => ("LandUses$Book", "rows", "[LLandUses$Line;", true)
  | _ => ("LandUses$Book", "count", "I", false)
def tyX0 : Nat → FieldType := fun k => match k with
  | 0 => .array (.object "LandUses$Line")
  | _ => .int
abbrev wsX00 : List Cond := u_ws RX0 TX0 2
theorem nmX0 : ∀ a, a < 2 → ∀ b, b < 2 → a ≠ b → (TX0 a).2.1 ≠ (TX0 b).2.1 := by decide +kernel
theorem tyX0_ok : ∀ k, k < 2 → parseFieldDescriptor (TX0 k).2.2.1 = some (tyX0 k) := by decide +kernel
abbrev cX0_init : ByteArray := prog_2_method_1_code
def yX0_init : MethodName := ⟨RX0, "<init>", "()V"⟩
abbrev cX0_countLaws : ByteArray := prog_2_method_2_code
def yX0_countLaws : MethodName := ⟨RX0, "countLaws", "()I"⟩
abbrev cX0_worthOf : ByteArray := prog_2_method_3_code
def yX0_worthOf : MethodName := ⟨RX0, "worthOf", "(LLandUses$Land;)I"⟩
abbrev cX0_worthOfPutting : ByteArray := prog_2_method_4_code
def yX0_worthOfPutting : MethodName := ⟨RX0, "worthOfPutting", "(LLandUses$Land;II)I"⟩
abbrev cX0_firstBroken : ByteArray := prog_2_method_5_code
def yX0_firstBroken : MethodName := ⟨RX0, "firstBroken", "(LLandUses$Land;)I"⟩
abbrev cX0_brokenByPair : ByteArray := prog_2_method_6_code
def yX0_brokenByPair : MethodName := ⟨RX0, "brokenByPair", "(LLandUses$Land;)I"⟩
abbrev cX0_brokenByPutting : ByteArray := prog_2_method_7_code
def yX0_brokenByPutting : MethodName := ⟨RX0, "brokenByPutting", "(LLandUses$Land;II)I"⟩
abbrev cX0_brokenByWhole : ByteArray := prog_2_method_8_code
def yX0_brokenByWhole : MethodName := ⟨RX0, "brokenByWhole", "(LLandUses$Land;)I"⟩
abbrev cX0_growInto : ByteArray := prog_2_method_9_code
def yX0_growInto : MethodName := ⟨RX0, "growInto", "(LLandUses$Uses;LLandUses$Land;)V"⟩
def RX1 : String := "LandUses$Land"
def TX1 : u_T := fun k => match k with
  | 0 => ("LandUses$Land", "uses", "LLandUses$Uses;", true)
  | 1 => ("LandUses$Land", "soils", "[I", true)
  | _ => ("LandUses$Land", "around", "[[J", true)
def tyX1 : Nat → FieldType := fun k => match k with
  | 0 => .object "LandUses$Uses"
  | 1 => .array .int
  | _ => .array (.array .long)
abbrev wsX10 : List Cond := u_ws RX1 TX1 3
theorem nmX1 : ∀ a, a < 3 → ∀ b, b < 3 → a ≠ b → (TX1 a).2.1 ≠ (TX1 b).2.1 := by decide +kernel
theorem tyX1_ok : ∀ k, k < 3 → parseFieldDescriptor (TX1 k).2.2.1 = some (tyX1 k) := by decide +kernel
abbrev cX1_init : ByteArray := prog_3_method_1_code
def yX1_init : MethodName := ⟨RX1, "<init>", "()V"⟩
abbrev cX1_init_ : ByteArray := prog_3_method_2_code
def yX1_init_ : MethodName := ⟨RX1, "<init>", "(LLandUses$Land;)V"⟩
abbrev cX1_putSoil : ByteArray := prog_3_method_3_code
def yX1_putSoil : MethodName := ⟨RX1, "putSoil", "(JI)V"⟩
abbrev cX1_countAround : ByteArray := prog_3_method_4_code
def yX1_countAround : MethodName := ⟨RX1, "countAround", "(III)I"⟩
abbrev cX1_countPairs : ByteArray := prog_3_method_5_code
def yX1_countPairs : MethodName := ⟨RX1, "countPairs", "(III)I"⟩
abbrev cX1_countOnSoil : ByteArray := prog_3_method_6_code
def yX1_countOnSoil : MethodName := ⟨RX1, "countOnSoil", "(II)I"⟩
def RX2 : String := "LandUses$Line"
def TX2 : u_T := fun k => match k with
  | 0 => ("LandUses$Line", "kind", "I", false)
  | 1 => ("LandUses$Line", "use", "I", false)
  | 2 => ("LandUses$Line", "otherUse", "I", false)
  | 3 => ("LandUses$Line", "grownUse", "I", false)
  | 4 => ("LandUses$Line", "steps", "I", false)
  | 5 => ("LandUses$Line", "leastSoil", "I", false)
  | _ => ("LandUses$Line", "number", "I", false)
def tyX2 : Nat → FieldType := fun k => match k with
  | 0 => .int
  | 1 => .int
  | 2 => .int
  | 3 => .int
  | 4 => .int
  | 5 => .int
  | _ => .int
abbrev wsX20 : List Cond := u_ws RX2 TX2 7
theorem nmX2 : ∀ a, a < 7 → ∀ b, b < 7 → a ≠ b → (TX2 a).2.1 ≠ (TX2 b).2.1 := by decide +kernel
theorem tyX2_ok : ∀ k, k < 7 → parseFieldDescriptor (TX2 k).2.2.1 = some (tyX2 k) := by decide +kernel
abbrev cX2_init : ByteArray := prog_4_method_1_code
def yX2_init : MethodName := ⟨RX2, "<init>", "()V"⟩
abbrev cX2_isLaw : ByteArray := prog_4_method_2_code
def yX2_isLaw : MethodName := ⟨RX2, "isLaw", "()Z"⟩
abbrev cX2_worthOf : ByteArray := prog_4_method_3_code
def yX2_worthOf : MethodName := ⟨RX2, "worthOf", "(LLandUses$Land;)I"⟩
abbrev cX2_worthOfPutting : ByteArray := prog_4_method_4_code
def yX2_worthOfPutting : MethodName := ⟨RX2, "worthOfPutting", "(LLandUses$Land;II)I"⟩
abbrev cX2_isBroken : ByteArray := prog_4_method_5_code
def yX2_isBroken : MethodName := ⟨RX2, "isBroken", "(LLandUses$Land;)Z"⟩
abbrev cX2_isBrokenByPair : ByteArray := prog_4_method_6_code
def yX2_isBrokenByPair : MethodName := ⟨RX2, "isBrokenByPair", "(LLandUses$Land;)Z"⟩
abbrev cX2_isBrokenByPutting : ByteArray := prog_4_method_7_code
def yX2_isBrokenByPutting : MethodName := ⟨RX2, "isBrokenByPutting", "(LLandUses$Land;II)Z"⟩
abbrev cX2_countNewPairs : ByteArray := prog_4_method_8_code
def yX2_countNewPairs : MethodName := ⟨RX2, "countNewPairs", "(JLLandUses$Uses;I)I"⟩
abbrev cX2_isBrokenByWhole : ByteArray := prog_4_method_9_code
def yX2_isBrokenByWhole : MethodName := ⟨RX2, "isBrokenByWhole", "(LLandUses$Land;)Z"⟩
abbrev cX2_growsOn : ByteArray := prog_4_method_10_code
def yX2_growsOn : MethodName := ⟨RX2, "growsOn", "(LLandUses$Land;I)Z"⟩
def RX3 : String := "LandUses$Reader"
def TX3 : u_T := fun k => match k with
  | 0 => ("LandUses$Reader", "tape", "LLandUses$Tape;", true)
  | 1 => ("LandUses$Reader", "place", "I", false)
  | _ => ("LandUses$Reader", "wrongPlace", "I", false)
def tyX3 : Nat → FieldType := fun k => match k with
  | 0 => .object "LandUses$Tape"
  | 1 => .int
  | _ => .int
abbrev wsX30 : List Cond := u_ws RX3 TX3 3
theorem nmX3 : ∀ a, a < 3 → ∀ b, b < 3 → a ≠ b → (TX3 a).2.1 ≠ (TX3 b).2.1 := by decide +kernel
theorem tyX3_ok : ∀ k, k < 3 → parseFieldDescriptor (TX3 k).2.2.1 = some (tyX3 k) := by decide +kernel
abbrev cX3_init : ByteArray := prog_5_method_1_code
def yX3_init : MethodName := ⟨RX3, "<init>", "(LLandUses$Tape;)V"⟩
abbrev cX3_readInto : ByteArray := prog_5_method_2_code
def yX3_readInto : MethodName := ⟨RX3, "readInto", "(LLandUses$Book;)I"⟩
abbrev cX3_readSemicolon : ByteArray := prog_5_method_3_code
def yX3_readSemicolon : MethodName := ⟨RX3, "readSemicolon", "()Z"⟩
abbrev cX3_readLine : ByteArray := prog_5_method_4_code
def yX3_readLine : MethodName := ⟨RX3, "readLine", "(LLandUses$Line;)V"⟩
abbrev cX3_readWorth : ByteArray := prog_5_method_5_code
def yX3_readWorth : MethodName := ⟨RX3, "readWorth", "(LLandUses$Line;)V"⟩
abbrev cX3_readLaw : ByteArray := prog_5_method_6_code
def yX3_readLaw : MethodName := ⟨RX3, "readLaw", "(LLandUses$Line;)V"⟩
abbrev cX3_readGrow : ByteArray := prog_5_method_7_code
def yX3_readGrow : MethodName := ⟨RX3, "readGrow", "(LLandUses$Line;)V"⟩
abbrev cX3_readUse : ByteArray := prog_5_method_8_code
def yX3_readUse : MethodName := ⟨RX3, "readUse", "()I"⟩
abbrev cX3_readWord : ByteArray := prog_5_method_9_code
def yX3_readWord : MethodName := ⟨RX3, "readWord", "(Ljava/lang/String;)V"⟩
abbrev cX3_readNumber : ByteArray := prog_5_method_10_code
def yX3_readNumber : MethodName := ⟨RX3, "readNumber", "(II)I"⟩
abbrev cX3_skipWord : ByteArray := prog_5_method_11_code
def yX3_skipWord : MethodName := ⟨RX3, "skipWord", "(Ljava/lang/String;)Z"⟩
abbrev cX3_refuseNext : ByteArray := prog_5_method_12_code
def yX3_refuseNext : MethodName := ⟨RX3, "refuseNext", "()V"⟩
abbrev cX3_skipBlanks : ByteArray := prog_5_method_13_code
def yX3_skipBlanks : MethodName := ⟨RX3, "skipBlanks", "()V"⟩
abbrev cX3_runLength : ByteArray := prog_5_method_14_code
def yX3_runLength : MethodName := ⟨RX3, "runLength", "(CC)I"⟩
def RX4 : String := "LandUses$Search"
def TX4 : u_T := fun k => match k with
  | 0 => ("LandUses$Search", "trial", "LLandUses$Land;", true)
  | 1 => ("LandUses$Search", "squares", "[I", true)
  | 2 => ("LandUses$Search", "bestUses", "LLandUses$Uses;", true)
  | 3 => ("LandUses$Search", "worthBreaking", "[I", true)
  | 4 => ("LandUses$Search", "lines", "LLandUses$Book;", false)
  | 5 => ("LandUses$Search", "squareCount", "I", false)
  | 6 => ("LandUses$Search", "found", "Z", false)
  | _ => ("LandUses$Search", "bestWorth", "I", false)
def tyX4 : Nat → FieldType := fun k => match k with
  | 0 => .object "LandUses$Land"
  | 1 => .array .int
  | 2 => .object "LandUses$Uses"
  | 3 => .array .int
  | 4 => .object "LandUses$Book"
  | 5 => .int
  | 6 => .boolean
  | _ => .int
abbrev wsX40 : List Cond := u_ws RX4 TX4 8
theorem nmX4 : ∀ a, a < 8 → ∀ b, b < 8 → a ≠ b → (TX4 a).2.1 ≠ (TX4 b).2.1 := by decide +kernel
theorem tyX4_ok : ∀ k, k < 8 → parseFieldDescriptor (TX4 k).2.2.1 = some (tyX4 k) := by decide +kernel
abbrev cX4_init : ByteArray := prog_6_method_1_code
def yX4_init : MethodName := ⟨RX4, "<init>", "(LLandUses$Land;LLandUses$Book;)V"⟩
abbrev cX4_run : ByteArray := prog_6_method_2_code
def yX4_run : MethodName := ⟨RX4, "run", "(LLandUses$Land;LLandUses$Book;J)V"⟩
abbrev cX4_listSquares : ByteArray := prog_6_method_3_code
def yX4_listSquares : MethodName := ⟨RX4, "listSquares", "(J)V"⟩
abbrev cX4_putFrom : ByteArray := prog_6_method_4_code
def yX4_putFrom : MethodName := ⟨RX4, "putFrom", "(III)V"⟩
abbrev cX4_judge : ByteArray := prog_6_method_5_code
def yX4_judge : MethodName := ⟨RX4, "judge", "(II)V"⟩
def RX5 : String := "LandUses$Squares"
def TX5 : u_T := fun k => match k with
  | _ => ("", "", "", false)
def tyX5 : Nat → FieldType := fun k => match k with
  | _ => .int
abbrev wsX50 : List Cond := u_ws RX5 TX5 0
theorem nmX5 : ∀ a, a < 0 → ∀ b, b < 0 → a ≠ b → (TX5 a).2.1 ≠ (TX5 b).2.1 := by decide +kernel
theorem tyX5_ok : ∀ k, k < 0 → parseFieldDescriptor (TX5 k).2.2.1 = some (tyX5 k) := by decide +kernel
abbrev cX5_only : ByteArray := prog_7_method_2_code
def yX5_only : MethodName := ⟨RX5, "only", "(I)J"⟩
abbrev cX5_has : ByteArray := prog_7_method_3_code
def yX5_has : MethodName := ⟨RX5, "has", "(JI)Z"⟩
abbrev cX5_rectangle : ByteArray := prog_7_method_4_code
def yX5_rectangle : MethodName := ⟨RX5, "rectangle", "(II)J"⟩
abbrev cX5_around : ByteArray := prog_7_method_5_code
def yX5_around : MethodName := ⟨RX5, "around", "(II)J"⟩
abbrev cX5_beside : ByteArray := prog_7_method_6_code
def yX5_beside : MethodName := ⟨RX5, "beside", "(J)J"⟩
abbrev cX5_isJoined : ByteArray := prog_7_method_7_code
def yX5_isJoined : MethodName := ⟨RX5, "isJoined", "(J)Z"⟩
abbrev cX5_stepsToAll : ByteArray := prog_7_method_8_code
def yX5_stepsToAll : MethodName := ⟨RX5, "stepsToAll", "(JIJ)I"⟩
def RX6 : String := "LandUses$Tape"
def TX6 : u_T := fun k => match k with
  | 0 => ("LandUses$Tape", "bytes", "[B", true)
  | _ => ("LandUses$Tape", "length", "I", false)
def tyX6 : Nat → FieldType := fun k => match k with
  | 0 => .array .byte
  | _ => .int
abbrev wsX60 : List Cond := u_ws RX6 TX6 2
theorem nmX6 : ∀ a, a < 2 → ∀ b, b < 2 → a ≠ b → (TX6 a).2.1 ≠ (TX6 b).2.1 := by decide +kernel
theorem tyX6_ok : ∀ k, k < 2 → parseFieldDescriptor (TX6 k).2.2.1 = some (tyX6 k) := by decide +kernel
abbrev cX6_init : ByteArray := prog_8_method_1_code
def yX6_init : MethodName := ⟨RX6, "<init>", "()V"⟩
abbrev cX6_hasRoom : ByteArray := prog_8_method_2_code
def yX6_hasRoom : MethodName := ⟨RX6, "hasRoom", "()Z"⟩
abbrev cX6_append : ByteArray := prog_8_method_3_code
def yX6_append : MethodName := ⟨RX6, "append", "(I)V"⟩
abbrev cX6_at : ByteArray := prog_8_method_4_code
def yX6_at : MethodName := ⟨RX6, "at", "(I)I"⟩
def RX7 : String := "LandUses$Uses"
def TX7 : u_T := fun k => match k with
  | _ => ("LandUses$Uses", "sets", "[J", true)
def tyX7 : Nat → FieldType := fun k => match k with
  | _ => .array .long
abbrev wsX70 : List Cond := u_ws RX7 TX7 1
theorem nmX7 : ∀ a, a < 1 → ∀ b, b < 1 → a ≠ b → (TX7 a).2.1 ≠ (TX7 b).2.1 := by decide +kernel
theorem tyX7_ok : ∀ k, k < 1 → parseFieldDescriptor (TX7 k).2.2.1 = some (tyX7 k) := by decide +kernel
abbrev cX7_init : ByteArray := prog_9_method_1_code
def yX7_init : MethodName := ⟨RX7, "<init>", "()V"⟩
abbrev cX7_of : ByteArray := prog_9_method_2_code
def yX7_of : MethodName := ⟨RX7, "of", "(I)J"⟩
abbrev cX7_useOf : ByteArray := prog_9_method_3_code
def yX7_useOf : MethodName := ⟨RX7, "useOf", "(I)I"⟩
abbrev cX7_put : ByteArray := prog_9_method_4_code
def yX7_put : MethodName := ⟨RX7, "put", "(JI)I"⟩
abbrev cX7_lift : ByteArray := prog_9_method_5_code
def yX7_lift : MethodName := ⟨RX7, "lift", "(J)V"⟩
abbrev cX7_become : ByteArray := prog_9_method_6_code
def yX7_become : MethodName := ⟨RX7, "become", "(LLandUses$Uses;)V"⟩
abbrev cX7_differencesFrom : ByteArray := prog_9_method_7_code
def yX7_differencesFrom : MethodName := ⟨RX7, "differencesFrom", "(LLandUses$Uses;)I"⟩
abbrev cX7_likeBeside : ByteArray := prog_9_method_8_code
def yX7_likeBeside : MethodName := ⟨RX7, "likeBeside", "(I)I"⟩
def RX8 : String := "LandUses"
def TX8 : u_T := fun k => match k with
  | 0 => ("LandUses", "tape", "LLandUses$Tape;", true)
  | 1 => ("LandUses", "reader", "LLandUses$Reader;", true)
  | 2 => ("LandUses", "land", "LLandUses$Land;", true)
  | 3 => ("LandUses", "search", "LLandUses$Search;", true)
  | 4 => ("LandUses", "nextUses", "LLandUses$Uses;", true)
  | 5 => ("LandUses", "plans", "[LLandUses$Uses;", true)
  | 6 => ("LandUses", "lines", "LLandUses$Book;", false)
  | 7 => ("LandUses", "spareLines", "LLandUses$Book;", false)
  | 8 => ("LandUses", "freeSquares", "J", false)
  | 9 => ("LandUses", "gateSquare", "I", false)
  | 10 => ("LandUses", "planCount", "I", false)
  | 11 => ("LandUses", "year", "I", false)
  | 12 => ("LandUses", "wrongByte", "I", false)
  | _ => ("LandUses", "searched", "Z", false)
def tyX8 : Nat → FieldType := fun k => match k with
  | 0 => .object "LandUses$Tape"
  | 1 => .object "LandUses$Reader"
  | 2 => .object "LandUses$Land"
  | 3 => .object "LandUses$Search"
  | 4 => .object "LandUses$Uses"
  | 5 => .array (.object "LandUses$Uses")
  | 6 => .object "LandUses$Book"
  | 7 => .object "LandUses$Book"
  | 8 => .long
  | 9 => .int
  | 10 => .int
  | 11 => .int
  | 12 => .int
  | _ => .boolean
abbrev wsX80 : List Cond := u_ws RX8 TX8 14
theorem nmX8 : ∀ a, a < 14 → ∀ b, b < 14 → a ≠ b → (TX8 a).2.1 ≠ (TX8 b).2.1 := by decide +kernel
theorem tyX8_ok : ∀ k, k < 14 → parseFieldDescriptor (TX8 k).2.2.1 = some (tyX8 k) := by decide +kernel
abbrev cX8_init : ByteArray := prog_1_method_1_code
def yX8_init : MethodName := ⟨RX8, "<init>", "()V"⟩
abbrev cX8_feed : ByteArray := prog_1_method_2_code
def yX8_feed : MethodName := ⟨RX8, "feed", "(IIIII)I"⟩
abbrev cX8_end : ByteArray := prog_1_method_3_code
def yX8_end : MethodName := ⟨RX8, "end", "(I)Z"⟩
abbrev cX8_use : ByteArray := prog_1_method_4_code
def yX8_use : MethodName := ⟨RX8, "use", "(III)I"⟩
abbrev cX8_soil : ByteArray := prog_1_method_5_code
def yX8_soil : MethodName := ⟨RX8, "soil", "(III)V"⟩
abbrev cX8_free : ByteArray := prog_1_method_6_code
def yX8_free : MethodName := ⟨RX8, "free", "(IZ)Z"⟩
abbrev cX8_gate : ByteArray := prog_1_method_7_code
def yX8_gate : MethodName := ⟨RX8, "gate", "(I)V"⟩
abbrev cX8_book : ByteArray := prog_1_method_8_code
def yX8_book : MethodName := ⟨RX8, "book", "()I"⟩
abbrev cX8_fault : ByteArray := prog_1_method_9_code
def yX8_fault : MethodName := ⟨RX8, "fault", "()I"⟩
abbrev cX8_worth : ByteArray := prog_1_method_10_code
def yX8_worth : MethodName := ⟨RX8, "worth", "()I"⟩
abbrev cX8_adds : ByteArray := prog_1_method_11_code
def yX8_adds : MethodName := ⟨RX8, "adds", "(I)I"⟩
abbrev cX8_broken : ByteArray := prog_1_method_12_code
def yX8_broken : MethodName := ⟨RX8, "broken", "()I"⟩
abbrev cX8_years : ByteArray := prog_1_method_13_code
def yX8_years : MethodName := ⟨RX8, "years", "(I)I"⟩
abbrev cX8_can : ByteArray := prog_1_method_14_code
def yX8_can : MethodName := ⟨RX8, "can", "()Z"⟩
abbrev cX8_best : ByteArray := prog_1_method_15_code
def yX8_best : MethodName := ⟨RX8, "best", "()I"⟩
abbrev cX8_given : ByteArray := prog_1_method_16_code
def yX8_given : MethodName := ⟨RX8, "given", "(I)I"⟩
abbrev cX8_take : ByteArray := prog_1_method_17_code
def yX8_take : MethodName := ⟨RX8, "take", "()Z"⟩
abbrev cX8_cost : ByteArray := prog_1_method_18_code
def yX8_cost : MethodName := ⟨RX8, "cost", "(I)I"⟩
abbrev cX8_look : ByteArray := prog_1_method_19_code
def yX8_look : MethodName := ⟨RX8, "look", "(II)I"⟩
abbrev cX8_keep : ByteArray := prog_1_method_20_code
def yX8_keep : MethodName := ⟨RX8, "keep", "()I"⟩
abbrev cX8_unlike : ByteArray := prog_1_method_21_code
def yX8_unlike : MethodName := ⟨RX8, "unlike", "(II)I"⟩
abbrev cX8_back : ByteArray := prog_1_method_22_code
def yX8_back : MethodName := ⟨RX8, "back", "(I)I"⟩
abbrev cX8_far : ByteArray := prog_1_method_23_code
def yX8_far : MethodName := ⟨RX8, "far", "()I"⟩
abbrev cX8_count : ByteArray := prog_1_method_24_code
def yX8_count : MethodName := ⟨RX8, "count", "(I)I"⟩
abbrev cX8_bestSearch : ByteArray := prog_1_method_25_code
def yX8_bestSearch : MethodName := ⟨RX8, "bestSearch", "()LLandUses$Search;"⟩
abbrev cX8_planOrLand : ByteArray := prog_1_method_26_code
def yX8_planOrLand : MethodName := ⟨RX8, "planOrLand", "(I)LLandUses$Uses;"⟩
abbrev cX8_checkPlan : ByteArray := prog_1_method_27_code
def yX8_checkPlan : MethodName := ⟨RX8, "checkPlan", "(I)V"⟩
abbrev cX8_checkLine : ByteArray := prog_1_method_28_code
def yX8_checkLine : MethodName := ⟨RX8, "checkLine", "(I)V"⟩
abbrev cX8_checkSquare : ByteArray := prog_1_method_29_code
def yX8_checkSquare : MethodName := ⟨RX8, "checkSquare", "(I)V"⟩
def RX9 : String := "LandUsesModel"
def TX9 : u_T := fun k => match k with
  | 0 => ("LandUsesModel", "thrown", "I", false)
  | 1 => ("LandUsesModel", "use", "[I", true)
  | 2 => ("LandUsesModel", "soil", "[I", true)
  | 3 => ("LandUsesModel", "isFree", "[Z", true)
  | 4 => ("LandUsesModel", "frees", "I", false)
  | 5 => ("LandUsesModel", "gate", "I", false)
  | 6 => ("LandUsesModel", "year", "I", false)
  | 7 => ("LandUsesModel", "sort", "[I", true)
  | 8 => ("LandUsesModel", "one", "[I", true)
  | 9 => ("LandUsesModel", "two", "[I", true)
  | 10 => ("LandUsesModel", "three", "[I", true)
  | 11 => ("LandUsesModel", "worth", "[I", true)
  | 12 => ("LandUsesModel", "steps", "[I", true)
  | 13 => ("LandUsesModel", "least", "[I", true)
  | 14 => ("LandUsesModel", "lines", "I", false)
  | 15 => ("LandUsesModel", "plan", "[I", true)
  | 16 => ("LandUsesModel", "plans", "I", false)
  | 17 => ("LandUsesModel", "tape", "[B", true)
  | 18 => ("LandUsesModel", "taped", "I", false)
  | 19 => ("LandUsesModel", "point", "I", false)
  | 20 => ("LandUsesModel", "end", "I", false)
  | 21 => ("LandUsesModel", "begin", "I", false)
  | 22 => ("LandUsesModel", "faultAt", "I", false)
  | 23 => ("LandUsesModel", "five", "[I", true)
  | 24 => ("LandUsesModel", "isMet", "[Z", true)
  | 25 => ("LandUsesModel", "next", "[I", true)
  | 26 => ("LandUsesModel", "place", "[I", true)
  | 27 => ("LandUsesModel", "single", "[I", true)
  | 28 => ("LandUsesModel", "both", "[I", true)
  | 29 => ("LandUsesModel", "was", "[I", true)
  | 30 => ("LandUsesModel", "given", "[I", true)
  | 31 => ("LandUsesModel", "bestWorth", "I", false)
  | _ => ("LandUsesModel", "off", "[I", true)
def tyX9 : Nat → FieldType := fun k => match k with
  | 0 => .int
  | 1 => .array .int
  | 2 => .array .int
  | 3 => .array .boolean
  | 4 => .int
  | 5 => .int
  | 6 => .int
  | 7 => .array .int
  | 8 => .array .int
  | 9 => .array .int
  | 10 => .array .int
  | 11 => .array .int
  | 12 => .array .int
  | 13 => .array .int
  | 14 => .int
  | 15 => .array .int
  | 16 => .int
  | 17 => .array .byte
  | 18 => .int
  | 19 => .int
  | 20 => .int
  | 21 => .int
  | 22 => .int
  | 23 => .array .int
  | 24 => .array .boolean
  | 25 => .array .int
  | 26 => .array .int
  | 27 => .array .int
  | 28 => .array .int
  | 29 => .array .int
  | 30 => .array .int
  | 31 => .int
  | _ => .array .int
abbrev wsX90 : List Cond := u_ws RX9 TX9 33
theorem nmX9 : ∀ a, a < 33 → ∀ b, b < 33 → a ≠ b → (TX9 a).2.1 ≠ (TX9 b).2.1 := by decide +kernel
theorem tyX9_ok : ∀ k, k < 33 → parseFieldDescriptor (TX9 k).2.2.1 = some (tyX9 k) := by decide +kernel
abbrev cX9_init : ByteArray := prog_11_method_1_code
def yX9_init : MethodName := ⟨RX9, "<init>", "()V"⟩
abbrev cX9_thrown : ByteArray := prog_11_method_2_code
def yX9_thrown : MethodName := ⟨RX9, "thrown", "()I"⟩
abbrev cX9_throwsIf : ByteArray := prog_11_method_3_code
def yX9_throwsIf : MethodName := ⟨RX9, "throwsIf", "(ZI)Z"⟩
abbrev cX9_in : ByteArray := prog_11_method_4_code
def yX9_in : MethodName := ⟨RX9, "in", "(III)Z"⟩
abbrev cX9_noSquare : ByteArray := prog_11_method_5_code
def yX9_noSquare : MethodName := ⟨RX9, "noSquare", "(I)Z"⟩
abbrev cX9_isIn : ByteArray := prog_11_method_6_code
def yX9_isIn : MethodName := ⟨RX9, "isIn", "(III)Z"⟩
abbrev cX9_use : ByteArray := prog_11_method_7_code
def yX9_use : MethodName := ⟨RX9, "use", "(III)I"⟩
abbrev cX9_soil : ByteArray := prog_11_method_8_code
def yX9_soil : MethodName := ⟨RX9, "soil", "(III)V"⟩
abbrev cX9_free : ByteArray := prog_11_method_9_code
def yX9_free : MethodName := ⟨RX9, "free", "(IZ)Z"⟩
abbrev cX9_gate : ByteArray := prog_11_method_10_code
def yX9_gate : MethodName := ⟨RX9, "gate", "(I)V"⟩
abbrev cX9_apart : ByteArray := prog_11_method_11_code
def yX9_apart : MethodName := ⟨RX9, "apart", "(II)I"⟩
abbrev cX9_beside : ByteArray := prog_11_method_12_code
def yX9_beside : MethodName := ⟨RX9, "beside", "(II)I"⟩
abbrev cX9_feed : ByteArray := prog_11_method_13_code
def yX9_feed : MethodName := ⟨RX9, "feed", "(IIIII)I"⟩
abbrev cX9_end : ByteArray := prog_11_method_14_code
def yX9_end : MethodName := ⟨RX9, "end", "(I)Z"⟩
abbrev cX9_isAt : ByteArray := prog_11_method_15_code
def yX9_isAt : MethodName := ⟨RX9, "isAt", "(II)Z"⟩
abbrev cX9_blanks : ByteArray := prog_11_method_16_code
def yX9_blanks : MethodName := ⟨RX9, "blanks", "()V"⟩
abbrev cX9_word : ByteArray := prog_11_method_17_code
def yX9_word : MethodName := ⟨RX9, "word", "()V"⟩
abbrev cX9_isWord : ByteArray := prog_11_method_18_code
def yX9_isWord : MethodName := ⟨RX9, "isWord", "(Ljava/lang/String;)Z"⟩
abbrev cX9_need : ByteArray := prog_11_method_19_code
def yX9_need : MethodName := ⟨RX9, "need", "(Ljava/lang/String;)Z"⟩
abbrev cX9_number : ByteArray := prog_11_method_20_code
def yX9_number : MethodName := ⟨RX9, "number", "(II)I"⟩
abbrev cX9_useOf : ByteArray := prog_11_method_21_code
def yX9_useOf : MethodName := ⟨RX9, "useOf", "()I"⟩
abbrev cX9_readUse : ByteArray := prog_11_method_22_code
def yX9_readUse : MethodName := ⟨RX9, "readUse", "()I"⟩
abbrev cX9_readWorth : ByteArray := prog_11_method_23_code
def yX9_readWorth : MethodName := ⟨RX9, "readWorth", "(I)Z"⟩
abbrev cX9_readLaw : ByteArray := prog_11_method_24_code
def yX9_readLaw : MethodName := ⟨RX9, "readLaw", "(I)Z"⟩
abbrev cX9_readGrow : ByteArray := prog_11_method_25_code
def yX9_readGrow : MethodName := ⟨RX9, "readGrow", "(I)Z"⟩
abbrev cX9_readLine : ByteArray := prog_11_method_26_code
def yX9_readLine : MethodName := ⟨RX9, "readLine", "(I)Z"⟩
abbrev cX9_readAll : ByteArray := prog_11_method_27_code
def yX9_readAll : MethodName := ⟨RX9, "readAll", "()I"⟩
abbrev cX9_book : ByteArray := prog_11_method_28_code
def yX9_book : MethodName := ⟨RX9, "book", "()I"⟩
abbrev cX9_fault : ByteArray := prog_11_method_29_code
def yX9_fault : MethodName := ⟨RX9, "fault", "()I"⟩
abbrev cX9_pair : ByteArray := prog_11_method_30_code
def yX9_pair : MethodName := ⟨RX9, "pair", "(IIIII)I"⟩
abbrev cX9_alone : ByteArray := prog_11_method_31_code
def yX9_alone : MethodName := ⟨RX9, "alone", "(III)I"⟩
abbrev cX9_addsOf : ByteArray := prog_11_method_32_code
def yX9_addsOf : MethodName := ⟨RX9, "addsOf", "(I)I"⟩
abbrev cX9_worthOf : ByteArray := prog_11_method_33_code
def yX9_worthOf : MethodName := ⟨RX9, "worthOf", "()I"⟩
abbrev cX9_worth : ByteArray := prog_11_method_34_code
def yX9_worth : MethodName := ⟨RX9, "worth", "()I"⟩
abbrev cX9_adds : ByteArray := prog_11_method_35_code
def yX9_adds : MethodName := ⟨RX9, "adds", "(I)I"⟩
abbrev cX9_isLaw : ByteArray := prog_11_method_36_code
def yX9_isLaw : MethodName := ⟨RX9, "isLaw", "(I)Z"⟩
abbrev cX9_countOf : ByteArray := prog_11_method_37_code
def yX9_countOf : MethodName := ⟨RX9, "countOf", "(I)I"⟩
abbrev cX9_areApart : ByteArray := prog_11_method_38_code
def yX9_areApart : MethodName := ⟨RX9, "areApart", "(I)Z"⟩
abbrev cX9_areJoined : ByteArray := prog_11_method_39_code
def yX9_areJoined : MethodName := ⟨RX9, "areJoined", "(I)Z"⟩
abbrev cX9_holds : ByteArray := prog_11_method_40_code
def yX9_holds : MethodName := ⟨RX9, "holds", "(I)Z"⟩
abbrev cX9_broken : ByteArray := prog_11_method_41_code
def yX9_broken : MethodName := ⟨RX9, "broken", "()I"⟩
abbrev cX9_grows : ByteArray := prog_11_method_42_code
def yX9_grows : MethodName := ⟨RX9, "grows", "(II)Z"⟩
abbrev cX9_years : ByteArray := prog_11_method_43_code
def yX9_years : MethodName := ⟨RX9, "years", "(I)I"⟩
abbrev cX9_bothAt : ByteArray := prog_11_method_44_code
def yX9_bothAt : MethodName := ⟨RX9, "bothAt", "(IIII)I"⟩
abbrev cX9_weighs : ByteArray := prog_11_method_45_code
def yX9_weighs : MethodName := ⟨RX9, "weighs", "()V"⟩
abbrev cX9_others : ByteArray := prog_11_method_46_code
def yX9_others : MethodName := ⟨RX9, "others", "()I"⟩
abbrev cX9_allHold : ByteArray := prog_11_method_47_code
def yX9_allHold : MethodName := ⟨RX9, "allHold", "(I)Z"⟩
abbrev cX9_seeks : ByteArray := prog_11_method_48_code
def yX9_seeks : MethodName := ⟨RX9, "seeks", "(I)Z"⟩
abbrev cX9_can : ByteArray := prog_11_method_49_code
def yX9_can : MethodName := ⟨RX9, "can", "()Z"⟩
abbrev cX9_best : ByteArray := prog_11_method_50_code
def yX9_best : MethodName := ⟨RX9, "best", "()I"⟩
abbrev cX9_given : ByteArray := prog_11_method_51_code
def yX9_given : MethodName := ⟨RX9, "given", "(I)I"⟩
abbrev cX9_take : ByteArray := prog_11_method_52_code
def yX9_take : MethodName := ⟨RX9, "take", "()Z"⟩
abbrev cX9_cost : ByteArray := prog_11_method_53_code
def yX9_cost : MethodName := ⟨RX9, "cost", "(I)I"⟩
abbrev cX9_look : ByteArray := prog_11_method_54_code
def yX9_look : MethodName := ⟨RX9, "look", "(II)I"⟩
abbrev cX9_keep : ByteArray := prog_11_method_55_code
def yX9_keep : MethodName := ⟨RX9, "keep", "()I"⟩
abbrev cX9_useIn : ByteArray := prog_11_method_56_code
def yX9_useIn : MethodName := ⟨RX9, "useIn", "(II)I"⟩
abbrev cX9_unlike : ByteArray := prog_11_method_57_code
def yX9_unlike : MethodName := ⟨RX9, "unlike", "(II)I"⟩
abbrev cX9_back : ByteArray := prog_11_method_58_code
def yX9_back : MethodName := ⟨RX9, "back", "(I)I"⟩
abbrev cX9_far : ByteArray := prog_11_method_59_code
def yX9_far : MethodName := ⟨RX9, "far", "()I"⟩
abbrev cX9_count : ByteArray := prog_11_method_60_code
def yX9_count : MethodName := ⟨RX9, "count", "(I)I"⟩
def RJ6 : String := "java/lang/Integer"
def TJ6 : u_T := fun k => match k with
  | _ => ("", "", "", false)
def tyJ6 : Nat → FieldType := fun k => match k with
  | _ => .int
abbrev wsJ60 : List Cond := u_ws RJ6 TJ6 0
theorem nmJ6 : ∀ a, a < 0 → ∀ b, b < 0 → a ≠ b → (TJ6 a).2.1 ≠ (TJ6 b).2.1 := by decide +kernel
theorem tyJ6_ok : ∀ k, k < 0 → parseFieldDescriptor (TJ6 k).2.2.1 = some (tyJ6 k) := by decide +kernel
abbrev cJ6_bitCount_0f7a4 : ByteArray := prog_15_method_49_code
def yJ6_bitCount_0f7a4 : MethodName := ⟨RJ6, "bitCount", "(I)I"⟩
def RJ13 : String := "java/lang/Long"
def TJ13 : u_T := fun k => match k with
  | _ => ("", "", "", false)
def tyJ13 : Nat → FieldType := fun k => match k with
  | _ => .int
abbrev wsJ130 : List Cond := u_ws RJ13 TJ13 0
theorem nmJ13 : ∀ a, a < 0 → ∀ b, b < 0 → a ≠ b → (TJ13 a).2.1 ≠ (TJ13 b).2.1 := by decide +kernel
theorem tyJ13_ok : ∀ k, k < 0 → parseFieldDescriptor (TJ13 k).2.2.1 = some (tyJ13 k) := by decide +kernel
abbrev cJ13_bitCount_95d88 : ByteArray := prog_16_method_50_code
def yJ13_bitCount_95d88 : MethodName := ⟨RJ13, "bitCount", "(J)I"⟩
def RJ9 : String := "java/lang/Math"
def TJ9 : u_T := fun k => match k with
  | _ => ("", "", "", false)
def tyJ9 : Nat → FieldType := fun k => match k with
  | _ => .int
abbrev wsJ90 : List Cond := u_ws RJ9 TJ9 0
theorem nmJ9 : ∀ a, a < 0 → ∀ b, b < 0 → a ≠ b → (TJ9 a).2.1 ≠ (TJ9 b).2.1 := by decide +kernel
theorem tyJ9_ok : ∀ k, k < 0 → parseFieldDescriptor (TJ9 k).2.2.1 = some (tyJ9 k) := by decide +kernel
abbrev cJ9_abs_0f7a4 : ByteArray := prog_17_method_59_code
def yJ9_abs_0f7a4 : MethodName := ⟨RJ9, "abs", "(I)I"⟩
abbrev cJ9_max_7cf53 : ByteArray := prog_17_method_65_code
def yJ9_max_7cf53 : MethodName := ⟨RJ9, "max", "(II)I"⟩
abbrev cJ9_min_7cf53 : ByteArray := prog_17_method_69_code
def yJ9_min_7cf53 : MethodName := ⟨RJ9, "min", "(II)I"⟩
def RJ0 : String := "java/lang/String"
def TJ0 : u_T := fun k => match k with
  | _ => ("", "", "", false)
def tyJ0 : Nat → FieldType := fun k => match k with
  | _ => .int
abbrev wsJ00 : List Cond := u_ws RJ0 TJ0 0
theorem nmJ0 : ∀ a, a < 0 → ∀ b, b < 0 → a ≠ b → (TJ0 a).2.1 ≠ (TJ0 b).2.1 := by decide +kernel
theorem tyJ0_ok : ∀ k, k < 0 → parseFieldDescriptor (TJ0 k).2.2.1 = some (tyJ0 k) := by decide +kernel
abbrev cJ0_length_8abf5 : ByteArray := prog_19_method_54_code
def yJ0_length_8abf5 : MethodName := ⟨RJ0, "length", "()I"⟩
abbrev cJ0_charAt_5068e : ByteArray := prog_19_method_56_code
def yJ0_charAt_5068e : MethodName := ⟨RJ0, "charAt", "(I)C"⟩
abbrev cJ0_coder_7d493 : ByteArray := prog_19_method_152_code
def yJ0_coder_7d493 : MethodName := ⟨RJ0, "coder", "()B"⟩
abbrev cJ0_isLatin1_aae02 : ByteArray := prog_19_method_154_code
def yJ0_isLatin1_aae02 : MethodName := ⟨RJ0, "isLatin1", "()Z"⟩
abbrev cJ0_checkIndex_df160 : ByteArray := prog_19_method_155_code
def yJ0_checkIndex_df160 : MethodName := ⟨RJ0, "checkIndex", "(II)V"⟩
def RJ1 : String := "java/lang/StringLatin1"
def TJ1 : u_T := fun k => match k with
  | _ => ("", "", "", false)
def tyJ1 : Nat → FieldType := fun k => match k with
  | _ => .int
abbrev wsJ10 : List Cond := u_ws RJ1 TJ1 0
theorem nmJ1 : ∀ a, a < 0 → ∀ b, b < 0 → a ≠ b → (TJ1 a).2.1 ≠ (TJ1 b).2.1 := by decide +kernel
theorem tyJ1_ok : ∀ k, k < 0 → parseFieldDescriptor (TJ1 k).2.2.1 = some (tyJ1 k) := by decide +kernel
abbrev cJ1_charAt_3b067 : ByteArray := prog_20_method_2_code
def yJ1_charAt_3b067 : MethodName := ⟨RJ1, "charAt", "([BI)C"⟩
def RJ2 : String := "java/lang/StringUTF16"
def TJ2 : u_T := fun k => match k with
  | _ => ("", "", "", false)
def tyJ2 : Nat → FieldType := fun k => match k with
  | _ => .int
abbrev wsJ20 : List Cond := u_ws RJ2 TJ2 0
theorem nmJ2 : ∀ a, a < 0 → ∀ b, b < 0 → a ≠ b → (TJ2 a).2.1 ≠ (TJ2 b).2.1 := by decide +kernel
theorem tyJ2_ok : ∀ k, k < 0 → parseFieldDescriptor (TJ2 k).2.2.1 = some (tyJ2 k) := by decide +kernel
abbrev cJ2_getChar_3b067 : ByteArray := prog_21_method_5_code
def yJ2_getChar_3b067 : MethodName := ⟨RJ2, "getChar", "([BI)C"⟩
abbrev cJ2_length_9d52b : ByteArray := prog_21_method_6_code
def yJ2_length_9d52b : MethodName := ⟨RJ2, "length", "([B)I"⟩
abbrev cJ2_charAt_3b067 : ByteArray := prog_21_method_83_code
def yJ2_charAt_3b067 : MethodName := ⟨RJ2, "charAt", "([BI)C"⟩
abbrev cJ2_checkIndex_2214a : ByteArray := prog_21_method_91_code
def yJ2_checkIndex_2214a : MethodName := ⟨RJ2, "checkIndex", "(I[B)V"⟩
def RJ3 : String := "jdk/internal/util/Preconditions"
def TJ3 : u_T := fun k => match k with
  | _ => ("", "", "", false)
def tyJ3 : Nat → FieldType := fun k => match k with
  | _ => .int
abbrev wsJ30 : List Cond := u_ws RJ3 TJ3 0
theorem nmJ3 : ∀ a, a < 0 → ∀ b, b < 0 → a ≠ b → (TJ3 a).2.1 ≠ (TJ3 b).2.1 := by decide +kernel
theorem tyJ3_ok : ∀ k, k < 0 → parseFieldDescriptor (TJ3 k).2.2.1 = some (tyJ3 k) := by decide +kernel
abbrev cJ3_checkIndex_8e157 : ByteArray := prog_24_method_11_code
def yJ3_checkIndex_8e157 : MethodName := ⟨RJ3, "checkIndex", "(IILjava/util/function/BiFunction;)I"⟩
def RL : String := "LandUsesLaw"
abbrev cL_use : ByteArray := method_3_code
def yL_use : MethodName := ⟨RL, "use", "(LLandUses;III[J)I"⟩
abbrev cL_soil : ByteArray := method_4_code
def yL_soil : MethodName := ⟨RL, "soil", "(LLandUses;III)I"⟩
abbrev cL_free : ByteArray := method_5_code
def yL_free : MethodName := ⟨RL, "free", "(LLandUses;IZ[J)I"⟩
abbrev cL_gate : ByteArray := method_6_code
def yL_gate : MethodName := ⟨RL, "gate", "(LLandUses;I)I"⟩
abbrev cL_book : ByteArray := method_7_code
def yL_book : MethodName := ⟨RL, "book", "(LLandUses;[J)I"⟩
abbrev cL_adds : ByteArray := method_8_code
def yL_adds : MethodName := ⟨RL, "adds", "(LLandUses;I[J)I"⟩
abbrev cL_years : ByteArray := method_9_code
def yL_years : MethodName := ⟨RL, "years", "(LLandUses;I[J)I"⟩
abbrev cL_best : ByteArray := method_10_code
def yL_best : MethodName := ⟨RL, "best", "(LLandUses;[J)I"⟩
abbrev cL_given : ByteArray := method_11_code
def yL_given : MethodName := ⟨RL, "given", "(LLandUses;I[J)I"⟩
abbrev cL_cost : ByteArray := method_12_code
def yL_cost : MethodName := ⟨RL, "cost", "(LLandUses;I[J)I"⟩
abbrev cL_look : ByteArray := method_13_code
def yL_look : MethodName := ⟨RL, "look", "(LLandUses;II[J)I"⟩
abbrev cL_unlike : ByteArray := method_14_code
def yL_unlike : MethodName := ⟨RL, "unlike", "(LLandUses;II[J)I"⟩
abbrev cL_back : ByteArray := method_15_code
def yL_back : MethodName := ⟨RL, "back", "(LLandUses;I[J)I"⟩
abbrev cL_law : ByteArray := code
def yL_law : MethodName := ⟨RL, "law", "([I)Z"⟩
