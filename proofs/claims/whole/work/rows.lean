section
-- ===== PART A: goes FIRST, ahead of the names: the tables' words, and 'selects' of the private methods out of them =====
/-- a private method of a class that the tables say can be made, by its rows of tables_1 -/
def lw_okq (q : MethodName × Nat) : Prop := (q.1.cls ≠ "java/lang/invoke/MethodHandle" ∧ q.1.cls ≠ "java/lang/invoke/VarHandle") ∧ Cond.instantiable q.1.cls q.2 ∈ tables_1 ∧ Cond.privateMethod q.1 ∈ tables_1 ∧ Cond.instanceMethod q.1 ∈ tables_1
theorem lw_p0 : lw_okq (⟨"OneAtATime$Reader", "advance", "()V"⟩, 6) := ⟨⟨by decide +kernel, by decide +kernel⟩, List.mem_of_getElem? (i := 112) (by decide +kernel), List.mem_of_getElem? (i := 295) (by decide +kernel), List.mem_of_getElem? (i := 296) (by decide +kernel)⟩
theorem lw_p1 : lw_okq (⟨"OneAtATime$Reader", "readsHead", "(LOneAtATime$BitList;)V"⟩, 6) := ⟨⟨by decide +kernel, by decide +kernel⟩, List.mem_of_getElem? (i := 112) (by decide +kernel), List.mem_of_getElem? (i := 309) (by decide +kernel), List.mem_of_getElem? (i := 310) (by decide +kernel)⟩
theorem lw_p2 : lw_okq (⟨"OneAtATime$Reader", "expectLetters", "(Ljava/lang/String;)V"⟩, 6) := ⟨⟨by decide +kernel, by decide +kernel⟩, List.mem_of_getElem? (i := 112) (by decide +kernel), List.mem_of_getElem? (i := 314) (by decide +kernel), List.mem_of_getElem? (i := 315) (by decide +kernel)⟩
theorem lw_p3 : lw_okq (⟨"OneAtATime$Reader", "isLetters", "(Ljava/lang/String;)Z"⟩, 6) := ⟨⟨by decide +kernel, by decide +kernel⟩, List.mem_of_getElem? (i := 112) (by decide +kernel), List.mem_of_getElem? (i := 318) (by decide +kernel), List.mem_of_getElem? (i := 319) (by decide +kernel)⟩
theorem lw_p4 : lw_okq (⟨"OneAtATime$Reader", "blame", "(II)V"⟩, 6) := ⟨⟨by decide +kernel, by decide +kernel⟩, List.mem_of_getElem? (i := 112) (by decide +kernel), List.mem_of_getElem? (i := 370) (by decide +kernel), List.mem_of_getElem? (i := 371) (by decide +kernel)⟩
theorem lw_p5 : lw_okq (⟨"OneAtATime$Reader", "expectNumber", "(II)I"⟩, 6) := ⟨⟨by decide +kernel, by decide +kernel⟩, List.mem_of_getElem? (i := 112) (by decide +kernel), List.mem_of_getElem? (i := 374) (by decide +kernel), List.mem_of_getElem? (i := 375) (by decide +kernel)⟩
theorem lw_p6 : lw_okq (⟨"OneAtATime$Reader", "expectSign", "(C)V"⟩, 6) := ⟨⟨by decide +kernel, by decide +kernel⟩, List.mem_of_getElem? (i := 112) (by decide +kernel), List.mem_of_getElem? (i := 381) (by decide +kernel), List.mem_of_getElem? (i := 382) (by decide +kernel)⟩
theorem lw_p7 : lw_okq (⟨"OneAtATime$Reader", "readsBits", "(LOneAtATime$BitList;)V"⟩, 6) := ⟨⟨by decide +kernel, by decide +kernel⟩, List.mem_of_getElem? (i := 112) (by decide +kernel), List.mem_of_getElem? (i := 389) (by decide +kernel), List.mem_of_getElem? (i := 390) (by decide +kernel)⟩
theorem lw_p8 : lw_okq (⟨"OneAtATime", "settle", "(I)I"⟩, 9) := ⟨⟨by decide +kernel, by decide +kernel⟩, List.mem_of_getElem? (i := 22) (by decide +kernel), List.mem_of_getElem? (i := 402) (by decide +kernel), List.mem_of_getElem? (i := 403) (by decide +kernel)⟩
theorem lw_p9 : lw_okq (⟨"OneAtATime", "slotsAsBits", "()I"⟩, 9) := ⟨⟨by decide +kernel, by decide +kernel⟩, List.mem_of_getElem? (i := 22) (by decide +kernel), List.mem_of_getElem? (i := 433) (by decide +kernel), List.mem_of_getElem? (i := 434) (by decide +kernel)⟩
theorem lw_p10 : lw_okq (⟨"OneAtATime", "listIn", "(I)LOneAtATime$BitList;"⟩, 9) := ⟨⟨by decide +kernel, by decide +kernel⟩, List.mem_of_getElem? (i := 22) (by decide +kernel), List.mem_of_getElem? (i := 441) (by decide +kernel), List.mem_of_getElem? (i := 442) (by decide +kernel)⟩
theorem lw_p11 : lw_okq (⟨"OneAtATime$Survey", "countShown", "(LOneAtATime$BitList;)V"⟩, 5) := ⟨⟨by decide +kernel, by decide +kernel⟩, List.mem_of_getElem? (i := 161) (by decide +kernel), List.mem_of_getElem? (i := 457) (by decide +kernel), List.mem_of_getElem? (i := 458) (by decide +kernel)⟩
theorem lw_p12 : lw_okq (⟨"OneAtATime$Survey", "measureFarthest", "(LOneAtATime$BitList;)V"⟩, 5) := ⟨⟨by decide +kernel, by decide +kernel⟩, List.mem_of_getElem? (i := 161) (by decide +kernel), List.mem_of_getElem? (i := 654) (by decide +kernel), List.mem_of_getElem? (i := 655) (by decide +kernel)⟩
theorem lw_p13 : lw_okq (⟨"OneAtATime$Survey", "spreadHolds", "(I)Z"⟩, 5) := ⟨⟨by decide +kernel, by decide +kernel⟩, List.mem_of_getElem? (i := 161) (by decide +kernel), List.mem_of_getElem? (i := 658) (by decide +kernel), List.mem_of_getElem? (i := 659) (by decide +kernel)⟩
theorem lw_p14 : lw_okq (⟨"OneAtATime$Search", "barOutsideScope", "(LOneAtATime$BitList;)V"⟩, 3) := ⟨⟨by decide +kernel, by decide +kernel⟩, List.mem_of_getElem? (i := 183) (by decide +kernel), List.mem_of_getElem? (i := 723) (by decide +kernel), List.mem_of_getElem? (i := 724) (by decide +kernel)⟩
theorem lw_p15 : lw_okq (⟨"OneAtATime$Search", "freeBit", "(LOneAtATime$BitList;I)I"⟩, 3) := ⟨⟨by decide +kernel, by decide +kernel⟩, List.mem_of_getElem? (i := 183) (by decide +kernel), List.mem_of_getElem? (i := 746) (by decide +kernel), List.mem_of_getElem? (i := 747) (by decide +kernel)⟩
def lw_privs_1 : List (MethodName × Nat) := [(⟨"OneAtATime$Reader", "advance", "()V"⟩, 6), (⟨"OneAtATime$Reader", "readsHead", "(LOneAtATime$BitList;)V"⟩, 6), (⟨"OneAtATime$Reader", "expectLetters", "(Ljava/lang/String;)V"⟩, 6), (⟨"OneAtATime$Reader", "isLetters", "(Ljava/lang/String;)Z"⟩, 6), (⟨"OneAtATime$Reader", "blame", "(II)V"⟩, 6), (⟨"OneAtATime$Reader", "expectNumber", "(II)I"⟩, 6), (⟨"OneAtATime$Reader", "expectSign", "(C)V"⟩, 6), (⟨"OneAtATime$Reader", "readsBits", "(LOneAtATime$BitList;)V"⟩, 6), (⟨"OneAtATime", "settle", "(I)I"⟩, 9), (⟨"OneAtATime", "slotsAsBits", "()I"⟩, 9), (⟨"OneAtATime", "listIn", "(I)LOneAtATime$BitList;"⟩, 9), (⟨"OneAtATime$Survey", "countShown", "(LOneAtATime$BitList;)V"⟩, 5), (⟨"OneAtATime$Survey", "measureFarthest", "(LOneAtATime$BitList;)V"⟩, 5), (⟨"OneAtATime$Survey", "spreadHolds", "(I)Z"⟩, 5), (⟨"OneAtATime$Search", "barOutsideScope", "(LOneAtATime$BitList;)V"⟩, 3), (⟨"OneAtATime$Search", "freeBit", "(LOneAtATime$BitList;I)I"⟩, 3)]
theorem lw_r1 : ∀ q ∈ lw_privs_1, lw_okq q := List.forall_mem_cons.mpr ⟨lw_p0, List.forall_mem_cons.mpr ⟨lw_p1, List.forall_mem_cons.mpr ⟨lw_p2, List.forall_mem_cons.mpr ⟨lw_p3, List.forall_mem_cons.mpr ⟨lw_p4, List.forall_mem_cons.mpr ⟨lw_p5, List.forall_mem_cons.mpr ⟨lw_p6, List.forall_mem_cons.mpr ⟨lw_p7, List.forall_mem_cons.mpr ⟨lw_p8, List.forall_mem_cons.mpr ⟨lw_p9, List.forall_mem_cons.mpr ⟨lw_p10, List.forall_mem_cons.mpr ⟨lw_p11, List.forall_mem_cons.mpr ⟨lw_p12, List.forall_mem_cons.mpr ⟨lw_p13, List.forall_mem_cons.mpr ⟨lw_p14, List.forall_mem_cons.mpr ⟨lw_p15, fun _ h => absurd h List.not_mem_nil⟩⟩⟩⟩⟩⟩⟩⟩⟩⟩⟩⟩⟩⟩⟩⟩
theorem lw_p16 : lw_okq (⟨"OneAtATime$Search", "staysMonotone", "(LOneAtATime$BitList;I)Z"⟩, 3) := ⟨⟨by decide +kernel, by decide +kernel⟩, List.mem_of_getElem? (i := 183) (by decide +kernel), List.mem_of_getElem? (i := 750) (by decide +kernel), List.mem_of_getElem? (i := 751) (by decide +kernel)⟩
theorem lw_p17 : lw_okq (⟨"OneAtATime$Search", "takeStep", "(LOneAtATime$BitList;I)V"⟩, 3) := ⟨⟨by decide +kernel, by decide +kernel⟩, List.mem_of_getElem? (i := 183) (by decide +kernel), List.mem_of_getElem? (i := 755) (by decide +kernel), List.mem_of_getElem? (i := 756) (by decide +kernel)⟩
theorem lw_p18 : lw_okq (⟨"OneAtATime", "isWholeLoop", "(LOneAtATime$BitList;)Z"⟩, 9) := ⟨⟨by decide +kernel, by decide +kernel⟩, List.mem_of_getElem? (i := 22) (by decide +kernel), List.mem_of_getElem? (i := 775) (by decide +kernel), List.mem_of_getElem? (i := 776) (by decide +kernel)⟩
theorem lw_p19 : lw_okq (⟨"OneAtATime$Evenness", "countTold", "(LOneAtATime$BitList;)V"⟩, 5) := ⟨⟨by decide +kernel, by decide +kernel⟩, List.mem_of_getElem? (i := 212) (by decide +kernel), List.mem_of_getElem? (i := 818) (by decide +kernel), List.mem_of_getElem? (i := 819) (by decide +kernel)⟩
theorem lw_p20 : lw_okq (⟨"OneAtATime$Evenness", "weigh", "(LOneAtATime$BitList;)V"⟩, 5) := ⟨⟨by decide +kernel, by decide +kernel⟩, List.mem_of_getElem? (i := 212) (by decide +kernel), List.mem_of_getElem? (i := 824) (by decide +kernel), List.mem_of_getElem? (i := 825) (by decide +kernel)⟩
theorem lw_p21 : lw_okq (⟨"OneAtATime$Evenness", "firstCuts", "(LOneAtATime$BitList;)J"⟩, 5) := ⟨⟨by decide +kernel, by decide +kernel⟩, List.mem_of_getElem? (i := 212) (by decide +kernel), List.mem_of_getElem? (i := 830) (by decide +kernel), List.mem_of_getElem? (i := 831) (by decide +kernel)⟩
theorem lw_p22 : lw_okq (⟨"OneAtATime$Evenness", "nextChoice", "(I)Z"⟩, 5) := ⟨⟨by decide +kernel, by decide +kernel⟩, List.mem_of_getElem? (i := 212) (by decide +kernel), List.mem_of_getElem? (i := 838) (by decide +kernel), List.mem_of_getElem? (i := 839) (by decide +kernel)⟩
theorem lw_p23 : lw_okq (⟨"OneAtATime$Search", "barRolledToThemselves", "(I)V"⟩, 3) := ⟨⟨by decide +kernel, by decide +kernel⟩, List.mem_of_getElem? (i := 183) (by decide +kernel), List.mem_of_getElem? (i := 853) (by decide +kernel), List.mem_of_getElem? (i := 854) (by decide +kernel)⟩
theorem lw_p24 : lw_okq (⟨"OneAtATime$Search", "barRolls", "(III)V"⟩, 3) := ⟨⟨by decide +kernel, by decide +kernel⟩, List.mem_of_getElem? (i := 183) (by decide +kernel), List.mem_of_getElem? (i := 860) (by decide +kernel), List.mem_of_getElem? (i := 861) (by decide +kernel)⟩
theorem lw_p25 : lw_okq (⟨"OneAtATime$Likeness", "agrees", "(LOneAtATime$BitList;LOneAtATime$BitList;IZ)Z"⟩, 2) := ⟨⟨by decide +kernel, by decide +kernel⟩, List.mem_of_getElem? (i := 199) (by decide +kernel), List.mem_of_getElem? (i := 952) (by decide +kernel), List.mem_of_getElem? (i := 953) (by decide +kernel)⟩
theorem lw_p26 : lw_okq (⟨"OneAtATime$History", "latest", "()I"⟩, 4) := ⟨⟨by decide +kernel, by decide +kernel⟩, List.mem_of_getElem? (i := 90) (by decide +kernel), List.mem_of_getElem? (i := 969) (by decide +kernel), List.mem_of_getElem? (i := 970) (by decide +kernel)⟩
theorem lw_p27 : lw_okq (⟨"OneAtATimeModel", "isList", "(I)Z"⟩, 29) := ⟨⟨by decide +kernel, by decide +kernel⟩, List.mem_of_getElem? (i := 1010) (by decide +kernel), List.mem_of_getElem? (i := 1120) (by decide +kernel), List.mem_of_getElem? (i := 1121) (by decide +kernel)⟩
theorem lw_p28 : lw_okq (⟨"OneAtATimeModel", "of", "(II)I"⟩, 29) := ⟨⟨by decide +kernel, by decide +kernel⟩, List.mem_of_getElem? (i := 1010) (by decide +kernel), List.mem_of_getElem? (i := 1124) (by decide +kernel), List.mem_of_getElem? (i := 1125) (by decide +kernel)⟩
theorem lw_p29 : lw_okq (⟨"OneAtATimeModel", "lays", "(IIIII)V"⟩, 29) := ⟨⟨by decide +kernel, by decide +kernel⟩, List.mem_of_getElem? (i := 1010) (by decide +kernel), List.mem_of_getElem? (i := 1128) (by decide +kernel), List.mem_of_getElem? (i := 1129) (by decide +kernel)⟩
theorem lw_p30 : lw_okq (⟨"OneAtATimeModel", "remembers", "()V"⟩, 29) := ⟨⟨by decide +kernel, by decide +kernel⟩, List.mem_of_getElem? (i := 1010) (by decide +kernel), List.mem_of_getElem? (i := 1132) (by decide +kernel), List.mem_of_getElem? (i := 1133) (by decide +kernel)⟩
theorem lw_p31 : lw_okq (⟨"OneAtATimeModel", "keeps", "(I)I"⟩, 29) := ⟨⟨by decide +kernel, by decide +kernel⟩, List.mem_of_getElem? (i := 1010) (by decide +kernel), List.mem_of_getElem? (i := 1136) (by decide +kernel), List.mem_of_getElem? (i := 1137) (by decide +kernel)⟩
def lw_privs_2 : List (MethodName × Nat) := [(⟨"OneAtATime$Search", "staysMonotone", "(LOneAtATime$BitList;I)Z"⟩, 3), (⟨"OneAtATime$Search", "takeStep", "(LOneAtATime$BitList;I)V"⟩, 3), (⟨"OneAtATime", "isWholeLoop", "(LOneAtATime$BitList;)Z"⟩, 9), (⟨"OneAtATime$Evenness", "countTold", "(LOneAtATime$BitList;)V"⟩, 5), (⟨"OneAtATime$Evenness", "weigh", "(LOneAtATime$BitList;)V"⟩, 5), (⟨"OneAtATime$Evenness", "firstCuts", "(LOneAtATime$BitList;)J"⟩, 5), (⟨"OneAtATime$Evenness", "nextChoice", "(I)Z"⟩, 5), (⟨"OneAtATime$Search", "barRolledToThemselves", "(I)V"⟩, 3), (⟨"OneAtATime$Search", "barRolls", "(III)V"⟩, 3), (⟨"OneAtATime$Likeness", "agrees", "(LOneAtATime$BitList;LOneAtATime$BitList;IZ)Z"⟩, 2), (⟨"OneAtATime$History", "latest", "()I"⟩, 4), (⟨"OneAtATimeModel", "isList", "(I)Z"⟩, 29), (⟨"OneAtATimeModel", "of", "(II)I"⟩, 29), (⟨"OneAtATimeModel", "lays", "(IIIII)V"⟩, 29), (⟨"OneAtATimeModel", "remembers", "()V"⟩, 29), (⟨"OneAtATimeModel", "keeps", "(I)I"⟩, 29)]
theorem lw_r2 : ∀ q ∈ lw_privs_2, lw_okq q := List.forall_mem_cons.mpr ⟨lw_p16, List.forall_mem_cons.mpr ⟨lw_p17, List.forall_mem_cons.mpr ⟨lw_p18, List.forall_mem_cons.mpr ⟨lw_p19, List.forall_mem_cons.mpr ⟨lw_p20, List.forall_mem_cons.mpr ⟨lw_p21, List.forall_mem_cons.mpr ⟨lw_p22, List.forall_mem_cons.mpr ⟨lw_p23, List.forall_mem_cons.mpr ⟨lw_p24, List.forall_mem_cons.mpr ⟨lw_p25, List.forall_mem_cons.mpr ⟨lw_p26, List.forall_mem_cons.mpr ⟨lw_p27, List.forall_mem_cons.mpr ⟨lw_p28, List.forall_mem_cons.mpr ⟨lw_p29, List.forall_mem_cons.mpr ⟨lw_p30, List.forall_mem_cons.mpr ⟨lw_p31, fun _ h => absurd h List.not_mem_nil⟩⟩⟩⟩⟩⟩⟩⟩⟩⟩⟩⟩⟩⟩⟩⟩
theorem lw_p32 : lw_okq (⟨"OneAtATimeModel", "next", "()V"⟩, 29) := ⟨⟨by decide +kernel, by decide +kernel⟩, List.mem_of_getElem? (i := 1010) (by decide +kernel), List.mem_of_getElem? (i := 1152) (by decide +kernel), List.mem_of_getElem? (i := 1153) (by decide +kernel)⟩
theorem lw_p33 : lw_okq (⟨"OneAtATimeModel", "isAt", "(II)Z"⟩, 29) := ⟨⟨by decide +kernel, by decide +kernel⟩, List.mem_of_getElem? (i := 1010) (by decide +kernel), List.mem_of_getElem? (i := 1156) (by decide +kernel), List.mem_of_getElem? (i := 1157) (by decide +kernel)⟩
theorem lw_p34 : lw_okq (⟨"OneAtATimeModel", "isWord", "(Ljava/lang/String;)Z"⟩, 29) := ⟨⟨by decide +kernel, by decide +kernel⟩, List.mem_of_getElem? (i := 1010) (by decide +kernel), List.mem_of_getElem? (i := 1162) (by decide +kernel), List.mem_of_getElem? (i := 1163) (by decide +kernel)⟩
theorem lw_p35 : lw_okq (⟨"OneAtATimeModel", "must", "(Z)V"⟩, 29) := ⟨⟨by decide +kernel, by decide +kernel⟩, List.mem_of_getElem? (i := 1010) (by decide +kernel), List.mem_of_getElem? (i := 1168) (by decide +kernel), List.mem_of_getElem? (i := 1169) (by decide +kernel)⟩
theorem lw_p36 : lw_okq (⟨"OneAtATimeModel", "faultsAt", "(II)V"⟩, 29) := ⟨⟨by decide +kernel, by decide +kernel⟩, List.mem_of_getElem? (i := 1010) (by decide +kernel), List.mem_of_getElem? (i := 1172) (by decide +kernel), List.mem_of_getElem? (i := 1173) (by decide +kernel)⟩
theorem lw_p37 : lw_okq (⟨"OneAtATimeModel", "number", "(II)I"⟩, 29) := ⟨⟨by decide +kernel, by decide +kernel⟩, List.mem_of_getElem? (i := 1010) (by decide +kernel), List.mem_of_getElem? (i := 1176) (by decide +kernel), List.mem_of_getElem? (i := 1177) (by decide +kernel)⟩
theorem lw_p38 : lw_okq (⟨"OneAtATimeModel", "mustBeSign", "(I)V"⟩, 29) := ⟨⟨by decide +kernel, by decide +kernel⟩, List.mem_of_getElem? (i := 1010) (by decide +kernel), List.mem_of_getElem? (i := 1183) (by decide +kernel), List.mem_of_getElem? (i := 1184) (by decide +kernel)⟩
theorem lw_p39 : lw_okq (⟨"OneAtATimeModel", "readsBits", "(I)V"⟩, 29) := ⟨⟨by decide +kernel, by decide +kernel⟩, List.mem_of_getElem? (i := 1010) (by decide +kernel), List.mem_of_getElem? (i := 1187) (by decide +kernel), List.mem_of_getElem? (i := 1188) (by decide +kernel)⟩
theorem lw_p40 : lw_okq (⟨"OneAtATimeModel", "lies", "(I)V"⟩, 29) := ⟨⟨by decide +kernel, by decide +kernel⟩, List.mem_of_getElem? (i := 1010) (by decide +kernel), List.mem_of_getElem? (i := 1191) (by decide +kernel), List.mem_of_getElem? (i := 1192) (by decide +kernel)⟩
theorem lw_p41 : lw_okq (⟨"OneAtATimeModel", "done", "(I)I"⟩, 29) := ⟨⟨by decide +kernel, by decide +kernel⟩, List.mem_of_getElem? (i := 1010) (by decide +kernel), List.mem_of_getElem? (i := 1195) (by decide +kernel), List.mem_of_getElem? (i := 1196) (by decide +kernel)⟩
theorem lw_p42 : lw_okq (⟨"OneAtATimeModel", "isSo", "(II)Z"⟩, 29) := ⟨⟨by decide +kernel, by decide +kernel⟩, List.mem_of_getElem? (i := 1010) (by decide +kernel), List.mem_of_getElem? (i := 1212) (by decide +kernel), List.mem_of_getElem? (i := 1213) (by decide +kernel)⟩
theorem lw_p43 : lw_okq (⟨"OneAtATimeModel", "isClean", "(I)Z"⟩, 29) := ⟨⟨by decide +kernel, by decide +kernel⟩, List.mem_of_getElem? (i := 1010) (by decide +kernel), List.mem_of_getElem? (i := 1216) (by decide +kernel), List.mem_of_getElem? (i := 1217) (by decide +kernel)⟩
theorem lw_p44 : lw_okq (⟨"OneAtATimeModel", "laysWords", "(I)V"⟩, 29) := ⟨⟨by decide +kernel, by decide +kernel⟩, List.mem_of_getElem? (i := 1010) (by decide +kernel), List.mem_of_getElem? (i := 1220) (by decide +kernel), List.mem_of_getElem? (i := 1221) (by decide +kernel)⟩
theorem lw_p45 : lw_okq (⟨"OneAtATimeModel", "many", "(I)I"⟩, 29) := ⟨⟨by decide +kernel, by decide +kernel⟩, List.mem_of_getElem? (i := 1010) (by decide +kernel), List.mem_of_getElem? (i := 1224) (by decide +kernel), List.mem_of_getElem? (i := 1225) (by decide +kernel)⟩
theorem lw_p46 : lw_okq (⟨"OneAtATimeModel", "stepAt", "(II)I"⟩, 29) := ⟨⟨by decide +kernel, by decide +kernel⟩, List.mem_of_getElem? (i := 1010) (by decide +kernel), List.mem_of_getElem? (i := 1228) (by decide +kernel), List.mem_of_getElem? (i := 1229) (by decide +kernel)⟩
theorem lw_p47 : lw_okq (⟨"OneAtATimeModel", "isFull", "(I)Z"⟩, 29) := ⟨⟨by decide +kernel, by decide +kernel⟩, List.mem_of_getElem? (i := 1010) (by decide +kernel), List.mem_of_getElem? (i := 1232) (by decide +kernel), List.mem_of_getElem? (i := 1233) (by decide +kernel)⟩
def lw_privs_3 : List (MethodName × Nat) := [(⟨"OneAtATimeModel", "next", "()V"⟩, 29), (⟨"OneAtATimeModel", "isAt", "(II)Z"⟩, 29), (⟨"OneAtATimeModel", "isWord", "(Ljava/lang/String;)Z"⟩, 29), (⟨"OneAtATimeModel", "must", "(Z)V"⟩, 29), (⟨"OneAtATimeModel", "faultsAt", "(II)V"⟩, 29), (⟨"OneAtATimeModel", "number", "(II)I"⟩, 29), (⟨"OneAtATimeModel", "mustBeSign", "(I)V"⟩, 29), (⟨"OneAtATimeModel", "readsBits", "(I)V"⟩, 29), (⟨"OneAtATimeModel", "lies", "(I)V"⟩, 29), (⟨"OneAtATimeModel", "done", "(I)I"⟩, 29), (⟨"OneAtATimeModel", "isSo", "(II)Z"⟩, 29), (⟨"OneAtATimeModel", "isClean", "(I)Z"⟩, 29), (⟨"OneAtATimeModel", "laysWords", "(I)V"⟩, 29), (⟨"OneAtATimeModel", "many", "(I)I"⟩, 29), (⟨"OneAtATimeModel", "stepAt", "(II)I"⟩, 29), (⟨"OneAtATimeModel", "isFull", "(I)Z"⟩, 29)]
theorem lw_r3 : ∀ q ∈ lw_privs_3, lw_okq q := List.forall_mem_cons.mpr ⟨lw_p32, List.forall_mem_cons.mpr ⟨lw_p33, List.forall_mem_cons.mpr ⟨lw_p34, List.forall_mem_cons.mpr ⟨lw_p35, List.forall_mem_cons.mpr ⟨lw_p36, List.forall_mem_cons.mpr ⟨lw_p37, List.forall_mem_cons.mpr ⟨lw_p38, List.forall_mem_cons.mpr ⟨lw_p39, List.forall_mem_cons.mpr ⟨lw_p40, List.forall_mem_cons.mpr ⟨lw_p41, List.forall_mem_cons.mpr ⟨lw_p42, List.forall_mem_cons.mpr ⟨lw_p43, List.forall_mem_cons.mpr ⟨lw_p44, List.forall_mem_cons.mpr ⟨lw_p45, List.forall_mem_cons.mpr ⟨lw_p46, List.forall_mem_cons.mpr ⟨lw_p47, fun _ h => absurd h List.not_mem_nil⟩⟩⟩⟩⟩⟩⟩⟩⟩⟩⟩⟩⟩⟩⟩⟩
theorem lw_p48 : lw_okq (⟨"OneAtATimeModel", "bits", "(I)I"⟩, 29) := ⟨⟨by decide +kernel, by decide +kernel⟩, List.mem_of_getElem? (i := 1010) (by decide +kernel), List.mem_of_getElem? (i := 1236) (by decide +kernel), List.mem_of_getElem? (i := 1237) (by decide +kernel)⟩
theorem lw_p49 : lw_okq (⟨"OneAtATimeModel", "isInScope", "(II)Z"⟩, 29) := ⟨⟨by decide +kernel, by decide +kernel⟩, List.mem_of_getElem? (i := 1010) (by decide +kernel), List.mem_of_getElem? (i := 1240) (by decide +kernel), List.mem_of_getElem? (i := 1241) (by decide +kernel)⟩
theorem lw_p50 : lw_okq (⟨"OneAtATimeModel", "isMonotone", "(I)Z"⟩, 29) := ⟨⟨by decide +kernel, by decide +kernel⟩, List.mem_of_getElem? (i := 1010) (by decide +kernel), List.mem_of_getElem? (i := 1247) (by decide +kernel), List.mem_of_getElem? (i := 1248) (by decide +kernel)⟩
theorem lw_p51 : lw_okq (⟨"OneAtATimeModel", "isSnake", "(I)Z"⟩, 29) := ⟨⟨by decide +kernel, by decide +kernel⟩, List.mem_of_getElem? (i := 1010) (by decide +kernel), List.mem_of_getElem? (i := 1252) (by decide +kernel), List.mem_of_getElem? (i := 1253) (by decide +kernel)⟩
theorem lw_p52 : lw_okq (⟨"OneAtATimeModel", "placesApart", "(II)I"⟩, 29) := ⟨⟨by decide +kernel, by decide +kernel⟩, List.mem_of_getElem? (i := 1010) (by decide +kernel), List.mem_of_getElem? (i := 1256) (by decide +kernel), List.mem_of_getElem? (i := 1257) (by decide +kernel)⟩
theorem lw_p53 : lw_okq (⟨"OneAtATimeModel", "isOpposite", "(I)Z"⟩, 29) := ⟨⟨by decide +kernel, by decide +kernel⟩, List.mem_of_getElem? (i := 1010) (by decide +kernel), List.mem_of_getElem? (i := 1260) (by decide +kernel), List.mem_of_getElem? (i := 1261) (by decide +kernel)⟩
theorem lw_p54 : lw_okq (⟨"OneAtATimeModel", "isOneTrack", "(I)Z"⟩, 29) := ⟨⟨by decide +kernel, by decide +kernel⟩, List.mem_of_getElem? (i := 1010) (by decide +kernel), List.mem_of_getElem? (i := 1264) (by decide +kernel), List.mem_of_getElem? (i := 1265) (by decide +kernel)⟩
theorem lw_p55 : lw_okq (⟨"OneAtATimeModel", "shiftOf", "(I)I"⟩, 29) := ⟨⟨by decide +kernel, by decide +kernel⟩, List.mem_of_getElem? (i := 1010) (by decide +kernel), List.mem_of_getElem? (i := 1268) (by decide +kernel), List.mem_of_getElem? (i := 1269) (by decide +kernel)⟩
theorem lw_p56 : lw_okq (⟨"OneAtATimeModel", "isWordOf", "(II)Z"⟩, 29) := ⟨⟨by decide +kernel, by decide +kernel⟩, List.mem_of_getElem? (i := 1010) (by decide +kernel), List.mem_of_getElem? (i := 1292) (by decide +kernel), List.mem_of_getElem? (i := 1293) (by decide +kernel)⟩
theorem lw_p57 : lw_okq (⟨"OneAtATimeModel", "isBit", "(II)Z"⟩, 29) := ⟨⟨by decide +kernel, by decide +kernel⟩, List.mem_of_getElem? (i := 1010) (by decide +kernel), List.mem_of_getElem? (i := 1304) (by decide +kernel), List.mem_of_getElem? (i := 1305) (by decide +kernel)⟩
theorem lw_p58 : lw_okq (⟨"OneAtATimeModel", "turnedOf", "(II)I"⟩, 29) := ⟨⟨by decide +kernel, by decide +kernel⟩, List.mem_of_getElem? (i := 1010) (by decide +kernel), List.mem_of_getElem? (i := 1308) (by decide +kernel), List.mem_of_getElem? (i := 1309) (by decide +kernel)⟩
theorem lw_p59 : lw_okq (⟨"OneAtATimeModel", "gapOf", "(II)I"⟩, 29) := ⟨⟨by decide +kernel, by decide +kernel⟩, List.mem_of_getElem? (i := 1010) (by decide +kernel), List.mem_of_getElem? (i := 1325) (by decide +kernel), List.mem_of_getElem? (i := 1326) (by decide +kernel)⟩
theorem lw_p60 : lw_okq (⟨"OneAtATimeModel", "isV", "(III)Z"⟩, 29) := ⟨⟨by decide +kernel, by decide +kernel⟩, List.mem_of_getElem? (i := 1010) (by decide +kernel), List.mem_of_getElem? (i := 1333) (by decide +kernel), List.mem_of_getElem? (i := 1334) (by decide +kernel)⟩
theorem lw_p61 : lw_okq (⟨"OneAtATimeModel", "isSpread", "(I)Z"⟩, 29) := ⟨⟨by decide +kernel, by decide +kernel⟩, List.mem_of_getElem? (i := 1010) (by decide +kernel), List.mem_of_getElem? (i := 1361) (by decide +kernel), List.mem_of_getElem? (i := 1362) (by decide +kernel)⟩
theorem lw_p62 : lw_okq (⟨"OneAtATimeModel", "changes", "(III)I"⟩, 29) := ⟨⟨by decide +kernel, by decide +kernel⟩, List.mem_of_getElem? (i := 1010) (by decide +kernel), List.mem_of_getElem? (i := 1388) (by decide +kernel), List.mem_of_getElem? (i := 1389) (by decide +kernel)⟩
theorem lw_p63 : lw_okq (⟨"OneAtATimeModel", "forgetsGone", "()V"⟩, 29) := ⟨⟨by decide +kernel, by decide +kernel⟩, List.mem_of_getElem? (i := 1010) (by decide +kernel), List.mem_of_getElem? (i := 1398) (by decide +kernel), List.mem_of_getElem? (i := 1399) (by decide +kernel)⟩
def lw_privs_4 : List (MethodName × Nat) := [(⟨"OneAtATimeModel", "bits", "(I)I"⟩, 29), (⟨"OneAtATimeModel", "isInScope", "(II)Z"⟩, 29), (⟨"OneAtATimeModel", "isMonotone", "(I)Z"⟩, 29), (⟨"OneAtATimeModel", "isSnake", "(I)Z"⟩, 29), (⟨"OneAtATimeModel", "placesApart", "(II)I"⟩, 29), (⟨"OneAtATimeModel", "isOpposite", "(I)Z"⟩, 29), (⟨"OneAtATimeModel", "isOneTrack", "(I)Z"⟩, 29), (⟨"OneAtATimeModel", "shiftOf", "(I)I"⟩, 29), (⟨"OneAtATimeModel", "isWordOf", "(II)Z"⟩, 29), (⟨"OneAtATimeModel", "isBit", "(II)Z"⟩, 29), (⟨"OneAtATimeModel", "turnedOf", "(II)I"⟩, 29), (⟨"OneAtATimeModel", "gapOf", "(II)I"⟩, 29), (⟨"OneAtATimeModel", "isV", "(III)Z"⟩, 29), (⟨"OneAtATimeModel", "isSpread", "(I)Z"⟩, 29), (⟨"OneAtATimeModel", "changes", "(III)I"⟩, 29), (⟨"OneAtATimeModel", "forgetsGone", "()V"⟩, 29)]
theorem lw_r4 : ∀ q ∈ lw_privs_4, lw_okq q := List.forall_mem_cons.mpr ⟨lw_p48, List.forall_mem_cons.mpr ⟨lw_p49, List.forall_mem_cons.mpr ⟨lw_p50, List.forall_mem_cons.mpr ⟨lw_p51, List.forall_mem_cons.mpr ⟨lw_p52, List.forall_mem_cons.mpr ⟨lw_p53, List.forall_mem_cons.mpr ⟨lw_p54, List.forall_mem_cons.mpr ⟨lw_p55, List.forall_mem_cons.mpr ⟨lw_p56, List.forall_mem_cons.mpr ⟨lw_p57, List.forall_mem_cons.mpr ⟨lw_p58, List.forall_mem_cons.mpr ⟨lw_p59, List.forall_mem_cons.mpr ⟨lw_p60, List.forall_mem_cons.mpr ⟨lw_p61, List.forall_mem_cons.mpr ⟨lw_p62, List.forall_mem_cons.mpr ⟨lw_p63, fun _ h => absurd h List.not_mem_nil⟩⟩⟩⟩⟩⟩⟩⟩⟩⟩⟩⟩⟩⟩⟩⟩
theorem lw_p64 : lw_okq (⟨"OneAtATimeModel", "searches", "(IIII)I"⟩, 29) := ⟨⟨by decide +kernel, by decide +kernel⟩, List.mem_of_getElem? (i := 1010) (by decide +kernel), List.mem_of_getElem? (i := 1402) (by decide +kernel), List.mem_of_getElem? (i := 1403) (by decide +kernel)⟩
theorem lw_p65 : lw_okq (⟨"OneAtATimeModel", "ends", "(II)Z"⟩, 29) := ⟨⟨by decide +kernel, by decide +kernel⟩, List.mem_of_getElem? (i := 1010) (by decide +kernel), List.mem_of_getElem? (i := 1406) (by decide +kernel), List.mem_of_getElem? (i := 1407) (by decide +kernel)⟩
theorem lw_p66 : lw_okq (⟨"OneAtATimeModel", "isCutable", "(I)Z"⟩, 29) := ⟨⟨by decide +kernel, by decide +kernel⟩, List.mem_of_getElem? (i := 1010) (by decide +kernel), List.mem_of_getElem? (i := 1417) (by decide +kernel), List.mem_of_getElem? (i := 1418) (by decide +kernel)⟩
theorem lw_p67 : lw_okq (⟨"OneAtATimeModel", "makesExtended", "(IJ)V"⟩, 29) := ⟨⟨by decide +kernel, by decide +kernel⟩, List.mem_of_getElem? (i := 1010) (by decide +kernel), List.mem_of_getElem? (i := 1421) (by decide +kernel), List.mem_of_getElem? (i := 1422) (by decide +kernel)⟩
theorem lw_p68 : lw_okq (⟨"OneAtATimeModel", "addsOn", "(III)V"⟩, 29) := ⟨⟨by decide +kernel, by decide +kernel⟩, List.mem_of_getElem? (i := 1010) (by decide +kernel), List.mem_of_getElem? (i := 1425) (by decide +kernel), List.mem_of_getElem? (i := 1426) (by decide +kernel)⟩
theorem lw_p69 : lw_okq (⟨"OneAtATimeModel", "addsBack", "(III)V"⟩, 29) := ⟨⟨by decide +kernel, by decide +kernel⟩, List.mem_of_getElem? (i := 1010) (by decide +kernel), List.mem_of_getElem? (i := 1429) (by decide +kernel), List.mem_of_getElem? (i := 1430) (by decide +kernel)⟩
theorem lw_p70 : lw_okq (⟨"OneAtATimeModel", "unevenMade", "(I)I"⟩, 29) := ⟨⟨by decide +kernel, by decide +kernel⟩, List.mem_of_getElem? (i := 1010) (by decide +kernel), List.mem_of_getElem? (i := 1440) (by decide +kernel), List.mem_of_getElem? (i := 1441) (by decide +kernel)⟩
theorem lw_p71 : lw_okq (⟨"OneAtATimeModel", "isRound", "(II)Z"⟩, 29) := ⟨⟨by decide +kernel, by decide +kernel⟩, List.mem_of_getElem? (i := 1010) (by decide +kernel), List.mem_of_getElem? (i := 1459) (by decide +kernel), List.mem_of_getElem? (i := 1460) (by decide +kernel)⟩
theorem lw_p72 : lw_okq (⟨"OneAtATimeModel", "rolledBy", "(III)I"⟩, 29) := ⟨⟨by decide +kernel, by decide +kernel⟩, List.mem_of_getElem? (i := 1010) (by decide +kernel), List.mem_of_getElem? (i := 1463) (by decide +kernel), List.mem_of_getElem? (i := 1464) (by decide +kernel)⟩
theorem lw_p73 : lw_okq (⟨"OneAtATimeModel", "goes", "(IIZ)V"⟩, 29) := ⟨⟨by decide +kernel, by decide +kernel⟩, List.mem_of_getElem? (i := 1010) (by decide +kernel), List.mem_of_getElem? (i := 1467) (by decide +kernel), List.mem_of_getElem? (i := 1468) (by decide +kernel)⟩
theorem lw_p74 : lw_okq (⟨"OneAtATimeModel", "tracksOn", "(IIIII)I"⟩, 29) := ⟨⟨by decide +kernel, by decide +kernel⟩, List.mem_of_getElem? (i := 1010) (by decide +kernel), List.mem_of_getElem? (i := 1471) (by decide +kernel), List.mem_of_getElem? (i := 1472) (by decide +kernel)⟩
theorem lw_p75 : lw_okq (⟨"OneAtATimeModel", "canTwist", "(II)Z"⟩, 29) := ⟨⟨by decide +kernel, by decide +kernel⟩, List.mem_of_getElem? (i := 1010) (by decide +kernel), List.mem_of_getElem? (i := 1483) (by decide +kernel), List.mem_of_getElem? (i := 1484) (by decide +kernel)⟩
theorem lw_p76 : lw_okq (⟨"OneAtATimeModel", "laysMade", "(I)V"⟩, 29) := ⟨⟨by decide +kernel, by decide +kernel⟩, List.mem_of_getElem? (i := 1010) (by decide +kernel), List.mem_of_getElem? (i := 1503) (by decide +kernel), List.mem_of_getElem? (i := 1504) (by decide +kernel)⟩
theorem lw_p77 : lw_okq (⟨"OneAtATimeModel", "isLoopAt", "(I)Z"⟩, 29) := ⟨⟨by decide +kernel, by decide +kernel⟩, List.mem_of_getElem? (i := 1010) (by decide +kernel), List.mem_of_getElem? (i := 1531) (by decide +kernel), List.mem_of_getElem? (i := 1532) (by decide +kernel)⟩
theorem lw_p78 : lw_okq (⟨"OneAtATimeModel", "areNamed", "(IIIZ)Z"⟩, 29) := ⟨⟨by decide +kernel, by decide +kernel⟩, List.mem_of_getElem? (i := 1010) (by decide +kernel), List.mem_of_getElem? (i := 1535) (by decide +kernel), List.mem_of_getElem? (i := 1536) (by decide +kernel)⟩
theorem lw_p79 : lw_okq (⟨"OneAtATimeModel", "says", "(Ljava/lang/String;)V"⟩, 29) := ⟨⟨by decide +kernel, by decide +kernel⟩, List.mem_of_getElem? (i := 1010) (by decide +kernel), List.mem_of_getElem? (i := 1544) (by decide +kernel), List.mem_of_getElem? (i := 1545) (by decide +kernel)⟩
def lw_privs_5 : List (MethodName × Nat) := [(⟨"OneAtATimeModel", "searches", "(IIII)I"⟩, 29), (⟨"OneAtATimeModel", "ends", "(II)Z"⟩, 29), (⟨"OneAtATimeModel", "isCutable", "(I)Z"⟩, 29), (⟨"OneAtATimeModel", "makesExtended", "(IJ)V"⟩, 29), (⟨"OneAtATimeModel", "addsOn", "(III)V"⟩, 29), (⟨"OneAtATimeModel", "addsBack", "(III)V"⟩, 29), (⟨"OneAtATimeModel", "unevenMade", "(I)I"⟩, 29), (⟨"OneAtATimeModel", "isRound", "(II)Z"⟩, 29), (⟨"OneAtATimeModel", "rolledBy", "(III)I"⟩, 29), (⟨"OneAtATimeModel", "goes", "(IIZ)V"⟩, 29), (⟨"OneAtATimeModel", "tracksOn", "(IIIII)I"⟩, 29), (⟨"OneAtATimeModel", "canTwist", "(II)Z"⟩, 29), (⟨"OneAtATimeModel", "laysMade", "(I)V"⟩, 29), (⟨"OneAtATimeModel", "isLoopAt", "(I)Z"⟩, 29), (⟨"OneAtATimeModel", "areNamed", "(IIIZ)Z"⟩, 29), (⟨"OneAtATimeModel", "says", "(Ljava/lang/String;)V"⟩, 29)]
theorem lw_r5 : ∀ q ∈ lw_privs_5, lw_okq q := List.forall_mem_cons.mpr ⟨lw_p64, List.forall_mem_cons.mpr ⟨lw_p65, List.forall_mem_cons.mpr ⟨lw_p66, List.forall_mem_cons.mpr ⟨lw_p67, List.forall_mem_cons.mpr ⟨lw_p68, List.forall_mem_cons.mpr ⟨lw_p69, List.forall_mem_cons.mpr ⟨lw_p70, List.forall_mem_cons.mpr ⟨lw_p71, List.forall_mem_cons.mpr ⟨lw_p72, List.forall_mem_cons.mpr ⟨lw_p73, List.forall_mem_cons.mpr ⟨lw_p74, List.forall_mem_cons.mpr ⟨lw_p75, List.forall_mem_cons.mpr ⟨lw_p76, List.forall_mem_cons.mpr ⟨lw_p77, List.forall_mem_cons.mpr ⟨lw_p78, List.forall_mem_cons.mpr ⟨lw_p79, fun _ h => absurd h List.not_mem_nil⟩⟩⟩⟩⟩⟩⟩⟩⟩⟩⟩⟩⟩⟩⟩⟩
theorem lw_p80 : lw_okq (⟨"OneAtATimeModel", "saysNumber", "(I)V"⟩, 29) := ⟨⟨by decide +kernel, by decide +kernel⟩, List.mem_of_getElem? (i := 1010) (by decide +kernel), List.mem_of_getElem? (i := 1548) (by decide +kernel), List.mem_of_getElem? (i := 1549) (by decide +kernel)⟩
def lw_privs_6 : List (MethodName × Nat) := [(⟨"OneAtATimeModel", "saysNumber", "(I)V"⟩, 29)]
theorem lw_r6 : ∀ q ∈ lw_privs_6, lw_okq q := List.forall_mem_cons.mpr ⟨lw_p80, fun _ h => absurd h List.not_mem_nil⟩
def lw_privs : List (MethodName × Nat) := lw_privs_1 ++ (lw_privs_2 ++ (lw_privs_3 ++ (lw_privs_4 ++ (lw_privs_5 ++ (lw_privs_6)))))
def lw_tbl : List Cond := k2_sels lw_privs ++ tables_1
theorem lw_privs_ok : ∀ q ∈ lw_privs, lw_okq q := by
  show ∀ q ∈ lw_privs_1 ++ (lw_privs_2 ++ (lw_privs_3 ++ (lw_privs_4 ++ (lw_privs_5 ++ (lw_privs_6))))), lw_okq q
  exact List.forall_mem_append.mpr ⟨lw_r1, List.forall_mem_append.mpr ⟨lw_r2, List.forall_mem_append.mpr ⟨lw_r3, List.forall_mem_append.mpr ⟨lw_r4, List.forall_mem_append.mpr ⟨lw_r5, lw_r6⟩⟩⟩⟩⟩
end
section
/-- an instruction with its length, four numbers that say what its pool entry is, and a switch's targets -/
abbrev EN : Type := Instr × Nat × Nat × Nat × Nat × Nat × List (Int × Nat)
/-- a program: pieces of a method's code, by number of method -/
abbrev PG : Type := Nat → List (List (Nat × EN))
end
section
/-! printed by a program (wip/whole/gen03.py): the classes, the program of the small machine, its links -/
def kT0 : u_T := fun k => match k with
  | 0 => ("OneAtATime$BitList", "steps", "[I", true)
  | 1 => ("OneAtATime$BitList", "words", "[I", true)
  | 2 => ("OneAtATime$BitList", "exists", "Z", false)
  | 3 => ("OneAtATime$BitList", "width", "I", false)
  | 4 => ("OneAtATime$BitList", "low", "I", false)
  | 5 => ("OneAtATime$BitList", "high", "I", false)
  | _ => ("OneAtATime$BitList", "size", "I", false)
def kY0 : Nat → FieldType := fun k => match k with
  | 0 => .array (.int)
  | 1 => .array (.int)
  | 2 => .boolean
  | 3 => .int
  | 4 => .int
  | 5 => .int
  | _ => .int
def kT1 : u_T := fun k => match k with
  | 0 => ("OneAtATime$Bytes", "row", "[B", true)
  | _ => ("OneAtATime$Bytes", "length", "I", false)
def kY1 : Nat → FieldType := fun k => match k with
  | 0 => .array (.byte)
  | _ => .int
def kT2 : u_T := fun k => match k with
  | 0 => ("OneAtATime$Evenness", "told", "[I", true)
  | 1 => ("OneAtATime$Evenness", "cut", "[I", true)
  | 2 => ("OneAtATime$Evenness", "left", "[I", true)
  | 3 => ("OneAtATime$Evenness", "least", "I", false)
  | _ => ("OneAtATime$Evenness", "leastCuts", "J", false)
def kY2 : Nat → FieldType := fun k => match k with
  | 0 => .array (.int)
  | 1 => .array (.int)
  | 2 => .array (.int)
  | 3 => .int
  | _ => .long
def kT3 : u_T := fun k => match k with
  | 0 => ("OneAtATime$History", "kept", "[LOneAtATime$BitList;", true)
  | 1 => ("OneAtATime$History", "slotOf", "[I", true)
  | 2 => ("OneAtATime$History", "next", "I", false)
  | _ => ("OneAtATime$History", "depth", "I", false)
def kY3 : Nat → FieldType := fun k => match k with
  | 0 => .array (.object "OneAtATime$BitList")
  | 1 => .array (.int)
  | 2 => .int
  | _ => .int
def kT4 : u_T := fun k => match k with
  | 0 => ("OneAtATime$Likeness", "toTwo", "[I", true)
  | _ => ("OneAtATime$Likeness", "toOne", "[I", true)
def kY4 : Nat → FieldType := fun k => match k with
  | 0 => .array (.int)
  | _ => .array (.int)
def kT5 : u_T := fun k => match k with
  | 0 => ("OneAtATime$Reader", "tape", "LOneAtATime$Bytes;", true)
  | 1 => ("OneAtATime$Reader", "kind", "I", false)
  | 2 => ("OneAtATime$Reader", "from", "I", false)
  | 3 => ("OneAtATime$Reader", "to", "I", false)
  | 4 => ("OneAtATime$Reader", "fault", "I", false)
  | _ => ("OneAtATime$Reader", "place", "I", false)
def kY5 : Nat → FieldType := fun k => match k with
  | 0 => .object "OneAtATime$Bytes"
  | 1 => .int
  | 2 => .int
  | 3 => .int
  | 4 => .int
  | _ => .int
def kT6 : u_T := fun k => match k with
  | 0 => ("OneAtATime$Search", "barred", "[I", true)
  | 1 => ("OneAtATime$Search", "nextBit", "[I", true)
  | _ => ("OneAtATime$Search", "highestRung", "[I", true)
def kY6 : Nat → FieldType := fun k => match k with
  | 0 => .array (.int)
  | 1 => .array (.int)
  | _ => .array (.int)
def kT7 : u_T := fun k => match k with
  | 0 => ("OneAtATime$Survey", "timesShown", "[I", true)
  | 1 => ("OneAtATime$Survey", "placeOf", "[I", true)
  | 2 => ("OneAtATime$Survey", "distance", "[I", true)
  | 3 => ("OneAtATime$Survey", "queue", "[I", true)
  | _ => ("OneAtATime$Survey", "farthest", "[I", true)
def kY7 : Nat → FieldType := fun k => match k with
  | 0 => .array (.int)
  | 1 => .array (.int)
  | 2 => .array (.int)
  | 3 => .array (.int)
  | _ => .array (.int)
def kT8 : u_T := fun k => match k with
  | 0 => ("OneAtATime", "slots", "[LOneAtATime$BitList;", true)
  | 1 => ("OneAtATime", "draft", "LOneAtATime$BitList;", true)
  | 2 => ("OneAtATime", "history", "LOneAtATime$History;", true)
  | 3 => ("OneAtATime", "reader", "LOneAtATime$Reader;", true)
  | 4 => ("OneAtATime", "out", "LOneAtATime$Bytes;", true)
  | 5 => ("OneAtATime", "survey", "LOneAtATime$Survey;", true)
  | 6 => ("OneAtATime", "search", "LOneAtATime$Search;", true)
  | 7 => ("OneAtATime", "likeness", "LOneAtATime$Likeness;", true)
  | _ => ("OneAtATime", "evenness", "LOneAtATime$Evenness;", true)
def kY8 : Nat → FieldType := fun k => match k with
  | 0 => .array (.object "OneAtATime$BitList")
  | 1 => .object "OneAtATime$BitList"
  | 2 => .object "OneAtATime$History"
  | 3 => .object "OneAtATime$Reader"
  | 4 => .object "OneAtATime$Bytes"
  | 5 => .object "OneAtATime$Survey"
  | 6 => .object "OneAtATime$Search"
  | 7 => .object "OneAtATime$Likeness"
  | _ => .object "OneAtATime$Evenness"
def kT9 : u_T := fun k => match k with
  | 0 => ("OneAtATimeModel", "row", "[I", true)
  | 1 => ("OneAtATimeModel", "was", "[I", true)
  | 2 => ("OneAtATimeModel", "kept", "[I", true)
  | 3 => ("OneAtATimeModel", "keptMany", "I", false)
  | 4 => ("OneAtATimeModel", "made", "[I", true)
  | 5 => ("OneAtATimeModel", "madeMany", "I", false)
  | 6 => ("OneAtATimeModel", "tape", "[I", true)
  | 7 => ("OneAtATimeModel", "taped", "I", false)
  | 8 => ("OneAtATimeModel", "faultKind", "I", false)
  | 9 => ("OneAtATimeModel", "faultPlace", "I", false)
  | 10 => ("OneAtATimeModel", "spot", "I", false)
  | 11 => ("OneAtATimeModel", "begin", "I", false)
  | 12 => ("OneAtATimeModel", "token", "I", false)
  | 13 => ("OneAtATimeModel", "value", "I", false)
  | 14 => ("OneAtATimeModel", "bad", "Z", false)
  | 15 => ("OneAtATimeModel", "word", "[I", true)
  | 16 => ("OneAtATimeModel", "times", "[I", true)
  | 17 => ("OneAtATimeModel", "shown", "I", false)
  | 18 => ("OneAtATimeModel", "isLoop", "Z", false)
  | 19 => ("OneAtATimeModel", "isGone", "[Z", true)
  | 20 => ("OneAtATimeModel", "path", "[I", true)
  | 21 => ("OneAtATimeModel", "tried", "I", false)
  | 22 => ("OneAtATimeModel", "scope", "I", false)
  | 23 => ("OneAtATimeModel", "law", "I", false)
  | 24 => ("OneAtATimeModel", "far", "[I", true)
  | 25 => ("OneAtATimeModel", "nameA", "[I", true)
  | 26 => ("OneAtATimeModel", "nameB", "[I", true)
  | 27 => ("OneAtATimeModel", "out", "[I", true)
  | _ => ("OneAtATimeModel", "outs", "I", false)
def kY9 : Nat → FieldType := fun k => match k with
  | 0 => .array (.int)
  | 1 => .array (.int)
  | 2 => .array (.int)
  | 3 => .int
  | 4 => .array (.int)
  | 5 => .int
  | 6 => .array (.int)
  | 7 => .int
  | 8 => .int
  | 9 => .int
  | 10 => .int
  | 11 => .int
  | 12 => .int
  | 13 => .int
  | 14 => .boolean
  | 15 => .array (.int)
  | 16 => .array (.int)
  | 17 => .int
  | 18 => .boolean
  | 19 => .array (.boolean)
  | 20 => .array (.int)
  | 21 => .int
  | 22 => .int
  | 23 => .int
  | 24 => .array (.int)
  | 25 => .array (.int)
  | 26 => .array (.int)
  | 27 => .array (.int)
  | _ => .int
abbrev cls0 : List vw_C := [("OneAtATime$BitList", kT0, 7), ("OneAtATime$Bytes", kT1, 2), ("OneAtATime$Evenness", kT2, 5), ("OneAtATime$History", kT3, 4), ("OneAtATime$Likeness", kT4, 2), ("OneAtATime$Reader", kT5, 6), ("OneAtATime$Search", kT6, 3), ("OneAtATime$Survey", kT7, 5), ("OneAtATime", kT8, 9), ("OneAtATimeModel", kT9, 29)]
/-- kinds of fields: 0 a number, 1 a truth, 2 a reference, 3 a long -/
def fkL : List (List Nat) := [[2, 2, 1, 0, 0, 0, 0], [2, 0], [2, 2, 2, 0, 3], [2, 2, 0, 0], [2, 2], [2, 0, 0, 0, 0, 0], [2, 2, 2], [2, 2, 2, 2, 2], [2, 2, 2, 2, 2, 2, 2, 2, 2], [2, 2, 2, 0, 2, 0, 2, 0, 0, 0, 0, 0, 0, 0, 1, 2, 2, 0, 1, 2, 2, 0, 0, 0, 2, 2, 2, 2, 0]]
def ownL : List String := ["OneAtATime", "OneAtATime$BitList", "OneAtATime$History", "OneAtATime$Reader", "OneAtATime$Bytes", "java/lang/Math", "OneAtATime$Survey", "OneAtATime$Search", "OneAtATime$Likeness", "OneAtATime$Evenness", "java/util/Arrays", "java/lang/Integer", "OneAtATime$Maker", "java/lang/Long", "OneAtATimeModel", "OneAtATimeLaw"]
abbrev MR : Type := Nat × MethodName × ByteArray × Nat × Option FieldType × List (List (Nat × EN))
end
section
set_option maxRecDepth 100000 in
noncomputable def pgA_0 : List (List (Nat × EN)) := [[(0, .aload_n 0, 1, 0, 0, 0, 0, []), (1, .invokespecial 1, 3, 1003, 1, 0, 0, [(0, 0)]), (4, .aload_n 0, 1, 0, 0, 0, 0, []), (5, .iconst 3, 1, 0, 0, 0, 0, []), (6, .anewarray 9, 3, 23, 0, 0, 0, [(0, 0)]), (9, .putfield 11, 3, 8, 0, 2, 0, [(0, 0)]), (12, .iconst 0, 1, 0, 0, 0, 0, []), (13, .istore_n 1, 1, 0, 0, 0, 0, []), (14, .iload_n 1, 1, 0, 0, 0, 0, []), (15, .iconst 3, 1, 0, 0, 0, 0, []), (16, .if_icmp .ge 22, 3, 38, 0, 0, 0, []), (19, .aload_n 0, 1, 0, 0, 0, 0, []), (20, .getfield 11, 3, 8, 0, 2, 0, [(0, 0)]), (23, .iload_n 1, 1, 0, 0, 0, 0, []), (24, .new 9, 3, 0, 7, 0, 0, [(0, 1)]), (27, .dup, 1, 0, 0, 0, 0, []), (28, .invokespecial 15, 3, 1, 1, 0, 0, [(0, 1)]), (31, .aastore, 1, 23, 0, 0, 0, [])],
  [(32, .iinc 1 1, 3, 0, 0, 0, 0, []), (35, .goto (-21), 3, 14, 0, 0, 0, []), (38, .aload_n 0, 1, 0, 0, 0, 0, []), (39, .new 9, 3, 0, 7, 0, 0, [(0, 1)]), (42, .dup, 1, 0, 0, 0, 0, []), (43, .invokespecial 15, 3, 1, 1, 0, 0, [(0, 1)]), (46, .putfield 16, 3, 8, 1, 2, 0, [(0, 1)]), (49, .aload_n 0, 1, 0, 0, 0, 0, []), (50, .new 20, 3, 3, 4, 0, 0, [(0, 2)]), (53, .dup, 1, 0, 0, 0, 0, []), (54, .invokespecial 22, 3, 2, 1, 0, 0, [(0, 2)]), (57, .putfield 23, 3, 8, 2, 2, 0, [(0, 2)]), (60, .aload_n 0, 1, 0, 0, 0, 0, []), (61, .new 27, 3, 5, 6, 0, 0, [(0, 3)])],
  [(64, .dup, 1, 0, 0, 0, 0, []), (65, .invokespecial 29, 3, 3, 1, 0, 0, [(0, 3)]), (68, .putfield 30, 3, 8, 3, 2, 0, [(0, 3)]), (71, .aload_n 0, 1, 0, 0, 0, 0, []), (72, .new 34, 3, 1, 2, 0, 0, [(0, 4)]), (75, .dup, 1, 0, 0, 0, 0, []), (76, .sipush 2400, 3, 0, 0, 0, 0, []), (79, .invokespecial 36, 3, 4, 2, 0, 0, [(0, 4)]), (82, .putfield 39, 3, 8, 4, 2, 0, [(0, 4)]), (85, .aload_n 0, 1, 0, 0, 0, 0, []), (86, .new 43, 3, 7, 5, 0, 0, [(0, 5)]), (89, .dup, 1, 0, 0, 0, 0, []), (90, .invokespecial 45, 3, 6, 1, 0, 0, [(0, 5)]), (93, .putfield 46, 3, 8, 5, 2, 0, [(0, 5)])],
  [(96, .aload_n 0, 1, 0, 0, 0, 0, []), (97, .new 50, 3, 6, 3, 0, 0, [(0, 6)]), (100, .dup, 1, 0, 0, 0, 0, []), (101, .invokespecial 52, 3, 7, 1, 0, 0, [(0, 6)]), (104, .putfield 53, 3, 8, 6, 2, 0, [(0, 6)]), (107, .aload_n 0, 1, 0, 0, 0, 0, []), (108, .new 57, 3, 4, 2, 0, 0, [(0, 7)]), (111, .dup, 1, 0, 0, 0, 0, []), (112, .invokespecial 59, 3, 8, 1, 0, 0, [(0, 7)]), (115, .putfield 60, 3, 8, 7, 2, 0, [(0, 7)]), (118, .aload_n 0, 1, 0, 0, 0, 0, []), (119, .new 64, 3, 2, 5, 0, 0, [(0, 8)]), (122, .dup, 1, 0, 0, 0, 0, []), (123, .invokespecial 66, 3, 9, 1, 0, 0, [(0, 8)]), (126, .putfield 67, 3, 8, 8, 2, 0, [(0, 8)])],
  [(129, .return_, 1, 0, 0, 0, 0, [])]]
noncomputable def pm_0 : MR := (0, ⟨"OneAtATime", "<init>", "()V"⟩, prog_1_method_1_code, 2, none, pgA_0)
set_option maxRecDepth 100000 in
noncomputable def pgA_1 : List (List (Nat × EN)) := [[(0, .aload_n 0, 1, 0, 0, 0, 0, []), (1, .invokespecial 3, 3, 1003, 1, 0, 0, [(0, 9)]), (4, .aload_n 0, 1, 0, 0, 0, 0, []), (5, .sipush 256, 3, 0, 0, 0, 0, []), (8, .newarray .int, 2, 20, 0, 0, 0, []), (10, .putfield 9, 3, 0, 0, 2, 0, [(0, 9)]), (13, .aload_n 0, 1, 0, 0, 0, 0, []), (14, .sipush 257, 3, 0, 0, 0, 0, []), (17, .newarray .int, 2, 20, 0, 0, 0, []), (19, .putfield 15, 3, 0, 1, 2, 0, [(0, 10)]), (22, .aload_n 0, 1, 0, 0, 0, 0, []), (23, .iconst 0, 1, 0, 0, 0, 0, []), (24, .putfield 18, 3, 0, 2, 1, 0, [(0, 11)]), (27, .return_, 1, 0, 0, 0, 0, [])]]
noncomputable def pm_1 : MR := (1, ⟨"OneAtATime$BitList", "<init>", "()V"⟩, prog_2_method_1_code, 1, none, pgA_1)
set_option maxRecDepth 100000 in
noncomputable def pgA_2 : List (List (Nat × EN)) := [[(0, .aload_n 0, 1, 0, 0, 0, 0, []), (1, .invokespecial 3, 3, 1003, 1, 0, 0, [(0, 10)]), (4, .aload_n 0, 1, 0, 0, 0, 0, []), (5, .bipush 10, 2, 0, 0, 0, 0, []), (7, .anewarray 9, 3, 23, 0, 0, 0, [(0, 9)]), (10, .putfield 11, 3, 3, 0, 2, 0, [(0, 12)]), (13, .iconst 0, 1, 0, 0, 0, 0, []), (14, .istore_n 1, 1, 0, 0, 0, 0, []), (15, .iload_n 1, 1, 0, 0, 0, 0, []), (16, .bipush 10, 2, 0, 0, 0, 0, []), (18, .if_icmp .ge 22, 3, 40, 0, 0, 0, []), (21, .aload_n 0, 1, 0, 0, 0, 0, []), (22, .getfield 11, 3, 3, 0, 2, 0, [(0, 12)]), (25, .iload_n 1, 1, 0, 0, 0, 0, []), (26, .new 9, 3, 0, 7, 0, 0, [(0, 10)]), (29, .dup, 1, 0, 0, 0, 0, []), (30, .invokespecial 17, 3, 1, 1, 0, 0, [(0, 11)])],
  [(33, .aastore, 1, 23, 0, 0, 0, []), (34, .iinc 1 1, 3, 0, 0, 0, 0, []), (37, .goto (-22), 3, 15, 0, 0, 0, []), (40, .aload_n 0, 1, 0, 0, 0, 0, []), (41, .bipush 10, 2, 0, 0, 0, 0, []), (43, .newarray .int, 2, 20, 0, 0, 0, []), (45, .putfield 18, 3, 3, 1, 2, 0, [(0, 13)]), (48, .aload_n 0, 1, 0, 0, 0, 0, []), (49, .iconst 0, 1, 0, 0, 0, 0, []), (50, .putfield 22, 3, 3, 2, 0, 0, [(0, 14)]), (53, .aload_n 0, 1, 0, 0, 0, 0, []), (54, .iconst 0, 1, 0, 0, 0, 0, []), (55, .putfield 26, 3, 3, 3, 0, 0, [(0, 15)]), (58, .return_, 1, 0, 0, 0, 0, [])]]
noncomputable def pm_2 : MR := (2, ⟨"OneAtATime$History", "<init>", "()V"⟩, prog_5_method_1_code, 2, none, pgA_2)
set_option maxRecDepth 100000 in
noncomputable def pgA_3 : List (List (Nat × EN)) := [[(0, .aload_n 0, 1, 0, 0, 0, 0, []), (1, .invokespecial 3, 3, 1003, 1, 0, 0, [(0, 12)]), (4, .aload_n 0, 1, 0, 0, 0, 0, []), (5, .new 9, 3, 1, 2, 0, 0, [(0, 11)]), (8, .dup, 1, 0, 0, 0, 0, []), (9, .sipush 400, 3, 0, 0, 0, 0, []), (12, .invokespecial 11, 3, 4, 2, 0, 0, [(0, 13)]), (15, .putfield 14, 3, 5, 0, 2, 0, [(0, 16)]), (18, .aload_n 0, 1, 0, 0, 0, 0, []), (19, .iconst 0, 1, 0, 0, 0, 0, []), (20, .putfield 20, 3, 5, 4, 0, 0, [(0, 17)]), (23, .aload_n 0, 1, 0, 0, 0, 0, []), (24, .iconst (-1), 1, 0, 0, 0, 0, []), (25, .putfield 24, 3, 5, 5, 0, 0, [(0, 18)]), (28, .return_, 1, 0, 0, 0, 0, [])]]
noncomputable def pm_3 : MR := (3, ⟨"OneAtATime$Reader", "<init>", "()V"⟩, prog_8_method_1_code, 1, none, pgA_3)
set_option maxRecDepth 100000 in
noncomputable def pgA_4 : List (List (Nat × EN)) := [[(0, .aload_n 0, 1, 0, 0, 0, 0, []), (1, .invokespecial 3, 3, 1003, 1, 0, 0, [(0, 14)]), (4, .aload_n 0, 1, 0, 0, 0, 0, []), (5, .iload_n 1, 1, 0, 0, 0, 0, []), (6, .iconst 0, 1, 0, 0, 0, 0, []), (7, .invokestatic 9, 3, 1004, 2, 1, 0, [(0, 15)]), (10, .newarray .byte, 2, 21, 0, 0, 0, []), (12, .putfield 15, 3, 1, 0, 2, 0, [(0, 19)]), (15, .aload_n 0, 1, 0, 0, 0, 0, []), (16, .iconst 0, 1, 0, 0, 0, 0, []), (17, .putfield 21, 3, 1, 1, 0, 0, [(0, 20)]), (20, .return_, 1, 0, 0, 0, 0, [])]]
noncomputable def pm_4 : MR := (4, ⟨"OneAtATime$Bytes", "<init>", "(I)V"⟩, prog_3_method_1_code, 2, none, pgA_4)
set_option maxRecDepth 100000 in
noncomputable def pgA_5 : List (List (Nat × EN)) := [[(0, .iload_n 0, 1, 0, 0, 0, 0, []), (1, .iload_n 1, 1, 0, 0, 0, 0, []), (2, .if_icmp .lt 7, 3, 9, 0, 0, 0, []), (5, .iload_n 0, 1, 0, 0, 0, 0, []), (6, .goto 4, 3, 10, 0, 0, 0, []), (9, .iload_n 1, 1, 0, 0, 0, 0, []), (10, .ireturn, 1, 0, 0, 0, 0, [(0, 0), (0, 1)])]]
noncomputable def pm_5 : MR := (5, ⟨"java/lang/Math", "max", "(II)I"⟩, prog_15_method_65_code, 2, (some (.int)), pgA_5)
set_option maxRecDepth 100000 in
noncomputable def pgA_6 : List (List (Nat × EN)) := [[(0, .aload_n 0, 1, 0, 0, 0, 0, []), (1, .invokespecial 3, 3, 1003, 1, 0, 0, [(0, 16)]), (4, .aload_n 0, 1, 0, 0, 0, 0, []), (5, .sipush 256, 3, 0, 0, 0, 0, []), (8, .newarray .int, 2, 20, 0, 0, 0, []), (10, .putfield 9, 3, 7, 0, 2, 0, [(0, 21)]), (13, .aload_n 0, 1, 0, 0, 0, 0, []), (14, .sipush 256, 3, 0, 0, 0, 0, []), (17, .newarray .int, 2, 20, 0, 0, 0, []), (19, .putfield 15, 3, 7, 1, 2, 0, [(0, 22)]), (22, .aload_n 0, 1, 0, 0, 0, 0, []), (23, .sipush 256, 3, 0, 0, 0, 0, []), (26, .newarray .int, 2, 20, 0, 0, 0, []), (28, .putfield 18, 3, 7, 2, 2, 0, [(0, 23)]), (31, .aload_n 0, 1, 0, 0, 0, 0, [])],
  [(32, .sipush 256, 3, 0, 0, 0, 0, []), (35, .newarray .int, 2, 20, 0, 0, 0, []), (37, .putfield 21, 3, 7, 3, 2, 0, [(0, 24)]), (40, .aload_n 0, 1, 0, 0, 0, 0, []), (41, .bipush 9, 2, 0, 0, 0, 0, []), (43, .newarray .int, 2, 20, 0, 0, 0, []), (45, .putfield 24, 3, 7, 4, 2, 0, [(0, 25)]), (48, .return_, 1, 0, 0, 0, 0, [])]]
noncomputable def pm_6 : MR := (6, ⟨"OneAtATime$Survey", "<init>", "()V"⟩, prog_10_method_1_code, 1, none, pgA_6)
set_option maxRecDepth 100000 in
noncomputable def pgA_7 : List (List (Nat × EN)) := [[(0, .aload_n 0, 1, 0, 0, 0, 0, []), (1, .invokespecial 3, 3, 1003, 1, 0, 0, [(0, 17)]), (4, .aload_n 0, 1, 0, 0, 0, 0, []), (5, .sipush 256, 3, 0, 0, 0, 0, []), (8, .newarray .int, 2, 20, 0, 0, 0, []), (10, .putfield 9, 3, 6, 0, 2, 0, [(0, 26)]), (13, .aload_n 0, 1, 0, 0, 0, 0, []), (14, .sipush 257, 3, 0, 0, 0, 0, []), (17, .newarray .int, 2, 20, 0, 0, 0, []), (19, .putfield 15, 3, 6, 1, 2, 0, [(0, 27)]), (22, .aload_n 0, 1, 0, 0, 0, 0, []), (23, .sipush 257, 3, 0, 0, 0, 0, []), (26, .newarray .int, 2, 20, 0, 0, 0, []), (28, .putfield 18, 3, 6, 2, 2, 0, [(0, 28)]), (31, .return_, 1, 0, 0, 0, 0, [])]]
noncomputable def pm_7 : MR := (7, ⟨"OneAtATime$Search", "<init>", "()V"⟩, prog_9_method_1_code, 1, none, pgA_7)
set_option maxRecDepth 100000 in
noncomputable def pgA_8 : List (List (Nat × EN)) := [[(0, .aload_n 0, 1, 0, 0, 0, 0, []), (1, .invokespecial 3, 3, 1003, 1, 0, 0, [(0, 18)]), (4, .aload_n 0, 1, 0, 0, 0, 0, []), (5, .bipush 8, 2, 0, 0, 0, 0, []), (7, .newarray .int, 2, 20, 0, 0, 0, []), (9, .putfield 9, 3, 4, 0, 2, 0, [(0, 29)]), (12, .aload_n 0, 1, 0, 0, 0, 0, []), (13, .bipush 8, 2, 0, 0, 0, 0, []), (15, .newarray .int, 2, 20, 0, 0, 0, []), (17, .putfield 15, 3, 4, 1, 2, 0, [(0, 30)]), (20, .return_, 1, 0, 0, 0, 0, [])]]
noncomputable def pm_8 : MR := (8, ⟨"OneAtATime$Likeness", "<init>", "()V"⟩, prog_6_method_1_code, 1, none, pgA_8)
set_option maxRecDepth 100000 in
noncomputable def pgA_9 : List (List (Nat × EN)) := [[(0, .aload_n 0, 1, 0, 0, 0, 0, []), (1, .invokespecial 3, 3, 1003, 1, 0, 0, [(0, 19)]), (4, .aload_n 0, 1, 0, 0, 0, 0, []), (5, .bipush 8, 2, 0, 0, 0, 0, []), (7, .newarray .int, 2, 20, 0, 0, 0, []), (9, .putfield 9, 3, 2, 0, 2, 0, [(0, 31)]), (12, .aload_n 0, 1, 0, 0, 0, 0, []), (13, .bipush 8, 2, 0, 0, 0, 0, []), (15, .newarray .int, 2, 20, 0, 0, 0, []), (17, .putfield 15, 3, 2, 1, 2, 0, [(0, 32)]), (20, .aload_n 0, 1, 0, 0, 0, 0, []), (21, .bipush 8, 2, 0, 0, 0, 0, []), (23, .newarray .int, 2, 20, 0, 0, 0, []), (25, .putfield 18, 3, 2, 2, 2, 0, [(0, 33)]), (28, .aload_n 0, 1, 0, 0, 0, 0, []), (29, .iconst 0, 1, 0, 0, 0, 0, []), (30, .putfield 21, 3, 2, 3, 0, 0, [(0, 34)])],
  [(33, .aload_n 0, 1, 0, 0, 0, 0, []), (34, .lconst 0, 1, 0, 0, 0, 0, []), (35, .putfield 25, 3, 2, 4, 3, 0, [(0, 35)]), (38, .return_, 1, 0, 0, 0, 0, [])]]
noncomputable def pm_9 : MR := (9, ⟨"OneAtATime$Evenness", "<init>", "()V"⟩, prog_4_method_1_code, 1, none, pgA_9)
set_option maxRecDepth 100000 in
noncomputable def pgA_10 : List (List (Nat × EN)) := [[(0, .aload_n 0, 1, 0, 0, 0, 0, []), (1, .getfield 30, 3, 8, 3, 2, 0, [(0, 3)]), (4, .getfield 71, 3, 5, 0, 2, 0, [(0, 36)]), (7, .astore 6, 2, 0, 0, 0, 0, []), (9, .aload 6, 2, 0, 0, 0, 0, []), (11, .bipush 20, 2, 0, 0, 0, 0, []), (13, .invokevirtual 74, 3, 11, 2, 1, 1, [(0, 20)]), (16, .ifCond .ne 5, 3, 21, 0, 0, 0, []), (19, .iconst (-1), 1, 0, 0, 0, 0, []), (20, .ireturn, 1, 0, 0, 0, 0, []), (21, .aload 6, 2, 0, 0, 0, 0, []), (23, .iload_n 1, 1, 0, 0, 0, 0, []), (24, .invokevirtual 78, 3, 12, 2, 0, 1, [(0, 21)]), (27, .aload 6, 2, 0, 0, 0, 0, []), (29, .iload_n 2, 1, 0, 0, 0, 0, []), (30, .invokevirtual 78, 3, 12, 2, 0, 1, [(0, 21)])],
  [(33, .aload 6, 2, 0, 0, 0, 0, []), (35, .iload_n 3, 1, 0, 0, 0, 0, []), (36, .invokevirtual 78, 3, 12, 2, 0, 1, [(0, 21)]), (39, .aload 6, 2, 0, 0, 0, 0, []), (41, .iload 4, 2, 0, 0, 0, 0, []), (43, .invokevirtual 78, 3, 12, 2, 0, 1, [(0, 21)]), (46, .aload 6, 2, 0, 0, 0, 0, []), (48, .iload 5, 2, 0, 0, 0, 0, []), (50, .invokevirtual 78, 3, 12, 2, 0, 1, [(0, 21)]), (53, .aload 6, 2, 0, 0, 0, 0, []), (55, .getfield 81, 3, 1, 1, 0, 0, [(0, 37)]), (58, .ireturn, 1, 0, 0, 0, 0, [])]]
noncomputable def pm_10 : MR := (0, ⟨"OneAtATime", "feed", "(IIIII)I"⟩, prog_1_method_2_code, 7, (some (.int)), pgA_10)
set_option maxRecDepth 100000 in
noncomputable def pgA_11 : List (List (Nat × EN)) := [[(0, .aload_n 0, 1, 0, 0, 0, 0, []), (1, .getfield 21, 3, 1, 1, 0, 0, [(0, 20)]), (4, .iload_n 1, 1, 0, 0, 0, 0, []), (5, .iadd, 1, 0, 0, 0, 0, []), (6, .aload_n 0, 1, 0, 0, 0, 0, []), (7, .getfield 15, 3, 1, 0, 2, 0, [(0, 19)]), (10, .arraylength, 1, 21, 0, 0, 0, []), (11, .if_icmp .gt 7, 3, 18, 0, 0, 0, []), (14, .iconst 1, 1, 0, 0, 0, 0, []), (15, .goto 4, 3, 19, 0, 0, 0, []), (18, .iconst 0, 1, 0, 0, 0, 0, []), (19, .ireturn, 1, 1, 0, 0, 0, [(0, 0), (0, 1)])]]
noncomputable def pm_11 : MR := (4, ⟨"OneAtATime$Bytes", "hasRoom", "(I)Z"⟩, prog_3_method_2_code, 2, (some (.boolean)), pgA_11)
set_option maxRecDepth 100000 in
noncomputable def pgA_12 : List (List (Nat × EN)) := [[(0, .aload_n 0, 1, 0, 0, 0, 0, []), (1, .iload_n 1, 1, 0, 0, 0, 0, []), (2, .bipush 24, 2, 0, 0, 0, 0, []), (4, .iushr, 1, 0, 0, 0, 0, []), (5, .invokevirtual 25, 3, 13, 2, 0, 1, [(0, 22)]), (8, .aload_n 0, 1, 0, 0, 0, 0, []), (9, .iload_n 1, 1, 0, 0, 0, 0, []), (10, .bipush 16, 2, 0, 0, 0, 0, []), (12, .iushr, 1, 0, 0, 0, 0, []), (13, .invokevirtual 25, 3, 13, 2, 0, 1, [(0, 22)]), (16, .aload_n 0, 1, 0, 0, 0, 0, []), (17, .iload_n 1, 1, 0, 0, 0, 0, []), (18, .bipush 8, 2, 0, 0, 0, 0, []), (20, .iushr, 1, 0, 0, 0, 0, []), (21, .invokevirtual 25, 3, 13, 2, 0, 1, [(0, 22)]), (24, .aload_n 0, 1, 0, 0, 0, 0, []), (25, .iload_n 1, 1, 0, 0, 0, 0, []), (26, .invokevirtual 25, 3, 13, 2, 0, 1, [(0, 22)]), (29, .return_, 1, 0, 0, 0, 0, [])]]
noncomputable def pm_12 : MR := (4, ⟨"OneAtATime$Bytes", "putFour", "(I)V"⟩, prog_3_method_5_code, 2, none, pgA_12)
set_option maxRecDepth 100000 in
noncomputable def pgA_13 : List (List (Nat × EN)) := [[(0, .aload_n 0, 1, 0, 0, 0, 0, []), (1, .getfield 21, 3, 1, 1, 0, 0, [(0, 20)]), (4, .aload_n 0, 1, 0, 0, 0, 0, []), (5, .getfield 15, 3, 1, 0, 2, 0, [(0, 19)]), (8, .arraylength, 1, 21, 0, 0, 0, []), (9, .if_icmp .ge 24, 3, 33, 0, 0, 0, []), (12, .aload_n 0, 1, 0, 0, 0, 0, []), (13, .getfield 15, 3, 1, 0, 2, 0, [(0, 19)]), (16, .aload_n 0, 1, 0, 0, 0, 0, []), (17, .getfield 21, 3, 1, 1, 0, 0, [(0, 20)]), (20, .iload_n 1, 1, 0, 0, 0, 0, []), (21, .i2b, 1, 0, 0, 0, 0, []), (22, .bastore, 1, 21, 0, 0, 0, []), (23, .aload_n 0, 1, 0, 0, 0, 0, []), (24, .dup, 1, 0, 0, 0, 0, []), (25, .getfield 21, 3, 1, 1, 0, 0, [(0, 20)]), (28, .iconst 1, 1, 0, 0, 0, 0, []), (29, .iadd, 1, 0, 0, 0, 0, []), (30, .putfield 21, 3, 1, 1, 0, 0, [(0, 20)])],
  [(33, .return_, 1, 0, 0, 0, 0, [(0, 0), (0, 1)])]]
noncomputable def pm_13 : MR := (4, ⟨"OneAtATime$Bytes", "put", "(I)V"⟩, prog_3_method_4_code, 2, none, pgA_13)
set_option maxRecDepth 100000 in
noncomputable def pgA_14 : List (List (Nat × EN)) := [[(0, .iload_n 1, 1, 0, 0, 0, 0, []), (1, .ifCond .lt 17, 3, 18, 0, 0, 0, []), (4, .iload_n 1, 1, 0, 0, 0, 0, []), (5, .aload_n 0, 1, 0, 0, 0, 0, []), (6, .getfield 30, 3, 8, 3, 2, 0, [(0, 3)]), (9, .getfield 71, 3, 5, 0, 2, 0, [(0, 36)]), (12, .getfield 81, 3, 1, 1, 0, 0, [(0, 37)]), (15, .if_icmp .le 5, 3, 20, 0, 0, 0, []), (18, .iconst (-1), 1, 0, 0, 0, 0, [(0, 0), (0, 1)]), (19, .ireturn, 1, 0, 0, 0, 0, []), (20, .aload_n 0, 1, 0, 0, 0, 0, []), (21, .getfield 30, 3, 8, 3, 2, 0, [(0, 3)]), (24, .getfield 71, 3, 5, 0, 2, 0, [(0, 36)]), (27, .iload_n 1, 1, 0, 0, 0, 0, []), (28, .putfield 81, 3, 1, 1, 0, 0, [(0, 37)]), (31, .iload_n 1, 1, 0, 0, 0, 0, [])],
  [(32, .ireturn, 1, 0, 0, 0, 0, [])]]
noncomputable def pm_14 : MR := (0, ⟨"OneAtATime", "end", "(I)I"⟩, prog_1_method_3_code, 2, (some (.int)), pgA_14)
set_option maxRecDepth 100000 in
noncomputable def pgA_15 : List (List (Nat × EN)) := [[(0, .iload_n 1, 1, 0, 0, 0, 0, []), (1, .invokestatic 85, 3, 16, 1, 1, 0, [(0, 23)]), (4, .ifCond .ne 6, 3, 10, 0, 0, 0, []), (7, .bipush (-2), 2, 0, 0, 0, 0, []), (9, .ireturn, 1, 0, 0, 0, 0, []), (10, .aload_n 0, 1, 0, 0, 0, 0, []), (11, .getfield 30, 3, 8, 3, 2, 0, [(0, 3)]), (14, .aload_n 0, 1, 0, 0, 0, 0, []), (15, .getfield 16, 3, 8, 1, 2, 0, [(0, 1)]), (18, .invokevirtual 88, 3, 17, 2, 1, 5, [(0, 24)]), (21, .istore_n 2, 1, 0, 0, 0, 0, []), (22, .aload_n 0, 1, 0, 0, 0, 0, []), (23, .getfield 30, 3, 8, 3, 2, 0, [(0, 3)]), (26, .getfield 71, 3, 5, 0, 2, 0, [(0, 36)]), (29, .iconst 0, 1, 0, 0, 0, 0, []), (30, .putfield 81, 3, 1, 1, 0, 0, [(0, 37)])],
  [(33, .iload_n 2, 1, 0, 0, 0, 0, []), (34, .ifCond .ne 6, 3, 40, 0, 0, 0, []), (37, .bipush (-4), 2, 0, 0, 0, 0, []), (39, .ireturn, 1, 0, 0, 0, 0, []), (40, .aload_n 0, 1, 0, 0, 0, 0, []), (41, .iload_n 1, 1, 0, 0, 0, 0, []), (42, .invokevirtual 92, 3, 32, 2, 1, 8, [(0, 25)]), (45, .ireturn, 1, 0, 0, 0, 0, [])]]
noncomputable def pm_15 : MR := (0, ⟨"OneAtATime", "told", "(I)I"⟩, prog_1_method_4_code, 3, (some (.int)), pgA_15)
set_option maxRecDepth 100000 in
noncomputable def pgA_16 : List (List (Nat × EN)) := [[(0, .iload_n 0, 1, 0, 0, 0, 0, []), (1, .ifCond .lt 12, 3, 13, 0, 0, 0, []), (4, .iload_n 0, 1, 0, 0, 0, 0, []), (5, .iconst 3, 1, 0, 0, 0, 0, []), (6, .if_icmp .ge 7, 3, 13, 0, 0, 0, []), (9, .iconst 1, 1, 0, 0, 0, 0, []), (10, .goto 4, 3, 14, 0, 0, 0, []), (13, .iconst 0, 1, 0, 0, 0, 0, [(0, 0)]), (14, .ireturn, 1, 1, 0, 0, 0, [(0, 0)])]]
noncomputable def pm_16 : MR := (0, ⟨"OneAtATime", "isSlot", "(I)Z"⟩, prog_1_method_51_code, 1, (some (.boolean)), pgA_16)
set_option maxRecDepth 100000 in
noncomputable def pgA_17 : List (List (Nat × EN)) := [[(0, .aload_n 0, 1, 0, 0, 0, 0, []), (1, .iconst 0, 1, 0, 0, 0, 0, []), (2, .putfield 20, 3, 5, 4, 0, 0, [(0, 17)]), (5, .aload_n 0, 1, 0, 0, 0, 0, []), (6, .iconst (-1), 1, 0, 0, 0, 0, []), (7, .putfield 24, 3, 5, 5, 0, 0, [(0, 18)]), (10, .aload_n 0, 1, 0, 0, 0, 0, []), (11, .iconst 0, 1, 0, 0, 0, 0, []), (12, .putfield 27, 3, 5, 3, 0, 0, [(0, 38)]), (15, .aload_n 0, 1, 0, 0, 0, 0, []), (16, .invokevirtual 30, 3, 18, 1, 0, 5, [(0, 26)]), (19, .aload_n 0, 1, 0, 0, 0, 0, []), (20, .aload_n 1, 1, 0, 0, 0, 0, []), (21, .invokevirtual 33, 3, 22, 2, 0, 5, [(0, 27)]), (24, .aload_n 0, 1, 0, 0, 0, 0, []), (25, .getfield 20, 3, 5, 4, 0, 0, [(0, 17)]), (28, .ifCond .ne 8, 3, 36, 0, 0, 0, []), (31, .aload_n 0, 1, 0, 0, 0, 0, [])],
  [(32, .aload_n 1, 1, 0, 0, 0, 0, []), (33, .invokevirtual 37, 3, 29, 2, 0, 5, [(0, 28)]), (36, .aload_n 0, 1, 0, 0, 0, 0, [(0, 1)]), (37, .bipush 59, 2, 0, 0, 0, 0, []), (39, .invokevirtual 40, 3, 27, 2, 0, 5, [(0, 29)]), (42, .aload_n 0, 1, 0, 0, 0, 0, []), (43, .getfield 20, 3, 5, 4, 0, 0, [(0, 17)]), (46, .ifCond .ne 19, 3, 65, 0, 0, 0, []), (49, .aload_n 0, 1, 0, 0, 0, 0, []), (50, .getfield 44, 3, 5, 1, 0, 0, [(0, 39)]), (53, .ifCond .eq 12, 3, 65, 0, 0, 0, []), (56, .aload_n 0, 1, 0, 0, 0, 0, []), (57, .iconst 1, 1, 0, 0, 0, 0, []), (58, .aload_n 0, 1, 0, 0, 0, 0, []), (59, .getfield 47, 3, 5, 2, 0, 0, [(0, 40)]), (62, .invokevirtual 50, 3, 25, 3, 0, 5, [(0, 30)])],
  [(65, .aload_n 0, 1, 0, 0, 0, 0, [(0, 1)]), (66, .getfield 20, 3, 5, 4, 0, 0, [(0, 17)]), (69, .ifCond .ne 7, 3, 76, 0, 0, 0, []), (72, .iconst 1, 1, 0, 0, 0, 0, []), (73, .goto 4, 3, 77, 0, 0, 0, []), (76, .iconst 0, 1, 0, 0, 0, 0, []), (77, .ireturn, 1, 1, 0, 0, 0, [(0, 0), (0, 1)])]]
noncomputable def pm_17 : MR := (3, ⟨"OneAtATime$Reader", "reads", "(LOneAtATime$BitList;)Z"⟩, prog_8_method_2_code, 2, (some (.boolean)), pgA_17)
set_option maxRecDepth 100000 in
noncomputable def pgA_18 : List (List (Nat × EN)) := [[(0, .aload_n 0, 1, 0, 0, 0, 0, []), (1, .aload_n 0, 1, 0, 0, 0, 0, []), (2, .getfield 27, 3, 5, 3, 0, 0, [(0, 38)]), (5, .putfield 47, 3, 5, 2, 0, 0, [(0, 40)]), (8, .aload_n 0, 1, 0, 0, 0, 0, []), (9, .getfield 47, 3, 5, 2, 0, 0, [(0, 40)]), (12, .aload_n 0, 1, 0, 0, 0, 0, []), (13, .getfield 14, 3, 5, 0, 2, 0, [(0, 16)]), (16, .getfield 103, 3, 1, 1, 0, 0, [(0, 41)]), (19, .if_icmp .ge 33, 3, 52, 0, 0, 0, []), (22, .aload_n 0, 1, 0, 0, 0, 0, []), (23, .getfield 14, 3, 5, 0, 2, 0, [(0, 16)]), (26, .aload_n 0, 1, 0, 0, 0, 0, []), (27, .getfield 47, 3, 5, 2, 0, 0, [(0, 40)]), (30, .invokevirtual 79, 3, 19, 2, 1, 1, [(0, 31)])],
  [(33, .invokestatic 105, 3, 20, 1, 1, 0, [(0, 32)]), (36, .ifCond .eq 16, 3, 52, 0, 0, 0, []), (39, .aload_n 0, 1, 0, 0, 0, 0, []), (40, .dup, 1, 0, 0, 0, 0, []), (41, .getfield 47, 3, 5, 2, 0, 0, [(0, 40)]), (44, .iconst 1, 1, 0, 0, 0, 0, []), (45, .iadd, 1, 0, 0, 0, 0, []), (46, .putfield 47, 3, 5, 2, 0, 0, [(0, 40)]), (49, .goto (-41), 3, 8, 0, 0, 0, []), (52, .aload_n 0, 1, 0, 0, 0, 0, []), (53, .aload_n 0, 1, 0, 0, 0, 0, []), (54, .getfield 47, 3, 5, 2, 0, 0, [(0, 40)]), (57, .putfield 27, 3, 5, 3, 0, 0, [(0, 38)]), (60, .aload_n 0, 1, 0, 0, 0, 0, []), (61, .getfield 47, 3, 5, 2, 0, 0, [(0, 40)])],
  [(64, .aload_n 0, 1, 0, 0, 0, 0, []), (65, .getfield 14, 3, 5, 0, 2, 0, [(0, 16)]), (68, .getfield 103, 3, 1, 1, 0, 0, [(0, 41)]), (71, .if_icmp .lt 9, 3, 80, 0, 0, 0, []), (74, .aload_n 0, 1, 0, 0, 0, 0, []), (75, .iconst 0, 1, 0, 0, 0, 0, []), (76, .putfield 44, 3, 5, 1, 0, 0, [(0, 39)]), (79, .return_, 1, 0, 0, 0, 0, []), (80, .aload_n 0, 1, 0, 0, 0, 0, []), (81, .aload_n 0, 1, 0, 0, 0, 0, []), (82, .getfield 14, 3, 5, 0, 2, 0, [(0, 16)]), (85, .aload_n 0, 1, 0, 0, 0, 0, []), (86, .getfield 47, 3, 5, 2, 0, 0, [(0, 40)]), (89, .invokevirtual 79, 3, 19, 2, 1, 1, [(0, 31)]), (92, .invokestatic 108, 3, 21, 1, 1, 0, [(0, 33)]), (95, .putfield 44, 3, 5, 1, 0, 0, [(0, 39)])],
  [(98, .aload_n 0, 1, 0, 0, 0, 0, []), (99, .dup, 1, 0, 0, 0, 0, []), (100, .getfield 27, 3, 5, 3, 0, 0, [(0, 38)]), (103, .iconst 1, 1, 0, 0, 0, 0, []), (104, .iadd, 1, 0, 0, 0, 0, []), (105, .putfield 27, 3, 5, 3, 0, 0, [(0, 38)]), (108, .aload_n 0, 1, 0, 0, 0, 0, []), (109, .getfield 44, 3, 5, 1, 0, 0, [(0, 39)]), (112, .iconst 3, 1, 0, 0, 0, 0, []), (113, .if_icmp .eq 51, 3, 164, 0, 0, 0, []), (116, .aload_n 0, 1, 0, 0, 0, 0, []), (117, .getfield 27, 3, 5, 3, 0, 0, [(0, 38)]), (120, .aload_n 0, 1, 0, 0, 0, 0, []), (121, .getfield 14, 3, 5, 0, 2, 0, [(0, 16)]), (124, .getfield 103, 3, 1, 1, 0, 0, [(0, 41)]), (127, .if_icmp .ge 37, 3, 164, 0, 0, 0, [])],
  [(130, .aload_n 0, 1, 0, 0, 0, 0, []), (131, .getfield 14, 3, 5, 0, 2, 0, [(0, 16)]), (134, .aload_n 0, 1, 0, 0, 0, 0, []), (135, .getfield 27, 3, 5, 3, 0, 0, [(0, 38)]), (138, .invokevirtual 79, 3, 19, 2, 1, 1, [(0, 31)]), (141, .invokestatic 108, 3, 21, 1, 1, 0, [(0, 33)]), (144, .aload_n 0, 1, 0, 0, 0, 0, []), (145, .getfield 44, 3, 5, 1, 0, 0, [(0, 39)]), (148, .if_icmp .ne 16, 3, 164, 0, 0, 0, []), (151, .aload_n 0, 1, 0, 0, 0, 0, []), (152, .dup, 1, 0, 0, 0, 0, []), (153, .getfield 27, 3, 5, 3, 0, 0, [(0, 38)]), (156, .iconst 1, 1, 0, 0, 0, 0, []), (157, .iadd, 1, 0, 0, 0, 0, []), (158, .putfield 27, 3, 5, 3, 0, 0, [(0, 38)])],
  [(161, .goto (-53), 3, 108, 0, 0, 0, []), (164, .return_, 1, 0, 0, 0, 0, [(0, 0)])]]
noncomputable def pm_18 : MR := (3, ⟨"OneAtATime$Reader", "advance", "()V"⟩, prog_8_method_10_code, 1, none, pgA_18)
set_option maxRecDepth 100000 in
noncomputable def pgA_19 : List (List (Nat × EN)) := [[(0, .iload_n 1, 1, 0, 0, 0, 0, []), (1, .ifCond .lt 11, 3, 12, 0, 0, 0, []), (4, .iload_n 1, 1, 0, 0, 0, 0, []), (5, .aload_n 0, 1, 0, 0, 0, 0, []), (6, .getfield 21, 3, 1, 1, 0, 0, [(0, 20)]), (9, .if_icmp .lt 7, 3, 16, 0, 0, 0, []), (12, .iconst (-1), 1, 0, 0, 0, 0, [(0, 0), (0, 1)]), (13, .goto 13, 3, 26, 0, 0, 0, []), (16, .aload_n 0, 1, 0, 0, 0, 0, []), (17, .getfield 15, 3, 1, 0, 2, 0, [(0, 19)]), (20, .iload_n 1, 1, 0, 0, 0, 0, []), (21, .baload, 1, 21, 0, 0, 0, []), (22, .sipush 255, 3, 0, 0, 0, 0, []), (25, .iand, 1, 0, 0, 0, 0, []), (26, .ireturn, 1, 0, 0, 0, 0, [(0, 0), (0, 1)])]]
noncomputable def pm_19 : MR := (4, ⟨"OneAtATime$Bytes", "at", "(I)I"⟩, prog_3_method_3_code, 2, (some (.int)), pgA_19)
set_option maxRecDepth 100000 in
noncomputable def pgA_20 : List (List (Nat × EN)) := [[(0, .iload_n 0, 1, 0, 0, 0, 0, []), (1, .bipush 32, 2, 0, 0, 0, 0, []), (3, .if_icmp .eq 9, 3, 12, 0, 0, 0, []), (6, .iload_n 0, 1, 0, 0, 0, 0, []), (7, .bipush 10, 2, 0, 0, 0, 0, []), (9, .if_icmp .ne 7, 3, 16, 0, 0, 0, []), (12, .iconst 1, 1, 0, 0, 0, 0, [(0, 0)]), (13, .goto 4, 3, 17, 0, 0, 0, []), (16, .iconst 0, 1, 0, 0, 0, 0, []), (17, .ireturn, 1, 1, 0, 0, 0, [(0, 0)])]]
noncomputable def pm_20 : MR := (3, ⟨"OneAtATime$Reader", "isBlank", "(I)Z"⟩, prog_8_method_11_code, 1, (some (.boolean)), pgA_20)
set_option maxRecDepth 100000 in
noncomputable def pgA_21 : List (List (Nat × EN)) := [[(0, .iload_n 0, 1, 0, 0, 0, 0, []), (1, .bipush 97, 2, 0, 0, 0, 0, []), (3, .if_icmp .lt 11, 3, 14, 0, 0, 0, []), (6, .iload_n 0, 1, 0, 0, 0, 0, []), (7, .bipush 122, 2, 0, 0, 0, 0, []), (9, .if_icmp .gt 5, 3, 14, 0, 0, 0, []), (12, .iconst 1, 1, 0, 0, 0, 0, []), (13, .ireturn, 1, 0, 0, 0, 0, []), (14, .iload_n 0, 1, 0, 0, 0, 0, []), (15, .bipush 48, 2, 0, 0, 0, 0, []), (17, .if_icmp .lt 13, 3, 30, 0, 0, 0, []), (20, .iload_n 0, 1, 0, 0, 0, 0, []), (21, .bipush 57, 2, 0, 0, 0, 0, []), (23, .if_icmp .gt 7, 3, 30, 0, 0, 0, []), (26, .iconst 2, 1, 0, 0, 0, 0, []), (27, .goto 4, 3, 31, 0, 0, 0, []), (30, .iconst 3, 1, 0, 0, 0, 0, [(0, 0)]), (31, .ireturn, 1, 0, 0, 0, 0, [(0, 0)])]]
noncomputable def pm_21 : MR := (3, ⟨"OneAtATime$Reader", "kindOf", "(I)I"⟩, prog_8_method_12_code, 1, (some (.int)), pgA_21)
set_option maxRecDepth 100000 in
noncomputable def pgA_22 : List (List (Nat × EN)) := [[(0, .aload_n 0, 1, 0, 0, 0, 0, []), (1, .ldc 54, 2, 7, 2, 0, 0, [(2, 0)]), (3, .invokevirtual 56, 3, 23, 2, 0, 5, [(0, 34)]), (6, .aload_n 0, 1, 0, 0, 0, 0, []), (7, .iconst 1, 1, 0, 0, 0, 0, []), (8, .bipush 8, 2, 0, 0, 0, 0, []), (10, .invokevirtual 60, 3, 26, 3, 1, 5, [(0, 35)]), (13, .istore_n 2, 1, 0, 0, 0, 0, []), (14, .iconst 0, 1, 0, 0, 0, 0, []), (15, .istore_n 3, 1, 0, 0, 0, 0, []), (16, .iload_n 2, 1, 0, 0, 0, 0, []), (17, .istore 4, 2, 0, 0, 0, 0, []), (19, .aload_n 0, 1, 0, 0, 0, 0, []), (20, .getfield 20, 3, 5, 4, 0, 0, [(0, 17)]), (23, .ifCond .ne 37, 3, 60, 0, 0, 0, []), (26, .aload_n 0, 1, 0, 0, 0, 0, []), (27, .ldc 64, 2, 9, 2, 0, 0, [(2, 1)]), (29, .invokevirtual 66, 3, 24, 2, 1, 5, [(0, 36)])],
  [(32, .ifCond .eq 28, 3, 60, 0, 0, 0, []), (35, .aload_n 0, 1, 0, 0, 0, 0, []), (36, .invokevirtual 30, 3, 18, 1, 0, 5, [(0, 26)]), (39, .aload_n 0, 1, 0, 0, 0, 0, []), (40, .iconst 0, 1, 0, 0, 0, 0, []), (41, .iload_n 2, 1, 0, 0, 0, 0, []), (42, .invokevirtual 60, 3, 26, 3, 1, 5, [(0, 35)]), (45, .istore_n 3, 1, 0, 0, 0, 0, []), (46, .aload_n 0, 1, 0, 0, 0, 0, []), (47, .ldc 70, 2, 11, 2, 0, 0, [(2, 2)]), (49, .invokevirtual 56, 3, 23, 2, 0, 5, [(0, 34)]), (52, .aload_n 0, 1, 0, 0, 0, 0, []), (53, .iload_n 3, 1, 0, 0, 0, 0, []), (54, .iload_n 2, 1, 0, 0, 0, 0, []), (55, .invokevirtual 60, 3, 26, 3, 1, 5, [(0, 35)]), (58, .istore 4, 2, 0, 0, 0, 0, []), (60, .aload_n 0, 1, 0, 0, 0, 0, [(0, 5)]), (61, .ldc 71, 2, 10, 2, 0, 0, [(2, 3)]), (63, .invokevirtual 56, 3, 23, 2, 0, 5, [(0, 34)])],
  [(66, .aload_n 0, 1, 0, 0, 0, 0, []), (67, .iconst 0, 1, 0, 0, 0, 0, []), (68, .iconst 1, 1, 0, 0, 0, 0, []), (69, .iload_n 2, 1, 0, 0, 0, 0, []), (70, .ishl, 1, 0, 0, 0, 0, []), (71, .iconst 1, 1, 0, 0, 0, 0, []), (72, .isub, 1, 0, 0, 0, 0, []), (73, .invokevirtual 60, 3, 26, 3, 1, 5, [(0, 35)]), (76, .istore 5, 2, 0, 0, 0, 0, []), (78, .aload_n 0, 1, 0, 0, 0, 0, []), (79, .bipush 58, 2, 0, 0, 0, 0, []), (81, .invokevirtual 40, 3, 27, 2, 0, 5, [(0, 29)]), (84, .aload_n 0, 1, 0, 0, 0, 0, []), (85, .getfield 20, 3, 5, 4, 0, 0, [(0, 17)]), (88, .ifCond .ne 13, 3, 101, 0, 0, 0, []), (91, .aload_n 1, 1, 0, 0, 0, 0, []), (92, .iload_n 2, 1, 0, 0, 0, 0, []), (93, .iload_n 3, 1, 0, 0, 0, 0, []), (94, .iload 4, 2, 0, 0, 0, 0, [])],
  [(96, .iload 5, 2, 0, 0, 0, 0, []), (98, .invokevirtual 73, 3, 28, 5, 0, 0, [(0, 37)]), (101, .return_, 1, 0, 0, 0, 0, [(0, 0), (0, 1), (0, 2), (0, 3), (0, 4), (0, 5)])]]
noncomputable def pm_22 : MR := (3, ⟨"OneAtATime$Reader", "readsHead", "(LOneAtATime$BitList;)V"⟩, prog_8_method_3_code, 6, none, pgA_22)
set_option maxRecDepth 100000 in
noncomputable def pgA_23 : List (List (Nat × EN)) := [[(0, .aload_n 0, 1, 0, 0, 0, 0, []), (1, .getfield 20, 3, 5, 4, 0, 0, [(0, 17)]), (4, .ifCond .ne 27, 3, 31, 0, 0, 0, []), (7, .aload_n 0, 1, 0, 0, 0, 0, []), (8, .aload_n 1, 1, 0, 0, 0, 0, []), (9, .invokevirtual 66, 3, 24, 2, 1, 5, [(0, 36)]), (12, .ifCond .eq 10, 3, 22, 0, 0, 0, []), (15, .aload_n 0, 1, 0, 0, 0, 0, []), (16, .invokevirtual 30, 3, 18, 1, 0, 5, [(0, 26)]), (19, .goto 12, 3, 31, 0, 0, 0, []), (22, .aload_n 0, 1, 0, 0, 0, 0, []), (23, .iconst 1, 1, 0, 0, 0, 0, []), (24, .aload_n 0, 1, 0, 0, 0, 0, []), (25, .getfield 47, 3, 5, 2, 0, 0, [(0, 40)]), (28, .invokevirtual 50, 3, 25, 3, 0, 5, [(0, 30)]), (31, .return_, 1, 0, 0, 0, 0, [(0, 0), (0, 1)])]]
noncomputable def pm_23 : MR := (3, ⟨"OneAtATime$Reader", "expectLetters", "(Ljava/lang/String;)V"⟩, prog_8_method_6_code, 2, none, pgA_23)
set_option maxRecDepth 100000 in
noncomputable def pgA_24 : List (List (Nat × EN)) := [[(0, .aload_n 0, 1, 0, 0, 0, 0, []), (1, .getfield 44, 3, 5, 1, 0, 0, [(0, 39)]), (4, .iconst 1, 1, 0, 0, 0, 0, []), (5, .if_icmp .ne 19, 3, 24, 0, 0, 0, []), (8, .aload_n 0, 1, 0, 0, 0, 0, []), (9, .getfield 27, 3, 5, 3, 0, 0, [(0, 38)]), (12, .aload_n 0, 1, 0, 0, 0, 0, []), (13, .getfield 47, 3, 5, 2, 0, 0, [(0, 40)]), (16, .isub, 1, 0, 0, 0, 0, []), (17, .aload_n 1, 1, 0, 0, 0, 0, []), (18, .invokevirtual 93, 3, 1000, 1, 1, 30, [(0, 38)]), (21, .if_icmp .eq 5, 3, 26, 0, 0, 0, []), (24, .iconst 0, 1, 0, 0, 0, 0, [(0, 0), (0, 1), (0, 2)]), (25, .ireturn, 1, 1, 0, 0, 0, []), (26, .iconst 0, 1, 0, 0, 0, 0, []), (27, .istore_n 2, 1, 0, 0, 0, 0, []), (28, .iload_n 2, 1, 0, 0, 0, 0, []), (29, .aload_n 1, 1, 0, 0, 0, 0, []), (30, .invokevirtual 93, 3, 1000, 1, 1, 30, [(0, 38)])],
  [(33, .if_icmp .ge 32, 3, 65, 0, 0, 0, []), (36, .aload_n 0, 1, 0, 0, 0, 0, []), (37, .getfield 14, 3, 5, 0, 2, 0, [(0, 16)]), (40, .aload_n 0, 1, 0, 0, 0, 0, []), (41, .getfield 47, 3, 5, 2, 0, 0, [(0, 40)]), (44, .iload_n 2, 1, 0, 0, 0, 0, []), (45, .iadd, 1, 0, 0, 0, 0, []), (46, .invokevirtual 79, 3, 19, 2, 1, 1, [(0, 31)]), (49, .aload_n 1, 1, 0, 0, 0, 0, []), (50, .iload_n 2, 1, 0, 0, 0, 0, []), (51, .invokevirtual 99, 3, 1001, 2, 1, 30, [(0, 39)]), (54, .if_icmp .eq 5, 3, 59, 0, 0, 0, []), (57, .iconst 0, 1, 0, 0, 0, 0, []), (58, .ireturn, 1, 1, 0, 0, 0, []), (59, .iinc 2 1, 3, 0, 0, 0, 0, []), (62, .goto (-34), 3, 28, 0, 0, 0, [])],
  [(65, .iconst 1, 1, 0, 0, 0, 0, []), (66, .ireturn, 1, 1, 0, 0, 0, [])]]
noncomputable def pm_24 : MR := (3, ⟨"OneAtATime$Reader", "isLetters", "(Ljava/lang/String;)Z"⟩, prog_8_method_9_code, 3, (some (.boolean)), pgA_24)
set_option maxRecDepth 100000 in
noncomputable def pgA_25 : List (List (Nat × EN)) := [[(0, .aload_n 0, 1, 0, 0, 0, 0, []), (1, .iload_n 1, 1, 0, 0, 0, 0, []), (2, .putfield 20, 3, 5, 4, 0, 0, [(0, 17)]), (5, .aload_n 0, 1, 0, 0, 0, 0, []), (6, .iload_n 2, 1, 0, 0, 0, 0, []), (7, .putfield 24, 3, 5, 5, 0, 0, [(0, 18)]), (10, .return_, 1, 0, 0, 0, 0, [])]]
noncomputable def pm_25 : MR := (3, ⟨"OneAtATime$Reader", "blame", "(II)V"⟩, prog_8_method_5_code, 3, none, pgA_25)
set_option maxRecDepth 100000 in
noncomputable def pgA_26 : List (List (Nat × EN)) := [[(0, .aload_n 0, 1, 0, 0, 0, 0, []), (1, .getfield 20, 3, 5, 4, 0, 0, [(0, 17)]), (4, .ifCond .eq 5, 3, 9, 0, 0, 0, []), (7, .iload_n 1, 1, 0, 0, 0, 0, []), (8, .ireturn, 1, 0, 0, 0, 0, []), (9, .aload_n 0, 1, 0, 0, 0, 0, []), (10, .getfield 44, 3, 5, 1, 0, 0, [(0, 39)]), (13, .iconst 2, 1, 0, 0, 0, 0, []), (14, .if_icmp .eq 14, 3, 28, 0, 0, 0, []), (17, .aload_n 0, 1, 0, 0, 0, 0, []), (18, .iconst 1, 1, 0, 0, 0, 0, []), (19, .aload_n 0, 1, 0, 0, 0, 0, []), (20, .getfield 47, 3, 5, 2, 0, 0, [(0, 40)]), (23, .invokevirtual 50, 3, 25, 3, 0, 5, [(0, 30)]), (26, .iload_n 1, 1, 0, 0, 0, 0, []), (27, .ireturn, 1, 0, 0, 0, 0, []), (28, .iconst 0, 1, 0, 0, 0, 0, []), (29, .istore_n 3, 1, 0, 0, 0, 0, []), (30, .aload_n 0, 1, 0, 0, 0, 0, []), (31, .getfield 47, 3, 5, 2, 0, 0, [(0, 40)])],
  [(34, .istore 4, 2, 0, 0, 0, 0, []), (36, .iload 4, 2, 0, 0, 0, 0, []), (38, .aload_n 0, 1, 0, 0, 0, 0, []), (39, .getfield 27, 3, 5, 3, 0, 0, [(0, 38)]), (42, .if_icmp .ge 34, 3, 76, 0, 0, 0, []), (45, .iload_n 3, 1, 0, 0, 0, 0, []), (46, .sipush 1000, 3, 0, 0, 0, 0, []), (49, .if_icmp .ge 27, 3, 76, 0, 0, 0, []), (52, .iload_n 3, 1, 0, 0, 0, 0, []), (53, .bipush 10, 2, 0, 0, 0, 0, []), (55, .imul, 1, 0, 0, 0, 0, []), (56, .aload_n 0, 1, 0, 0, 0, 0, []), (57, .getfield 14, 3, 5, 0, 2, 0, [(0, 16)]), (60, .iload 4, 2, 0, 0, 0, 0, []), (62, .invokevirtual 79, 3, 19, 2, 1, 1, [(0, 31)])],
  [(65, .iadd, 1, 0, 0, 0, 0, []), (66, .bipush 48, 2, 0, 0, 0, 0, []), (68, .isub, 1, 0, 0, 0, 0, []), (69, .istore_n 3, 1, 0, 0, 0, 0, []), (70, .iinc 4 1, 3, 0, 0, 0, 0, []), (73, .goto (-37), 3, 36, 0, 0, 0, []), (76, .iload_n 3, 1, 0, 0, 0, 0, [(0, 4)]), (77, .iload_n 1, 1, 0, 0, 0, 0, []), (78, .if_icmp .lt 8, 3, 86, 0, 0, 0, []), (81, .iload_n 3, 1, 0, 0, 0, 0, []), (82, .iload_n 2, 1, 0, 0, 0, 0, []), (83, .if_icmp .le 14, 3, 97, 0, 0, 0, []), (86, .aload_n 0, 1, 0, 0, 0, 0, [(0, 2), (0, 3), (0, 4)]), (87, .iconst 2, 1, 0, 0, 0, 0, []), (88, .aload_n 0, 1, 0, 0, 0, 0, []), (89, .getfield 47, 3, 5, 2, 0, 0, [(0, 40)]), (92, .invokevirtual 50, 3, 25, 3, 0, 5, [(0, 30)]), (95, .iload_n 1, 1, 0, 0, 0, 0, [])],
  [(96, .ireturn, 1, 0, 0, 0, 0, []), (97, .aload_n 0, 1, 0, 0, 0, 0, []), (98, .invokevirtual 30, 3, 18, 1, 0, 5, [(0, 26)]), (101, .iload_n 3, 1, 0, 0, 0, 0, []), (102, .ireturn, 1, 0, 0, 0, 0, [])]]
noncomputable def pm_26 : MR := (3, ⟨"OneAtATime$Reader", "expectNumber", "(II)I"⟩, prog_8_method_8_code, 5, (some (.int)), pgA_26)
set_option maxRecDepth 100000 in
noncomputable def pgA_27 : List (List (Nat × EN)) := [[(0, .aload_n 0, 1, 0, 0, 0, 0, []), (1, .getfield 20, 3, 5, 4, 0, 0, [(0, 17)]), (4, .ifCond .ne 42, 3, 46, 0, 0, 0, []), (7, .aload_n 0, 1, 0, 0, 0, 0, []), (8, .getfield 44, 3, 5, 1, 0, 0, [(0, 39)]), (11, .iconst 3, 1, 0, 0, 0, 0, []), (12, .if_icmp .ne 25, 3, 37, 0, 0, 0, []), (15, .aload_n 0, 1, 0, 0, 0, 0, []), (16, .getfield 14, 3, 5, 0, 2, 0, [(0, 16)]), (19, .aload_n 0, 1, 0, 0, 0, 0, []), (20, .getfield 47, 3, 5, 2, 0, 0, [(0, 40)]), (23, .invokevirtual 79, 3, 19, 2, 1, 1, [(0, 31)]), (26, .iload_n 1, 1, 0, 0, 0, 0, []), (27, .if_icmp .ne 10, 3, 37, 0, 0, 0, []), (30, .aload_n 0, 1, 0, 0, 0, 0, []), (31, .invokevirtual 30, 3, 18, 1, 0, 5, [(0, 26)])],
  [(34, .goto 12, 3, 46, 0, 0, 0, []), (37, .aload_n 0, 1, 0, 0, 0, 0, [(0, 1)]), (38, .iconst 1, 1, 0, 0, 0, 0, []), (39, .aload_n 0, 1, 0, 0, 0, 0, []), (40, .getfield 47, 3, 5, 2, 0, 0, [(0, 40)]), (43, .invokevirtual 50, 3, 25, 3, 0, 5, [(0, 30)]), (46, .return_, 1, 0, 0, 0, 0, [(0, 0), (0, 1)])]]
noncomputable def pm_27 : MR := (3, ⟨"OneAtATime$Reader", "expectSign", "(C)V"⟩, prog_8_method_7_code, 2, none, pgA_27)
set_option maxRecDepth 100000 in
noncomputable def pgA_28 : List (List (Nat × EN)) := [[(0, .aload_n 0, 1, 0, 0, 0, 0, []), (1, .iconst 1, 1, 0, 0, 0, 0, []), (2, .putfield 18, 3, 0, 2, 1, 0, [(0, 11)]), (5, .aload_n 0, 1, 0, 0, 0, 0, []), (6, .iload_n 1, 1, 0, 0, 0, 0, []), (7, .putfield 22, 3, 0, 3, 0, 0, [(0, 42)]), (10, .aload_n 0, 1, 0, 0, 0, 0, []), (11, .iload_n 2, 1, 0, 0, 0, 0, []), (12, .putfield 26, 3, 0, 4, 0, 0, [(0, 43)]), (15, .aload_n 0, 1, 0, 0, 0, 0, []), (16, .iload_n 3, 1, 0, 0, 0, 0, []), (17, .putfield 29, 3, 0, 5, 0, 0, [(0, 44)]), (20, .aload_n 0, 1, 0, 0, 0, 0, []), (21, .iconst 0, 1, 0, 0, 0, 0, []), (22, .putfield 32, 3, 0, 6, 0, 0, [(0, 45)]), (25, .aload_n 0, 1, 0, 0, 0, 0, []), (26, .getfield 15, 3, 0, 1, 2, 0, [(0, 10)]), (29, .iconst 0, 1, 0, 0, 0, 0, []), (30, .iload 4, 2, 0, 0, 0, 0, [])],
  [(32, .iastore, 1, 20, 0, 0, 0, []), (33, .return_, 1, 0, 0, 0, 0, [])]]
noncomputable def pm_28 : MR := (1, ⟨"OneAtATime$BitList", "begin", "(IIII)V"⟩, prog_2_method_2_code, 5, none, pgA_28)
set_option maxRecDepth 100000 in
noncomputable def pgA_29 : List (List (Nat × EN)) := [[(0, .aload_n 0, 1, 0, 0, 0, 0, []), (1, .getfield 44, 3, 5, 1, 0, 0, [(0, 39)]), (4, .iconst 2, 1, 0, 0, 0, 0, []), (5, .if_icmp .eq 4, 3, 9, 0, 0, 0, []), (8, .return_, 1, 0, 0, 0, 0, []), (9, .aload_n 0, 1, 0, 0, 0, 0, []), (10, .getfield 47, 3, 5, 2, 0, 0, [(0, 40)]), (13, .istore_n 2, 1, 0, 0, 0, 0, []), (14, .iload_n 2, 1, 0, 0, 0, 0, [(0, 3)]), (15, .aload_n 0, 1, 0, 0, 0, 0, []), (16, .getfield 27, 3, 5, 3, 0, 0, [(0, 38)]), (19, .if_icmp .ge 69, 3, 88, 0, 0, 0, []), (22, .aload_n 0, 1, 0, 0, 0, 0, []), (23, .getfield 20, 3, 5, 4, 0, 0, [(0, 17)]), (26, .ifCond .ne 62, 3, 88, 0, 0, 0, []), (29, .aload_n 0, 1, 0, 0, 0, 0, []), (30, .getfield 14, 3, 5, 0, 2, 0, [(0, 16)])],
  [(33, .iload_n 2, 1, 0, 0, 0, 0, []), (34, .invokevirtual 79, 3, 19, 2, 1, 1, [(0, 31)]), (37, .bipush 48, 2, 0, 0, 0, 0, []), (39, .isub, 1, 0, 0, 0, 0, []), (40, .istore_n 3, 1, 0, 0, 0, 0, []), (41, .aload_n 1, 1, 0, 0, 0, 0, []), (42, .iload_n 3, 1, 0, 0, 0, 0, []), (43, .invokevirtual 83, 3, 30, 2, 1, 0, [(0, 40)]), (46, .ifCond .ne 12, 3, 58, 0, 0, 0, []), (49, .aload_n 0, 1, 0, 0, 0, 0, []), (50, .iconst 3, 1, 0, 0, 0, 0, []), (51, .iload_n 2, 1, 0, 0, 0, 0, []), (52, .invokevirtual 50, 3, 25, 3, 0, 5, [(0, 30)]), (55, .goto 27, 3, 82, 0, 0, 0, []), (58, .aload_n 1, 1, 0, 0, 0, 0, []), (59, .getfield 87, 3, 0, 6, 0, 0, [(0, 46)]), (62, .sipush 256, 3, 0, 0, 0, 0, [])],
  [(65, .if_icmp .lt 12, 3, 77, 0, 0, 0, []), (68, .aload_n 0, 1, 0, 0, 0, 0, []), (69, .iconst 4, 1, 0, 0, 0, 0, []), (70, .iload_n 2, 1, 0, 0, 0, 0, []), (71, .invokevirtual 50, 3, 25, 3, 0, 5, [(0, 30)]), (74, .goto 8, 3, 82, 0, 0, 0, []), (77, .aload_n 1, 1, 0, 0, 0, 0, []), (78, .iload_n 3, 1, 0, 0, 0, 0, []), (79, .invokevirtual 90, 3, 31, 2, 0, 0, [(0, 41)]), (82, .iinc 2 1, 3, 0, 0, 0, 0, [(0, 3)]), (85, .goto (-71), 3, 14, 0, 0, 0, []), (88, .aload_n 0, 1, 0, 0, 0, 0, [(0, 1), (0, 2), (0, 3)]), (89, .getfield 20, 3, 5, 4, 0, 0, [(0, 17)]), (92, .ifCond .ne 7, 3, 99, 0, 0, 0, []), (95, .aload_n 0, 1, 0, 0, 0, 0, [])],
  [(96, .invokevirtual 30, 3, 18, 1, 0, 5, [(0, 26)]), (99, .return_, 1, 0, 0, 0, 0, [(0, 0), (0, 1), (0, 2), (0, 3)])]]
noncomputable def pm_29 : MR := (3, ⟨"OneAtATime$Reader", "readsBits", "(LOneAtATime$BitList;)V"⟩, prog_8_method_4_code, 4, none, pgA_29)
set_option maxRecDepth 100000 in
noncomputable def pgA_30 : List (List (Nat × EN)) := [[(0, .iload_n 1, 1, 0, 0, 0, 0, []), (1, .ifCond .lt 15, 3, 16, 0, 0, 0, []), (4, .iload_n 1, 1, 0, 0, 0, 0, []), (5, .aload_n 0, 1, 0, 0, 0, 0, []), (6, .getfield 22, 3, 0, 3, 0, 0, [(0, 42)]), (9, .if_icmp .ge 7, 3, 16, 0, 0, 0, []), (12, .iconst 1, 1, 0, 0, 0, 0, []), (13, .goto 4, 3, 17, 0, 0, 0, []), (16, .iconst 0, 1, 0, 0, 0, 0, [(0, 0), (0, 1)]), (17, .ireturn, 1, 1, 0, 0, 0, [(0, 0), (0, 1)])]]
noncomputable def pm_30 : MR := (1, ⟨"OneAtATime$BitList", "hasBit", "(I)Z"⟩, prog_2_method_13_code, 2, (some (.boolean)), pgA_30)
set_option maxRecDepth 100000 in
noncomputable def pgA_31 : List (List (Nat × EN)) := [[(0, .aload_n 0, 1, 0, 0, 0, 0, []), (1, .getfield 32, 3, 0, 6, 0, 0, [(0, 45)]), (4, .sipush 256, 3, 0, 0, 0, 0, []), (7, .if_icmp .ge 55, 3, 62, 0, 0, 0, []), (10, .aload_n 0, 1, 0, 0, 0, 0, []), (11, .iload_n 1, 1, 0, 0, 0, 0, []), (12, .invokevirtual 39, 3, 30, 2, 1, 0, [(0, 42)]), (15, .ifCond .eq 47, 3, 62, 0, 0, 0, []), (18, .aload_n 0, 1, 0, 0, 0, 0, []), (19, .getfield 9, 3, 0, 0, 2, 0, [(0, 9)]), (22, .aload_n 0, 1, 0, 0, 0, 0, []), (23, .getfield 32, 3, 0, 6, 0, 0, [(0, 45)]), (26, .iload_n 1, 1, 0, 0, 0, 0, []), (27, .iastore, 1, 20, 0, 0, 0, []), (28, .aload_n 0, 1, 0, 0, 0, 0, []), (29, .getfield 15, 3, 0, 1, 2, 0, [(0, 10)])],
  [(32, .aload_n 0, 1, 0, 0, 0, 0, []), (33, .getfield 32, 3, 0, 6, 0, 0, [(0, 45)]), (36, .iconst 1, 1, 0, 0, 0, 0, []), (37, .iadd, 1, 0, 0, 0, 0, []), (38, .aload_n 0, 1, 0, 0, 0, 0, []), (39, .getfield 15, 3, 0, 1, 2, 0, [(0, 10)]), (42, .aload_n 0, 1, 0, 0, 0, 0, []), (43, .getfield 32, 3, 0, 6, 0, 0, [(0, 45)]), (46, .iaload, 1, 20, 0, 0, 0, []), (47, .iconst 1, 1, 0, 0, 0, 0, []), (48, .iload_n 1, 1, 0, 0, 0, 0, []), (49, .ishl, 1, 0, 0, 0, 0, []), (50, .ixor, 1, 0, 0, 0, 0, []), (51, .iastore, 1, 20, 0, 0, 0, []), (52, .aload_n 0, 1, 0, 0, 0, 0, []), (53, .dup, 1, 0, 0, 0, 0, []), (54, .getfield 32, 3, 0, 6, 0, 0, [(0, 45)]), (57, .iconst 1, 1, 0, 0, 0, 0, []), (58, .iadd, 1, 0, 0, 0, 0, []), (59, .putfield 32, 3, 0, 6, 0, 0, [(0, 45)]), (62, .return_, 1, 0, 0, 0, 0, [(0, 0), (0, 1)])]]
noncomputable def pm_31 : MR := (1, ⟨"OneAtATime$BitList", "push", "(I)V"⟩, prog_2_method_4_code, 2, none, pgA_31)
set_option maxRecDepth 100000 in
noncomputable def pgA_32 : List (List (Nat × EN)) := [[(0, .aload_n 0, 1, 0, 0, 0, 0, []), (1, .getfield 11, 3, 8, 0, 2, 0, [(0, 0)]), (4, .iload_n 1, 1, 0, 0, 0, 0, []), (5, .aaload, 1, 23, 0, 0, 0, []), (6, .astore_n 2, 1, 0, 0, 0, 0, []), (7, .aload_n 2, 1, 0, 0, 0, 0, []), (8, .aload_n 0, 1, 0, 0, 0, 0, []), (9, .getfield 16, 3, 8, 1, 2, 0, [(0, 1)]), (12, .invokevirtual 366, 3, 33, 2, 1, 0, [(0, 43)]), (15, .ifCond .ne 20, 3, 35, 0, 0, 0, []), (18, .aload_n 0, 1, 0, 0, 0, 0, []), (19, .getfield 23, 3, 8, 2, 2, 0, [(0, 2)]), (22, .iload_n 1, 1, 0, 0, 0, 0, []), (23, .aload_n 2, 1, 0, 0, 0, 0, []), (24, .invokevirtual 347, 3, 34, 3, 0, 3, [(0, 44)]), (27, .aload_n 2, 1, 0, 0, 0, 0, []), (28, .aload_n 0, 1, 0, 0, 0, 0, []), (29, .getfield 16, 3, 8, 1, 2, 0, [(0, 1)])],
  [(32, .invokevirtual 333, 3, 35, 2, 0, 0, [(0, 45)]), (35, .aload_n 2, 1, 0, 0, 0, 0, [(0, 0), (0, 1)]), (36, .getfield 126, 3, 0, 6, 0, 0, [(0, 47)]), (39, .ireturn, 1, 0, 0, 0, 0, [])]]
noncomputable def pm_32 : MR := (0, ⟨"OneAtATime", "settle", "(I)I"⟩, prog_1_method_58_code, 3, (some (.int)), pgA_32)
set_option maxRecDepth 100000 in
noncomputable def pgA_33 : List (List (Nat × EN)) := [[(0, .aload_n 0, 1, 0, 0, 0, 0, []), (1, .getfield 18, 3, 0, 2, 1, 0, [(0, 11)]), (4, .aload_n 1, 1, 0, 0, 0, 0, []), (5, .getfield 18, 3, 0, 2, 1, 0, [(0, 11)]), (8, .if_icmp .ne 25, 3, 33, 0, 0, 0, []), (11, .aload_n 0, 1, 0, 0, 0, 0, []), (12, .getfield 22, 3, 0, 3, 0, 0, [(0, 42)]), (15, .aload_n 1, 1, 0, 0, 0, 0, []), (16, .getfield 22, 3, 0, 3, 0, 0, [(0, 42)]), (19, .if_icmp .ne 14, 3, 33, 0, 0, 0, []), (22, .aload_n 0, 1, 0, 0, 0, 0, []), (23, .getfield 32, 3, 0, 6, 0, 0, [(0, 45)]), (26, .aload_n 1, 1, 0, 0, 0, 0, []), (27, .getfield 32, 3, 0, 6, 0, 0, [(0, 45)]), (30, .if_icmp .eq 5, 3, 35, 0, 0, 0, [])],
  [(33, .iconst 0, 1, 0, 0, 0, 0, [(0, 0), (0, 1), (0, 2)]), (34, .ireturn, 1, 1, 0, 0, 0, []), (35, .aload_n 0, 1, 0, 0, 0, 0, []), (36, .getfield 26, 3, 0, 4, 0, 0, [(0, 43)]), (39, .aload_n 1, 1, 0, 0, 0, 0, []), (40, .getfield 26, 3, 0, 4, 0, 0, [(0, 43)]), (43, .if_icmp .ne 29, 3, 72, 0, 0, 0, []), (46, .aload_n 0, 1, 0, 0, 0, 0, []), (47, .getfield 29, 3, 0, 5, 0, 0, [(0, 44)]), (50, .aload_n 1, 1, 0, 0, 0, 0, []), (51, .getfield 29, 3, 0, 5, 0, 0, [(0, 44)]), (54, .if_icmp .ne 18, 3, 72, 0, 0, 0, []), (57, .aload_n 0, 1, 0, 0, 0, 0, []), (58, .getfield 15, 3, 0, 1, 2, 0, [(0, 10)]), (61, .iconst 0, 1, 0, 0, 0, 0, []), (62, .iaload, 1, 20, 0, 0, 0, []), (63, .aload_n 1, 1, 0, 0, 0, 0, [])],
  [(64, .getfield 15, 3, 0, 1, 2, 0, [(0, 10)]), (67, .iconst 0, 1, 0, 0, 0, 0, []), (68, .iaload, 1, 20, 0, 0, 0, []), (69, .if_icmp .eq 5, 3, 74, 0, 0, 0, []), (72, .iconst 0, 1, 0, 0, 0, 0, [(0, 0), (0, 1), (0, 2)]), (73, .ireturn, 1, 1, 0, 0, 0, []), (74, .iconst 0, 1, 0, 0, 0, 0, []), (75, .istore_n 2, 1, 0, 0, 0, 0, []), (76, .iload_n 2, 1, 0, 0, 0, 0, []), (77, .aload_n 0, 1, 0, 0, 0, 0, []), (78, .getfield 32, 3, 0, 6, 0, 0, [(0, 45)]), (81, .if_icmp .ge 26, 3, 107, 0, 0, 0, []), (84, .aload_n 0, 1, 0, 0, 0, 0, []), (85, .getfield 9, 3, 0, 0, 2, 0, [(0, 9)]), (88, .iload_n 2, 1, 0, 0, 0, 0, []), (89, .iaload, 1, 20, 0, 0, 0, []), (90, .aload_n 1, 1, 0, 0, 0, 0, []), (91, .getfield 9, 3, 0, 0, 2, 0, [(0, 9)]), (94, .iload_n 2, 1, 0, 0, 0, 0, []), (95, .iaload, 1, 20, 0, 0, 0, [])],
  [(96, .if_icmp .eq 5, 3, 101, 0, 0, 0, []), (99, .iconst 0, 1, 0, 0, 0, 0, []), (100, .ireturn, 1, 1, 0, 0, 0, []), (101, .iinc 2 1, 3, 0, 0, 0, 0, []), (104, .goto (-28), 3, 76, 0, 0, 0, []), (107, .iconst 1, 1, 0, 0, 0, 0, []), (108, .ireturn, 1, 1, 0, 0, 0, [])]]
noncomputable def pm_33 : MR := (1, ⟨"OneAtATime$BitList", "matches", "(LOneAtATime$BitList;)Z"⟩, prog_2_method_9_code, 3, (some (.boolean)), pgA_33)
set_option maxRecDepth 100000 in
noncomputable def pgA_34 : List (List (Nat × EN)) := [[(0, .aload_n 0, 1, 0, 0, 0, 0, []), (1, .getfield 11, 3, 3, 0, 2, 0, [(0, 12)]), (4, .aload_n 0, 1, 0, 0, 0, 0, []), (5, .getfield 22, 3, 3, 2, 0, 0, [(0, 14)]), (8, .aaload, 1, 23, 0, 0, 0, []), (9, .aload_n 2, 1, 0, 0, 0, 0, []), (10, .invokevirtual 29, 3, 35, 2, 0, 0, [(0, 46)]), (13, .aload_n 0, 1, 0, 0, 0, 0, []), (14, .getfield 18, 3, 3, 1, 2, 0, [(0, 13)]), (17, .aload_n 0, 1, 0, 0, 0, 0, []), (18, .getfield 22, 3, 3, 2, 0, 0, [(0, 14)]), (21, .iload_n 1, 1, 0, 0, 0, 0, []), (22, .iastore, 1, 20, 0, 0, 0, []), (23, .aload_n 0, 1, 0, 0, 0, 0, []), (24, .aload_n 0, 1, 0, 0, 0, 0, []), (25, .getfield 22, 3, 3, 2, 0, 0, [(0, 14)]), (28, .iconst 1, 1, 0, 0, 0, 0, []), (29, .iadd, 1, 0, 0, 0, 0, []), (30, .bipush 10, 2, 0, 0, 0, 0, [])],
  [(32, .if_icmp .ne 7, 3, 39, 0, 0, 0, []), (35, .iconst 0, 1, 0, 0, 0, 0, []), (36, .goto 9, 3, 45, 0, 0, 0, []), (39, .aload_n 0, 1, 0, 0, 0, 0, []), (40, .getfield 22, 3, 3, 2, 0, 0, [(0, 14)]), (43, .iconst 1, 1, 0, 0, 0, 0, []), (44, .iadd, 1, 0, 0, 0, 0, []), (45, .putfield 22, 3, 3, 2, 0, 0, [(0, 14)]), (48, .aload_n 0, 1, 0, 0, 0, 0, []), (49, .aload_n 0, 1, 0, 0, 0, 0, []), (50, .getfield 26, 3, 3, 3, 0, 0, [(0, 15)]), (53, .iconst 1, 1, 0, 0, 0, 0, []), (54, .iadd, 1, 0, 0, 0, 0, []), (55, .bipush 10, 2, 0, 0, 0, 0, []), (57, .invokestatic 33, 3, 1005, 2, 1, 0, [(0, 47)]), (60, .putfield 26, 3, 3, 3, 0, 0, [(0, 15)]), (63, .return_, 1, 0, 0, 0, 0, [])]]
noncomputable def pm_34 : MR := (2, ⟨"OneAtATime$History", "keep", "(ILOneAtATime$BitList;)V"⟩, prog_5_method_2_code, 3, none, pgA_34)
set_option maxRecDepth 100000 in
noncomputable def pgA_35 : List (List (Nat × EN)) := [[(0, .aload_n 0, 1, 0, 0, 0, 0, []), (1, .aload_n 1, 1, 0, 0, 0, 0, []), (2, .getfield 18, 3, 0, 2, 1, 0, [(0, 11)]), (5, .putfield 18, 3, 0, 2, 1, 0, [(0, 11)]), (8, .aload_n 0, 1, 0, 0, 0, 0, []), (9, .aload_n 1, 1, 0, 0, 0, 0, []), (10, .getfield 22, 3, 0, 3, 0, 0, [(0, 42)]), (13, .putfield 22, 3, 0, 3, 0, 0, [(0, 42)]), (16, .aload_n 0, 1, 0, 0, 0, 0, []), (17, .aload_n 1, 1, 0, 0, 0, 0, []), (18, .getfield 26, 3, 0, 4, 0, 0, [(0, 43)]), (21, .putfield 26, 3, 0, 4, 0, 0, [(0, 43)]), (24, .aload_n 0, 1, 0, 0, 0, 0, []), (25, .aload_n 1, 1, 0, 0, 0, 0, []), (26, .getfield 29, 3, 0, 5, 0, 0, [(0, 44)]), (29, .putfield 29, 3, 0, 5, 0, 0, [(0, 44)])],
  [(32, .aload_n 0, 1, 0, 0, 0, 0, []), (33, .aload_n 1, 1, 0, 0, 0, 0, []), (34, .getfield 32, 3, 0, 6, 0, 0, [(0, 45)]), (37, .putfield 32, 3, 0, 6, 0, 0, [(0, 45)]), (40, .aload_n 1, 1, 0, 0, 0, 0, []), (41, .getfield 9, 3, 0, 0, 2, 0, [(0, 9)]), (44, .iconst 0, 1, 0, 0, 0, 0, []), (45, .aload_n 0, 1, 0, 0, 0, 0, []), (46, .getfield 9, 3, 0, 0, 2, 0, [(0, 9)]), (49, .iconst 0, 1, 0, 0, 0, 0, []), (50, .aload_n 1, 1, 0, 0, 0, 0, []), (51, .getfield 32, 3, 0, 6, 0, 0, [(0, 45)]), (54, .invokestatic 56, 3, 1002, 5, 0, 0, [(0, 48)]), (57, .aload_n 1, 1, 0, 0, 0, 0, []), (58, .getfield 15, 3, 0, 1, 2, 0, [(0, 10)]), (61, .iconst 0, 1, 0, 0, 0, 0, []), (62, .aload_n 0, 1, 0, 0, 0, 0, []), (63, .getfield 15, 3, 0, 1, 2, 0, [(0, 10)])],
  [(66, .iconst 0, 1, 0, 0, 0, 0, []), (67, .aload_n 1, 1, 0, 0, 0, 0, []), (68, .getfield 32, 3, 0, 6, 0, 0, [(0, 45)]), (71, .iconst 1, 1, 0, 0, 0, 0, []), (72, .iadd, 1, 0, 0, 0, 0, []), (73, .invokestatic 56, 3, 1002, 5, 0, 0, [(0, 48)]), (76, .return_, 1, 0, 0, 0, 0, [])]]
noncomputable def pm_35 : MR := (1, ⟨"OneAtATime$BitList", "copyFrom", "(LOneAtATime$BitList;)V"⟩, prog_2_method_8_code, 2, none, pgA_35)
set_option maxRecDepth 100000 in
noncomputable def pgA_36 : List (List (Nat × EN)) := [[(0, .iload_n 0, 1, 0, 0, 0, 0, []), (1, .iload_n 1, 1, 0, 0, 0, 0, []), (2, .if_icmp .gt 7, 3, 9, 0, 0, 0, []), (5, .iload_n 0, 1, 0, 0, 0, 0, []), (6, .goto 4, 3, 10, 0, 0, 0, []), (9, .iload_n 1, 1, 0, 0, 0, 0, []), (10, .ireturn, 1, 0, 0, 0, 0, [(0, 0), (0, 1)])]]
noncomputable def pm_36 : MR := (5, ⟨"java/lang/Math", "min", "(II)I"⟩, prog_15_method_69_code, 2, (some (.int)), pgA_36)
set_option maxRecDepth 100000 in
noncomputable def pgA_37 : List (List (Nat × EN)) := [[(0, .iload_n 1, 1, 0, 0, 0, 0, []), (1, .lookupswitch 43 #[(0, 27), (1, 35)], 27, 44, 0, 0, 0, [(0, 28), (1, 36)]), (28, .aload_n 0, 1, 0, 0, 0, 0, []), (29, .getfield 30, 3, 8, 3, 2, 0, [(0, 3)])],
  [(32, .getfield 96, 3, 5, 4, 0, 0, [(0, 48)]), (35, .ireturn, 1, 0, 0, 0, 0, []), (36, .aload_n 0, 1, 0, 0, 0, 0, []), (37, .getfield 30, 3, 8, 3, 2, 0, [(0, 3)]), (40, .getfield 99, 3, 5, 5, 0, 0, [(0, 49)]), (43, .ireturn, 1, 0, 0, 0, 0, []), (44, .iconst (-1), 1, 0, 0, 0, 0, []), (45, .ireturn, 1, 0, 0, 0, 0, [])]]
noncomputable def pm_37 : MR := (0, ⟨"OneAtATime", "fault", "(I)I"⟩, prog_1_method_5_code, 2, (some (.int)), pgA_37)
set_option maxRecDepth 100000 in
noncomputable def pgA_38 : List (List (Nat × EN)) := [[(0, .iload_n 1, 1, 0, 0, 0, 0, []), (1, .tableswitch 63 0 3 #[31, 36, 44, 55], 31, 64, 0, 0, 0, [(0, 32), (1, 37), (2, 45), (3, 56)])],
  [(32, .aload_n 0, 1, 0, 0, 0, 0, []), (33, .invokevirtual 102, 3, 39, 1, 1, 8, [(0, 49)]), (36, .ireturn, 1, 0, 0, 0, 0, []), (37, .aload_n 0, 1, 0, 0, 0, 0, []), (38, .getfield 23, 3, 8, 2, 2, 0, [(0, 2)]), (41, .getfield 106, 3, 3, 3, 0, 0, [(0, 50)]), (44, .ireturn, 1, 0, 0, 0, 0, []), (45, .aload_n 0, 1, 0, 0, 0, 0, []), (46, .getfield 30, 3, 8, 3, 2, 0, [(0, 3)]), (49, .getfield 71, 3, 5, 0, 2, 0, [(0, 36)]), (52, .getfield 81, 3, 1, 1, 0, 0, [(0, 37)]), (55, .ireturn, 1, 0, 0, 0, 0, []), (56, .aload_n 0, 1, 0, 0, 0, 0, []), (57, .getfield 39, 3, 8, 4, 2, 0, [(0, 4)]), (60, .getfield 81, 3, 1, 1, 0, 0, [(0, 37)]), (63, .ireturn, 1, 0, 0, 0, 0, [])],
  [(64, .iconst (-1), 1, 0, 0, 0, 0, []), (65, .ireturn, 1, 0, 0, 0, 0, [])]]
noncomputable def pm_38 : MR := (0, ⟨"OneAtATime", "count", "(I)I"⟩, prog_1_method_6_code, 2, (some (.int)), pgA_38)
set_option maxRecDepth 100000 in
noncomputable def pgA_39 : List (List (Nat × EN)) := [[(0, .iconst 0, 1, 0, 0, 0, 0, []), (1, .istore_n 1, 1, 0, 0, 0, 0, []), (2, .iconst 0, 1, 0, 0, 0, 0, []), (3, .istore_n 2, 1, 0, 0, 0, 0, []), (4, .iload_n 2, 1, 0, 0, 0, 0, []), (5, .iconst 3, 1, 0, 0, 0, 0, []), (6, .if_icmp .ge 27, 3, 33, 0, 0, 0, []), (9, .aload_n 0, 1, 0, 0, 0, 0, []), (10, .getfield 11, 3, 8, 0, 2, 0, [(0, 0)]), (13, .iload_n 2, 1, 0, 0, 0, 0, []), (14, .aaload, 1, 23, 0, 0, 0, []), (15, .getfield 343, 3, 0, 2, 1, 0, [(0, 51)]), (18, .ifCond .eq 9, 3, 27, 0, 0, 0, []), (21, .iload_n 1, 1, 0, 0, 0, 0, []), (22, .iconst 1, 1, 0, 0, 0, 0, []), (23, .iload_n 2, 1, 0, 0, 0, 0, []), (24, .ishl, 1, 0, 0, 0, 0, []), (25, .ior, 1, 0, 0, 0, 0, []), (26, .istore_n 1, 1, 0, 0, 0, 0, []), (27, .iinc 2 1, 3, 0, 0, 0, 0, []), (30, .goto (-26), 3, 4, 0, 0, 0, [])],
  [(33, .iload_n 1, 1, 0, 0, 0, 0, []), (34, .ireturn, 1, 0, 0, 0, 0, [])]]
noncomputable def pm_39 : MR := (0, ⟨"OneAtATime", "slotsAsBits", "()I"⟩, prog_1_method_56_code, 3, (some (.int)), pgA_39)
set_option maxRecDepth 100000 in
noncomputable def pgA_40 : List (List (Nat × EN)) := [[(0, .aload_n 0, 1, 0, 0, 0, 0, []), (1, .iload_n 1, 1, 0, 0, 0, 0, []), (2, .invokevirtual 109, 3, 41, 2, 2, 8, [(0, 50)]), (5, .astore_n 3, 1, 0, 0, 0, 0, []), (6, .aload_n 3, 1, 0, 0, 0, 0, []), (7, .ifnonnull 6, 3, 13, 0, 0, 0, []), (10, .bipush (-2), 2, 0, 0, 0, 0, []), (12, .ireturn, 1, 0, 0, 0, 0, []), (13, .iload_n 2, 1, 0, 0, 0, 0, []), (14, .tableswitch 92 0 7 #[46, 51, 56, 61, 68, 73, 78, 87], 46, 106, 0, 0, 0, [(0, 60), (1, 65), (2, 70), (3, 75), (4, 82), (5, 87), (6, 92), (7, 101)])],
  [(60, .aload_n 3, 1, 0, 0, 0, 0, []), (61, .getfield 113, 3, 0, 3, 0, 0, [(0, 52)])],
  [(64, .ireturn, 1, 0, 0, 0, 0, []), (65, .aload_n 3, 1, 0, 0, 0, 0, []), (66, .getfield 116, 3, 0, 4, 0, 0, [(0, 53)]), (69, .ireturn, 1, 0, 0, 0, 0, []), (70, .aload_n 3, 1, 0, 0, 0, 0, []), (71, .getfield 119, 3, 0, 5, 0, 0, [(0, 54)]), (74, .ireturn, 1, 0, 0, 0, 0, []), (75, .aload_n 3, 1, 0, 0, 0, 0, []), (76, .getfield 122, 3, 0, 1, 2, 0, [(0, 55)]), (79, .iconst 0, 1, 0, 0, 0, 0, []), (80, .iaload, 1, 20, 0, 0, 0, []), (81, .ireturn, 1, 0, 0, 0, 0, []), (82, .aload_n 3, 1, 0, 0, 0, 0, []), (83, .getfield 126, 3, 0, 6, 0, 0, [(0, 47)]), (86, .ireturn, 1, 0, 0, 0, 0, []), (87, .aload_n 3, 1, 0, 0, 0, 0, []), (88, .invokevirtual 129, 3, 42, 1, 1, 0, [(0, 51)]), (91, .ireturn, 1, 0, 0, 0, 0, []), (92, .aload_n 0, 1, 0, 0, 0, 0, []), (93, .getfield 46, 3, 8, 5, 2, 0, [(0, 5)])],
  [(96, .aload_n 3, 1, 0, 0, 0, 0, []), (97, .invokevirtual 132, 3, 44, 2, 1, 7, [(0, 52)]), (100, .ireturn, 1, 0, 0, 0, 0, []), (101, .aload_n 3, 1, 0, 0, 0, 0, []), (102, .invokevirtual 136, 3, 48, 1, 1, 0, [(0, 53)]), (105, .ireturn, 1, 0, 0, 0, 0, []), (106, .bipush (-2), 2, 0, 0, 0, 0, []), (108, .ireturn, 1, 0, 0, 0, 0, [])]]
noncomputable def pm_40 : MR := (0, ⟨"OneAtATime", "look", "(II)I"⟩, prog_1_method_7_code, 4, (some (.int)), pgA_40)
set_option maxRecDepth 100000 in
noncomputable def pgA_41 : List (List (Nat × EN)) := [[(0, .iload_n 1, 1, 0, 0, 0, 0, []), (1, .invokestatic 85, 3, 16, 1, 1, 0, [(0, 23)]), (4, .ifCond .eq 15, 3, 19, 0, 0, 0, []), (7, .aload_n 0, 1, 0, 0, 0, 0, []), (8, .getfield 11, 3, 8, 0, 2, 0, [(0, 0)]), (11, .iload_n 1, 1, 0, 0, 0, 0, []), (12, .aaload, 1, 23, 0, 0, 0, []), (13, .getfield 343, 3, 0, 2, 1, 0, [(0, 51)]), (16, .ifCond .ne 5, 3, 21, 0, 0, 0, []), (19, .aconst_null, 1, 0, 0, 0, 0, [(0, 0), (0, 1)]), (20, .areturn, 1, 0, 0, 0, 0, []), (21, .aload_n 0, 1, 0, 0, 0, 0, []), (22, .getfield 11, 3, 8, 0, 2, 0, [(0, 0)]), (25, .iload_n 1, 1, 0, 0, 0, 0, []), (26, .aaload, 1, 23, 0, 0, 0, []), (27, .areturn, 1, 0, 0, 0, 0, [])]]
noncomputable def pm_41 : MR := (0, ⟨"OneAtATime", "listIn", "(I)LOneAtATime$BitList;"⟩, prog_1_method_55_code, 2, (some (.object "OneAtATime$BitList")), pgA_41)
set_option maxRecDepth 100000 in
noncomputable def pgA_42 : List (List (Nat × EN)) := [[(0, .aload_n 0, 1, 0, 0, 0, 0, []), (1, .invokevirtual 62, 3, 43, 1, 1, 0, [(0, 54)]), (4, .ifCond .eq 10, 3, 14, 0, 0, 0, []), (7, .aload_n 0, 1, 0, 0, 0, 0, []), (8, .getfield 32, 3, 0, 6, 0, 0, [(0, 45)]), (11, .goto 9, 3, 20, 0, 0, 0, []), (14, .aload_n 0, 1, 0, 0, 0, 0, []), (15, .getfield 32, 3, 0, 6, 0, 0, [(0, 45)]), (18, .iconst 1, 1, 0, 0, 0, 0, []), (19, .iadd, 1, 0, 0, 0, 0, []), (20, .ireturn, 1, 0, 0, 0, 0, [(0, 0)])]]
noncomputable def pm_42 : MR := (1, ⟨"OneAtATime$BitList", "shown", "()I"⟩, prog_2_method_12_code, 1, (some (.int)), pgA_42)
set_option maxRecDepth 100000 in
noncomputable def pgA_43 : List (List (Nat × EN)) := [[(0, .aload_n 0, 1, 0, 0, 0, 0, []), (1, .getfield 32, 3, 0, 6, 0, 0, [(0, 45)]), (4, .ifCond .le 25, 3, 29, 0, 0, 0, []), (7, .aload_n 0, 1, 0, 0, 0, 0, []), (8, .getfield 15, 3, 0, 1, 2, 0, [(0, 10)]), (11, .aload_n 0, 1, 0, 0, 0, 0, []), (12, .getfield 32, 3, 0, 6, 0, 0, [(0, 45)]), (15, .iaload, 1, 20, 0, 0, 0, []), (16, .aload_n 0, 1, 0, 0, 0, 0, []), (17, .getfield 15, 3, 0, 1, 2, 0, [(0, 10)]), (20, .iconst 0, 1, 0, 0, 0, 0, []), (21, .iaload, 1, 20, 0, 0, 0, []), (22, .if_icmp .ne 7, 3, 29, 0, 0, 0, []), (25, .iconst 1, 1, 0, 0, 0, 0, []), (26, .goto 4, 3, 30, 0, 0, 0, []), (29, .iconst 0, 1, 0, 0, 0, 0, [(0, 0)]), (30, .ireturn, 1, 1, 0, 0, 0, [(0, 0)])]]
noncomputable def pm_43 : MR := (1, ⟨"OneAtATime$BitList", "comesRound", "()Z"⟩, prog_2_method_11_code, 1, (some (.boolean)), pgA_43)
set_option maxRecDepth 100000 in
noncomputable def pgA_44 : List (List (Nat × EN)) := [[(0, .aload_n 0, 1, 0, 0, 0, 0, []), (1, .aload_n 1, 1, 0, 0, 0, 0, []), (2, .invokevirtual 42, 3, 45, 2, 0, 7, [(0, 55)]), (5, .iconst 0, 1, 0, 0, 0, 0, []), (6, .istore_n 2, 1, 0, 0, 0, 0, []), (7, .iconst 0, 1, 0, 0, 0, 0, []), (8, .istore_n 3, 1, 0, 0, 0, 0, []), (9, .iload_n 3, 1, 0, 0, 0, 0, []), (10, .aload_n 1, 1, 0, 0, 0, 0, []), (11, .invokevirtual 46, 3, 47, 1, 1, 0, [(0, 56)]), (14, .if_icmp .ge 21, 3, 35, 0, 0, 0, []), (17, .aload_n 0, 1, 0, 0, 0, 0, []), (18, .getfield 9, 3, 7, 0, 2, 0, [(0, 21)]), (21, .iload_n 3, 1, 0, 0, 0, 0, []), (22, .iaload, 1, 20, 0, 0, 0, []), (23, .ifCond .le 6, 3, 29, 0, 0, 0, []), (26, .iinc 2 1, 3, 0, 0, 0, 0, []), (29, .iinc 3 1, 3, 0, 0, 0, 0, [])],
  [(32, .goto (-23), 3, 9, 0, 0, 0, []), (35, .iload_n 2, 1, 0, 0, 0, 0, []), (36, .ireturn, 1, 0, 0, 0, 0, [])]]
noncomputable def pm_44 : MR := (6, ⟨"OneAtATime$Survey", "unlikeWords", "(LOneAtATime$BitList;)I"⟩, prog_10_method_3_code, 4, (some (.int)), pgA_44)
set_option maxRecDepth 100000 in
noncomputable def pgA_45 : List (List (Nat × EN)) := [[(0, .aload_n 0, 1, 0, 0, 0, 0, []), (1, .getfield 9, 3, 7, 0, 2, 0, [(0, 21)]), (4, .iconst 0, 1, 0, 0, 0, 0, []), (5, .invokestatic 27, 3, 46, 2, 0, 0, [(0, 57)]), (8, .aload_n 1, 1, 0, 0, 0, 0, []), (9, .invokevirtual 33, 3, 42, 1, 1, 0, [(0, 58)]), (12, .istore_n 2, 1, 0, 0, 0, 0, []), (13, .iconst 0, 1, 0, 0, 0, 0, []), (14, .istore_n 3, 1, 0, 0, 0, 0, []), (15, .iload_n 3, 1, 0, 0, 0, 0, []), (16, .iload_n 2, 1, 0, 0, 0, 0, []), (17, .if_icmp .ge 36, 3, 53, 0, 0, 0, []), (20, .aload_n 0, 1, 0, 0, 0, 0, []), (21, .getfield 9, 3, 7, 0, 2, 0, [(0, 21)]), (24, .aload_n 1, 1, 0, 0, 0, 0, []), (25, .getfield 39, 3, 0, 1, 2, 0, [(0, 56)]), (28, .iload_n 3, 1, 0, 0, 0, 0, []), (29, .iaload, 1, 20, 0, 0, 0, []), (30, .dup2, 1, 0, 0, 0, 0, []), (31, .iaload, 1, 20, 0, 0, 0, [])],
  [(32, .iconst 1, 1, 0, 0, 0, 0, []), (33, .iadd, 1, 0, 0, 0, 0, []), (34, .iastore, 1, 20, 0, 0, 0, []), (35, .aload_n 0, 1, 0, 0, 0, 0, []), (36, .getfield 15, 3, 7, 1, 2, 0, [(0, 22)]), (39, .aload_n 1, 1, 0, 0, 0, 0, []), (40, .getfield 39, 3, 0, 1, 2, 0, [(0, 56)]), (43, .iload_n 3, 1, 0, 0, 0, 0, []), (44, .iaload, 1, 20, 0, 0, 0, []), (45, .iload_n 3, 1, 0, 0, 0, 0, []), (46, .iastore, 1, 20, 0, 0, 0, []), (47, .iinc 3 1, 3, 0, 0, 0, 0, []), (50, .goto (-35), 3, 15, 0, 0, 0, []), (53, .return_, 1, 0, 0, 0, 0, [])]]
noncomputable def pm_45 : MR := (6, ⟨"OneAtATime$Survey", "countShown", "(LOneAtATime$BitList;)V"⟩, prog_10_method_2_code, 4, none, pgA_45)
set_option maxRecDepth 100000 in
noncomputable def pgA_46 : List (List (Nat × EN)) := [[(0, .iconst 0, 1, 0, 0, 0, 0, []), (1, .istore_n 2, 1, 0, 0, 0, 0, []), (2, .aload_n 0, 1, 0, 0, 0, 0, []), (3, .arraylength, 1, 20, 0, 0, 0, []), (4, .istore_n 3, 1, 0, 0, 0, 0, []), (5, .iload_n 2, 1, 0, 0, 0, 0, []), (6, .iload_n 3, 1, 0, 0, 0, 0, []), (7, .if_icmp .ge 13, 3, 20, 0, 0, 0, []), (10, .aload_n 0, 1, 0, 0, 0, 0, []), (11, .iload_n 2, 1, 0, 0, 0, 0, []), (12, .iload_n 1, 1, 0, 0, 0, 0, []), (13, .iastore, 1, 20, 0, 0, 0, []), (14, .iinc 2 1, 3, 0, 0, 0, 0, []), (17, .goto (-12), 3, 5, 0, 0, 0, []), (20, .return_, 1, 0, 0, 0, 0, [])]]
noncomputable def pm_46 : MR := (10, ⟨"java/util/Arrays", "fill", "([II)V"⟩, prog_20_method_103_code, 4, none, pgA_46)
set_option maxRecDepth 100000 in
noncomputable def pgA_47 : List (List (Nat × EN)) := [[(0, .iconst 1, 1, 0, 0, 0, 0, []), (1, .aload_n 0, 1, 0, 0, 0, 0, []), (2, .getfield 22, 3, 0, 3, 0, 0, [(0, 42)]), (5, .ishl, 1, 0, 0, 0, 0, []), (6, .ireturn, 1, 0, 0, 0, 0, [])]]
noncomputable def pm_47 : MR := (1, ⟨"OneAtATime$BitList", "allWords", "()I"⟩, prog_2_method_16_code, 1, (some (.int)), pgA_47)
set_option maxRecDepth 100000 in
noncomputable def pgA_48 : List (List (Nat × EN)) := [[(0, .iconst 0, 1, 0, 0, 0, 0, []), (1, .istore_n 1, 1, 0, 0, 0, 0, []), (2, .iconst 0, 1, 0, 0, 0, 0, []), (3, .istore_n 2, 1, 0, 0, 0, 0, []), (4, .iload_n 2, 1, 0, 0, 0, 0, []), (5, .aload_n 0, 1, 0, 0, 0, 0, []), (6, .invokevirtual 66, 3, 47, 1, 1, 0, [(0, 59)]), (9, .if_icmp .ge 20, 3, 29, 0, 0, 0, []), (12, .aload_n 0, 1, 0, 0, 0, 0, []), (13, .iload_n 2, 1, 0, 0, 0, 0, []), (14, .invokevirtual 76, 3, 49, 2, 1, 0, [(0, 60)]), (17, .ifCond .eq 6, 3, 23, 0, 0, 0, []), (20, .iinc 1 1, 3, 0, 0, 0, 0, []), (23, .iinc 2 1, 3, 0, 0, 0, 0, []), (26, .goto (-22), 3, 4, 0, 0, 0, []), (29, .iload_n 1, 1, 0, 0, 0, 0, []), (30, .ireturn, 1, 0, 0, 0, 0, [])]]
noncomputable def pm_48 : MR := (1, ⟨"OneAtATime$BitList", "scopeSize", "()I"⟩, prog_2_method_18_code, 3, (some (.int)), pgA_48)
set_option maxRecDepth 100000 in
noncomputable def pgA_49 : List (List (Nat × EN)) := [[(0, .iload_n 1, 1, 0, 0, 0, 0, []), (1, .invokestatic 70, 3, 50, 1, 1, 0, [(0, 61)]), (4, .istore_n 2, 1, 0, 0, 0, 0, []), (5, .iload_n 2, 1, 0, 0, 0, 0, []), (6, .aload_n 0, 1, 0, 0, 0, 0, []), (7, .getfield 26, 3, 0, 4, 0, 0, [(0, 43)]), (10, .if_icmp .lt 15, 3, 25, 0, 0, 0, []), (13, .iload_n 2, 1, 0, 0, 0, 0, []), (14, .aload_n 0, 1, 0, 0, 0, 0, []), (15, .getfield 29, 3, 0, 5, 0, 0, [(0, 44)]), (18, .if_icmp .gt 7, 3, 25, 0, 0, 0, []), (21, .iconst 1, 1, 0, 0, 0, 0, []), (22, .goto 4, 3, 26, 0, 0, 0, []), (25, .iconst 0, 1, 0, 0, 0, 0, [(0, 0), (0, 1), (0, 2)]), (26, .ireturn, 1, 1, 0, 0, 0, [(0, 0), (0, 1), (0, 2)])]]
noncomputable def pm_49 : MR := (1, ⟨"OneAtATime$BitList", "inScope", "(I)Z"⟩, prog_2_method_17_code, 3, (some (.boolean)), pgA_49)
set_option maxRecDepth 100000 in
noncomputable def pgA_50 : List (List (Nat × EN)) := [[(0, .iload_n 0, 1, 0, 0, 0, 0, []), (1, .iload_n 0, 1, 0, 0, 0, 0, []), (2, .iconst 1, 1, 0, 0, 0, 0, []), (3, .iushr, 1, 0, 0, 0, 0, []), (4, .ldc_w 265, 3, 1431655765, 0, 0, 0, [(0, 0)]), (7, .iand, 1, 0, 0, 0, 0, []), (8, .isub, 1, 0, 0, 0, 0, []), (9, .istore_n 0, 1, 0, 0, 0, 0, []), (10, .iload_n 0, 1, 0, 0, 0, 0, []), (11, .ldc_w 266, 3, 858993459, 0, 0, 0, [(0, 1)]), (14, .iand, 1, 0, 0, 0, 0, []), (15, .iload_n 0, 1, 0, 0, 0, 0, []), (16, .iconst 2, 1, 0, 0, 0, 0, []), (17, .iushr, 1, 0, 0, 0, 0, []), (18, .ldc_w 266, 3, 858993459, 0, 0, 0, [(0, 1)]), (21, .iand, 1, 0, 0, 0, 0, []), (22, .iadd, 1, 0, 0, 0, 0, []), (23, .istore_n 0, 1, 0, 0, 0, 0, []), (24, .iload_n 0, 1, 0, 0, 0, 0, []), (25, .iload_n 0, 1, 0, 0, 0, 0, []), (26, .iconst 4, 1, 0, 0, 0, 0, []), (27, .iushr, 1, 0, 0, 0, 0, []), (28, .iadd, 1, 0, 0, 0, 0, []), (29, .ldc_w 267, 3, 252645135, 0, 0, 0, [(0, 2)])],
  [(32, .iand, 1, 0, 0, 0, 0, []), (33, .istore_n 0, 1, 0, 0, 0, 0, []), (34, .iload_n 0, 1, 0, 0, 0, 0, []), (35, .iload_n 0, 1, 0, 0, 0, 0, []), (36, .bipush 8, 2, 0, 0, 0, 0, []), (38, .iushr, 1, 0, 0, 0, 0, []), (39, .iadd, 1, 0, 0, 0, 0, []), (40, .istore_n 0, 1, 0, 0, 0, 0, []), (41, .iload_n 0, 1, 0, 0, 0, 0, []), (42, .iload_n 0, 1, 0, 0, 0, 0, []), (43, .bipush 16, 2, 0, 0, 0, 0, []), (45, .iushr, 1, 0, 0, 0, 0, []), (46, .iadd, 1, 0, 0, 0, 0, []), (47, .istore_n 0, 1, 0, 0, 0, 0, []), (48, .iload_n 0, 1, 0, 0, 0, 0, []), (49, .bipush 63, 2, 0, 0, 0, 0, []), (51, .iand, 1, 0, 0, 0, 0, []), (52, .ireturn, 1, 0, 0, 0, 0, [])]]
noncomputable def pm_50 : MR := (11, ⟨"java/lang/Integer", "bitCount", "(I)I"⟩, prog_13_method_49_code, 1, (some (.int)), pgA_50)
set_option maxRecDepth 100000 in
noncomputable def pgA_51 : List (List (Nat × EN)) := [[(0, .aload_n 0, 1, 0, 0, 0, 0, []), (1, .iload_n 1, 1, 0, 0, 0, 0, []), (2, .invokevirtual 109, 3, 41, 2, 2, 8, [(0, 50)]), (5, .astore_n 3, 1, 0, 0, 0, 0, []), (6, .aload_n 3, 1, 0, 0, 0, 0, []), (7, .ifnonnull 6, 3, 13, 0, 0, 0, []), (10, .bipush (-2), 2, 0, 0, 0, 0, []), (12, .ireturn, 1, 0, 0, 0, 0, []), (13, .iload_n 2, 1, 0, 0, 0, 0, []), (14, .tableswitch 110 0 6 #[42, 50, 62, 74, 82, 94, 102], 42, 124, 0, 0, 0, [(0, 56), (1, 64), (2, 76), (3, 88), (4, 96), (5, 108), (6, 116)])],
  [(56, .aload_n 3, 1, 0, 0, 0, 0, []), (57, .invokevirtual 139, 3, 43, 1, 1, 0, [(0, 62)]), (60, .invokestatic 143, 3, 52, 1, 1, 0, [(0, 63)]), (63, .ireturn, 1, 0, 0, 0, 0, [])],
  [(64, .aload_n 0, 1, 0, 0, 0, 0, []), (65, .getfield 46, 3, 8, 5, 2, 0, [(0, 5)]), (68, .aload_n 3, 1, 0, 0, 0, 0, []), (69, .invokevirtual 147, 3, 53, 2, 1, 7, [(0, 64)]), (72, .invokestatic 143, 3, 52, 1, 1, 0, [(0, 63)]), (75, .ireturn, 1, 0, 0, 0, 0, []), (76, .aload_n 0, 1, 0, 0, 0, 0, []), (77, .getfield 46, 3, 8, 5, 2, 0, [(0, 5)]), (80, .aload_n 3, 1, 0, 0, 0, 0, []), (81, .invokevirtual 150, 3, 54, 2, 1, 7, [(0, 65)]), (84, .invokestatic 143, 3, 52, 1, 1, 0, [(0, 63)]), (87, .ireturn, 1, 0, 0, 0, 0, []), (88, .aload_n 3, 1, 0, 0, 0, 0, []), (89, .invokestatic 153, 3, 55, 1, 1, 0, [(0, 66)]), (92, .invokestatic 143, 3, 52, 1, 1, 0, [(0, 63)]), (95, .ireturn, 1, 0, 0, 0, 0, [])],
  [(96, .aload_n 0, 1, 0, 0, 0, 0, []), (97, .getfield 46, 3, 8, 5, 2, 0, [(0, 5)]), (100, .aload_n 3, 1, 0, 0, 0, 0, []), (101, .invokevirtual 156, 3, 57, 2, 1, 7, [(0, 67)]), (104, .invokestatic 143, 3, 52, 1, 1, 0, [(0, 63)]), (107, .ireturn, 1, 0, 0, 0, 0, []), (108, .aload_n 3, 1, 0, 0, 0, 0, []), (109, .invokestatic 159, 3, 60, 1, 1, 0, [(0, 68)]), (112, .invokestatic 143, 3, 52, 1, 1, 0, [(0, 63)]), (115, .ireturn, 1, 0, 0, 0, 0, []), (116, .aload_n 3, 1, 0, 0, 0, 0, []), (117, .invokestatic 162, 3, 61, 1, 1, 0, [(0, 69)]), (120, .invokestatic 143, 3, 52, 1, 1, 0, [(0, 63)]), (123, .ireturn, 1, 0, 0, 0, 0, []), (124, .bipush (-2), 2, 0, 0, 0, 0, []), (126, .ireturn, 1, 0, 0, 0, 0, [])]]
noncomputable def pm_51 : MR := (0, ⟨"OneAtATime", "is", "(II)I"⟩, prog_1_method_8_code, 4, (some (.int)), pgA_51)
set_option maxRecDepth 100000 in
noncomputable def pgA_52 : List (List (Nat × EN)) := [[(0, .iload_n 0, 1, 0, 0, 0, 0, []), (1, .ifCond .eq 7, 3, 8, 0, 0, 0, []), (4, .iconst 1, 1, 0, 0, 0, 0, []), (5, .goto 4, 3, 9, 0, 0, 0, []), (8, .iconst 0, 1, 0, 0, 0, 0, []), (9, .ireturn, 1, 0, 0, 0, 0, [(0, 0)])]]
noncomputable def pm_52 : MR := (0, ⟨"OneAtATime", "asNumber", "(Z)I"⟩, prog_1_method_53_code, 1, (some (.int)), pgA_52)
set_option maxRecDepth 100000 in
noncomputable def pgA_53 : List (List (Nat × EN)) := [[(0, .aload_n 0, 1, 0, 0, 0, 0, []), (1, .aload_n 1, 1, 0, 0, 0, 0, []), (2, .invokevirtual 49, 3, 44, 2, 1, 7, [(0, 70)]), (5, .aload_n 1, 1, 0, 0, 0, 0, []), (6, .invokevirtual 33, 3, 42, 1, 1, 0, [(0, 58)]), (9, .if_icmp .ne 7, 3, 16, 0, 0, 0, []), (12, .iconst 1, 1, 0, 0, 0, 0, []), (13, .goto 4, 3, 17, 0, 0, 0, []), (16, .iconst 0, 1, 0, 0, 0, 0, []), (17, .ireturn, 1, 1, 0, 0, 0, [(0, 0), (0, 1)])]]
noncomputable def pm_53 : MR := (6, ⟨"OneAtATime$Survey", "isClean", "(LOneAtATime$BitList;)Z"⟩, prog_10_method_4_code, 2, (some (.boolean)), pgA_53)
set_option maxRecDepth 100000 in
noncomputable def pgA_54 : List (List (Nat × EN)) := [[(0, .aload_n 0, 1, 0, 0, 0, 0, []), (1, .aload_n 1, 1, 0, 0, 0, 0, []), (2, .invokevirtual 42, 3, 45, 2, 0, 7, [(0, 55)]), (5, .iconst 0, 1, 0, 0, 0, 0, []), (6, .istore_n 2, 1, 0, 0, 0, 0, []), (7, .iload_n 2, 1, 0, 0, 0, 0, []), (8, .aload_n 1, 1, 0, 0, 0, 0, []), (9, .invokevirtual 46, 3, 47, 1, 1, 0, [(0, 56)]), (12, .if_icmp .ge 33, 3, 45, 0, 0, 0, []), (15, .aload_n 0, 1, 0, 0, 0, 0, []), (16, .getfield 9, 3, 7, 0, 2, 0, [(0, 21)]), (19, .iload_n 2, 1, 0, 0, 0, 0, []), (20, .iaload, 1, 20, 0, 0, 0, []), (21, .aload_n 1, 1, 0, 0, 0, 0, []), (22, .iload_n 2, 1, 0, 0, 0, 0, []), (23, .invokevirtual 53, 3, 49, 2, 1, 0, [(0, 71)]), (26, .ifCond .eq 7, 3, 33, 0, 0, 0, []), (29, .iconst 1, 1, 0, 0, 0, 0, []), (30, .goto 4, 3, 34, 0, 0, 0, [])],
  [(33, .iconst 0, 1, 0, 0, 0, 0, []), (34, .if_icmp .eq 5, 3, 39, 0, 0, 0, []), (37, .iconst 0, 1, 0, 0, 0, 0, []), (38, .ireturn, 1, 1, 0, 0, 0, []), (39, .iinc 2 1, 3, 0, 0, 0, 0, []), (42, .goto (-35), 3, 7, 0, 0, 0, []), (45, .iconst 1, 1, 0, 0, 0, 0, []), (46, .ireturn, 1, 1, 0, 0, 0, [])]]
noncomputable def pm_54 : MR := (6, ⟨"OneAtATime$Survey", "isFull", "(LOneAtATime$BitList;)Z"⟩, prog_10_method_5_code, 3, (some (.boolean)), pgA_54)
set_option maxRecDepth 100000 in
noncomputable def pgA_55 : List (List (Nat × EN)) := [[(0, .iconst 0, 1, 0, 0, 0, 0, []), (1, .istore_n 1, 1, 0, 0, 0, 0, []), (2, .iconst 0, 1, 0, 0, 0, 0, []), (3, .istore_n 2, 1, 0, 0, 0, 0, []), (4, .iload_n 2, 1, 0, 0, 0, 0, [(0, 3)]), (5, .aload_n 0, 1, 0, 0, 0, 0, []), (6, .getfield 57, 3, 0, 6, 0, 0, [(0, 57)]), (9, .if_icmp .ge 30, 3, 39, 0, 0, 0, []), (12, .aload_n 0, 1, 0, 0, 0, 0, []), (13, .iload_n 2, 1, 0, 0, 0, 0, []), (14, .invokevirtual 61, 3, 56, 2, 1, 0, [(0, 72)]), (17, .istore_n 3, 1, 0, 0, 0, 0, []), (18, .iload_n 1, 1, 0, 0, 0, 0, []), (19, .iload_n 3, 1, 0, 0, 0, 0, []), (20, .iconst 2, 1, 0, 0, 0, 0, []), (21, .iadd, 1, 0, 0, 0, 0, []), (22, .if_icmp .lt 5, 3, 27, 0, 0, 0, []), (25, .iconst 0, 1, 0, 0, 0, 0, []), (26, .ireturn, 1, 1, 0, 0, 0, []), (27, .iload_n 1, 1, 0, 0, 0, 0, []), (28, .iload_n 3, 1, 0, 0, 0, 0, []), (29, .invokestatic 65, 3, 1004, 2, 1, 0, [(0, 73)])],
  [(32, .istore_n 1, 1, 0, 0, 0, 0, []), (33, .iinc 2 1, 3, 0, 0, 0, 0, []), (36, .goto (-32), 3, 4, 0, 0, 0, []), (39, .iconst 1, 1, 0, 0, 0, 0, []), (40, .ireturn, 1, 1, 0, 0, 0, [])]]
noncomputable def pm_55 : MR := (6, ⟨"OneAtATime$Survey", "isMonotone", "(LOneAtATime$BitList;)Z"⟩, prog_10_method_6_code, 4, (some (.boolean)), pgA_55)
set_option maxRecDepth 100000 in
noncomputable def pgA_56 : List (List (Nat × EN)) := [[(0, .aload_n 0, 1, 0, 0, 0, 0, []), (1, .getfield 15, 3, 0, 1, 2, 0, [(0, 10)]), (4, .iload_n 1, 1, 0, 0, 0, 0, []), (5, .iaload, 1, 20, 0, 0, 0, []), (6, .invokestatic 70, 3, 50, 1, 1, 0, [(0, 61)]), (9, .aload_n 0, 1, 0, 0, 0, 0, []), (10, .getfield 15, 3, 0, 1, 2, 0, [(0, 10)]), (13, .iload_n 1, 1, 0, 0, 0, 0, []), (14, .iconst 1, 1, 0, 0, 0, 0, []), (15, .iadd, 1, 0, 0, 0, 0, []), (16, .iaload, 1, 20, 0, 0, 0, []), (17, .invokestatic 70, 3, 50, 1, 1, 0, [(0, 61)]), (20, .invokestatic 53, 3, 1005, 2, 1, 0, [(0, 74)]), (23, .ireturn, 1, 0, 0, 0, 0, [])]]
noncomputable def pm_56 : MR := (1, ⟨"OneAtATime$BitList", "rungOf", "(I)I"⟩, prog_2_method_21_code, 2, (some (.int)), pgA_56)
set_option maxRecDepth 100000 in
noncomputable def pgA_57 : List (List (Nat × EN)) := [[(0, .aload_n 0, 1, 0, 0, 0, 0, []), (1, .aload_n 1, 1, 0, 0, 0, 0, []), (2, .invokevirtual 71, 3, 53, 2, 1, 7, [(0, 75)]), (5, .ifCond .ne 5, 3, 10, 0, 0, 0, []), (8, .iconst 0, 1, 0, 0, 0, 0, []), (9, .ireturn, 1, 1, 0, 0, 0, []), (10, .aload_n 1, 1, 0, 0, 0, 0, []), (11, .invokevirtual 33, 3, 42, 1, 1, 0, [(0, 58)]), (14, .istore_n 2, 1, 0, 0, 0, 0, []), (15, .iconst 0, 1, 0, 0, 0, 0, []), (16, .istore_n 3, 1, 0, 0, 0, 0, []), (17, .iload_n 3, 1, 0, 0, 0, 0, [(0, 4), (0, 5)]), (18, .iload_n 2, 1, 0, 0, 0, 0, []), (19, .if_icmp .ge 68, 3, 87, 0, 0, 0, []), (22, .iconst 0, 1, 0, 0, 0, 0, []), (23, .istore 4, 2, 0, 0, 0, 0, []), (25, .iload 4, 2, 0, 0, 0, 0, [(0, 5)]), (27, .aload_n 1, 1, 0, 0, 0, 0, []), (28, .getfield 75, 3, 0, 3, 0, 0, [(0, 58)]), (31, .if_icmp .ge 50, 3, 81, 0, 0, 0, [])],
  [(34, .aload_n 1, 1, 0, 0, 0, 0, []), (35, .getfield 39, 3, 0, 1, 2, 0, [(0, 56)]), (38, .iload_n 3, 1, 0, 0, 0, 0, []), (39, .iaload, 1, 20, 0, 0, 0, []), (40, .iconst 1, 1, 0, 0, 0, 0, []), (41, .iload 4, 2, 0, 0, 0, 0, []), (43, .ishl, 1, 0, 0, 0, 0, []), (44, .ixor, 1, 0, 0, 0, 0, []), (45, .istore 5, 2, 0, 0, 0, 0, []), (47, .aload_n 0, 1, 0, 0, 0, 0, []), (48, .getfield 9, 3, 7, 0, 2, 0, [(0, 21)]), (51, .iload 5, 2, 0, 0, 0, 0, []), (53, .iaload, 1, 20, 0, 0, 0, []), (54, .ifCond .le 21, 3, 75, 0, 0, 0, []), (57, .aload_n 1, 1, 0, 0, 0, 0, []), (58, .iload_n 3, 1, 0, 0, 0, 0, []), (59, .aload_n 0, 1, 0, 0, 0, 0, []), (60, .getfield 15, 3, 7, 1, 2, 0, [(0, 22)]), (63, .iload 5, 2, 0, 0, 0, 0, [])],
  [(65, .iaload, 1, 20, 0, 0, 0, []), (66, .invokestatic 78, 3, 58, 3, 1, 0, [(0, 76)]), (69, .iconst 1, 1, 0, 0, 0, 0, []), (70, .if_icmp .le 5, 3, 75, 0, 0, 0, []), (73, .iconst 0, 1, 0, 0, 0, 0, []), (74, .ireturn, 1, 1, 0, 0, 0, []), (75, .iinc 4 1, 3, 0, 0, 0, 0, [(0, 5)]), (78, .goto (-53), 3, 25, 0, 0, 0, []), (81, .iinc 3 1, 3, 0, 0, 0, 0, []), (84, .goto (-67), 3, 17, 0, 0, 0, []), (87, .iconst 1, 1, 0, 0, 0, 0, []), (88, .ireturn, 1, 1, 0, 0, 0, [])]]
noncomputable def pm_57 : MR := (6, ⟨"OneAtATime$Survey", "isSnake", "(LOneAtATime$BitList;)Z"⟩, prog_10_method_7_code, 6, (some (.boolean)), pgA_57)
set_option maxRecDepth 100000 in
noncomputable def pgA_58 : List (List (Nat × EN)) := [[(0, .iload_n 1, 1, 0, 0, 0, 0, []), (1, .iload_n 2, 1, 0, 0, 0, 0, []), (2, .isub, 1, 0, 0, 0, 0, []), (3, .invokestatic 82, 3, 1006, 1, 1, 0, [(0, 77)]), (6, .istore_n 3, 1, 0, 0, 0, 0, []), (7, .aload_n 0, 1, 0, 0, 0, 0, []), (8, .invokevirtual 85, 3, 43, 1, 1, 0, [(0, 78)]), (11, .ifCond .eq 16, 3, 27, 0, 0, 0, []), (14, .iload_n 3, 1, 0, 0, 0, 0, []), (15, .aload_n 0, 1, 0, 0, 0, 0, []), (16, .getfield 57, 3, 0, 6, 0, 0, [(0, 57)]), (19, .iload_n 3, 1, 0, 0, 0, 0, []), (20, .isub, 1, 0, 0, 0, 0, []), (21, .invokestatic 89, 3, 1005, 2, 1, 0, [(0, 79)]), (24, .goto 4, 3, 28, 0, 0, 0, []), (27, .iload_n 3, 1, 0, 0, 0, 0, []), (28, .ireturn, 1, 0, 0, 0, 0, [(0, 0), (0, 1), (0, 2), (0, 3)])]]
noncomputable def pm_58 : MR := (6, ⟨"OneAtATime$Survey", "placesBetween", "(LOneAtATime$BitList;II)I"⟩, prog_10_method_8_code, 4, (some (.int)), pgA_58)
set_option maxRecDepth 100000 in
noncomputable def pgA_59 : List (List (Nat × EN)) := [[(0, .iload_n 0, 1, 0, 0, 0, 0, []), (1, .ifCond .ge 8, 3, 9, 0, 0, 0, []), (4, .iload_n 0, 1, 0, 0, 0, 0, []), (5, .ineg, 1, 0, 0, 0, 0, []), (6, .goto 4, 3, 10, 0, 0, 0, []), (9, .iload_n 0, 1, 0, 0, 0, 0, []), (10, .ireturn, 1, 0, 0, 0, 0, [(0, 0)])]]
noncomputable def pm_59 : MR := (5, ⟨"java/lang/Math", "abs", "(I)I"⟩, prog_15_method_59_code, 1, (some (.int)), pgA_59)
set_option maxRecDepth 100000 in
noncomputable def pgA_60 : List (List (Nat × EN)) := [[(0, .aload_n 0, 1, 0, 0, 0, 0, []), (1, .invokevirtual 85, 3, 43, 1, 1, 0, [(0, 78)]), (4, .ifCond .ne 5, 3, 9, 0, 0, 0, []), (7, .iconst 0, 1, 0, 0, 0, 0, []), (8, .ireturn, 1, 1, 0, 0, 0, []), (9, .aload_n 0, 1, 0, 0, 0, 0, []), (10, .getfield 57, 3, 0, 6, 0, 0, [(0, 57)]), (13, .iconst 2, 1, 0, 0, 0, 0, []), (14, .idiv, 1, 0, 0, 0, 0, []), (15, .istore_n 1, 1, 0, 0, 0, 0, []), (16, .aload_n 0, 1, 0, 0, 0, 0, []), (17, .invokevirtual 46, 3, 47, 1, 1, 0, [(0, 56)]), (20, .iconst 1, 1, 0, 0, 0, 0, []), (21, .isub, 1, 0, 0, 0, 0, []), (22, .istore_n 2, 1, 0, 0, 0, 0, []), (23, .iconst 0, 1, 0, 0, 0, 0, []), (24, .istore_n 3, 1, 0, 0, 0, 0, []), (25, .iload_n 3, 1, 0, 0, 0, 0, []), (26, .iload_n 1, 1, 0, 0, 0, 0, []), (27, .if_icmp .ge 30, 3, 57, 0, 0, 0, []), (30, .aload_n 0, 1, 0, 0, 0, 0, []), (31, .getfield 39, 3, 0, 1, 2, 0, [(0, 56)])],
  [(34, .iload_n 3, 1, 0, 0, 0, 0, []), (35, .iaload, 1, 20, 0, 0, 0, []), (36, .aload_n 0, 1, 0, 0, 0, 0, []), (37, .getfield 39, 3, 0, 1, 2, 0, [(0, 56)]), (40, .iload_n 3, 1, 0, 0, 0, 0, []), (41, .iload_n 1, 1, 0, 0, 0, 0, []), (42, .iadd, 1, 0, 0, 0, 0, []), (43, .iaload, 1, 20, 0, 0, 0, []), (44, .ixor, 1, 0, 0, 0, 0, []), (45, .iload_n 2, 1, 0, 0, 0, 0, []), (46, .if_icmp .eq 5, 3, 51, 0, 0, 0, []), (49, .iconst 0, 1, 0, 0, 0, 0, []), (50, .ireturn, 1, 1, 0, 0, 0, []), (51, .iinc 3 1, 3, 0, 0, 0, 0, []), (54, .goto (-29), 3, 25, 0, 0, 0, []), (57, .iload_n 1, 1, 0, 0, 0, 0, []), (58, .iconst 2, 1, 0, 0, 0, 0, []), (59, .imul, 1, 0, 0, 0, 0, []), (60, .aload_n 0, 1, 0, 0, 0, 0, []), (61, .getfield 57, 3, 0, 6, 0, 0, [(0, 57)])],
  [(64, .if_icmp .ne 7, 3, 71, 0, 0, 0, []), (67, .iconst 1, 1, 0, 0, 0, 0, []), (68, .goto 4, 3, 72, 0, 0, 0, []), (71, .iconst 0, 1, 0, 0, 0, 0, []), (72, .ireturn, 1, 1, 0, 0, 0, [(0, 0), (0, 1), (0, 2), (0, 3)])]]
noncomputable def pm_60 : MR := (6, ⟨"OneAtATime$Survey", "isOpposite", "(LOneAtATime$BitList;)Z"⟩, prog_10_method_9_code, 4, (some (.boolean)), pgA_60)
end
section
set_option maxRecDepth 100000 in
noncomputable def pgA_61 : List (List (Nat × EN)) := [[(0, .aload_n 0, 1, 0, 0, 0, 0, []), (1, .invokevirtual 85, 3, 43, 1, 1, 0, [(0, 78)]), (4, .ifCond .ne 5, 3, 9, 0, 0, 0, []), (7, .iconst 0, 1, 0, 0, 0, 0, []), (8, .ireturn, 1, 1, 0, 0, 0, []), (9, .iconst 0, 1, 0, 0, 0, 0, []), (10, .istore_n 1, 1, 0, 0, 0, 0, []), (11, .iload_n 1, 1, 0, 0, 0, 0, []), (12, .aload_n 0, 1, 0, 0, 0, 0, []), (13, .getfield 75, 3, 0, 3, 0, 0, [(0, 58)]), (16, .if_icmp .ge 20, 3, 36, 0, 0, 0, []), (19, .aload_n 0, 1, 0, 0, 0, 0, []), (20, .iload_n 1, 1, 0, 0, 0, 0, []), (21, .invokestatic 92, 3, 62, 2, 1, 0, [(0, 80)]), (24, .iconst (-1), 1, 0, 0, 0, 0, []), (25, .if_icmp .ne 5, 3, 30, 0, 0, 0, []), (28, .iconst 0, 1, 0, 0, 0, 0, []), (29, .ireturn, 1, 1, 0, 0, 0, []), (30, .iinc 1 1, 3, 0, 0, 0, 0, [])],
  [(33, .goto (-22), 3, 11, 0, 0, 0, []), (36, .iconst 1, 1, 0, 0, 0, 0, []), (37, .ireturn, 1, 1, 0, 0, 0, [])]]
noncomputable def pm_61 : MR := (6, ⟨"OneAtATime$Survey", "isOneTrack", "(LOneAtATime$BitList;)Z"⟩, prog_10_method_10_code, 2, (some (.boolean)), pgA_61)
set_option maxRecDepth 100000 in
noncomputable def pgA_62 : List (List (Nat × EN)) := [[(0, .aload_n 0, 1, 0, 0, 0, 0, []), (1, .invokevirtual 85, 3, 43, 1, 1, 0, [(0, 78)]), (4, .ifCond .ne 5, 3, 9, 0, 0, 0, []), (7, .iconst (-1), 1, 0, 0, 0, 0, []), (8, .ireturn, 1, 0, 0, 0, 0, []), (9, .iconst 0, 1, 0, 0, 0, 0, []), (10, .istore_n 2, 1, 0, 0, 0, 0, []), (11, .iload_n 2, 1, 0, 0, 0, 0, []), (12, .aload_n 0, 1, 0, 0, 0, 0, []), (13, .getfield 57, 3, 0, 6, 0, 0, [(0, 57)]), (16, .if_icmp .ge 20, 3, 36, 0, 0, 0, []), (19, .aload_n 0, 1, 0, 0, 0, 0, []), (20, .iload_n 1, 1, 0, 0, 0, 0, []), (21, .iload_n 2, 1, 0, 0, 0, 0, []), (22, .invokestatic 96, 3, 63, 3, 1, 0, [(0, 81)]), (25, .ifCond .eq 5, 3, 30, 0, 0, 0, []), (28, .iload_n 2, 1, 0, 0, 0, 0, []), (29, .ireturn, 1, 0, 0, 0, 0, []), (30, .iinc 2 1, 3, 0, 0, 0, 0, [])],
  [(33, .goto (-22), 3, 11, 0, 0, 0, []), (36, .iconst (-1), 1, 0, 0, 0, 0, []), (37, .ireturn, 1, 0, 0, 0, 0, [])]]
noncomputable def pm_62 : MR := (6, ⟨"OneAtATime$Survey", "trackShift", "(LOneAtATime$BitList;I)I"⟩, prog_10_method_11_code, 3, (some (.int)), pgA_62)
set_option maxRecDepth 100000 in
noncomputable def pgA_63 : List (List (Nat × EN)) := [[(0, .iload_n 2, 1, 0, 0, 0, 0, []), (1, .istore_n 3, 1, 0, 0, 0, 0, []), (2, .iconst 0, 1, 0, 0, 0, 0, []), (3, .istore 4, 2, 0, 0, 0, 0, []), (5, .iload 4, 2, 0, 0, 0, 0, [(0, 2)]), (7, .aload_n 0, 1, 0, 0, 0, 0, []), (8, .getfield 57, 3, 0, 6, 0, 0, [(0, 57)]), (11, .if_icmp .ge 45, 3, 56, 0, 0, 0, []), (14, .aload_n 0, 1, 0, 0, 0, 0, []), (15, .iload 4, 2, 0, 0, 0, 0, []), (17, .iload_n 1, 1, 0, 0, 0, 0, []), (18, .invokevirtual 100, 3, 64, 3, 1, 0, [(0, 82)]), (21, .aload_n 0, 1, 0, 0, 0, 0, []), (22, .iload_n 3, 1, 0, 0, 0, 0, []), (23, .iconst 0, 1, 0, 0, 0, 0, []), (24, .invokevirtual 100, 3, 64, 3, 1, 0, [(0, 82)]), (27, .if_icmp .eq 5, 3, 32, 0, 0, 0, []), (30, .iconst 0, 1, 0, 0, 0, 0, []), (31, .ireturn, 1, 1, 0, 0, 0, [])],
  [(32, .iload_n 3, 1, 0, 0, 0, 0, []), (33, .iconst 1, 1, 0, 0, 0, 0, []), (34, .iadd, 1, 0, 0, 0, 0, []), (35, .aload_n 0, 1, 0, 0, 0, 0, []), (36, .getfield 57, 3, 0, 6, 0, 0, [(0, 57)]), (39, .if_icmp .lt 7, 3, 46, 0, 0, 0, []), (42, .iconst 0, 1, 0, 0, 0, 0, []), (43, .goto 6, 3, 49, 0, 0, 0, []), (46, .iload_n 3, 1, 0, 0, 0, 0, []), (47, .iconst 1, 1, 0, 0, 0, 0, []), (48, .iadd, 1, 0, 0, 0, 0, []), (49, .istore_n 3, 1, 0, 0, 0, 0, [(0, 2), (0, 3)]), (50, .iinc 4 1, 3, 0, 0, 0, 0, []), (53, .goto (-48), 3, 5, 0, 0, 0, []), (56, .iconst 1, 1, 0, 0, 0, 0, []), (57, .ireturn, 1, 1, 0, 0, 0, [])]]
noncomputable def pm_63 : MR := (6, ⟨"OneAtATime$Survey", "isRolled", "(LOneAtATime$BitList;II)Z"⟩, prog_10_method_12_code, 5, (some (.boolean)), pgA_63)
set_option maxRecDepth 100000 in
noncomputable def pgA_64 : List (List (Nat × EN)) := [[(0, .aload_n 0, 1, 0, 0, 0, 0, []), (1, .getfield 15, 3, 0, 1, 2, 0, [(0, 10)]), (4, .iload_n 1, 1, 0, 0, 0, 0, []), (5, .iaload, 1, 20, 0, 0, 0, []), (6, .iload_n 2, 1, 0, 0, 0, 0, []), (7, .ishr, 1, 0, 0, 0, 0, []), (8, .iconst 1, 1, 0, 0, 0, 0, []), (9, .iand, 1, 0, 0, 0, 0, []), (10, .ireturn, 1, 0, 0, 0, 0, [])]]
noncomputable def pm_64 : MR := (1, ⟨"OneAtATime$BitList", "bitAt", "(II)I"⟩, prog_2_method_20_code, 3, (some (.int)), pgA_64)
set_option maxRecDepth 100000 in
noncomputable def pgA_65 : List (List (Nat × EN)) := [[(0, .aload_n 0, 1, 0, 0, 0, 0, []), (1, .iload_n 1, 1, 0, 0, 0, 0, []), (2, .invokevirtual 109, 3, 41, 2, 2, 8, [(0, 50)]), (5, .astore_n 3, 1, 0, 0, 0, 0, []), (6, .aload_n 3, 1, 0, 0, 0, 0, []), (7, .ifnull 7, 3, 14, 0, 0, 0, []), (10, .iload_n 2, 1, 0, 0, 0, 0, []), (11, .ifCond .ge 6, 3, 17, 0, 0, 0, []), (14, .bipush (-2), 2, 0, 0, 0, 0, [(0, 0), (0, 1), (0, 2), (0, 3)]), (16, .ireturn, 1, 0, 0, 0, 0, []), (17, .iload_n 2, 1, 0, 0, 0, 0, []), (18, .aload_n 3, 1, 0, 0, 0, 0, []), (19, .getfield 126, 3, 0, 6, 0, 0, [(0, 47)]), (22, .if_icmp .le 7, 3, 29, 0, 0, 0, []), (25, .iconst (-1), 1, 0, 0, 0, 0, []), (26, .goto 9, 3, 35, 0, 0, 0, []), (29, .aload_n 3, 1, 0, 0, 0, 0, []), (30, .getfield 122, 3, 0, 1, 2, 0, [(0, 55)])],
  [(33, .iload_n 2, 1, 0, 0, 0, 0, []), (34, .iaload, 1, 20, 0, 0, 0, []), (35, .ireturn, 1, 0, 0, 0, 0, [(0, 0), (0, 1), (0, 2), (0, 3)])]]
noncomputable def pm_65 : MR := (0, ⟨"OneAtATime", "word", "(II)I"⟩, prog_1_method_9_code, 4, (some (.int)), pgA_65)
set_option maxRecDepth 100000 in
noncomputable def pgA_66 : List (List (Nat × EN)) := [[(0, .aload_n 0, 1, 0, 0, 0, 0, []), (1, .iload_n 1, 1, 0, 0, 0, 0, []), (2, .invokevirtual 109, 3, 41, 2, 2, 8, [(0, 50)]), (5, .astore_n 3, 1, 0, 0, 0, 0, []), (6, .aload_n 3, 1, 0, 0, 0, 0, []), (7, .ifnull 7, 3, 14, 0, 0, 0, []), (10, .iload_n 2, 1, 0, 0, 0, 0, []), (11, .ifCond .ge 6, 3, 17, 0, 0, 0, []), (14, .bipush (-2), 2, 0, 0, 0, 0, [(0, 0), (0, 1), (0, 2), (0, 3)]), (16, .ireturn, 1, 0, 0, 0, 0, []), (17, .iload_n 2, 1, 0, 0, 0, 0, []), (18, .aload_n 3, 1, 0, 0, 0, 0, []), (19, .getfield 126, 3, 0, 6, 0, 0, [(0, 47)]), (22, .if_icmp .lt 7, 3, 29, 0, 0, 0, []), (25, .iconst (-1), 1, 0, 0, 0, 0, []), (26, .goto 9, 3, 35, 0, 0, 0, []), (29, .aload_n 3, 1, 0, 0, 0, 0, []), (30, .getfield 165, 3, 0, 0, 2, 0, [(0, 59)])],
  [(33, .iload_n 2, 1, 0, 0, 0, 0, []), (34, .iaload, 1, 20, 0, 0, 0, []), (35, .ireturn, 1, 0, 0, 0, 0, [(0, 0), (0, 1), (0, 2), (0, 3)])]]
noncomputable def pm_66 : MR := (0, ⟨"OneAtATime", "step", "(II)I"⟩, prog_1_method_10_code, 4, (some (.int)), pgA_66)
set_option maxRecDepth 100000 in
noncomputable def pgA_67 : List (List (Nat × EN)) := [[(0, .aload_n 0, 1, 0, 0, 0, 0, []), (1, .iload_n 1, 1, 0, 0, 0, 0, []), (2, .invokevirtual 109, 3, 41, 2, 2, 8, [(0, 50)]), (5, .astore 4, 2, 0, 0, 0, 0, []), (7, .aload 4, 2, 0, 0, 0, 0, []), (9, .ifnull 16, 3, 25, 0, 0, 0, []), (12, .aload 4, 2, 0, 0, 0, 0, []), (14, .iload_n 2, 1, 0, 0, 0, 0, []), (15, .invokevirtual 168, 3, 68, 2, 1, 0, [(0, 83)]), (18, .ifCond .eq 7, 3, 25, 0, 0, 0, []), (21, .iload_n 3, 1, 0, 0, 0, 0, []), (22, .ifCond .ge 6, 3, 28, 0, 0, 0, []), (25, .bipush (-2), 2, 0, 0, 0, 0, [(0, 0), (0, 1), (0, 2), (0, 3), (0, 4), (0, 5), (0, 6), (0, 7)]), (27, .ireturn, 1, 0, 0, 0, 0, []), (28, .aload 4, 2, 0, 0, 0, 0, []), (30, .invokevirtual 129, 3, 42, 1, 1, 0, [(0, 51)])],
  [(33, .istore 5, 2, 0, 0, 0, 0, []), (35, .iload_n 3, 1, 0, 0, 0, 0, []), (36, .istore 6, 2, 0, 0, 0, 0, []), (38, .iconst 0, 1, 0, 0, 0, 0, []), (39, .istore 7, 2, 0, 0, 0, 0, []), (41, .iload 7, 2, 0, 0, 0, 0, [(0, 0), (0, 1), (0, 3)]), (43, .iload 5, 2, 0, 0, 0, 0, []), (45, .if_icmp .ge 32, 3, 77, 0, 0, 0, []), (48, .aload 4, 2, 0, 0, 0, 0, []), (50, .getfield 122, 3, 0, 1, 2, 0, [(0, 55)]), (53, .iload 7, 2, 0, 0, 0, 0, []), (55, .iaload, 1, 20, 0, 0, 0, []), (56, .iload_n 2, 1, 0, 0, 0, 0, []), (57, .if_icmp .ne 14, 3, 71, 0, 0, 0, []), (60, .iload 6, 2, 0, 0, 0, 0, []), (62, .ifCond .ne 6, 3, 68, 0, 0, 0, [])],
  [(65, .iload 7, 2, 0, 0, 0, 0, []), (67, .ireturn, 1, 0, 0, 0, 0, []), (68, .iinc 6 (-1), 3, 0, 0, 0, 0, []), (71, .iinc 7 1, 3, 0, 0, 0, 0, [(0, 0), (0, 1), (0, 3)]), (74, .goto (-33), 3, 41, 0, 0, 0, []), (77, .iconst (-1), 1, 0, 0, 0, 0, []), (78, .ireturn, 1, 0, 0, 0, 0, [])]]
noncomputable def pm_67 : MR := (0, ⟨"OneAtATime", "where", "(III)I"⟩, prog_1_method_11_code, 8, (some (.int)), pgA_67)
set_option maxRecDepth 100000 in
noncomputable def pgA_68 : List (List (Nat × EN)) := [[(0, .iload_n 1, 1, 0, 0, 0, 0, []), (1, .ifCond .lt 15, 3, 16, 0, 0, 0, []), (4, .iload_n 1, 1, 0, 0, 0, 0, []), (5, .aload_n 0, 1, 0, 0, 0, 0, []), (6, .invokevirtual 66, 3, 47, 1, 1, 0, [(0, 59)]), (9, .if_icmp .ge 7, 3, 16, 0, 0, 0, []), (12, .iconst 1, 1, 0, 0, 0, 0, []), (13, .goto 4, 3, 17, 0, 0, 0, []), (16, .iconst 0, 1, 0, 0, 0, 0, [(0, 0), (0, 1)]), (17, .ireturn, 1, 1, 0, 0, 0, [(0, 0), (0, 1)])]]
noncomputable def pm_68 : MR := (1, ⟨"OneAtATime$BitList", "hasWord", "(I)Z"⟩, prog_2_method_14_code, 2, (some (.boolean)), pgA_68)
set_option maxRecDepth 100000 in
noncomputable def pgA_69 : List (List (Nat × EN)) := [[(0, .aload_n 0, 1, 0, 0, 0, 0, []), (1, .iload_n 1, 1, 0, 0, 0, 0, []), (2, .invokevirtual 109, 3, 41, 2, 2, 8, [(0, 50)]), (5, .astore_n 3, 1, 0, 0, 0, 0, []), (6, .aload_n 3, 1, 0, 0, 0, 0, []), (7, .ifnull 7, 3, 14, 0, 0, 0, []), (10, .iload_n 2, 1, 0, 0, 0, 0, []), (11, .ifCond .ge 6, 3, 17, 0, 0, 0, []), (14, .bipush (-2), 2, 0, 0, 0, 0, [(0, 0), (0, 1), (0, 2), (0, 3)]), (16, .ireturn, 1, 0, 0, 0, 0, []), (17, .aload_n 0, 1, 0, 0, 0, 0, []), (18, .getfield 46, 3, 8, 5, 2, 0, [(0, 5)]), (21, .aload_n 3, 1, 0, 0, 0, 0, []), (22, .iload_n 2, 1, 0, 0, 0, 0, []), (23, .invokevirtual 171, 3, 70, 3, 1, 7, [(0, 84)]), (26, .ireturn, 1, 0, 0, 0, 0, [])]]
noncomputable def pm_69 : MR := (0, ⟨"OneAtATime", "lacks", "(II)I"⟩, prog_1_method_12_code, 4, (some (.int)), pgA_69)
set_option maxRecDepth 100000 in
noncomputable def pgA_70 : List (List (Nat × EN)) := [[(0, .aload_n 0, 1, 0, 0, 0, 0, []), (1, .aload_n 1, 1, 0, 0, 0, 0, []), (2, .invokevirtual 42, 3, 45, 2, 0, 7, [(0, 55)]), (5, .iload_n 2, 1, 0, 0, 0, 0, []), (6, .istore_n 3, 1, 0, 0, 0, 0, []), (7, .iconst 0, 1, 0, 0, 0, 0, []), (8, .istore 4, 2, 0, 0, 0, 0, []), (10, .iload 4, 2, 0, 0, 0, 0, [(0, 2)]), (12, .aload_n 1, 1, 0, 0, 0, 0, []), (13, .invokevirtual 46, 3, 47, 1, 1, 0, [(0, 56)]), (16, .if_icmp .ge 38, 3, 54, 0, 0, 0, []), (19, .aload_n 0, 1, 0, 0, 0, 0, []), (20, .getfield 9, 3, 7, 0, 2, 0, [(0, 21)]), (23, .iload 4, 2, 0, 0, 0, 0, []), (25, .iaload, 1, 20, 0, 0, 0, []), (26, .ifCond .ne 22, 3, 48, 0, 0, 0, []), (29, .aload_n 1, 1, 0, 0, 0, 0, []), (30, .iload 4, 2, 0, 0, 0, 0, [])],
  [(32, .invokevirtual 53, 3, 49, 2, 1, 0, [(0, 71)]), (35, .ifCond .eq 13, 3, 48, 0, 0, 0, []), (38, .iload_n 3, 1, 0, 0, 0, 0, []), (39, .ifCond .ne 6, 3, 45, 0, 0, 0, []), (42, .iload 4, 2, 0, 0, 0, 0, []), (44, .ireturn, 1, 0, 0, 0, 0, []), (45, .iinc 3 (-1), 3, 0, 0, 0, 0, []), (48, .iinc 4 1, 3, 0, 0, 0, 0, [(0, 2)]), (51, .goto (-41), 3, 10, 0, 0, 0, []), (54, .iconst (-1), 1, 0, 0, 0, 0, []), (55, .ireturn, 1, 0, 0, 0, 0, [])]]
noncomputable def pm_70 : MR := (6, ⟨"OneAtATime$Survey", "lackedWord", "(LOneAtATime$BitList;I)I"⟩, prog_10_method_13_code, 5, (some (.int)), pgA_70)
set_option maxRecDepth 100000 in
noncomputable def pgA_71 : List (List (Nat × EN)) := [[(0, .aload_n 0, 1, 0, 0, 0, 0, []), (1, .iload_n 1, 1, 0, 0, 0, 0, []), (2, .invokevirtual 109, 3, 41, 2, 2, 8, [(0, 50)]), (5, .astore_n 3, 1, 0, 0, 0, 0, []), (6, .aload_n 3, 1, 0, 0, 0, 0, []), (7, .ifnull 11, 3, 18, 0, 0, 0, []), (10, .aload_n 3, 1, 0, 0, 0, 0, []), (11, .iload_n 2, 1, 0, 0, 0, 0, []), (12, .invokevirtual 175, 3, 30, 2, 1, 0, [(0, 85)]), (15, .ifCond .ne 6, 3, 21, 0, 0, 0, []), (18, .bipush (-2), 2, 0, 0, 0, 0, [(0, 0), (0, 1), (0, 2), (0, 3)]), (20, .ireturn, 1, 0, 0, 0, 0, []), (21, .aload_n 3, 1, 0, 0, 0, 0, []), (22, .iload_n 2, 1, 0, 0, 0, 0, []), (23, .invokevirtual 178, 3, 72, 2, 1, 0, [(0, 86)]), (26, .ireturn, 1, 0, 0, 0, 0, [])]]
noncomputable def pm_71 : MR := (0, ⟨"OneAtATime", "turned", "(II)I"⟩, prog_1_method_13_code, 4, (some (.int)), pgA_71)
set_option maxRecDepth 100000 in
noncomputable def pgA_72 : List (List (Nat × EN)) := [[(0, .iconst 0, 1, 0, 0, 0, 0, []), (1, .istore_n 2, 1, 0, 0, 0, 0, []), (2, .iconst 0, 1, 0, 0, 0, 0, []), (3, .istore_n 3, 1, 0, 0, 0, 0, []), (4, .iload_n 3, 1, 0, 0, 0, 0, []), (5, .aload_n 0, 1, 0, 0, 0, 0, []), (6, .getfield 32, 3, 0, 6, 0, 0, [(0, 45)]), (9, .if_icmp .ge 22, 3, 31, 0, 0, 0, []), (12, .aload_n 0, 1, 0, 0, 0, 0, []), (13, .getfield 9, 3, 0, 0, 2, 0, [(0, 9)]), (16, .iload_n 3, 1, 0, 0, 0, 0, []), (17, .iaload, 1, 20, 0, 0, 0, []), (18, .iload_n 1, 1, 0, 0, 0, 0, []), (19, .if_icmp .ne 6, 3, 25, 0, 0, 0, []), (22, .iinc 2 1, 3, 0, 0, 0, 0, []), (25, .iinc 3 1, 3, 0, 0, 0, 0, []), (28, .goto (-24), 3, 4, 0, 0, 0, []), (31, .iload_n 2, 1, 0, 0, 0, 0, [])],
  [(32, .ireturn, 1, 0, 0, 0, 0, [])]]
noncomputable def pm_72 : MR := (1, ⟨"OneAtATime$BitList", "turnsOf", "(I)I"⟩, prog_2_method_19_code, 4, (some (.int)), pgA_72)
set_option maxRecDepth 100000 in
noncomputable def pgA_73 : List (List (Nat × EN)) := [[(0, .aload_n 0, 1, 0, 0, 0, 0, []), (1, .iload_n 1, 1, 0, 0, 0, 0, []), (2, .invokevirtual 109, 3, 41, 2, 2, 8, [(0, 50)]), (5, .astore_n 3, 1, 0, 0, 0, 0, []), (6, .aload_n 3, 1, 0, 0, 0, 0, []), (7, .ifnull 11, 3, 18, 0, 0, 0, []), (10, .aload_n 3, 1, 0, 0, 0, 0, []), (11, .iload_n 2, 1, 0, 0, 0, 0, []), (12, .invokevirtual 175, 3, 30, 2, 1, 0, [(0, 85)]), (15, .ifCond .ne 6, 3, 21, 0, 0, 0, []), (18, .bipush (-2), 2, 0, 0, 0, 0, [(0, 0), (0, 1), (0, 2), (0, 3)]), (20, .ireturn, 1, 0, 0, 0, 0, []), (21, .aload_n 3, 1, 0, 0, 0, 0, []), (22, .iload_n 2, 1, 0, 0, 0, 0, []), (23, .invokestatic 181, 3, 74, 2, 1, 0, [(0, 87)]), (26, .ireturn, 1, 0, 0, 0, 0, [])]]
noncomputable def pm_73 : MR := (0, ⟨"OneAtATime", "order", "(II)I"⟩, prog_1_method_14_code, 4, (some (.int)), pgA_73)
set_option maxRecDepth 100000 in
noncomputable def pgA_74 : List (List (Nat × EN)) := [[(0, .iconst 0, 1, 0, 0, 0, 0, []), (1, .istore_n 2, 1, 0, 0, 0, 0, []), (2, .iload_n 2, 1, 0, 0, 0, 0, [(0, 3), (0, 4), (0, 5), (0, 6)]), (3, .aload_n 0, 1, 0, 0, 0, 0, []), (4, .getfield 75, 3, 0, 3, 0, 0, [(0, 58)]), (7, .if_icmp .ge 73, 3, 80, 0, 0, 0, []), (10, .aload_n 0, 1, 0, 0, 0, 0, []), (11, .iload_n 2, 1, 0, 0, 0, 0, []), (12, .invokevirtual 103, 3, 72, 2, 1, 0, [(0, 88)]), (15, .istore_n 3, 1, 0, 0, 0, 0, []), (16, .iconst 0, 1, 0, 0, 0, 0, []), (17, .istore 4, 2, 0, 0, 0, 0, []), (19, .iconst 0, 1, 0, 0, 0, 0, []), (20, .istore 5, 2, 0, 0, 0, 0, []), (22, .iload 5, 2, 0, 0, 0, 0, [(0, 6)]), (24, .aload_n 0, 1, 0, 0, 0, 0, []), (25, .getfield 75, 3, 0, 3, 0, 0, [(0, 58)]), (28, .if_icmp .ge 38, 3, 66, 0, 0, 0, []), (31, .aload_n 0, 1, 0, 0, 0, 0, [])],
  [(32, .iload 5, 2, 0, 0, 0, 0, []), (34, .invokevirtual 103, 3, 72, 2, 1, 0, [(0, 88)]), (37, .istore 6, 2, 0, 0, 0, 0, []), (39, .iload 6, 2, 0, 0, 0, 0, []), (41, .iload_n 3, 1, 0, 0, 0, 0, []), (42, .if_icmp .gt 15, 3, 57, 0, 0, 0, []), (45, .iload 6, 2, 0, 0, 0, 0, []), (47, .iload_n 3, 1, 0, 0, 0, 0, []), (48, .if_icmp .ne 12, 3, 60, 0, 0, 0, []), (51, .iload 5, 2, 0, 0, 0, 0, []), (53, .iload_n 2, 1, 0, 0, 0, 0, []), (54, .if_icmp .ge 6, 3, 60, 0, 0, 0, []), (57, .iinc 4 1, 3, 0, 0, 0, 0, [(0, 6)]), (60, .iinc 5 1, 3, 0, 0, 0, 0, [(0, 6)]), (63, .goto (-41), 3, 22, 0, 0, 0, [])],
  [(66, .iload 4, 2, 0, 0, 0, 0, []), (68, .iload_n 1, 1, 0, 0, 0, 0, []), (69, .if_icmp .ne 5, 3, 74, 0, 0, 0, []), (72, .iload_n 2, 1, 0, 0, 0, 0, []), (73, .ireturn, 1, 0, 0, 0, 0, []), (74, .iinc 2 1, 3, 0, 0, 0, 0, []), (77, .goto (-75), 3, 2, 0, 0, 0, []), (80, .iconst (-1), 1, 0, 0, 0, 0, []), (81, .ireturn, 1, 0, 0, 0, 0, [])]]
noncomputable def pm_74 : MR := (6, ⟨"OneAtATime$Survey", "bitByTurns", "(LOneAtATime$BitList;I)I"⟩, prog_10_method_14_code, 7, (some (.int)), pgA_74)
set_option maxRecDepth 100000 in
noncomputable def pgA_75 : List (List (Nat × EN)) := [[(0, .aload_n 0, 1, 0, 0, 0, 0, []), (1, .iload_n 1, 1, 0, 0, 0, 0, []), (2, .invokevirtual 109, 3, 41, 2, 2, 8, [(0, 50)]), (5, .astore_n 2, 1, 0, 0, 0, 0, []), (6, .aload_n 2, 1, 0, 0, 0, 0, []), (7, .ifnonnull 8, 3, 15, 0, 0, 0, []), (10, .bipush (-2), 2, 0, 0, 0, 0, []), (12, .goto 7, 3, 19, 0, 0, 0, []), (15, .aload_n 2, 1, 0, 0, 0, 0, []), (16, .invokestatic 184, 3, 76, 1, 1, 0, [(0, 89)]), (19, .ireturn, 1, 0, 0, 0, 0, [(0, 0), (0, 1), (0, 2)])]]
noncomputable def pm_75 : MR := (0, ⟨"OneAtATime", "uneven", "(I)I"⟩, prog_1_method_15_code, 3, (some (.int)), pgA_75)
set_option maxRecDepth 100000 in
noncomputable def pgA_76 : List (List (Nat × EN)) := [[(0, .iconst 0, 1, 0, 0, 0, 0, []), (1, .istore_n 1, 1, 0, 0, 0, 0, []), (2, .sipush 256, 3, 0, 0, 0, 0, []), (5, .istore_n 2, 1, 0, 0, 0, 0, []), (6, .iconst 0, 1, 0, 0, 0, 0, []), (7, .istore_n 3, 1, 0, 0, 0, 0, []), (8, .iload_n 3, 1, 0, 0, 0, 0, [(0, 4)]), (9, .aload_n 0, 1, 0, 0, 0, 0, []), (10, .getfield 75, 3, 0, 3, 0, 0, [(0, 58)]), (13, .if_icmp .ge 30, 3, 43, 0, 0, 0, []), (16, .aload_n 0, 1, 0, 0, 0, 0, []), (17, .iload_n 3, 1, 0, 0, 0, 0, []), (18, .invokevirtual 103, 3, 72, 2, 1, 0, [(0, 88)]), (21, .istore 4, 2, 0, 0, 0, 0, []), (23, .iload_n 1, 1, 0, 0, 0, 0, []), (24, .iload 4, 2, 0, 0, 0, 0, []), (26, .invokestatic 65, 3, 1004, 2, 1, 0, [(0, 73)]), (29, .istore_n 1, 1, 0, 0, 0, 0, []), (30, .iload_n 2, 1, 0, 0, 0, 0, []), (31, .iload 4, 2, 0, 0, 0, 0, [])],
  [(33, .invokestatic 89, 3, 1005, 2, 1, 0, [(0, 79)]), (36, .istore_n 2, 1, 0, 0, 0, 0, []), (37, .iinc 3 1, 3, 0, 0, 0, 0, []), (40, .goto (-32), 3, 8, 0, 0, 0, []), (43, .iload_n 1, 1, 0, 0, 0, 0, []), (44, .iload_n 2, 1, 0, 0, 0, 0, []), (45, .isub, 1, 0, 0, 0, 0, []), (46, .ireturn, 1, 0, 0, 0, 0, [])]]
noncomputable def pm_76 : MR := (6, ⟨"OneAtATime$Survey", "unevenness", "(LOneAtATime$BitList;)I"⟩, prog_10_method_15_code, 5, (some (.int)), pgA_76)
set_option maxRecDepth 100000 in
noncomputable def pgA_77 : List (List (Nat × EN)) := [[(0, .aload_n 0, 1, 0, 0, 0, 0, []), (1, .iload_n 1, 1, 0, 0, 0, 0, []), (2, .invokevirtual 109, 3, 41, 2, 2, 8, [(0, 50)]), (5, .astore_n 3, 1, 0, 0, 0, 0, []), (6, .aload_n 3, 1, 0, 0, 0, 0, []), (7, .ifnull 16, 3, 23, 0, 0, 0, []), (10, .iload_n 2, 1, 0, 0, 0, 0, []), (11, .iconst (-1), 1, 0, 0, 0, 0, []), (12, .if_icmp .eq 14, 3, 26, 0, 0, 0, []), (15, .aload_n 3, 1, 0, 0, 0, 0, []), (16, .iload_n 2, 1, 0, 0, 0, 0, []), (17, .invokevirtual 175, 3, 30, 2, 1, 0, [(0, 85)]), (20, .ifCond .ne 6, 3, 26, 0, 0, 0, []), (23, .bipush (-2), 2, 0, 0, 0, 0, [(0, 0), (0, 1), (0, 2), (0, 3)]), (25, .ireturn, 1, 0, 0, 0, 0, []), (26, .iload_n 2, 1, 0, 0, 0, 0, [(0, 0), (0, 1)]), (27, .iconst (-1), 1, 0, 0, 0, 0, []), (28, .if_icmp .ne 10, 3, 38, 0, 0, 0, []), (31, .aload_n 3, 1, 0, 0, 0, 0, [])],
  [(32, .invokestatic 187, 3, 78, 1, 1, 0, [(0, 90)]), (35, .goto 8, 3, 43, 0, 0, 0, []), (38, .aload_n 3, 1, 0, 0, 0, 0, []), (39, .iload_n 2, 1, 0, 0, 0, 0, []), (40, .invokestatic 190, 3, 79, 2, 1, 0, [(0, 91)]), (43, .ireturn, 1, 0, 0, 0, 0, [(0, 0), (0, 1), (0, 2), (0, 3)])]]
noncomputable def pm_77 : MR := (0, ⟨"OneAtATime", "gap", "(II)I"⟩, prog_1_method_16_code, 4, (some (.int)), pgA_77)
set_option maxRecDepth 100000 in
noncomputable def pgA_78 : List (List (Nat × EN)) := [[(0, .iconst (-1), 1, 0, 0, 0, 0, []), (1, .istore_n 1, 1, 0, 0, 0, 0, []), (2, .iconst 0, 1, 0, 0, 0, 0, []), (3, .istore_n 2, 1, 0, 0, 0, 0, []), (4, .iload_n 2, 1, 0, 0, 0, 0, []), (5, .aload_n 0, 1, 0, 0, 0, 0, []), (6, .getfield 75, 3, 0, 3, 0, 0, [(0, 58)]), (9, .if_icmp .ge 19, 3, 28, 0, 0, 0, []), (12, .iload_n 1, 1, 0, 0, 0, 0, []), (13, .aload_n 0, 1, 0, 0, 0, 0, []), (14, .iload_n 2, 1, 0, 0, 0, 0, []), (15, .invokestatic 106, 3, 79, 2, 1, 0, [(0, 92)]), (18, .invokestatic 109, 3, 80, 2, 1, 0, [(0, 93)]), (21, .istore_n 1, 1, 0, 0, 0, 0, []), (22, .iinc 2 1, 3, 0, 0, 0, 0, []), (25, .goto (-21), 3, 4, 0, 0, 0, []), (28, .iload_n 1, 1, 0, 0, 0, 0, []), (29, .ireturn, 1, 0, 0, 0, 0, [])]]
noncomputable def pm_78 : MR := (6, ⟨"OneAtATime$Survey", "leastGap", "(LOneAtATime$BitList;)I"⟩, prog_10_method_16_code, 3, (some (.int)), pgA_78)
set_option maxRecDepth 100000 in
noncomputable def pgA_79 : List (List (Nat × EN)) := [[(0, .iconst (-1), 1, 0, 0, 0, 0, []), (1, .istore_n 2, 1, 0, 0, 0, 0, []), (2, .iconst (-1), 1, 0, 0, 0, 0, []), (3, .istore_n 3, 1, 0, 0, 0, 0, []), (4, .iconst (-1), 1, 0, 0, 0, 0, []), (5, .istore 4, 2, 0, 0, 0, 0, []), (7, .iconst 0, 1, 0, 0, 0, 0, []), (8, .istore 5, 2, 0, 0, 0, 0, []), (10, .iload 5, 2, 0, 0, 0, 0, []), (12, .aload_n 0, 1, 0, 0, 0, 0, []), (13, .getfield 57, 3, 0, 6, 0, 0, [(0, 57)]), (16, .if_icmp .ge 45, 3, 61, 0, 0, 0, []), (19, .aload_n 0, 1, 0, 0, 0, 0, []), (20, .getfield 112, 3, 0, 0, 2, 0, [(0, 60)]), (23, .iload 5, 2, 0, 0, 0, 0, []), (25, .iaload, 1, 20, 0, 0, 0, []), (26, .iload_n 1, 1, 0, 0, 0, 0, []), (27, .if_icmp .ne 28, 3, 55, 0, 0, 0, []), (30, .iload_n 3, 1, 0, 0, 0, 0, []), (31, .iconst (-1), 1, 0, 0, 0, 0, [])],
  [(32, .if_icmp .ne 9, 3, 41, 0, 0, 0, []), (35, .iload 5, 2, 0, 0, 0, 0, []), (37, .istore_n 3, 1, 0, 0, 0, 0, []), (38, .goto 13, 3, 51, 0, 0, 0, []), (41, .iload_n 2, 1, 0, 0, 0, 0, []), (42, .iload 5, 2, 0, 0, 0, 0, []), (44, .iload 4, 2, 0, 0, 0, 0, []), (46, .isub, 1, 0, 0, 0, 0, []), (47, .invokestatic 109, 3, 80, 2, 1, 0, [(0, 93)]), (50, .istore_n 2, 1, 0, 0, 0, 0, []), (51, .iload 5, 2, 0, 0, 0, 0, [(0, 4)]), (53, .istore 4, 2, 0, 0, 0, 0, []), (55, .iinc 5 1, 3, 0, 0, 0, 0, []), (58, .goto (-48), 3, 10, 0, 0, 0, []), (61, .iload_n 3, 1, 0, 0, 0, 0, []), (62, .iconst (-1), 1, 0, 0, 0, 0, []), (63, .if_icmp .eq 24, 3, 87, 0, 0, 0, [])],
  [(66, .aload_n 0, 1, 0, 0, 0, 0, []), (67, .invokevirtual 85, 3, 43, 1, 1, 0, [(0, 78)]), (70, .ifCond .eq 17, 3, 87, 0, 0, 0, []), (73, .iload_n 2, 1, 0, 0, 0, 0, []), (74, .iload_n 3, 1, 0, 0, 0, 0, []), (75, .aload_n 0, 1, 0, 0, 0, 0, []), (76, .getfield 57, 3, 0, 6, 0, 0, [(0, 57)]), (79, .iadd, 1, 0, 0, 0, 0, []), (80, .iload 4, 2, 0, 0, 0, 0, []), (82, .isub, 1, 0, 0, 0, 0, []), (83, .invokestatic 109, 3, 80, 2, 1, 0, [(0, 93)]), (86, .istore_n 2, 1, 0, 0, 0, 0, []), (87, .iload_n 2, 1, 0, 0, 0, 0, [(0, 0), (0, 1), (0, 3), (0, 4), (0, 5)]), (88, .ireturn, 1, 0, 0, 0, 0, [])]]
noncomputable def pm_79 : MR := (6, ⟨"OneAtATime$Survey", "gapOf", "(LOneAtATime$BitList;I)I"⟩, prog_10_method_17_code, 6, (some (.int)), pgA_79)
set_option maxRecDepth 100000 in
noncomputable def pgA_80 : List (List (Nat × EN)) := [[(0, .iload_n 0, 1, 0, 0, 0, 0, []), (1, .iconst (-1), 1, 0, 0, 0, 0, []), (2, .if_icmp .ne 5, 3, 7, 0, 0, 0, []), (5, .iload_n 1, 1, 0, 0, 0, 0, []), (6, .ireturn, 1, 0, 0, 0, 0, []), (7, .iload_n 1, 1, 0, 0, 0, 0, []), (8, .iconst (-1), 1, 0, 0, 0, 0, []), (9, .if_icmp .ne 7, 3, 16, 0, 0, 0, []), (12, .iload_n 0, 1, 0, 0, 0, 0, []), (13, .goto 8, 3, 21, 0, 0, 0, []), (16, .iload_n 0, 1, 0, 0, 0, 0, []), (17, .iload_n 1, 1, 0, 0, 0, 0, []), (18, .invokestatic 89, 3, 1005, 2, 1, 0, [(0, 79)]), (21, .ireturn, 1, 0, 0, 0, 0, [(0, 0), (0, 1)])]]
noncomputable def pm_80 : MR := (6, ⟨"OneAtATime$Survey", "lesser", "(II)I"⟩, prog_10_method_18_code, 2, (some (.int)), pgA_80)
set_option maxRecDepth 100000 in
noncomputable def pgA_81 : List (List (Nat × EN)) := [[(0, .aload_n 0, 1, 0, 0, 0, 0, []), (1, .iload_n 1, 1, 0, 0, 0, 0, []), (2, .invokevirtual 109, 3, 41, 2, 2, 8, [(0, 50)]), (5, .astore 4, 2, 0, 0, 0, 0, []), (7, .aload 4, 2, 0, 0, 0, 0, []), (9, .ifnull 19, 3, 28, 0, 0, 0, []), (12, .aload 4, 2, 0, 0, 0, 0, []), (14, .iload_n 2, 1, 0, 0, 0, 0, []), (15, .invokevirtual 175, 3, 30, 2, 1, 0, [(0, 85)]), (18, .ifCond .eq 10, 3, 28, 0, 0, 0, []), (21, .iload_n 3, 1, 0, 0, 0, 0, []), (22, .invokestatic 193, 3, 82, 1, 1, 0, [(0, 94)]), (25, .ifCond .ne 6, 3, 31, 0, 0, 0, []), (28, .bipush (-2), 2, 0, 0, 0, 0, [(0, 0), (0, 1), (0, 2), (0, 3), (0, 4)]), (30, .ireturn, 1, 0, 0, 0, 0, []), (31, .aload 4, 2, 0, 0, 0, 0, [])],
  [(33, .iload_n 2, 1, 0, 0, 0, 0, []), (34, .iload_n 3, 1, 0, 0, 0, 0, []), (35, .invokestatic 196, 3, 83, 3, 1, 0, [(0, 95)]), (38, .ireturn, 1, 0, 0, 0, 0, [])]]
noncomputable def pm_81 : MR := (0, ⟨"OneAtATime", "run", "(III)I"⟩, prog_1_method_17_code, 5, (some (.int)), pgA_81)
set_option maxRecDepth 100000 in
noncomputable def pgA_82 : List (List (Nat × EN)) := [[(0, .iload_n 0, 1, 0, 0, 0, 0, []), (1, .ifCond .eq 8, 3, 9, 0, 0, 0, []), (4, .iload_n 0, 1, 0, 0, 0, 0, []), (5, .iconst 1, 1, 0, 0, 0, 0, []), (6, .if_icmp .ne 7, 3, 13, 0, 0, 0, []), (9, .iconst 1, 1, 0, 0, 0, 0, [(0, 0)]), (10, .goto 4, 3, 14, 0, 0, 0, []), (13, .iconst 0, 1, 0, 0, 0, 0, []), (14, .ireturn, 1, 1, 0, 0, 0, [(0, 0)])]]
noncomputable def pm_82 : MR := (0, ⟨"OneAtATime", "isFlag", "(I)Z"⟩, prog_1_method_52_code, 1, (some (.boolean)), pgA_82)
set_option maxRecDepth 100000 in
noncomputable def pgA_83 : List (List (Nat × EN)) := [[(0, .aload_n 0, 1, 0, 0, 0, 0, []), (1, .invokevirtual 33, 3, 42, 1, 1, 0, [(0, 58)]), (4, .istore_n 3, 1, 0, 0, 0, 0, []), (5, .iconst 0, 1, 0, 0, 0, 0, []), (6, .istore 4, 2, 0, 0, 0, 0, []), (8, .iconst 0, 1, 0, 0, 0, 0, []), (9, .istore 5, 2, 0, 0, 0, 0, []), (11, .aload_n 0, 1, 0, 0, 0, 0, []), (12, .invokevirtual 85, 3, 43, 1, 1, 0, [(0, 78)]), (15, .ifCond .eq 7, 3, 22, 0, 0, 0, []), (18, .iconst 2, 1, 0, 0, 0, 0, []), (19, .goto 4, 3, 23, 0, 0, 0, []), (22, .iconst 1, 1, 0, 0, 0, 0, []), (23, .istore 6, 2, 0, 0, 0, 0, [(0, 6), (0, 7), (0, 8)]), (25, .iconst 0, 1, 0, 0, 0, 0, []), (26, .istore 7, 2, 0, 0, 0, 0, []), (28, .iload 7, 2, 0, 0, 0, 0, [(0, 8)]), (30, .iload 6, 2, 0, 0, 0, 0, [])],
  [(32, .if_icmp .ge 54, 3, 86, 0, 0, 0, []), (35, .iconst 0, 1, 0, 0, 0, 0, []), (36, .istore 8, 2, 0, 0, 0, 0, []), (38, .iload 8, 2, 0, 0, 0, 0, []), (40, .iload_n 3, 1, 0, 0, 0, 0, []), (41, .if_icmp .ge 39, 3, 80, 0, 0, 0, []), (44, .aload_n 0, 1, 0, 0, 0, 0, []), (45, .iload 8, 2, 0, 0, 0, 0, []), (47, .iload_n 1, 1, 0, 0, 0, 0, []), (48, .invokevirtual 100, 3, 64, 3, 1, 0, [(0, 82)]), (51, .iload_n 2, 1, 0, 0, 0, 0, []), (52, .if_icmp .ne 10, 3, 62, 0, 0, 0, []), (55, .iload 5, 2, 0, 0, 0, 0, []), (57, .iconst 1, 1, 0, 0, 0, 0, []), (58, .iadd, 1, 0, 0, 0, 0, []), (59, .goto 4, 3, 63, 0, 0, 0, []), (62, .iconst 0, 1, 0, 0, 0, 0, []), (63, .istore 5, 2, 0, 0, 0, 0, [(0, 5)])],
  [(65, .iload 4, 2, 0, 0, 0, 0, []), (67, .iload 5, 2, 0, 0, 0, 0, []), (69, .invokestatic 65, 3, 1004, 2, 1, 0, [(0, 73)]), (72, .istore 4, 2, 0, 0, 0, 0, []), (74, .iinc 8 1, 3, 0, 0, 0, 0, []), (77, .goto (-39), 3, 38, 0, 0, 0, []), (80, .iinc 7 1, 3, 0, 0, 0, 0, []), (83, .goto (-55), 3, 28, 0, 0, 0, []), (86, .iload 4, 2, 0, 0, 0, 0, []), (88, .iload_n 3, 1, 0, 0, 0, 0, []), (89, .invokestatic 89, 3, 1005, 2, 1, 0, [(0, 79)]), (92, .ireturn, 1, 0, 0, 0, 0, [])]]
noncomputable def pm_83 : MR := (6, ⟨"OneAtATime$Survey", "longestRow", "(LOneAtATime$BitList;II)I"⟩, prog_10_method_19_code, 9, (some (.int)), pgA_83)
set_option maxRecDepth 100000 in
noncomputable def pgA_84 : List (List (Nat × EN)) := [[(0, .aload_n 0, 1, 0, 0, 0, 0, []), (1, .iload_n 1, 1, 0, 0, 0, 0, []), (2, .invokevirtual 109, 3, 41, 2, 2, 8, [(0, 50)]), (5, .astore 4, 2, 0, 0, 0, 0, []), (7, .aload 4, 2, 0, 0, 0, 0, []), (9, .ifnull 19, 3, 28, 0, 0, 0, []), (12, .aload 4, 2, 0, 0, 0, 0, []), (14, .iload_n 2, 1, 0, 0, 0, 0, []), (15, .invokevirtual 175, 3, 30, 2, 1, 0, [(0, 85)]), (18, .ifCond .eq 10, 3, 28, 0, 0, 0, []), (21, .iload_n 3, 1, 0, 0, 0, 0, []), (22, .invokestatic 193, 3, 82, 1, 1, 0, [(0, 94)]), (25, .ifCond .ne 6, 3, 31, 0, 0, 0, []), (28, .bipush (-2), 2, 0, 0, 0, 0, [(0, 0), (0, 1), (0, 2), (0, 3), (0, 4)]), (30, .ireturn, 1, 0, 0, 0, 0, []), (31, .aload 4, 2, 0, 0, 0, 0, [])],
  [(33, .iload_n 2, 1, 0, 0, 0, 0, []), (34, .iload_n 3, 1, 0, 0, 0, 0, []), (35, .invokestatic 200, 3, 85, 3, 1, 0, [(0, 96)]), (38, .ireturn, 1, 0, 0, 0, 0, [])]]
noncomputable def pm_84 : MR := (0, ⟨"OneAtATime", "parts", "(III)I"⟩, prog_1_method_18_code, 5, (some (.int)), pgA_84)
set_option maxRecDepth 100000 in
noncomputable def pgA_85 : List (List (Nat × EN)) := [[(0, .aload_n 0, 1, 0, 0, 0, 0, []), (1, .invokevirtual 33, 3, 42, 1, 1, 0, [(0, 58)]), (4, .istore_n 3, 1, 0, 0, 0, 0, []), (5, .iconst 0, 1, 0, 0, 0, 0, []), (6, .istore 4, 2, 0, 0, 0, 0, []), (8, .iconst 0, 1, 0, 0, 0, 0, []), (9, .istore 5, 2, 0, 0, 0, 0, []), (11, .iload 5, 2, 0, 0, 0, 0, [(0, 6)]), (13, .iload_n 3, 1, 0, 0, 0, 0, []), (14, .if_icmp .ge 53, 3, 67, 0, 0, 0, []), (17, .iload 5, 2, 0, 0, 0, 0, []), (19, .ifCond .eq 16, 3, 35, 0, 0, 0, []), (22, .aload_n 0, 1, 0, 0, 0, 0, []), (23, .iload 5, 2, 0, 0, 0, 0, []), (25, .iconst 1, 1, 0, 0, 0, 0, []), (26, .isub, 1, 0, 0, 0, 0, []), (27, .iload_n 1, 1, 0, 0, 0, 0, []), (28, .invokevirtual 100, 3, 64, 3, 1, 0, [(0, 82)]), (31, .iload_n 2, 1, 0, 0, 0, 0, [])],
  [(32, .if_icmp .eq 7, 3, 39, 0, 0, 0, []), (35, .iconst 1, 1, 0, 0, 0, 0, [(0, 6)]), (36, .goto 4, 3, 40, 0, 0, 0, []), (39, .iconst 0, 1, 0, 0, 0, 0, []), (40, .istore 6, 2, 0, 0, 0, 0, [(0, 6)]), (42, .iload 6, 2, 0, 0, 0, 0, []), (44, .ifCond .eq 17, 3, 61, 0, 0, 0, []), (47, .aload_n 0, 1, 0, 0, 0, 0, []), (48, .iload 5, 2, 0, 0, 0, 0, []), (50, .iload_n 1, 1, 0, 0, 0, 0, []), (51, .invokevirtual 100, 3, 64, 3, 1, 0, [(0, 82)]), (54, .iload_n 2, 1, 0, 0, 0, 0, []), (55, .if_icmp .ne 6, 3, 61, 0, 0, 0, []), (58, .iinc 4 1, 3, 0, 0, 0, 0, []), (61, .iinc 5 1, 3, 0, 0, 0, 0, [(0, 6)])],
  [(64, .goto (-53), 3, 11, 0, 0, 0, []), (67, .aload_n 0, 1, 0, 0, 0, 0, []), (68, .invokevirtual 85, 3, 43, 1, 1, 0, [(0, 78)]), (71, .ifCond .eq 29, 3, 100, 0, 0, 0, []), (74, .aload_n 0, 1, 0, 0, 0, 0, []), (75, .iconst 0, 1, 0, 0, 0, 0, []), (76, .iload_n 1, 1, 0, 0, 0, 0, []), (77, .invokevirtual 100, 3, 64, 3, 1, 0, [(0, 82)]), (80, .iload_n 2, 1, 0, 0, 0, 0, []), (81, .if_icmp .ne 19, 3, 100, 0, 0, 0, []), (84, .aload_n 0, 1, 0, 0, 0, 0, []), (85, .iload_n 3, 1, 0, 0, 0, 0, []), (86, .iconst 1, 1, 0, 0, 0, 0, []), (87, .isub, 1, 0, 0, 0, 0, []), (88, .iload_n 1, 1, 0, 0, 0, 0, []), (89, .invokevirtual 100, 3, 64, 3, 1, 0, [(0, 82)]), (92, .iload_n 2, 1, 0, 0, 0, 0, []), (93, .if_icmp .ne 7, 3, 100, 0, 0, 0, [])],
  [(96, .iconst 1, 1, 0, 0, 0, 0, []), (97, .goto 4, 3, 101, 0, 0, 0, []), (100, .iconst 0, 1, 0, 0, 0, 0, [(0, 0), (0, 1), (0, 2), (0, 3), (0, 5), (0, 6)]), (101, .istore 5, 2, 0, 0, 0, 0, [(0, 0), (0, 1), (0, 2), (0, 3), (0, 5), (0, 6)]), (103, .iload 5, 2, 0, 0, 0, 0, []), (105, .ifCond .eq 16, 3, 121, 0, 0, 0, []), (108, .iload 4, 2, 0, 0, 0, 0, []), (110, .iconst 1, 1, 0, 0, 0, 0, []), (111, .if_icmp .le 10, 3, 121, 0, 0, 0, []), (114, .iload 4, 2, 0, 0, 0, 0, []), (116, .iconst 1, 1, 0, 0, 0, 0, []), (117, .isub, 1, 0, 0, 0, 0, []), (118, .goto 5, 3, 123, 0, 0, 0, []), (121, .iload 4, 2, 0, 0, 0, 0, [(0, 0), (0, 1), (0, 2), (0, 3), (0, 5), (0, 6)]), (123, .ireturn, 1, 0, 0, 0, 0, [(0, 0), (0, 1), (0, 2), (0, 3), (0, 4), (0, 5), (0, 6)])]]
noncomputable def pm_85 : MR := (6, ⟨"OneAtATime$Survey", "rowsOf", "(LOneAtATime$BitList;II)I"⟩, prog_10_method_20_code, 7, (some (.int)), pgA_85)
set_option maxRecDepth 100000 in
noncomputable def pgA_86 : List (List (Nat × EN)) := [[(0, .aload_n 0, 1, 0, 0, 0, 0, []), (1, .iload_n 1, 1, 0, 0, 0, 0, []), (2, .invokevirtual 109, 3, 41, 2, 2, 8, [(0, 50)]), (5, .astore 4, 2, 0, 0, 0, 0, []), (7, .aload 4, 2, 0, 0, 0, 0, []), (9, .ifnull 23, 3, 32, 0, 0, 0, []), (12, .iload_n 2, 1, 0, 0, 0, 0, []), (13, .ifCond .lt 19, 3, 32, 0, 0, 0, []), (16, .iload_n 2, 1, 0, 0, 0, 0, []), (17, .aload 4, 2, 0, 0, 0, 0, []), (19, .getfield 113, 3, 0, 3, 0, 0, [(0, 52)]), (22, .if_icmp .gt 10, 3, 32, 0, 0, 0, []), (25, .iload_n 3, 1, 0, 0, 0, 0, []), (26, .invokestatic 193, 3, 82, 1, 1, 0, [(0, 94)]), (29, .ifCond .ne 6, 3, 35, 0, 0, 0, [])],
  [(32, .bipush (-2), 2, 0, 0, 0, 0, [(0, 0), (0, 1), (0, 2), (0, 3), (0, 4)]), (34, .ireturn, 1, 0, 0, 0, 0, []), (35, .aload 4, 2, 0, 0, 0, 0, []), (37, .iload_n 2, 1, 0, 0, 0, 0, []), (38, .iload_n 3, 1, 0, 0, 0, 0, []), (39, .iconst 1, 1, 0, 0, 0, 0, []), (40, .if_icmp .ne 7, 3, 47, 0, 0, 0, []), (43, .iconst 1, 1, 0, 0, 0, 0, []), (44, .goto 4, 3, 48, 0, 0, 0, []), (47, .iconst 0, 1, 0, 0, 0, 0, []), (48, .invokestatic 203, 3, 87, 3, 1, 0, [(0, 97)]), (51, .ireturn, 1, 0, 0, 0, 0, [])]]
noncomputable def pm_86 : MR := (0, ⟨"OneAtATime", "level", "(III)I"⟩, prog_1_method_19_code, 5, (some (.int)), pgA_86)
set_option maxRecDepth 100000 in
noncomputable def pgA_87 : List (List (Nat × EN)) := [[(0, .aload_n 0, 1, 0, 0, 0, 0, []), (1, .invokevirtual 33, 3, 42, 1, 1, 0, [(0, 58)]), (4, .istore_n 3, 1, 0, 0, 0, 0, []), (5, .iconst (-1), 1, 0, 0, 0, 0, []), (6, .istore 4, 2, 0, 0, 0, 0, []), (8, .iconst 0, 1, 0, 0, 0, 0, []), (9, .istore 5, 2, 0, 0, 0, 0, []), (11, .iload 5, 2, 0, 0, 0, 0, []), (13, .iload_n 3, 1, 0, 0, 0, 0, []), (14, .if_icmp .ge 37, 3, 51, 0, 0, 0, []), (17, .aload_n 0, 1, 0, 0, 0, 0, []), (18, .getfield 39, 3, 0, 1, 2, 0, [(0, 56)]), (21, .iload 5, 2, 0, 0, 0, 0, []), (23, .iaload, 1, 20, 0, 0, 0, []), (24, .invokestatic 115, 3, 50, 1, 1, 0, [(0, 98)]), (27, .iload_n 1, 1, 0, 0, 0, 0, []), (28, .if_icmp .ne 17, 3, 45, 0, 0, 0, []), (31, .iload_n 2, 1, 0, 0, 0, 0, [])],
  [(32, .ifCond .ne 9, 3, 41, 0, 0, 0, []), (35, .iload 4, 2, 0, 0, 0, 0, []), (37, .iconst (-1), 1, 0, 0, 0, 0, []), (38, .if_icmp .ne 7, 3, 45, 0, 0, 0, []), (41, .iload 5, 2, 0, 0, 0, 0, [(0, 4)]), (43, .istore 4, 2, 0, 0, 0, 0, []), (45, .iinc 5 1, 3, 0, 0, 0, 0, []), (48, .goto (-37), 3, 11, 0, 0, 0, []), (51, .iload 4, 2, 0, 0, 0, 0, []), (53, .ireturn, 1, 0, 0, 0, 0, [])]]
noncomputable def pm_87 : MR := (6, ⟨"OneAtATime$Survey", "placeOfLevel", "(LOneAtATime$BitList;IZ)I"⟩, prog_10_method_21_code, 6, (some (.int)), pgA_87)
set_option maxRecDepth 100000 in
noncomputable def pgA_88 : List (List (Nat × EN)) := [[(0, .aload_n 0, 1, 0, 0, 0, 0, []), (1, .iload_n 1, 1, 0, 0, 0, 0, []), (2, .invokevirtual 109, 3, 41, 2, 2, 8, [(0, 50)]), (5, .astore_n 3, 1, 0, 0, 0, 0, []), (6, .aload_n 0, 1, 0, 0, 0, 0, []), (7, .iload_n 2, 1, 0, 0, 0, 0, []), (8, .invokevirtual 109, 3, 41, 2, 2, 8, [(0, 50)]), (11, .astore 4, 2, 0, 0, 0, 0, []), (13, .aload_n 3, 1, 0, 0, 0, 0, []), (14, .ifnull 8, 3, 22, 0, 0, 0, []), (17, .aload 4, 2, 0, 0, 0, 0, []), (19, .ifnonnull 6, 3, 25, 0, 0, 0, []), (22, .bipush (-2), 2, 0, 0, 0, 0, [(0, 0), (0, 1), (0, 2), (0, 3), (0, 4), (0, 5), (0, 6), (0, 7)]), (24, .ireturn, 1, 0, 0, 0, 0, []), (25, .aload_n 3, 1, 0, 0, 0, 0, []), (26, .getfield 126, 3, 0, 6, 0, 0, [(0, 47)]), (29, .aload 4, 2, 0, 0, 0, 0, []), (31, .getfield 126, 3, 0, 6, 0, 0, [(0, 47)])],
  [(34, .invokestatic 207, 3, 1005, 2, 1, 0, [(0, 99)]), (37, .istore 5, 2, 0, 0, 0, 0, []), (39, .iconst 0, 1, 0, 0, 0, 0, []), (40, .istore 6, 2, 0, 0, 0, 0, []), (42, .iconst 0, 1, 0, 0, 0, 0, []), (43, .istore 7, 2, 0, 0, 0, 0, []), (45, .iload 7, 2, 0, 0, 0, 0, [(0, 0), (0, 1), (0, 2)]), (47, .iload 5, 2, 0, 0, 0, 0, []), (49, .if_icmp .gt 30, 3, 79, 0, 0, 0, []), (52, .aload_n 3, 1, 0, 0, 0, 0, []), (53, .getfield 122, 3, 0, 1, 2, 0, [(0, 55)]), (56, .iload 7, 2, 0, 0, 0, 0, []), (58, .iaload, 1, 20, 0, 0, 0, []), (59, .aload 4, 2, 0, 0, 0, 0, []), (61, .getfield 122, 3, 0, 1, 2, 0, [(0, 55)])],
  [(64, .iload 7, 2, 0, 0, 0, 0, []), (66, .iaload, 1, 20, 0, 0, 0, []), (67, .if_icmp .ne 6, 3, 73, 0, 0, 0, []), (70, .iinc 6 1, 3, 0, 0, 0, 0, []), (73, .iinc 7 1, 3, 0, 0, 0, 0, [(0, 0), (0, 1), (0, 2)]), (76, .goto (-31), 3, 45, 0, 0, 0, []), (79, .iload 6, 2, 0, 0, 0, 0, []), (81, .ireturn, 1, 0, 0, 0, 0, [])]]
noncomputable def pm_88 : MR := (0, ⟨"OneAtATime", "same", "(II)I"⟩, prog_1_method_20_code, 8, (some (.int)), pgA_88)
set_option maxRecDepth 100000 in
noncomputable def pgA_89 : List (List (Nat × EN)) := [[(0, .aload_n 0, 1, 0, 0, 0, 0, []), (1, .iload_n 1, 1, 0, 0, 0, 0, []), (2, .invokevirtual 109, 3, 41, 2, 2, 8, [(0, 50)]), (5, .astore_n 3, 1, 0, 0, 0, 0, []), (6, .aload_n 3, 1, 0, 0, 0, 0, []), (7, .ifnull 11, 3, 18, 0, 0, 0, []), (10, .aload_n 3, 1, 0, 0, 0, 0, []), (11, .iload_n 2, 1, 0, 0, 0, 0, []), (12, .invokevirtual 175, 3, 30, 2, 1, 0, [(0, 85)]), (15, .ifCond .ne 6, 3, 21, 0, 0, 0, []), (18, .bipush (-2), 2, 0, 0, 0, 0, [(0, 0), (0, 1), (0, 2), (0, 3)]), (20, .ireturn, 1, 0, 0, 0, 0, []), (21, .aload_n 3, 1, 0, 0, 0, 0, []), (22, .iload_n 2, 1, 0, 0, 0, 0, []), (23, .invokestatic 213, 3, 62, 2, 1, 0, [(0, 100)]), (26, .ireturn, 1, 0, 0, 0, 0, [])]]
noncomputable def pm_89 : MR := (0, ⟨"OneAtATime", "shift", "(II)I"⟩, prog_1_method_21_code, 4, (some (.int)), pgA_89)
set_option maxRecDepth 100000 in
noncomputable def pgA_90 : List (List (Nat × EN)) := [[(0, .aload_n 0, 1, 0, 0, 0, 0, []), (1, .iload_n 1, 1, 0, 0, 0, 0, []), (2, .invokevirtual 109, 3, 41, 2, 2, 8, [(0, 50)]), (5, .astore 4, 2, 0, 0, 0, 0, []), (7, .aload 4, 2, 0, 0, 0, 0, []), (9, .ifnull 21, 3, 30, 0, 0, 0, []), (12, .aload 4, 2, 0, 0, 0, 0, []), (14, .iload_n 2, 1, 0, 0, 0, 0, []), (15, .invokevirtual 216, 3, 91, 2, 1, 0, [(0, 101)]), (18, .ifCond .eq 12, 3, 30, 0, 0, 0, []), (21, .aload 4, 2, 0, 0, 0, 0, []), (23, .iload_n 3, 1, 0, 0, 0, 0, []), (24, .invokevirtual 216, 3, 91, 2, 1, 0, [(0, 101)]), (27, .ifCond .ne 6, 3, 33, 0, 0, 0, []), (30, .bipush (-2), 2, 0, 0, 0, 0, [(0, 0), (0, 1), (0, 2), (0, 3), (0, 4)])],
  [(32, .ireturn, 1, 0, 0, 0, 0, []), (33, .aload 4, 2, 0, 0, 0, 0, []), (35, .getfield 122, 3, 0, 1, 2, 0, [(0, 55)]), (38, .iload_n 2, 1, 0, 0, 0, 0, []), (39, .iaload, 1, 20, 0, 0, 0, []), (40, .aload 4, 2, 0, 0, 0, 0, []), (42, .getfield 122, 3, 0, 1, 2, 0, [(0, 55)]), (45, .iload_n 3, 1, 0, 0, 0, 0, []), (46, .iaload, 1, 20, 0, 0, 0, []), (47, .ixor, 1, 0, 0, 0, 0, []), (48, .invokestatic 219, 3, 50, 1, 1, 0, [(0, 102)]), (51, .ireturn, 1, 0, 0, 0, 0, [])]]
noncomputable def pm_90 : MR := (0, ⟨"OneAtATime", "apart", "(III)I"⟩, prog_1_method_22_code, 5, (some (.int)), pgA_90)
set_option maxRecDepth 100000 in
noncomputable def pgA_91 : List (List (Nat × EN)) := [[(0, .iload_n 1, 1, 0, 0, 0, 0, []), (1, .ifCond .lt 15, 3, 16, 0, 0, 0, []), (4, .iload_n 1, 1, 0, 0, 0, 0, []), (5, .aload_n 0, 1, 0, 0, 0, 0, []), (6, .getfield 32, 3, 0, 6, 0, 0, [(0, 45)]), (9, .if_icmp .gt 7, 3, 16, 0, 0, 0, []), (12, .iconst 1, 1, 0, 0, 0, 0, []), (13, .goto 4, 3, 17, 0, 0, 0, []), (16, .iconst 0, 1, 0, 0, 0, 0, [(0, 0), (0, 1)]), (17, .ireturn, 1, 1, 0, 0, 0, [(0, 0), (0, 1)])]]
noncomputable def pm_91 : MR := (1, ⟨"OneAtATime$BitList", "hasPlace", "(I)Z"⟩, prog_2_method_15_code, 2, (some (.boolean)), pgA_91)
set_option maxRecDepth 100000 in
noncomputable def pgA_92 : List (List (Nat × EN)) := [[(0, .aload_n 0, 1, 0, 0, 0, 0, []), (1, .iload_n 1, 1, 0, 0, 0, 0, []), (2, .invokevirtual 109, 3, 41, 2, 2, 8, [(0, 50)]), (5, .astore_n 2, 1, 0, 0, 0, 0, []), (6, .aload_n 2, 1, 0, 0, 0, 0, []), (7, .ifnonnull 8, 3, 15, 0, 0, 0, []), (10, .bipush (-2), 2, 0, 0, 0, 0, []), (12, .goto 11, 3, 23, 0, 0, 0, []), (15, .aload_n 0, 1, 0, 0, 0, 0, []), (16, .getfield 46, 3, 8, 5, 2, 0, [(0, 5)]), (19, .aload_n 2, 1, 0, 0, 0, 0, []), (20, .invokevirtual 224, 3, 93, 2, 1, 7, [(0, 103)]), (23, .ireturn, 1, 0, 0, 0, 0, [(0, 0), (0, 1), (0, 2)])]]
noncomputable def pm_92 : MR := (0, ⟨"OneAtATime", "spread", "(I)I"⟩, prog_1_method_23_code, 3, (some (.int)), pgA_92)
set_option maxRecDepth 100000 in
noncomputable def pgA_93 : List (List (Nat × EN)) := [[(0, .aload_n 0, 1, 0, 0, 0, 0, []), (1, .aload_n 1, 1, 0, 0, 0, 0, []), (2, .invokevirtual 71, 3, 53, 2, 1, 7, [(0, 75)]), (5, .ifCond .ne 5, 3, 10, 0, 0, 0, []), (8, .iconst (-1), 1, 0, 0, 0, 0, []), (9, .ireturn, 1, 0, 0, 0, 0, []), (10, .aload_n 0, 1, 0, 0, 0, 0, []), (11, .aload_n 1, 1, 0, 0, 0, 0, []), (12, .invokevirtual 120, 3, 94, 2, 0, 7, [(0, 104)]), (15, .aload_n 1, 1, 0, 0, 0, 0, []), (16, .getfield 75, 3, 0, 3, 0, 0, [(0, 58)]), (19, .istore_n 2, 1, 0, 0, 0, 0, []), (20, .iload_n 2, 1, 0, 0, 0, 0, [(0, 1)]), (21, .iconst 1, 1, 0, 0, 0, 0, []), (22, .if_icmp .le 19, 3, 41, 0, 0, 0, []), (25, .aload_n 0, 1, 0, 0, 0, 0, []), (26, .iload_n 2, 1, 0, 0, 0, 0, []), (27, .invokevirtual 123, 3, 95, 2, 1, 7, [(0, 105)]), (30, .ifCond .eq 5, 3, 35, 0, 0, 0, [])],
  [(33, .iload_n 2, 1, 0, 0, 0, 0, []), (34, .ireturn, 1, 0, 0, 0, 0, []), (35, .iinc 2 (-1), 3, 0, 0, 0, 0, []), (38, .goto (-18), 3, 20, 0, 0, 0, []), (41, .iconst 1, 1, 0, 0, 0, 0, []), (42, .ireturn, 1, 0, 0, 0, 0, [])]]
noncomputable def pm_93 : MR := (6, ⟨"OneAtATime$Survey", "widestSpread", "(LOneAtATime$BitList;)I"⟩, prog_10_method_23_code, 3, (some (.int)), pgA_93)
set_option maxRecDepth 100000 in
noncomputable def pgA_94 : List (List (Nat × EN)) := [[(0, .aload_n 0, 1, 0, 0, 0, 0, []), (1, .getfield 24, 3, 7, 4, 2, 0, [(0, 25)]), (4, .iconst 0, 1, 0, 0, 0, 0, []), (5, .invokestatic 27, 3, 46, 2, 0, 0, [(0, 57)]), (8, .aload_n 1, 1, 0, 0, 0, 0, []), (9, .invokevirtual 33, 3, 42, 1, 1, 0, [(0, 58)]), (12, .istore_n 2, 1, 0, 0, 0, 0, []), (13, .iconst 0, 1, 0, 0, 0, 0, []), (14, .istore_n 3, 1, 0, 0, 0, 0, []), (15, .iload_n 3, 1, 0, 0, 0, 0, [(0, 4), (0, 5)]), (16, .iload_n 2, 1, 0, 0, 0, 0, []), (17, .if_icmp .ge 69, 3, 86, 0, 0, 0, []), (20, .iload_n 3, 1, 0, 0, 0, 0, []), (21, .iconst 1, 1, 0, 0, 0, 0, []), (22, .iadd, 1, 0, 0, 0, 0, []), (23, .istore 4, 2, 0, 0, 0, 0, []), (25, .iload 4, 2, 0, 0, 0, 0, [(0, 5)]), (27, .iload_n 2, 1, 0, 0, 0, 0, []), (28, .if_icmp .ge 52, 3, 80, 0, 0, 0, []), (31, .aload_n 1, 1, 0, 0, 0, 0, [])],
  [(32, .getfield 39, 3, 0, 1, 2, 0, [(0, 56)]), (35, .iload_n 3, 1, 0, 0, 0, 0, []), (36, .iaload, 1, 20, 0, 0, 0, []), (37, .aload_n 1, 1, 0, 0, 0, 0, []), (38, .getfield 39, 3, 0, 1, 2, 0, [(0, 56)]), (41, .iload 4, 2, 0, 0, 0, 0, []), (43, .iaload, 1, 20, 0, 0, 0, []), (44, .ixor, 1, 0, 0, 0, 0, []), (45, .invokestatic 115, 3, 50, 1, 1, 0, [(0, 98)]), (48, .istore 5, 2, 0, 0, 0, 0, []), (50, .aload_n 0, 1, 0, 0, 0, 0, []), (51, .getfield 24, 3, 7, 4, 2, 0, [(0, 25)]), (54, .iload 5, 2, 0, 0, 0, 0, []), (56, .aload_n 0, 1, 0, 0, 0, 0, []), (57, .getfield 24, 3, 7, 4, 2, 0, [(0, 25)]), (60, .iload 5, 2, 0, 0, 0, 0, []), (62, .iaload, 1, 20, 0, 0, 0, []), (63, .aload_n 1, 1, 0, 0, 0, 0, [])],
  [(64, .iload_n 3, 1, 0, 0, 0, 0, []), (65, .iload 4, 2, 0, 0, 0, 0, []), (67, .invokestatic 78, 3, 58, 3, 1, 0, [(0, 76)]), (70, .invokestatic 65, 3, 1004, 2, 1, 0, [(0, 73)]), (73, .iastore, 1, 20, 0, 0, 0, []), (74, .iinc 4 1, 3, 0, 0, 0, 0, []), (77, .goto (-52), 3, 25, 0, 0, 0, []), (80, .iinc 3 1, 3, 0, 0, 0, 0, []), (83, .goto (-68), 3, 15, 0, 0, 0, []), (86, .return_, 1, 0, 0, 0, 0, [])]]
noncomputable def pm_94 : MR := (6, ⟨"OneAtATime$Survey", "measureFarthest", "(LOneAtATime$BitList;)V"⟩, prog_10_method_24_code, 6, none, pgA_94)
set_option maxRecDepth 100000 in
noncomputable def pgA_95 : List (List (Nat × EN)) := [[(0, .iconst 0, 1, 0, 0, 0, 0, []), (1, .istore_n 2, 1, 0, 0, 0, 0, []), (2, .iload_n 2, 1, 0, 0, 0, 0, []), (3, .iload_n 1, 1, 0, 0, 0, 0, []), (4, .if_icmp .ge 21, 3, 25, 0, 0, 0, []), (7, .aload_n 0, 1, 0, 0, 0, 0, []), (8, .getfield 24, 3, 7, 4, 2, 0, [(0, 25)]), (11, .iload_n 2, 1, 0, 0, 0, 0, []), (12, .iaload, 1, 20, 0, 0, 0, []), (13, .iload_n 1, 1, 0, 0, 0, 0, []), (14, .if_icmp .lt 5, 3, 19, 0, 0, 0, []), (17, .iconst 0, 1, 0, 0, 0, 0, []), (18, .ireturn, 1, 1, 0, 0, 0, []), (19, .iinc 2 1, 3, 0, 0, 0, 0, []), (22, .goto (-20), 3, 2, 0, 0, 0, []), (25, .iconst 1, 1, 0, 0, 0, 0, []), (26, .ireturn, 1, 1, 0, 0, 0, [])]]
noncomputable def pm_95 : MR := (6, ⟨"OneAtATime$Survey", "spreadHolds", "(I)Z"⟩, prog_10_method_25_code, 3, (some (.boolean)), pgA_95)
set_option maxRecDepth 100000 in
noncomputable def pgA_96 : List (List (Nat × EN)) := [[(0, .aload_n 0, 1, 0, 0, 0, 0, []), (1, .iload_n 1, 1, 0, 0, 0, 0, []), (2, .invokevirtual 109, 3, 41, 2, 2, 8, [(0, 50)]), (5, .astore 4, 2, 0, 0, 0, 0, []), (7, .aload 4, 2, 0, 0, 0, 0, []), (9, .ifnull 23, 3, 32, 0, 0, 0, []), (12, .iload_n 2, 1, 0, 0, 0, 0, []), (13, .ifCond .lt 19, 3, 32, 0, 0, 0, []), (16, .iload_n 2, 1, 0, 0, 0, 0, []), (17, .aload 4, 2, 0, 0, 0, 0, []), (19, .getfield 113, 3, 0, 3, 0, 0, [(0, 52)]), (22, .if_icmp .ge 10, 3, 32, 0, 0, 0, []), (25, .iload_n 3, 1, 0, 0, 0, 0, []), (26, .invokestatic 193, 3, 82, 1, 1, 0, [(0, 94)]), (29, .ifCond .ne 6, 3, 35, 0, 0, 0, [])],
  [(32, .bipush (-2), 2, 0, 0, 0, 0, [(0, 0), (0, 1), (0, 2), (0, 3), (0, 4)]), (34, .ireturn, 1, 0, 0, 0, 0, []), (35, .aload 4, 2, 0, 0, 0, 0, []), (37, .iload_n 3, 1, 0, 0, 0, 0, []), (38, .iconst 1, 1, 0, 0, 0, 0, []), (39, .if_icmp .ne 7, 3, 46, 0, 0, 0, []), (42, .iload_n 2, 1, 0, 0, 0, 0, []), (43, .goto 6, 3, 49, 0, 0, 0, []), (46, .iload_n 2, 1, 0, 0, 0, 0, []), (47, .iconst 1, 1, 0, 0, 0, 0, []), (48, .iadd, 1, 0, 0, 0, 0, []), (49, .iload_n 3, 1, 0, 0, 0, 0, [(0, 0), (0, 1), (0, 4)]), (50, .iconst 1, 1, 0, 0, 0, 0, []), (51, .if_icmp .ne 9, 3, 60, 0, 0, 0, []), (54, .iload_n 2, 1, 0, 0, 0, 0, []), (55, .iconst 1, 1, 0, 0, 0, 0, []), (56, .iadd, 1, 0, 0, 0, 0, []), (57, .goto 4, 3, 61, 0, 0, 0, []), (60, .iload_n 2, 1, 0, 0, 0, 0, []), (61, .invokestatic 227, 3, 97, 3, 1, 0, [(0, 106)])],
  [(64, .ireturn, 1, 0, 0, 0, 0, [])]]
noncomputable def pm_96 : MR := (0, ⟨"OneAtATime", "climbs", "(III)I"⟩, prog_1_method_24_code, 5, (some (.int)), pgA_96)
set_option maxRecDepth 100000 in
noncomputable def pgA_97 : List (List (Nat × EN)) := [[(0, .iconst 0, 1, 0, 0, 0, 0, []), (1, .istore_n 3, 1, 0, 0, 0, 0, []), (2, .iconst 0, 1, 0, 0, 0, 0, []), (3, .istore 4, 2, 0, 0, 0, 0, []), (5, .iload 4, 2, 0, 0, 0, 0, []), (7, .aload_n 0, 1, 0, 0, 0, 0, []), (8, .getfield 57, 3, 0, 6, 0, 0, [(0, 57)]), (11, .if_icmp .ge 42, 3, 53, 0, 0, 0, []), (14, .aload_n 0, 1, 0, 0, 0, 0, []), (15, .getfield 39, 3, 0, 1, 2, 0, [(0, 56)]), (18, .iload 4, 2, 0, 0, 0, 0, []), (20, .iaload, 1, 20, 0, 0, 0, []), (21, .invokestatic 115, 3, 50, 1, 1, 0, [(0, 98)]), (24, .iload_n 1, 1, 0, 0, 0, 0, []), (25, .if_icmp .ne 22, 3, 47, 0, 0, 0, []), (28, .aload_n 0, 1, 0, 0, 0, 0, []), (29, .getfield 39, 3, 0, 1, 2, 0, [(0, 56)])],
  [(32, .iload 4, 2, 0, 0, 0, 0, []), (34, .iconst 1, 1, 0, 0, 0, 0, []), (35, .iadd, 1, 0, 0, 0, 0, []), (36, .iaload, 1, 20, 0, 0, 0, []), (37, .invokestatic 115, 3, 50, 1, 1, 0, [(0, 98)]), (40, .iload_n 2, 1, 0, 0, 0, 0, []), (41, .if_icmp .ne 6, 3, 47, 0, 0, 0, []), (44, .iinc 3 1, 3, 0, 0, 0, 0, []), (47, .iinc 4 1, 3, 0, 0, 0, 0, []), (50, .goto (-45), 3, 5, 0, 0, 0, []), (53, .iload_n 3, 1, 0, 0, 0, 0, []), (54, .ireturn, 1, 0, 0, 0, 0, [])]]
noncomputable def pm_97 : MR := (6, ⟨"OneAtATime$Survey", "stepsBetween", "(LOneAtATime$BitList;II)I"⟩, prog_10_method_22_code, 5, (some (.int)), pgA_97)
set_option maxRecDepth 100000 in
noncomputable def pgA_98 : List (List (Nat × EN)) := [[(0, .iload_n 1, 1, 0, 0, 0, 0, []), (1, .ifCond .ge 8, 3, 9, 0, 0, 0, []), (4, .bipush (-2), 2, 0, 0, 0, 0, []), (6, .goto 8, 3, 14, 0, 0, 0, []), (9, .iload_n 1, 1, 0, 0, 0, 0, []), (10, .iload_n 1, 1, 0, 0, 0, 0, []), (11, .iconst 1, 1, 0, 0, 0, 0, []), (12, .ishr, 1, 0, 0, 0, 0, []), (13, .ixor, 1, 0, 0, 0, 0, []), (14, .ireturn, 1, 0, 0, 0, 0, [(0, 0), (0, 1)])]]
noncomputable def pm_98 : MR := (0, ⟨"OneAtATime", "code", "(I)I"⟩, prog_1_method_25_code, 2, (some (.int)), pgA_98)
set_option maxRecDepth 100000 in
noncomputable def pgA_99 : List (List (Nat × EN)) := [[(0, .iload_n 1, 1, 0, 0, 0, 0, []), (1, .ifCond .ge 6, 3, 7, 0, 0, 0, []), (4, .bipush (-2), 2, 0, 0, 0, 0, []), (6, .ireturn, 1, 0, 0, 0, 0, []), (7, .iload_n 1, 1, 0, 0, 0, 0, []), (8, .istore_n 2, 1, 0, 0, 0, 0, []), (9, .iconst 1, 1, 0, 0, 0, 0, []), (10, .istore_n 3, 1, 0, 0, 0, 0, []), (11, .iload_n 3, 1, 0, 0, 0, 0, [(0, 0), (0, 1)]), (12, .bipush 32, 2, 0, 0, 0, 0, []), (14, .if_icmp .ge 16, 3, 30, 0, 0, 0, []), (17, .iload_n 2, 1, 0, 0, 0, 0, []), (18, .iload_n 2, 1, 0, 0, 0, 0, []), (19, .iload_n 3, 1, 0, 0, 0, 0, []), (20, .ishr, 1, 0, 0, 0, 0, []), (21, .ixor, 1, 0, 0, 0, 0, []), (22, .istore_n 2, 1, 0, 0, 0, 0, []), (23, .iload_n 3, 1, 0, 0, 0, 0, []), (24, .iconst 2, 1, 0, 0, 0, 0, []), (25, .imul, 1, 0, 0, 0, 0, []), (26, .istore_n 3, 1, 0, 0, 0, 0, []), (27, .goto (-16), 3, 11, 0, 0, 0, []), (30, .iload_n 2, 1, 0, 0, 0, 0, []), (31, .ireturn, 1, 0, 0, 0, 0, [])]]
noncomputable def pm_99 : MR := (0, ⟨"OneAtATime", "rank", "(I)I"⟩, prog_1_method_26_code, 4, (some (.int)), pgA_99)
set_option maxRecDepth 100000 in
noncomputable def pgA_100 : List (List (Nat × EN)) := [[(0, .iload_n 1, 1, 0, 0, 0, 0, []), (1, .iconst 1, 1, 0, 0, 0, 0, []), (2, .if_icmp .ge 8, 3, 10, 0, 0, 0, []), (5, .bipush (-2), 2, 0, 0, 0, 0, []), (7, .goto 7, 3, 14, 0, 0, 0, []), (10, .iload_n 1, 1, 0, 0, 0, 0, []), (11, .invokestatic 230, 3, 101, 1, 1, 0, [(0, 107)]), (14, .ireturn, 1, 0, 0, 0, 0, [(0, 0), (0, 1)])]]
noncomputable def pm_100 : MR := (0, ⟨"OneAtATime", "ruler", "(I)I"⟩, prog_1_method_27_code, 2, (some (.int)), pgA_100)
set_option maxRecDepth 100000 in
noncomputable def pgA_101 : List (List (Nat × EN)) := [[(0, .iload_n 0, 1, 0, 0, 0, 0, []), (1, .iconst (-1), 1, 0, 0, 0, 0, []), (2, .ixor, 1, 0, 0, 0, 0, []), (3, .iload_n 0, 1, 0, 0, 0, 0, []), (4, .iconst 1, 1, 0, 0, 0, 0, []), (5, .isub, 1, 0, 0, 0, 0, []), (6, .iand, 1, 0, 0, 0, 0, []), (7, .istore_n 0, 1, 0, 0, 0, 0, []), (8, .iload_n 0, 1, 0, 0, 0, 0, []), (9, .ifCond .gt 8, 3, 17, 0, 0, 0, []), (12, .iload_n 0, 1, 0, 0, 0, 0, []), (13, .bipush 32, 2, 0, 0, 0, 0, []), (15, .iand, 1, 0, 0, 0, 0, []), (16, .ireturn, 1, 0, 0, 0, 0, []), (17, .iconst 1, 1, 0, 0, 0, 0, []), (18, .istore_n 1, 1, 0, 0, 0, 0, []), (19, .iload_n 0, 1, 0, 0, 0, 0, []), (20, .ldc_w 264, 3, 65536, 0, 0, 0, [(0, 3)]), (23, .if_icmp .le 11, 3, 34, 0, 0, 0, []), (26, .iinc 1 16, 3, 0, 0, 0, 0, []), (29, .iload_n 0, 1, 0, 0, 0, 0, []), (30, .bipush 16, 2, 0, 0, 0, 0, [])],
  [(32, .iushr, 1, 0, 0, 0, 0, []), (33, .istore_n 0, 1, 0, 0, 0, 0, []), (34, .iload_n 0, 1, 0, 0, 0, 0, []), (35, .sipush 256, 3, 0, 0, 0, 0, []), (38, .if_icmp .le 11, 3, 49, 0, 0, 0, []), (41, .iinc 1 8, 3, 0, 0, 0, 0, []), (44, .iload_n 0, 1, 0, 0, 0, 0, []), (45, .bipush 8, 2, 0, 0, 0, 0, []), (47, .iushr, 1, 0, 0, 0, 0, []), (48, .istore_n 0, 1, 0, 0, 0, 0, []), (49, .iload_n 0, 1, 0, 0, 0, 0, []), (50, .bipush 16, 2, 0, 0, 0, 0, []), (52, .if_icmp .le 10, 3, 62, 0, 0, 0, []), (55, .iinc 1 4, 3, 0, 0, 0, 0, []), (58, .iload_n 0, 1, 0, 0, 0, 0, []), (59, .iconst 4, 1, 0, 0, 0, 0, []), (60, .iushr, 1, 0, 0, 0, 0, []), (61, .istore_n 0, 1, 0, 0, 0, 0, []), (62, .iload_n 0, 1, 0, 0, 0, 0, []), (63, .iconst 4, 1, 0, 0, 0, 0, [])],
  [(64, .if_icmp .le 10, 3, 74, 0, 0, 0, []), (67, .iinc 1 2, 3, 0, 0, 0, 0, []), (70, .iload_n 0, 1, 0, 0, 0, 0, []), (71, .iconst 2, 1, 0, 0, 0, 0, []), (72, .iushr, 1, 0, 0, 0, 0, []), (73, .istore_n 0, 1, 0, 0, 0, 0, []), (74, .iload_n 1, 1, 0, 0, 0, 0, []), (75, .iload_n 0, 1, 0, 0, 0, 0, []), (76, .iconst 1, 1, 0, 0, 0, 0, []), (77, .iushr, 1, 0, 0, 0, 0, []), (78, .iadd, 1, 0, 0, 0, 0, []), (79, .ireturn, 1, 0, 0, 0, 0, [])]]
noncomputable def pm_101 : MR := (11, ⟨"java/lang/Integer", "numberOfTrailingZeros", "(I)I"⟩, prog_13_method_48_code, 2, (some (.int)), pgA_101)
set_option maxRecDepth 100000 in
noncomputable def pgA_102 : List (List (Nat × EN)) := [[(0, .aload_n 0, 1, 0, 0, 0, 0, []), (1, .iload_n 1, 1, 0, 0, 0, 0, []), (2, .invokevirtual 109, 3, 41, 2, 2, 8, [(0, 50)]), (5, .astore_n 3, 1, 0, 0, 0, 0, []), (6, .aload_n 3, 1, 0, 0, 0, 0, []), (7, .ifnonnull 6, 3, 13, 0, 0, 0, []), (10, .bipush (-2), 2, 0, 0, 0, 0, []), (12, .ireturn, 1, 0, 0, 0, 0, []), (13, .iload_n 2, 1, 0, 0, 0, 0, []), (14, .tableswitch 83 0 2 #[26, 40, 54], 26, 97, 0, 0, 0, [(0, 40), (1, 54), (2, 68)])],
  [(40, .aload_n 3, 1, 0, 0, 0, 0, []), (41, .aload_n 0, 1, 0, 0, 0, 0, []), (42, .getfield 16, 3, 8, 1, 2, 0, [(0, 1)]), (45, .invokestatic 233, 3, 103, 2, 0, 0, [(0, 108)]), (48, .aload_n 0, 1, 0, 0, 0, 0, []), (49, .iload_n 1, 1, 0, 0, 0, 0, []), (50, .invokevirtual 92, 3, 32, 2, 1, 8, [(0, 25)]), (53, .ireturn, 1, 0, 0, 0, 0, []), (54, .aload_n 3, 1, 0, 0, 0, 0, []), (55, .aload_n 0, 1, 0, 0, 0, 0, []), (56, .getfield 16, 3, 8, 1, 2, 0, [(0, 1)]), (59, .invokestatic 239, 3, 105, 2, 0, 0, [(0, 109)]), (62, .aload_n 0, 1, 0, 0, 0, 0, []), (63, .iload_n 1, 1, 0, 0, 0, 0, [])],
  [(64, .invokevirtual 92, 3, 32, 2, 1, 8, [(0, 25)]), (67, .ireturn, 1, 0, 0, 0, 0, []), (68, .aload_n 3, 1, 0, 0, 0, 0, []), (69, .getfield 126, 3, 0, 6, 0, 0, [(0, 47)]), (72, .iconst 2, 1, 0, 0, 0, 0, []), (73, .imul, 1, 0, 0, 0, 0, []), (74, .sipush 256, 3, 0, 0, 0, 0, []), (77, .if_icmp .le 6, 3, 83, 0, 0, 0, []), (80, .bipush (-2), 2, 0, 0, 0, 0, []), (82, .ireturn, 1, 0, 0, 0, 0, []), (83, .aload_n 3, 1, 0, 0, 0, 0, []), (84, .aload_n 0, 1, 0, 0, 0, 0, []), (85, .getfield 16, 3, 8, 1, 2, 0, [(0, 1)]), (88, .invokestatic 242, 3, 106, 2, 0, 0, [(0, 110)]), (91, .aload_n 0, 1, 0, 0, 0, 0, []), (92, .iload_n 1, 1, 0, 0, 0, 0, []), (93, .invokevirtual 92, 3, 32, 2, 1, 8, [(0, 25)])],
  [(96, .ireturn, 1, 0, 0, 0, 0, []), (97, .bipush (-2), 2, 0, 0, 0, 0, []), (99, .ireturn, 1, 0, 0, 0, 0, [])]]
noncomputable def pm_102 : MR := (0, ⟨"OneAtATime", "makes", "(II)I"⟩, prog_1_method_28_code, 4, (some (.int)), pgA_102)
set_option maxRecDepth 100000 in
noncomputable def pgA_103 : List (List (Nat × EN)) := [[(0, .aload_n 1, 1, 0, 0, 0, 0, []), (1, .aload_n 0, 1, 0, 0, 0, 0, []), (2, .aload_n 0, 1, 0, 0, 0, 0, []), (3, .getfield 7, 3, 0, 1, 2, 0, [(0, 61)]), (6, .iconst 0, 1, 0, 0, 0, 0, []), (7, .iaload, 1, 20, 0, 0, 0, []), (8, .invokevirtual 13, 3, 104, 3, 0, 0, [(0, 111)]), (11, .iconst 1, 1, 0, 0, 0, 0, []), (12, .istore_n 2, 1, 0, 0, 0, 0, []), (13, .iload_n 2, 1, 0, 0, 0, 0, []), (14, .aload_n 0, 1, 0, 0, 0, 0, []), (15, .invokevirtual 17, 3, 47, 1, 1, 0, [(0, 112)]), (18, .if_icmp .ge 17, 3, 35, 0, 0, 0, []), (21, .aload_n 1, 1, 0, 0, 0, 0, []), (22, .iload_n 2, 1, 0, 0, 0, 0, []), (23, .invokestatic 21, 3, 101, 1, 1, 0, [(0, 113)]), (26, .invokevirtual 27, 3, 31, 2, 0, 0, [(0, 114)]), (29, .iinc 2 1, 3, 0, 0, 0, 0, [])],
  [(32, .goto (-19), 3, 13, 0, 0, 0, []), (35, .aload_n 1, 1, 0, 0, 0, 0, []), (36, .aload_n 0, 1, 0, 0, 0, 0, []), (37, .getfield 31, 3, 0, 3, 0, 0, [(0, 62)]), (40, .iconst 1, 1, 0, 0, 0, 0, []), (41, .isub, 1, 0, 0, 0, 0, []), (42, .invokevirtual 27, 3, 31, 2, 0, 0, [(0, 114)]), (45, .return_, 1, 0, 0, 0, 0, [])]]
noncomputable def pm_103 : MR := (12, ⟨"OneAtATime$Maker", "reflected", "(LOneAtATime$BitList;LOneAtATime$BitList;)V"⟩, prog_7_method_2_code, 3, none, pgA_103)
set_option maxRecDepth 100000 in
noncomputable def pgA_104 : List (List (Nat × EN)) := [[(0, .aload_n 0, 1, 0, 0, 0, 0, []), (1, .aload_n 1, 1, 0, 0, 0, 0, []), (2, .getfield 22, 3, 0, 3, 0, 0, [(0, 42)]), (5, .aload_n 1, 1, 0, 0, 0, 0, []), (6, .getfield 26, 3, 0, 4, 0, 0, [(0, 43)]), (9, .aload_n 1, 1, 0, 0, 0, 0, []), (10, .getfield 29, 3, 0, 5, 0, 0, [(0, 44)]), (13, .iload_n 2, 1, 0, 0, 0, 0, []), (14, .invokevirtual 35, 3, 28, 5, 0, 0, [(0, 115)]), (17, .return_, 1, 0, 0, 0, 0, [])]]
noncomputable def pm_104 : MR := (1, ⟨"OneAtATime$BitList", "beginLike", "(LOneAtATime$BitList;I)V"⟩, prog_2_method_3_code, 3, none, pgA_104)
set_option maxRecDepth 100000 in
noncomputable def pgA_105 : List (List (Nat × EN)) := [[(0, .aload_n 1, 1, 0, 0, 0, 0, []), (1, .aload_n 0, 1, 0, 0, 0, 0, []), (2, .aload_n 0, 1, 0, 0, 0, 0, []), (3, .getfield 7, 3, 0, 1, 2, 0, [(0, 61)]), (6, .iconst 0, 1, 0, 0, 0, 0, []), (7, .iaload, 1, 20, 0, 0, 0, []), (8, .invokevirtual 13, 3, 104, 3, 0, 0, [(0, 111)]), (11, .iconst 0, 1, 0, 0, 0, 0, []), (12, .istore_n 2, 1, 0, 0, 0, 0, []), (13, .iload_n 2, 1, 0, 0, 0, 0, [(0, 3)]), (14, .iconst 2, 1, 0, 0, 0, 0, []), (15, .if_icmp .ge 30, 3, 45, 0, 0, 0, []), (18, .iconst 0, 1, 0, 0, 0, 0, []), (19, .istore_n 3, 1, 0, 0, 0, 0, []), (20, .iload_n 3, 1, 0, 0, 0, 0, []), (21, .aload_n 0, 1, 0, 0, 0, 0, []), (22, .getfield 31, 3, 0, 3, 0, 0, [(0, 62)]), (25, .if_icmp .ge 14, 3, 39, 0, 0, 0, []), (28, .aload_n 1, 1, 0, 0, 0, 0, []), (29, .iload_n 3, 1, 0, 0, 0, 0, []), (30, .invokevirtual 27, 3, 31, 2, 0, 0, [(0, 114)])],
  [(33, .iinc 3 1, 3, 0, 0, 0, 0, []), (36, .goto (-16), 3, 20, 0, 0, 0, []), (39, .iinc 2 1, 3, 0, 0, 0, 0, []), (42, .goto (-29), 3, 13, 0, 0, 0, []), (45, .return_, 1, 0, 0, 0, 0, [])]]
noncomputable def pm_105 : MR := (12, ⟨"OneAtATime$Maker", "ladder", "(LOneAtATime$BitList;LOneAtATime$BitList;)V"⟩, prog_7_method_3_code, 4, none, pgA_105)
set_option maxRecDepth 100000 in
noncomputable def pgA_106 : List (List (Nat × EN)) := [[(0, .aload_n 1, 1, 0, 0, 0, 0, []), (1, .aload_n 0, 1, 0, 0, 0, 0, []), (2, .invokevirtual 35, 3, 35, 2, 0, 0, [(0, 116)]), (5, .aload_n 1, 1, 0, 0, 0, 0, []), (6, .aload_n 0, 1, 0, 0, 0, 0, []), (7, .iconst 0, 1, 0, 0, 0, 0, []), (8, .aload_n 0, 1, 0, 0, 0, 0, []), (9, .getfield 39, 3, 0, 6, 0, 0, [(0, 63)]), (12, .iconst 0, 1, 0, 0, 0, 0, []), (13, .invokevirtual 42, 3, 107, 5, 0, 0, [(0, 117)]), (16, .return_, 1, 0, 0, 0, 0, [])]]
noncomputable def pm_106 : MR := (12, ⟨"OneAtATime$Maker", "twice", "(LOneAtATime$BitList;LOneAtATime$BitList;)V"⟩, prog_7_method_4_code, 2, none, pgA_106)
set_option maxRecDepth 100000 in
noncomputable def pgA_107 : List (List (Nat × EN)) := [[(0, .iload_n 2, 1, 0, 0, 0, 0, []), (1, .iconst 0, 1, 0, 0, 0, 0, []), (2, .invokestatic 43, 3, 1004, 2, 1, 0, [(0, 118)]), (5, .istore 5, 2, 0, 0, 0, 0, []), (7, .iload 5, 2, 0, 0, 0, 0, [(0, 2)]), (9, .iload_n 3, 1, 0, 0, 0, 0, []), (10, .if_icmp .ge 32, 3, 42, 0, 0, 0, []), (13, .iload 5, 2, 0, 0, 0, 0, []), (15, .aload_n 1, 1, 0, 0, 0, 0, []), (16, .getfield 32, 3, 0, 6, 0, 0, [(0, 45)]), (19, .if_icmp .ge 23, 3, 42, 0, 0, 0, []), (22, .aload_n 0, 1, 0, 0, 0, 0, []), (23, .aload_n 1, 1, 0, 0, 0, 0, []), (24, .getfield 9, 3, 0, 0, 2, 0, [(0, 9)]), (27, .iload 5, 2, 0, 0, 0, 0, []), (29, .iaload, 1, 20, 0, 0, 0, []), (30, .iload 4, 2, 0, 0, 0, 0, [])],
  [(32, .iadd, 1, 0, 0, 0, 0, []), (33, .invokevirtual 49, 3, 31, 2, 0, 0, [(0, 119)]), (36, .iinc 5 1, 3, 0, 0, 0, 0, []), (39, .goto (-32), 3, 7, 0, 0, 0, []), (42, .return_, 1, 0, 0, 0, 0, [(0, 0), (0, 1), (0, 2), (0, 3), (0, 4), (0, 5)])]]
noncomputable def pm_107 : MR := (1, ⟨"OneAtATime$BitList", "pushOn", "(LOneAtATime$BitList;III)V"⟩, prog_2_method_6_code, 6, none, pgA_107)
set_option maxRecDepth 100000 in
noncomputable def pgA_108 : List (List (Nat × EN)) := [[(0, .aload_n 0, 1, 0, 0, 0, 0, []), (1, .iload_n 1, 1, 0, 0, 0, 0, []), (2, .invokevirtual 109, 3, 41, 2, 2, 8, [(0, 50)]), (5, .astore 4, 2, 0, 0, 0, 0, []), (7, .aload 4, 2, 0, 0, 0, 0, []), (9, .ifnull 23, 3, 32, 0, 0, 0, []), (12, .iload_n 2, 1, 0, 0, 0, 0, []), (13, .ifCond .lt 19, 3, 32, 0, 0, 0, []), (16, .iload_n 2, 1, 0, 0, 0, 0, []), (17, .iconst 3, 1, 0, 0, 0, 0, []), (18, .if_icmp .gt 14, 3, 32, 0, 0, 0, []), (21, .iload_n 3, 1, 0, 0, 0, 0, []), (22, .iconst 1, 1, 0, 0, 0, 0, []), (23, .if_icmp .lt 9, 3, 32, 0, 0, 0, []), (26, .iload_n 3, 1, 0, 0, 0, 0, []), (27, .ldc 245, 2, 50000, 0, 0, 0, [(0, 4)]), (29, .if_icmp .le 6, 3, 35, 0, 0, 0, [])],
  [(32, .bipush (-2), 2, 0, 0, 0, 0, [(0, 0), (0, 1), (0, 2), (0, 3), (0, 4), (0, 5)]), (34, .ireturn, 1, 0, 0, 0, 0, []), (35, .aload_n 0, 1, 0, 0, 0, 0, []), (36, .getfield 53, 3, 8, 6, 2, 0, [(0, 6)]), (39, .aload 4, 2, 0, 0, 0, 0, []), (41, .iload_n 2, 1, 0, 0, 0, 0, []), (42, .iload_n 3, 1, 0, 0, 0, 0, []), (43, .aload_n 0, 1, 0, 0, 0, 0, []), (44, .getfield 16, 3, 8, 1, 2, 0, [(0, 1)]), (47, .invokevirtual 246, 3, 109, 5, 1, 6, [(0, 120)]), (50, .istore 5, 2, 0, 0, 0, 0, []), (52, .iload 5, 2, 0, 0, 0, 0, []), (54, .ifCond .ge 8, 3, 62, 0, 0, 0, []), (57, .iload 5, 2, 0, 0, 0, 0, []), (59, .goto 8, 3, 67, 0, 0, 0, []), (62, .aload_n 0, 1, 0, 0, 0, 0, []), (63, .iload_n 1, 1, 0, 0, 0, 0, [])],
  [(64, .invokevirtual 92, 3, 32, 2, 1, 8, [(0, 25)]), (67, .ireturn, 1, 0, 0, 0, 0, [(0, 0), (0, 1), (0, 2), (0, 3), (0, 4), (0, 5)])]]
noncomputable def pm_108 : MR := (0, ⟨"OneAtATime", "finds", "(III)I"⟩, prog_1_method_29_code, 6, (some (.int)), pgA_108)
set_option maxRecDepth 100000 in
noncomputable def pgA_109 : List (List (Nat × EN)) := [[(0, .aload_n 1, 1, 0, 0, 0, 0, []), (1, .getfield 21, 3, 0, 1, 2, 0, [(0, 64)]), (4, .iconst 0, 1, 0, 0, 0, 0, []), (5, .iaload, 1, 20, 0, 0, 0, []), (6, .istore 5, 2, 0, 0, 0, 0, []), (8, .aload_n 1, 1, 0, 0, 0, 0, []), (9, .iload 5, 2, 0, 0, 0, 0, []), (11, .invokevirtual 26, 3, 49, 2, 1, 0, [(0, 121)]), (14, .ifCond .ne 5, 3, 19, 0, 0, 0, []), (17, .iconst (-1), 1, 0, 0, 0, 0, []), (18, .ireturn, 1, 0, 0, 0, 0, []), (19, .aload_n 0, 1, 0, 0, 0, 0, []), (20, .aload_n 1, 1, 0, 0, 0, 0, []), (21, .invokevirtual 30, 3, 110, 2, 0, 6, [(0, 122)]), (24, .aload 4, 2, 0, 0, 0, 0, []), (26, .aload_n 1, 1, 0, 0, 0, 0, []), (27, .iload 5, 2, 0, 0, 0, 0, []), (29, .invokevirtual 34, 3, 104, 3, 0, 0, [(0, 123)])],
  [(32, .aload_n 0, 1, 0, 0, 0, 0, []), (33, .getfield 9, 3, 6, 0, 2, 0, [(0, 26)]), (36, .iload 5, 2, 0, 0, 0, 0, []), (38, .iconst 1, 1, 0, 0, 0, 0, []), (39, .iastore, 1, 20, 0, 0, 0, []), (40, .aload_n 0, 1, 0, 0, 0, 0, []), (41, .getfield 15, 3, 6, 1, 2, 0, [(0, 27)]), (44, .iconst 0, 1, 0, 0, 0, 0, []), (45, .iconst 0, 1, 0, 0, 0, 0, []), (46, .iastore, 1, 20, 0, 0, 0, []), (47, .aload_n 0, 1, 0, 0, 0, 0, []), (48, .getfield 18, 3, 6, 2, 2, 0, [(0, 28)]), (51, .iconst 0, 1, 0, 0, 0, 0, []), (52, .iconst 0, 1, 0, 0, 0, 0, []), (53, .iastore, 1, 20, 0, 0, 0, []), (54, .aload_n 1, 1, 0, 0, 0, 0, []), (55, .invokevirtual 38, 3, 48, 1, 1, 0, [(0, 124)]), (58, .iconst 1, 1, 0, 0, 0, 0, []), (59, .isub, 1, 0, 0, 0, 0, []), (60, .istore 6, 2, 0, 0, 0, 0, []), (62, .iconst 0, 1, 0, 0, 0, 0, []), (63, .istore 7, 2, 0, 0, 0, 0, [])],
  [(65, .iconst 0, 1, 0, 0, 0, 0, []), (66, .istore 8, 2, 0, 0, 0, 0, []), (68, .iload 8, 2, 0, 0, 0, 0, [(0, 1), (0, 5), (0, 9)]), (70, .ldc 42, 2, 1000000, 0, 0, 0, [(0, 5)]), (72, .if_icmp .ge 109, 3, 181, 0, 0, 0, []), (75, .aload 4, 2, 0, 0, 0, 0, []), (77, .getfield 43, 3, 0, 6, 0, 0, [(0, 65)]), (80, .iload 6, 2, 0, 0, 0, 0, []), (82, .if_icmp .ne 18, 3, 100, 0, 0, 0, []), (85, .aload 4, 2, 0, 0, 0, 0, []), (87, .iload_n 2, 1, 0, 0, 0, 0, []), (88, .invokestatic 47, 3, 111, 2, 1, 0, [(0, 125)]), (91, .ifCond .eq 9, 3, 100, 0, 0, 0, []), (94, .aload 4, 2, 0, 0, 0, 0, [])],
  [(96, .getfield 43, 3, 0, 6, 0, 0, [(0, 65)]), (99, .ireturn, 1, 0, 0, 0, 0, []), (100, .aload_n 0, 1, 0, 0, 0, 0, [(0, 1), (0, 5), (0, 9)]), (101, .aload 4, 2, 0, 0, 0, 0, []), (103, .iload_n 2, 1, 0, 0, 0, 0, []), (104, .invokevirtual 51, 3, 114, 3, 1, 6, [(0, 126)]), (107, .istore 9, 2, 0, 0, 0, 0, []), (109, .iload 9, 2, 0, 0, 0, 0, []), (111, .iconst (-1), 1, 0, 0, 0, 0, []), (112, .if_icmp .ne 32, 3, 144, 0, 0, 0, []), (115, .aload 4, 2, 0, 0, 0, 0, []), (117, .getfield 43, 3, 0, 6, 0, 0, [(0, 65)]), (120, .ifCond .ne 5, 3, 125, 0, 0, 0, []), (123, .iconst (-1), 1, 0, 0, 0, 0, []), (124, .ireturn, 1, 0, 0, 0, 0, []), (125, .aload_n 0, 1, 0, 0, 0, 0, []), (126, .getfield 9, 3, 6, 0, 2, 0, [(0, 26)])],
  [(129, .aload 4, 2, 0, 0, 0, 0, []), (131, .invokevirtual 55, 3, 112, 1, 1, 0, [(0, 127)]), (134, .iconst 0, 1, 0, 0, 0, 0, []), (135, .iastore, 1, 20, 0, 0, 0, []), (136, .aload 4, 2, 0, 0, 0, 0, []), (138, .invokevirtual 58, 3, 113, 1, 0, 0, [(0, 128)]), (141, .goto 34, 3, 175, 0, 0, 0, []), (144, .iload 7, 2, 0, 0, 0, 0, []), (146, .iload_n 3, 1, 0, 0, 0, 0, []), (147, .if_icmp .ne 6, 3, 153, 0, 0, 0, []), (150, .bipush (-3), 2, 0, 0, 0, 0, []), (152, .ireturn, 1, 0, 0, 0, 0, []), (153, .iinc 7 1, 3, 0, 0, 0, 0, []), (156, .aload_n 0, 1, 0, 0, 0, 0, []), (157, .aload 4, 2, 0, 0, 0, 0, []), (159, .iload 9, 2, 0, 0, 0, 0, [])],
  [(161, .invokevirtual 61, 3, 116, 3, 0, 6, [(0, 129)]), (164, .aload_n 0, 1, 0, 0, 0, 0, []), (165, .getfield 9, 3, 6, 0, 2, 0, [(0, 26)]), (168, .aload 4, 2, 0, 0, 0, 0, []), (170, .invokevirtual 55, 3, 112, 1, 1, 0, [(0, 127)]), (173, .iconst 1, 1, 0, 0, 0, 0, []), (174, .iastore, 1, 20, 0, 0, 0, []), (175, .iinc 8 1, 3, 0, 0, 0, 0, [(0, 1), (0, 5), (0, 9)]), (178, .goto (-110), 3, 68, 0, 0, 0, []), (181, .bipush (-3), 2, 0, 0, 0, 0, []), (183, .ireturn, 1, 0, 0, 0, 0, [])]]
noncomputable def pm_109 : MR := (7, ⟨"OneAtATime$Search", "byLaw", "(LOneAtATime$BitList;IILOneAtATime$BitList;)I"⟩, prog_9_method_2_code, 10, (some (.int)), pgA_109)
set_option maxRecDepth 100000 in
noncomputable def pgA_110 : List (List (Nat × EN)) := [[(0, .iconst 0, 1, 0, 0, 0, 0, []), (1, .istore_n 2, 1, 0, 0, 0, 0, []), (2, .iload_n 2, 1, 0, 0, 0, 0, []), (3, .aload_n 1, 1, 0, 0, 0, 0, []), (4, .invokevirtual 64, 3, 47, 1, 1, 0, [(0, 130)]), (7, .if_icmp .ge 28, 3, 35, 0, 0, 0, []), (10, .aload_n 0, 1, 0, 0, 0, 0, []), (11, .getfield 9, 3, 6, 0, 2, 0, [(0, 26)]), (14, .iload_n 2, 1, 0, 0, 0, 0, []), (15, .aload_n 1, 1, 0, 0, 0, 0, []), (16, .iload_n 2, 1, 0, 0, 0, 0, []), (17, .invokevirtual 26, 3, 49, 2, 1, 0, [(0, 121)]), (20, .ifCond .eq 7, 3, 27, 0, 0, 0, []), (23, .iconst 0, 1, 0, 0, 0, 0, []), (24, .goto 4, 3, 28, 0, 0, 0, []), (27, .iconst 1, 1, 0, 0, 0, 0, []), (28, .iastore, 1, 20, 0, 0, 0, []), (29, .iinc 2 1, 3, 0, 0, 0, 0, [])],
  [(32, .goto (-30), 3, 2, 0, 0, 0, []), (35, .return_, 1, 0, 0, 0, 0, [])]]
noncomputable def pm_110 : MR := (7, ⟨"OneAtATime$Search", "barOutsideScope", "(LOneAtATime$BitList;)V"⟩, prog_9_method_3_code, 3, none, pgA_110)
set_option maxRecDepth 100000 in
noncomputable def pgA_111 : List (List (Nat × EN)) := [[(0, .iload_n 1, 1, 0, 0, 0, 0, []), (1, .iconst 1, 1, 0, 0, 0, 0, []), (2, .if_icmp .eq 10, 3, 12, 0, 0, 0, []), (5, .iload_n 1, 1, 0, 0, 0, 0, []), (6, .iconst 3, 1, 0, 0, 0, 0, []), (7, .if_icmp .eq 5, 3, 12, 0, 0, 0, []), (10, .iconst 1, 1, 0, 0, 0, 0, []), (11, .ireturn, 1, 1, 0, 0, 0, []), (12, .aload_n 0, 1, 0, 0, 0, 0, [(0, 2)]), (13, .invokevirtual 55, 3, 112, 1, 1, 0, [(0, 127)]), (16, .aload_n 0, 1, 0, 0, 0, 0, []), (17, .getfield 21, 3, 0, 1, 2, 0, [(0, 64)]), (20, .iconst 0, 1, 0, 0, 0, 0, []), (21, .iaload, 1, 20, 0, 0, 0, []), (22, .ixor, 1, 0, 0, 0, 0, []), (23, .istore_n 2, 1, 0, 0, 0, 0, []), (24, .iload_n 2, 1, 0, 0, 0, 0, []), (25, .invokestatic 67, 3, 50, 1, 1, 0, [(0, 131)]), (28, .iconst 1, 1, 0, 0, 0, 0, []), (29, .if_icmp .eq 5, 3, 34, 0, 0, 0, [])],
  [(32, .iconst 0, 1, 0, 0, 0, 0, []), (33, .ireturn, 1, 1, 0, 0, 0, []), (34, .aload_n 0, 1, 0, 0, 0, 0, []), (35, .iload_n 2, 1, 0, 0, 0, 0, []), (36, .invokestatic 73, 3, 101, 1, 1, 0, [(0, 132)]), (39, .invokevirtual 76, 3, 31, 2, 0, 0, [(0, 133)]), (42, .iload_n 1, 1, 0, 0, 0, 0, []), (43, .iconst 3, 1, 0, 0, 0, 0, []), (44, .if_icmp .ne 16, 3, 60, 0, 0, 0, []), (47, .aload_n 0, 1, 0, 0, 0, 0, []), (48, .invokestatic 80, 3, 60, 1, 1, 0, [(0, 134)]), (51, .ifCond .ne 9, 3, 60, 0, 0, 0, []), (54, .aload_n 0, 1, 0, 0, 0, 0, []), (55, .invokevirtual 58, 3, 113, 1, 0, 0, [(0, 128)]), (58, .iconst 0, 1, 0, 0, 0, 0, []), (59, .ireturn, 1, 1, 0, 0, 0, []), (60, .iconst 1, 1, 0, 0, 0, 0, [(0, 0), (0, 1), (0, 2)]), (61, .ireturn, 1, 1, 0, 0, 0, [])]]
noncomputable def pm_111 : MR := (7, ⟨"OneAtATime$Search", "isAccepted", "(LOneAtATime$BitList;I)Z"⟩, prog_9_method_4_code, 3, (some (.boolean)), pgA_111)
set_option maxRecDepth 100000 in
noncomputable def pgA_112 : List (List (Nat × EN)) := [[(0, .aload_n 0, 1, 0, 0, 0, 0, []), (1, .getfield 15, 3, 0, 1, 2, 0, [(0, 10)]), (4, .aload_n 0, 1, 0, 0, 0, 0, []), (5, .getfield 32, 3, 0, 6, 0, 0, [(0, 45)]), (8, .iaload, 1, 20, 0, 0, 0, []), (9, .ireturn, 1, 0, 0, 0, 0, [])]]
noncomputable def pm_112 : MR := (1, ⟨"OneAtATime$BitList", "lastWord", "()I"⟩, prog_2_method_10_code, 1, (some (.int)), pgA_112)
set_option maxRecDepth 100000 in
noncomputable def pgA_113 : List (List (Nat × EN)) := [[(0, .aload_n 0, 1, 0, 0, 0, 0, []), (1, .getfield 32, 3, 0, 6, 0, 0, [(0, 45)]), (4, .ifCond .le 13, 3, 17, 0, 0, 0, []), (7, .aload_n 0, 1, 0, 0, 0, 0, []), (8, .dup, 1, 0, 0, 0, 0, []), (9, .getfield 32, 3, 0, 6, 0, 0, [(0, 45)]), (12, .iconst 1, 1, 0, 0, 0, 0, []), (13, .isub, 1, 0, 0, 0, 0, []), (14, .putfield 32, 3, 0, 6, 0, 0, [(0, 45)]), (17, .return_, 1, 0, 0, 0, 0, [(0, 0)])]]
noncomputable def pm_113 : MR := (1, ⟨"OneAtATime$BitList", "pop", "()V"⟩, prog_2_method_5_code, 1, none, pgA_113)
set_option maxRecDepth 100000 in
noncomputable def pgA_114 : List (List (Nat × EN)) := [[(0, .aload_n 1, 1, 0, 0, 0, 0, []), (1, .invokevirtual 55, 3, 112, 1, 1, 0, [(0, 127)]), (4, .istore_n 3, 1, 0, 0, 0, 0, []), (5, .aload_n 0, 1, 0, 0, 0, 0, []), (6, .getfield 15, 3, 6, 1, 2, 0, [(0, 27)]), (9, .aload_n 1, 1, 0, 0, 0, 0, []), (10, .getfield 43, 3, 0, 6, 0, 0, [(0, 65)]), (13, .iaload, 1, 20, 0, 0, 0, []), (14, .istore 4, 2, 0, 0, 0, 0, []), (16, .iload 4, 2, 0, 0, 0, 0, [(0, 5)]), (18, .aload_n 1, 1, 0, 0, 0, 0, []), (19, .getfield 86, 3, 0, 3, 0, 0, [(0, 66)]), (22, .if_icmp .ge 45, 3, 67, 0, 0, 0, []), (25, .iload_n 3, 1, 0, 0, 0, 0, []), (26, .iconst 1, 1, 0, 0, 0, 0, []), (27, .iload 4, 2, 0, 0, 0, 0, []), (29, .ishl, 1, 0, 0, 0, 0, []), (30, .ixor, 1, 0, 0, 0, 0, []), (31, .istore 5, 2, 0, 0, 0, 0, [])],
  [(33, .aload_n 0, 1, 0, 0, 0, 0, []), (34, .getfield 9, 3, 6, 0, 2, 0, [(0, 26)]), (37, .iload 5, 2, 0, 0, 0, 0, []), (39, .iaload, 1, 20, 0, 0, 0, []), (40, .ifCond .ne 21, 3, 61, 0, 0, 0, []), (43, .iload_n 2, 1, 0, 0, 0, 0, []), (44, .iconst 2, 1, 0, 0, 0, 0, []), (45, .if_icmp .ne 13, 3, 58, 0, 0, 0, []), (48, .aload_n 0, 1, 0, 0, 0, 0, []), (49, .aload_n 1, 1, 0, 0, 0, 0, []), (50, .iload 5, 2, 0, 0, 0, 0, []), (52, .invokevirtual 89, 3, 115, 3, 1, 6, [(0, 135)]), (55, .ifCond .eq 6, 3, 61, 0, 0, 0, []), (58, .iload 4, 2, 0, 0, 0, 0, [(0, 0), (0, 1), (0, 2), (0, 3), (0, 5)]), (60, .ireturn, 1, 0, 0, 0, 0, []), (61, .iinc 4 1, 3, 0, 0, 0, 0, [(0, 5)])],
  [(64, .goto (-48), 3, 16, 0, 0, 0, []), (67, .iconst (-1), 1, 0, 0, 0, 0, []), (68, .ireturn, 1, 0, 0, 0, 0, [])]]
noncomputable def pm_114 : MR := (7, ⟨"OneAtATime$Search", "freeBit", "(LOneAtATime$BitList;I)I"⟩, prog_9_method_5_code, 6, (some (.int)), pgA_114)
set_option maxRecDepth 100000 in
noncomputable def pgA_115 : List (List (Nat × EN)) := [[(0, .aload_n 1, 1, 0, 0, 0, 0, []), (1, .invokevirtual 55, 3, 112, 1, 1, 0, [(0, 127)]), (4, .invokestatic 67, 3, 50, 1, 1, 0, [(0, 131)]), (7, .iload_n 2, 1, 0, 0, 0, 0, []), (8, .invokestatic 67, 3, 50, 1, 1, 0, [(0, 131)]), (11, .invokestatic 92, 3, 1005, 2, 1, 0, [(0, 136)]), (14, .istore_n 3, 1, 0, 0, 0, 0, []), (15, .aload_n 0, 1, 0, 0, 0, 0, []), (16, .getfield 18, 3, 6, 2, 2, 0, [(0, 28)]), (19, .aload_n 1, 1, 0, 0, 0, 0, []), (20, .getfield 43, 3, 0, 6, 0, 0, [(0, 65)]), (23, .iaload, 1, 20, 0, 0, 0, []), (24, .iload_n 3, 1, 0, 0, 0, 0, []), (25, .iconst 2, 1, 0, 0, 0, 0, []), (26, .iadd, 1, 0, 0, 0, 0, []), (27, .if_icmp .ge 7, 3, 34, 0, 0, 0, []), (30, .iconst 1, 1, 0, 0, 0, 0, []), (31, .goto 4, 3, 35, 0, 0, 0, [])],
  [(34, .iconst 0, 1, 0, 0, 0, 0, []), (35, .ireturn, 1, 1, 0, 0, 0, [(0, 0), (0, 1), (0, 2), (0, 3)])]]
noncomputable def pm_115 : MR := (7, ⟨"OneAtATime$Search", "staysMonotone", "(LOneAtATime$BitList;I)Z"⟩, prog_9_method_6_code, 4, (some (.boolean)), pgA_115)
set_option maxRecDepth 100000 in
noncomputable def pgA_116 : List (List (Nat × EN)) := [[(0, .aload_n 1, 1, 0, 0, 0, 0, []), (1, .getfield 43, 3, 0, 6, 0, 0, [(0, 65)]), (4, .istore_n 3, 1, 0, 0, 0, 0, []), (5, .iload_n 3, 1, 0, 0, 0, 0, []), (6, .sipush 256, 3, 0, 0, 0, 0, []), (9, .if_icmp .ge 48, 3, 57, 0, 0, 0, []), (12, .aload_n 0, 1, 0, 0, 0, 0, []), (13, .getfield 15, 3, 6, 1, 2, 0, [(0, 27)]), (16, .iload_n 3, 1, 0, 0, 0, 0, []), (17, .iload_n 2, 1, 0, 0, 0, 0, []), (18, .iconst 1, 1, 0, 0, 0, 0, []), (19, .iadd, 1, 0, 0, 0, 0, []), (20, .iastore, 1, 20, 0, 0, 0, []), (21, .aload_n 1, 1, 0, 0, 0, 0, []), (22, .iload_n 2, 1, 0, 0, 0, 0, []), (23, .invokevirtual 76, 3, 31, 2, 0, 0, [(0, 133)]), (26, .aload_n 0, 1, 0, 0, 0, 0, []), (27, .getfield 15, 3, 6, 1, 2, 0, [(0, 27)]), (30, .iload_n 3, 1, 0, 0, 0, 0, []), (31, .iconst 1, 1, 0, 0, 0, 0, [])],
  [(32, .iadd, 1, 0, 0, 0, 0, []), (33, .iconst 0, 1, 0, 0, 0, 0, []), (34, .iastore, 1, 20, 0, 0, 0, []), (35, .aload_n 0, 1, 0, 0, 0, 0, []), (36, .getfield 18, 3, 6, 2, 2, 0, [(0, 28)]), (39, .iload_n 3, 1, 0, 0, 0, 0, []), (40, .iconst 1, 1, 0, 0, 0, 0, []), (41, .iadd, 1, 0, 0, 0, 0, []), (42, .aload_n 0, 1, 0, 0, 0, 0, []), (43, .getfield 18, 3, 6, 2, 2, 0, [(0, 28)]), (46, .iload_n 3, 1, 0, 0, 0, 0, []), (47, .iaload, 1, 20, 0, 0, 0, []), (48, .aload_n 1, 1, 0, 0, 0, 0, []), (49, .iload_n 3, 1, 0, 0, 0, 0, []), (50, .invokevirtual 98, 3, 56, 2, 1, 0, [(0, 137)]), (53, .invokestatic 101, 3, 1004, 2, 1, 0, [(0, 138)]), (56, .iastore, 1, 20, 0, 0, 0, []), (57, .return_, 1, 0, 0, 0, 0, [(0, 0), (0, 1), (0, 2), (0, 3)])]]
noncomputable def pm_116 : MR := (7, ⟨"OneAtATime$Search", "takeStep", "(LOneAtATime$BitList;I)V"⟩, prog_9_method_7_code, 4, none, pgA_116)
set_option maxRecDepth 100000 in
noncomputable def pgA_117 : List (List (Nat × EN)) := [[(0, .aload_n 0, 1, 0, 0, 0, 0, []), (1, .iload_n 1, 1, 0, 0, 0, 0, []), (2, .invokevirtual 109, 3, 41, 2, 2, 8, [(0, 50)]), (5, .astore 4, 2, 0, 0, 0, 0, []), (7, .aload 4, 2, 0, 0, 0, 0, []), (9, .ifnull 12, 3, 21, 0, 0, 0, []), (12, .aload 4, 2, 0, 0, 0, 0, []), (14, .lload_n 2, 1, 0, 0, 0, 0, []), (15, .invokestatic 250, 3, 118, 2, 1, 0, [(0, 139)]), (18, .ifCond .ne 6, 3, 24, 0, 0, 0, []), (21, .bipush (-2), 2, 0, 0, 0, 0, [(0, 0), (0, 1), (0, 2), (0, 3), (0, 4)]), (23, .ireturn, 1, 0, 0, 0, 0, []), (24, .aload 4, 2, 0, 0, 0, 0, []), (26, .getfield 113, 3, 0, 3, 0, 0, [(0, 52)]), (29, .bipush 6, 2, 0, 0, 0, 0, []), (31, .if_icmp .le 6, 3, 37, 0, 0, 0, [])],
  [(34, .bipush (-5), 2, 0, 0, 0, 0, []), (36, .ireturn, 1, 0, 0, 0, 0, []), (37, .aload_n 0, 1, 0, 0, 0, 0, []), (38, .aload 4, 2, 0, 0, 0, 0, []), (40, .invokevirtual 254, 3, 120, 2, 1, 8, [(0, 140)]), (43, .ifCond .ne 6, 3, 49, 0, 0, 0, []), (46, .bipush (-6), 2, 0, 0, 0, 0, []), (48, .ireturn, 1, 0, 0, 0, 0, []), (49, .aload 4, 2, 0, 0, 0, 0, []), (51, .lload_n 2, 1, 0, 0, 0, 0, []), (52, .aload_n 0, 1, 0, 0, 0, 0, []), (53, .getfield 16, 3, 8, 1, 2, 0, [(0, 1)]), (56, .invokestatic 257, 3, 121, 3, 0, 0, [(0, 141)]), (59, .aload_n 0, 1, 0, 0, 0, 0, []), (60, .iload_n 1, 1, 0, 0, 0, 0, []), (61, .invokevirtual 92, 3, 32, 2, 1, 8, [(0, 25)])],
  [(64, .pop, 1, 0, 0, 0, 0, []), (65, .aload_n 0, 1, 0, 0, 0, 0, []), (66, .getfield 16, 3, 8, 1, 2, 0, [(0, 1)]), (69, .getfield 113, 3, 0, 3, 0, 0, [(0, 52)]), (72, .ireturn, 1, 0, 0, 0, 0, [])]]
noncomputable def pm_117 : MR := (0, ⟨"OneAtATime", "extend", "(IJ)I"⟩, prog_1_method_30_code, 5, (some (.int)), pgA_117)
end
section
set_option maxRecDepth 100000 in
noncomputable def pgA_118 : List (List (Nat × EN)) := [[(0, .aload_n 0, 1, 0, 0, 0, 0, []), (1, .getfield 39, 3, 0, 6, 0, 0, [(0, 63)]), (4, .iconst 1, 1, 0, 0, 0, 0, []), (5, .isub, 1, 0, 0, 0, 0, []), (6, .iconst 0, 1, 0, 0, 0, 0, []), (7, .invokestatic 46, 3, 1004, 2, 1, 0, [(0, 142)]), (10, .istore_n 3, 1, 0, 0, 0, 0, []), (11, .iload_n 3, 1, 0, 0, 0, 0, []), (12, .bipush 64, 2, 0, 0, 0, 0, []), (14, .if_icmp .lt 7, 3, 21, 0, 0, 0, []), (17, .lconst 0, 1, 0, 0, 0, 0, []), (18, .goto 6, 3, 24, 0, 0, 0, []), (21, .lload_n 1, 1, 0, 0, 0, 0, []), (22, .iload_n 3, 1, 0, 0, 0, 0, []), (23, .lushr, 1, 0, 0, 0, 0, []), (24, .lstore 4, 2, 0, 0, 0, 0, [(0, 0), (0, 2), (0, 3), (0, 4), (0, 5)]), (26, .lload 4, 2, 0, 0, 0, 0, []), (28, .lconst 0, 1, 0, 0, 0, 0, []), (29, .lcmp, 1, 0, 0, 0, 0, []), (30, .ifCond .ne 16, 3, 46, 0, 0, 0, [])],
  [(33, .lload_n 1, 1, 0, 0, 0, 0, []), (34, .invokestatic 52, 3, 119, 1, 1, 0, [(0, 143)]), (37, .iconst 2, 1, 0, 0, 0, 0, []), (38, .irem, 1, 0, 0, 0, 0, []), (39, .ifCond .ne 7, 3, 46, 0, 0, 0, []), (42, .iconst 1, 1, 0, 0, 0, 0, []), (43, .goto 4, 3, 47, 0, 0, 0, []), (46, .iconst 0, 1, 0, 0, 0, 0, [(0, 0), (0, 1), (0, 2), (0, 3), (0, 4), (0, 5)]), (47, .ireturn, 1, 1, 0, 0, 0, [(0, 0), (0, 1), (0, 2), (0, 3), (0, 4), (0, 5)])]]
noncomputable def pm_118 : MR := (12, ⟨"OneAtATime$Maker", "canBeCut", "(LOneAtATime$BitList;J)Z"⟩, prog_7_method_5_code, 6, (some (.boolean)), pgA_118)
set_option maxRecDepth 100000 in
noncomputable def pgA_119 : List (List (Nat × EN)) := [[(0, .lload_n 0, 1, 0, 0, 0, 0, []), (1, .lload_n 0, 1, 0, 0, 0, 0, []), (2, .iconst 1, 1, 0, 0, 0, 0, []), (3, .lushr, 1, 0, 0, 0, 0, []), (4, .ldc2_w 314, 3, 6148914691236517205, 0, 0, 0, [(0, 0)]), (7, .land, 1, 0, 0, 0, 0, []), (8, .lsub, 1, 0, 0, 0, 0, []), (9, .lstore_n 0, 1, 0, 0, 0, 0, []), (10, .lload_n 0, 1, 0, 0, 0, 0, []), (11, .ldc2_w 316, 3, 3689348814741910323, 0, 0, 0, [(0, 1)]), (14, .land, 1, 0, 0, 0, 0, []), (15, .lload_n 0, 1, 0, 0, 0, 0, []), (16, .iconst 2, 1, 0, 0, 0, 0, []), (17, .lushr, 1, 0, 0, 0, 0, []), (18, .ldc2_w 316, 3, 3689348814741910323, 0, 0, 0, [(0, 1)]), (21, .land, 1, 0, 0, 0, 0, []), (22, .ladd, 1, 0, 0, 0, 0, []), (23, .lstore_n 0, 1, 0, 0, 0, 0, []), (24, .lload_n 0, 1, 0, 0, 0, 0, []), (25, .lload_n 0, 1, 0, 0, 0, 0, []), (26, .iconst 4, 1, 0, 0, 0, 0, []), (27, .lushr, 1, 0, 0, 0, 0, []), (28, .ladd, 1, 0, 0, 0, 0, []), (29, .ldc2_w 318, 3, 1085102592571150095, 0, 0, 0, [(0, 2)])],
  [(32, .land, 1, 0, 0, 0, 0, []), (33, .lstore_n 0, 1, 0, 0, 0, 0, []), (34, .lload_n 0, 1, 0, 0, 0, 0, []), (35, .lload_n 0, 1, 0, 0, 0, 0, []), (36, .bipush 8, 2, 0, 0, 0, 0, []), (38, .lushr, 1, 0, 0, 0, 0, []), (39, .ladd, 1, 0, 0, 0, 0, []), (40, .lstore_n 0, 1, 0, 0, 0, 0, []), (41, .lload_n 0, 1, 0, 0, 0, 0, []), (42, .lload_n 0, 1, 0, 0, 0, 0, []), (43, .bipush 16, 2, 0, 0, 0, 0, []), (45, .lushr, 1, 0, 0, 0, 0, []), (46, .ladd, 1, 0, 0, 0, 0, []), (47, .lstore_n 0, 1, 0, 0, 0, 0, []), (48, .lload_n 0, 1, 0, 0, 0, 0, []), (49, .lload_n 0, 1, 0, 0, 0, 0, []), (50, .bipush 32, 2, 0, 0, 0, 0, []), (52, .lushr, 1, 0, 0, 0, 0, []), (53, .ladd, 1, 0, 0, 0, 0, []), (54, .lstore_n 0, 1, 0, 0, 0, 0, []), (55, .lload_n 0, 1, 0, 0, 0, 0, []), (56, .l2i, 1, 0, 0, 0, 0, []), (57, .bipush 127, 2, 0, 0, 0, 0, []), (59, .iand, 1, 0, 0, 0, 0, []), (60, .ireturn, 1, 0, 0, 0, 0, [])]]
noncomputable def pm_119 : MR := (13, ⟨"java/lang/Long", "bitCount", "(J)I"⟩, prog_14_method_50_code, 2, (some (.int)), pgA_119)
set_option maxRecDepth 100000 in
noncomputable def pgA_120 : List (List (Nat × EN)) := [[(0, .aload_n 1, 1, 0, 0, 0, 0, []), (1, .getfield 116, 3, 0, 4, 0, 0, [(0, 53)]), (4, .ifCond .ne 36, 3, 40, 0, 0, 0, []), (7, .aload_n 1, 1, 0, 0, 0, 0, []), (8, .getfield 119, 3, 0, 5, 0, 0, [(0, 54)]), (11, .aload_n 1, 1, 0, 0, 0, 0, []), (12, .getfield 113, 3, 0, 3, 0, 0, [(0, 52)]), (15, .if_icmp .ne 25, 3, 40, 0, 0, 0, []), (18, .aload_n 1, 1, 0, 0, 0, 0, []), (19, .invokevirtual 139, 3, 43, 1, 1, 0, [(0, 62)]), (22, .ifCond .eq 18, 3, 40, 0, 0, 0, []), (25, .aload_n 0, 1, 0, 0, 0, 0, []), (26, .getfield 46, 3, 8, 5, 2, 0, [(0, 5)]), (29, .aload_n 1, 1, 0, 0, 0, 0, []), (30, .invokevirtual 150, 3, 54, 2, 1, 7, [(0, 65)])],
  [(33, .ifCond .eq 7, 3, 40, 0, 0, 0, []), (36, .iconst 1, 1, 0, 0, 0, 0, []), (37, .goto 4, 3, 41, 0, 0, 0, []), (40, .iconst 0, 1, 0, 0, 0, 0, [(0, 0), (0, 1)]), (41, .ireturn, 1, 1, 0, 0, 0, [(0, 0), (0, 1)])]]
noncomputable def pm_120 : MR := (0, ⟨"OneAtATime", "isWholeLoop", "(LOneAtATime$BitList;)Z"⟩, prog_1_method_57_code, 2, (some (.boolean)), pgA_120)
set_option maxRecDepth 100000 in
noncomputable def pgA_121 : List (List (Nat × EN)) := [[(0, .aload_n 0, 1, 0, 0, 0, 0, []), (1, .getfield 31, 3, 0, 3, 0, 0, [(0, 62)]), (4, .istore 4, 2, 0, 0, 0, 0, []), (6, .aload_n 0, 1, 0, 0, 0, 0, []), (7, .getfield 31, 3, 0, 3, 0, 0, [(0, 62)]), (10, .iconst 1, 1, 0, 0, 0, 0, []), (11, .iadd, 1, 0, 0, 0, 0, []), (12, .istore 5, 2, 0, 0, 0, 0, []), (14, .aload_n 3, 1, 0, 0, 0, 0, []), (15, .aload_n 0, 1, 0, 0, 0, 0, []), (16, .getfield 31, 3, 0, 3, 0, 0, [(0, 62)]), (19, .iconst 2, 1, 0, 0, 0, 0, []), (20, .iadd, 1, 0, 0, 0, 0, []), (21, .iconst 0, 1, 0, 0, 0, 0, []), (22, .aload_n 0, 1, 0, 0, 0, 0, []), (23, .getfield 31, 3, 0, 3, 0, 0, [(0, 62)]), (26, .iconst 2, 1, 0, 0, 0, 0, []), (27, .iadd, 1, 0, 0, 0, 0, []), (28, .aload_n 0, 1, 0, 0, 0, 0, []), (29, .getfield 7, 3, 0, 1, 2, 0, [(0, 61)])],
  [(32, .iconst 0, 1, 0, 0, 0, 0, []), (33, .iaload, 1, 20, 0, 0, 0, []), (34, .invokevirtual 58, 3, 28, 5, 0, 0, [(0, 144)]), (37, .iconst 0, 1, 0, 0, 0, 0, []), (38, .istore 6, 2, 0, 0, 0, 0, []), (40, .iconst 0, 1, 0, 0, 0, 0, []), (41, .istore 7, 2, 0, 0, 0, 0, []), (43, .iload 7, 2, 0, 0, 0, 0, [(0, 2), (0, 8), (0, 9)]), (45, .aload_n 0, 1, 0, 0, 0, 0, []), (46, .getfield 39, 3, 0, 6, 0, 0, [(0, 63)]), (49, .if_icmp .ge 117, 3, 166, 0, 0, 0, []), (52, .iload 7, 2, 0, 0, 0, 0, []), (54, .aload_n 0, 1, 0, 0, 0, 0, []), (55, .getfield 39, 3, 0, 6, 0, 0, [(0, 63)]), (58, .iconst 1, 1, 0, 0, 0, 0, []), (59, .isub, 1, 0, 0, 0, 0, []), (60, .if_icmp .ne 7, 3, 67, 0, 0, 0, []), (63, .iconst 1, 1, 0, 0, 0, 0, [])],
  [(64, .goto 4, 3, 68, 0, 0, 0, []), (67, .iconst 0, 1, 0, 0, 0, 0, []), (68, .istore 8, 2, 0, 0, 0, 0, [(0, 2), (0, 8), (0, 9)]), (70, .iload 8, 2, 0, 0, 0, 0, []), (72, .ifCond .ne 12, 3, 84, 0, 0, 0, []), (75, .lload_n 1, 1, 0, 0, 0, 0, []), (76, .iload 7, 2, 0, 0, 0, 0, []), (78, .invokestatic 62, 3, 122, 2, 1, 0, [(0, 145)]), (81, .ifCond .eq 79, 3, 160, 0, 0, 0, []), (84, .aload_n 3, 1, 0, 0, 0, 0, [(0, 2), (0, 9)]), (85, .aload_n 0, 1, 0, 0, 0, 0, []), (86, .iload 6, 2, 0, 0, 0, 0, []), (88, .iload 7, 2, 0, 0, 0, 0, []), (90, .iconst 0, 1, 0, 0, 0, 0, []), (91, .invokevirtual 42, 3, 107, 5, 0, 0, [(0, 117)]), (94, .aload_n 3, 1, 0, 0, 0, 0, []), (95, .iload 4, 2, 0, 0, 0, 0, [])],
  [(97, .invokevirtual 27, 3, 31, 2, 0, 0, [(0, 114)]), (100, .aload_n 3, 1, 0, 0, 0, 0, []), (101, .aload_n 0, 1, 0, 0, 0, 0, []), (102, .iload 6, 2, 0, 0, 0, 0, []), (104, .iload 7, 2, 0, 0, 0, 0, []), (106, .iconst 0, 1, 0, 0, 0, 0, []), (107, .invokevirtual 68, 3, 123, 5, 0, 0, [(0, 146)]), (110, .aload_n 3, 1, 0, 0, 0, 0, []), (111, .iload 5, 2, 0, 0, 0, 0, []), (113, .invokevirtual 27, 3, 31, 2, 0, 0, [(0, 114)]), (116, .aload_n 3, 1, 0, 0, 0, 0, []), (117, .aload_n 0, 1, 0, 0, 0, 0, []), (118, .iload 6, 2, 0, 0, 0, 0, []), (120, .iload 7, 2, 0, 0, 0, 0, []), (122, .iconst 0, 1, 0, 0, 0, 0, []), (123, .invokevirtual 42, 3, 107, 5, 0, 0, [(0, 117)]), (126, .iload 8, 2, 0, 0, 0, 0, [])],
  [(128, .ifCond .ne 14, 3, 142, 0, 0, 0, []), (131, .aload_n 3, 1, 0, 0, 0, 0, []), (132, .aload_n 0, 1, 0, 0, 0, 0, []), (133, .getfield 71, 3, 0, 0, 2, 0, [(0, 67)]), (136, .iload 7, 2, 0, 0, 0, 0, []), (138, .iaload, 1, 20, 0, 0, 0, []), (139, .invokevirtual 27, 3, 31, 2, 0, 0, [(0, 114)]), (142, .iload 7, 2, 0, 0, 0, 0, [(0, 2), (0, 6), (0, 8), (0, 9)]), (144, .iconst 1, 1, 0, 0, 0, 0, []), (145, .iadd, 1, 0, 0, 0, 0, []), (146, .istore 6, 2, 0, 0, 0, 0, []), (148, .iload 4, 2, 0, 0, 0, 0, []), (150, .istore 9, 2, 0, 0, 0, 0, []), (152, .iload 5, 2, 0, 0, 0, 0, []), (154, .istore 4, 2, 0, 0, 0, 0, []), (156, .iload 9, 2, 0, 0, 0, 0, []), (158, .istore 5, 2, 0, 0, 0, 0, [])],
  [(160, .iinc 7 1, 3, 0, 0, 0, 0, [(0, 2), (0, 8), (0, 9)]), (163, .goto (-120), 3, 43, 0, 0, 0, []), (166, .aload_n 3, 1, 0, 0, 0, 0, []), (167, .aload_n 0, 1, 0, 0, 0, 0, []), (168, .getfield 31, 3, 0, 3, 0, 0, [(0, 62)]), (171, .invokevirtual 27, 3, 31, 2, 0, 0, [(0, 114)]), (174, .aload_n 3, 1, 0, 0, 0, 0, []), (175, .aload_n 0, 1, 0, 0, 0, 0, []), (176, .iconst 0, 1, 0, 0, 0, 0, []), (177, .aload_n 0, 1, 0, 0, 0, 0, []), (178, .getfield 39, 3, 0, 6, 0, 0, [(0, 63)]), (181, .iconst 1, 1, 0, 0, 0, 0, []), (182, .isub, 1, 0, 0, 0, 0, []), (183, .iconst 0, 1, 0, 0, 0, 0, []), (184, .invokevirtual 68, 3, 123, 5, 0, 0, [(0, 146)]), (187, .aload_n 3, 1, 0, 0, 0, 0, []), (188, .aload_n 0, 1, 0, 0, 0, 0, []), (189, .getfield 31, 3, 0, 3, 0, 0, [(0, 62)])],
  [(192, .iconst 1, 1, 0, 0, 0, 0, []), (193, .iadd, 1, 0, 0, 0, 0, []), (194, .invokevirtual 27, 3, 31, 2, 0, 0, [(0, 114)]), (197, .return_, 1, 0, 0, 0, 0, [])]]
noncomputable def pm_121 : MR := (12, ⟨"OneAtATime$Maker", "extended", "(LOneAtATime$BitList;JLOneAtATime$BitList;)V"⟩, prog_7_method_7_code, 10, none, pgA_121)
set_option maxRecDepth 100000 in
noncomputable def pgA_122 : List (List (Nat × EN)) := [[(0, .iload_n 2, 1, 0, 0, 0, 0, []), (1, .bipush 64, 2, 0, 0, 0, 0, []), (3, .if_icmp .ge 17, 3, 20, 0, 0, 0, []), (6, .lload_n 0, 1, 0, 0, 0, 0, []), (7, .iload_n 2, 1, 0, 0, 0, 0, []), (8, .lushr, 1, 0, 0, 0, 0, []), (9, .lconst 1, 1, 0, 0, 0, 0, []), (10, .land, 1, 0, 0, 0, 0, []), (11, .lconst 1, 1, 0, 0, 0, 0, []), (12, .lcmp, 1, 0, 0, 0, 0, []), (13, .ifCond .ne 7, 3, 20, 0, 0, 0, []), (16, .iconst 1, 1, 0, 0, 0, 0, []), (17, .goto 4, 3, 21, 0, 0, 0, []), (20, .iconst 0, 1, 0, 0, 0, 0, [(0, 0), (0, 1), (0, 2)]), (21, .ireturn, 1, 1, 0, 0, 0, [(0, 0), (0, 1), (0, 2)])]]
noncomputable def pm_122 : MR := (12, ⟨"OneAtATime$Maker", "isCut", "(JI)Z"⟩, prog_7_method_6_code, 3, (some (.boolean)), pgA_122)
set_option maxRecDepth 100000 in
noncomputable def pgA_123 : List (List (Nat × EN)) := [[(0, .iload_n 3, 1, 0, 0, 0, 0, []), (1, .aload_n 1, 1, 0, 0, 0, 0, []), (2, .getfield 32, 3, 0, 6, 0, 0, [(0, 45)]), (5, .invokestatic 53, 3, 1005, 2, 1, 0, [(0, 74)]), (8, .iconst 1, 1, 0, 0, 0, 0, []), (9, .isub, 1, 0, 0, 0, 0, []), (10, .istore 5, 2, 0, 0, 0, 0, []), (12, .iload 5, 2, 0, 0, 0, 0, [(0, 3)]), (14, .iload_n 2, 1, 0, 0, 0, 0, []), (15, .if_icmp .lt 28, 3, 43, 0, 0, 0, []), (18, .iload 5, 2, 0, 0, 0, 0, []), (20, .ifCond .lt 23, 3, 43, 0, 0, 0, []), (23, .aload_n 0, 1, 0, 0, 0, 0, []), (24, .aload_n 1, 1, 0, 0, 0, 0, []), (25, .getfield 9, 3, 0, 0, 2, 0, [(0, 9)]), (28, .iload 5, 2, 0, 0, 0, 0, []), (30, .iaload, 1, 20, 0, 0, 0, []), (31, .iload 4, 2, 0, 0, 0, 0, [])],
  [(33, .iadd, 1, 0, 0, 0, 0, []), (34, .invokevirtual 49, 3, 31, 2, 0, 0, [(0, 119)]), (37, .iinc 5 (-1), 3, 0, 0, 0, 0, []), (40, .goto (-28), 3, 12, 0, 0, 0, []), (43, .return_, 1, 0, 0, 0, 0, [(0, 0), (0, 1), (0, 2), (0, 3), (0, 4), (0, 5)])]]
noncomputable def pm_123 : MR := (1, ⟨"OneAtATime$BitList", "pushBack", "(LOneAtATime$BitList;III)V"⟩, prog_2_method_7_code, 6, none, pgA_123)
set_option maxRecDepth 100000 in
noncomputable def pgA_124 : List (List (Nat × EN)) := [[(0, .aload_n 0, 1, 0, 0, 0, 0, []), (1, .iload_n 1, 1, 0, 0, 0, 0, []), (2, .invokevirtual 109, 3, 41, 2, 2, 8, [(0, 50)]), (5, .astore_n 2, 1, 0, 0, 0, 0, []), (6, .aload_n 2, 1, 0, 0, 0, 0, []), (7, .ifnonnull 8, 3, 15, 0, 0, 0, []), (10, .bipush (-2), 2, 0, 0, 0, 0, []), (12, .goto 11, 3, 23, 0, 0, 0, []), (15, .aload_n 0, 1, 0, 0, 0, 0, []), (16, .getfield 46, 3, 8, 5, 2, 0, [(0, 5)]), (19, .aload_n 2, 1, 0, 0, 0, 0, []), (20, .invokevirtual 261, 3, 125, 2, 1, 7, [(0, 147)]), (23, .ireturn, 1, 0, 0, 0, 0, [(0, 0), (0, 1), (0, 2)])]]
noncomputable def pm_124 : MR := (0, ⟨"OneAtATime", "open", "(I)I"⟩, prog_1_method_31_code, 3, (some (.int)), pgA_124)
set_option maxRecDepth 100000 in
noncomputable def pgA_125 : List (List (Nat × EN)) := [[(0, .aload_n 0, 1, 0, 0, 0, 0, []), (1, .aload_n 1, 1, 0, 0, 0, 0, []), (2, .invokevirtual 42, 3, 45, 2, 0, 7, [(0, 55)]), (5, .iconst 0, 1, 0, 0, 0, 0, []), (6, .istore_n 2, 1, 0, 0, 0, 0, []), (7, .iconst 0, 1, 0, 0, 0, 0, []), (8, .istore_n 3, 1, 0, 0, 0, 0, []), (9, .iload_n 3, 1, 0, 0, 0, 0, [(0, 4)]), (10, .aload_n 1, 1, 0, 0, 0, 0, []), (11, .getfield 75, 3, 0, 3, 0, 0, [(0, 58)]), (14, .if_icmp .ge 44, 3, 58, 0, 0, 0, []), (17, .aload_n 1, 1, 0, 0, 0, 0, []), (18, .invokevirtual 126, 3, 112, 1, 1, 0, [(0, 148)]), (21, .iconst 1, 1, 0, 0, 0, 0, []), (22, .iload_n 3, 1, 0, 0, 0, 0, []), (23, .ishl, 1, 0, 0, 0, 0, []), (24, .ixor, 1, 0, 0, 0, 0, []), (25, .istore 4, 2, 0, 0, 0, 0, []), (27, .aload_n 0, 1, 0, 0, 0, 0, []), (28, .getfield 9, 3, 7, 0, 2, 0, [(0, 21)]), (31, .iload 4, 2, 0, 0, 0, 0, [])],
  [(33, .iaload, 1, 20, 0, 0, 0, []), (34, .ifCond .ne 18, 3, 52, 0, 0, 0, []), (37, .aload_n 1, 1, 0, 0, 0, 0, []), (38, .iload 4, 2, 0, 0, 0, 0, []), (40, .invokevirtual 53, 3, 49, 2, 1, 0, [(0, 71)]), (43, .ifCond .eq 9, 3, 52, 0, 0, 0, []), (46, .iload_n 2, 1, 0, 0, 0, 0, []), (47, .iconst 1, 1, 0, 0, 0, 0, []), (48, .iload_n 3, 1, 0, 0, 0, 0, []), (49, .ishl, 1, 0, 0, 0, 0, []), (50, .ior, 1, 0, 0, 0, 0, []), (51, .istore_n 2, 1, 0, 0, 0, 0, []), (52, .iinc 3 1, 3, 0, 0, 0, 0, [(0, 4)]), (55, .goto (-46), 3, 9, 0, 0, 0, []), (58, .iload_n 2, 1, 0, 0, 0, 0, []), (59, .ireturn, 1, 0, 0, 0, 0, [])]]
noncomputable def pm_125 : MR := (6, ⟨"OneAtATime$Survey", "openBits", "(LOneAtATime$BitList;)I"⟩, prog_10_method_26_code, 5, (some (.int)), pgA_125)
set_option maxRecDepth 100000 in
noncomputable def pgA_126 : List (List (Nat × EN)) := [[(0, .aload_n 0, 1, 0, 0, 0, 0, []), (1, .iload_n 1, 1, 0, 0, 0, 0, []), (2, .invokevirtual 109, 3, 41, 2, 2, 8, [(0, 50)]), (5, .astore 4, 2, 0, 0, 0, 0, []), (7, .aload 4, 2, 0, 0, 0, 0, []), (9, .ifnull 21, 3, 30, 0, 0, 0, []), (12, .aload 4, 2, 0, 0, 0, 0, []), (14, .iload_n 2, 1, 0, 0, 0, 0, []), (15, .invokevirtual 168, 3, 68, 2, 1, 0, [(0, 83)]), (18, .ifCond .eq 12, 3, 30, 0, 0, 0, []), (21, .aload 4, 2, 0, 0, 0, 0, []), (23, .iload_n 3, 1, 0, 0, 0, 0, []), (24, .invokevirtual 168, 3, 68, 2, 1, 0, [(0, 83)]), (27, .ifCond .ne 6, 3, 33, 0, 0, 0, []), (30, .bipush (-2), 2, 0, 0, 0, 0, [(0, 0), (0, 1), (0, 2), (0, 3), (0, 4)])],
  [(32, .ireturn, 1, 0, 0, 0, 0, []), (33, .aload_n 0, 1, 0, 0, 0, 0, []), (34, .getfield 46, 3, 8, 5, 2, 0, [(0, 5)]), (37, .aload 4, 2, 0, 0, 0, 0, []), (39, .iload_n 2, 1, 0, 0, 0, 0, []), (40, .iload_n 3, 1, 0, 0, 0, 0, []), (41, .invokevirtual 264, 3, 127, 4, 1, 7, [(0, 149)]), (44, .ireturn, 1, 0, 0, 0, 0, [])]]
noncomputable def pm_126 : MR := (0, ⟨"OneAtATime", "way", "(III)I"⟩, prog_1_method_32_code, 5, (some (.int)), pgA_126)
set_option maxRecDepth 100000 in
noncomputable def pgA_127 : List (List (Nat × EN)) := [[(0, .aload_n 0, 1, 0, 0, 0, 0, []), (1, .aload_n 1, 1, 0, 0, 0, 0, []), (2, .invokevirtual 42, 3, 45, 2, 0, 7, [(0, 55)]), (5, .aload_n 0, 1, 0, 0, 0, 0, []), (6, .getfield 18, 3, 7, 2, 2, 0, [(0, 23)]), (9, .iconst (-1), 1, 0, 0, 0, 0, []), (10, .invokestatic 27, 3, 46, 2, 0, 0, [(0, 57)]), (13, .aload_n 0, 1, 0, 0, 0, 0, []), (14, .getfield 18, 3, 7, 2, 2, 0, [(0, 23)]), (17, .iload_n 2, 1, 0, 0, 0, 0, []), (18, .iconst 0, 1, 0, 0, 0, 0, []), (19, .iastore, 1, 20, 0, 0, 0, []), (20, .aload_n 0, 1, 0, 0, 0, 0, []), (21, .getfield 21, 3, 7, 3, 2, 0, [(0, 24)]), (24, .iconst 0, 1, 0, 0, 0, 0, []), (25, .iload_n 2, 1, 0, 0, 0, 0, []), (26, .iastore, 1, 20, 0, 0, 0, []), (27, .iconst 1, 1, 0, 0, 0, 0, []), (28, .istore 4, 2, 0, 0, 0, 0, []), (30, .iconst 0, 1, 0, 0, 0, 0, []), (31, .istore 5, 2, 0, 0, 0, 0, [])],
  [(33, .iload 5, 2, 0, 0, 0, 0, [(0, 2), (0, 6), (0, 7), (0, 8), (0, 9)]), (35, .iload 4, 2, 0, 0, 0, 0, []), (37, .if_icmp .ge 139, 3, 176, 0, 0, 0, []), (40, .aload_n 0, 1, 0, 0, 0, 0, []), (41, .getfield 18, 3, 7, 2, 2, 0, [(0, 23)]), (44, .iload_n 3, 1, 0, 0, 0, 0, []), (45, .iaload, 1, 20, 0, 0, 0, []), (46, .iconst (-1), 1, 0, 0, 0, 0, []), (47, .if_icmp .ne 129, 3, 176, 0, 0, 0, []), (50, .aload_n 0, 1, 0, 0, 0, 0, []), (51, .getfield 21, 3, 7, 3, 2, 0, [(0, 24)]), (54, .iload 5, 2, 0, 0, 0, 0, []), (56, .iaload, 1, 20, 0, 0, 0, []), (57, .istore 6, 2, 0, 0, 0, 0, []), (59, .iconst 0, 1, 0, 0, 0, 0, []), (60, .istore 7, 2, 0, 0, 0, 0, []), (62, .iload 7, 2, 0, 0, 0, 0, [(0, 2), (0, 8), (0, 9)])],
  [(64, .aload_n 1, 1, 0, 0, 0, 0, []), (65, .getfield 75, 3, 0, 3, 0, 0, [(0, 58)]), (68, .if_icmp .ge 102, 3, 170, 0, 0, 0, []), (71, .iload 6, 2, 0, 0, 0, 0, []), (73, .iconst 1, 1, 0, 0, 0, 0, []), (74, .iload 7, 2, 0, 0, 0, 0, []), (76, .ishl, 1, 0, 0, 0, 0, []), (77, .ixor, 1, 0, 0, 0, 0, []), (78, .istore 8, 2, 0, 0, 0, 0, []), (80, .iload 8, 2, 0, 0, 0, 0, []), (82, .iload_n 3, 1, 0, 0, 0, 0, []), (83, .if_icmp .eq 22, 3, 105, 0, 0, 0, []), (86, .aload_n 0, 1, 0, 0, 0, 0, []), (87, .getfield 9, 3, 7, 0, 2, 0, [(0, 21)]), (90, .iload 8, 2, 0, 0, 0, 0, []), (92, .iaload, 1, 20, 0, 0, 0, []), (93, .ifCond .ne 16, 3, 109, 0, 0, 0, [])],
  [(96, .aload_n 1, 1, 0, 0, 0, 0, []), (97, .iload 8, 2, 0, 0, 0, 0, []), (99, .invokevirtual 53, 3, 49, 2, 1, 0, [(0, 71)]), (102, .ifCond .eq 7, 3, 109, 0, 0, 0, []), (105, .iconst 1, 1, 0, 0, 0, 0, [(0, 2), (0, 9)]), (106, .goto 4, 3, 110, 0, 0, 0, []), (109, .iconst 0, 1, 0, 0, 0, 0, [(0, 2), (0, 9)]), (110, .istore 9, 2, 0, 0, 0, 0, [(0, 2), (0, 9)]), (112, .aload_n 0, 1, 0, 0, 0, 0, []), (113, .getfield 18, 3, 7, 2, 2, 0, [(0, 23)]), (116, .iload 8, 2, 0, 0, 0, 0, []), (118, .iaload, 1, 20, 0, 0, 0, []), (119, .iconst (-1), 1, 0, 0, 0, 0, []), (120, .if_icmp .ne 44, 3, 164, 0, 0, 0, []), (123, .iload 9, 2, 0, 0, 0, 0, []), (125, .ifCond .eq 39, 3, 164, 0, 0, 0, [])],
  [(128, .iload 4, 2, 0, 0, 0, 0, []), (130, .sipush 256, 3, 0, 0, 0, 0, []), (133, .if_icmp .ge 31, 3, 164, 0, 0, 0, []), (136, .aload_n 0, 1, 0, 0, 0, 0, []), (137, .getfield 18, 3, 7, 2, 2, 0, [(0, 23)]), (140, .iload 8, 2, 0, 0, 0, 0, []), (142, .aload_n 0, 1, 0, 0, 0, 0, []), (143, .getfield 18, 3, 7, 2, 2, 0, [(0, 23)]), (146, .iload 6, 2, 0, 0, 0, 0, []), (148, .iaload, 1, 20, 0, 0, 0, []), (149, .iconst 1, 1, 0, 0, 0, 0, []), (150, .iadd, 1, 0, 0, 0, 0, []), (151, .iastore, 1, 20, 0, 0, 0, []), (152, .aload_n 0, 1, 0, 0, 0, 0, []), (153, .getfield 21, 3, 7, 3, 2, 0, [(0, 24)]), (156, .iload 4, 2, 0, 0, 0, 0, []), (158, .iload 8, 2, 0, 0, 0, 0, [])],
  [(160, .iastore, 1, 20, 0, 0, 0, []), (161, .iinc 4 1, 3, 0, 0, 0, 0, []), (164, .iinc 7 1, 3, 0, 0, 0, 0, [(0, 2), (0, 8), (0, 9)]), (167, .goto (-105), 3, 62, 0, 0, 0, []), (170, .iinc 5 1, 3, 0, 0, 0, 0, []), (173, .goto (-140), 3, 33, 0, 0, 0, []), (176, .aload_n 0, 1, 0, 0, 0, 0, [(0, 1), (0, 2), (0, 4), (0, 5), (0, 6), (0, 7), (0, 8), (0, 9)]), (177, .getfield 18, 3, 7, 2, 2, 0, [(0, 23)]), (180, .iload_n 3, 1, 0, 0, 0, 0, []), (181, .iaload, 1, 20, 0, 0, 0, []), (182, .ireturn, 1, 0, 0, 0, 0, [])]]
noncomputable def pm_127 : MR := (6, ⟨"OneAtATime$Survey", "shortestWay", "(LOneAtATime$BitList;II)I"⟩, prog_10_method_27_code, 10, (some (.int)), pgA_127)
set_option maxRecDepth 100000 in
noncomputable def pgA_128 : List (List (Nat × EN)) := [[(0, .aload_n 0, 1, 0, 0, 0, 0, []), (1, .iload_n 1, 1, 0, 0, 0, 0, []), (2, .invokevirtual 109, 3, 41, 2, 2, 8, [(0, 50)]), (5, .astore_n 3, 1, 0, 0, 0, 0, []), (6, .aload_n 3, 1, 0, 0, 0, 0, []), (7, .ifnull 10, 3, 17, 0, 0, 0, []), (10, .iload_n 2, 1, 0, 0, 0, 0, []), (11, .invokestatic 193, 3, 82, 1, 1, 0, [(0, 94)]), (14, .ifCond .ne 7, 3, 21, 0, 0, 0, []), (17, .ldc2_w 267, 3, 2, 1, 0, 0, [(0, 3)]), (20, .lreturn, 1, 0, 0, 0, 0, []), (21, .aload_n 3, 1, 0, 0, 0, 0, []), (22, .getfield 126, 3, 0, 6, 0, 0, [(0, 47)]), (25, .bipush 16, 2, 0, 0, 0, 0, []), (27, .if_icmp .le 7, 3, 34, 0, 0, 0, []), (30, .ldc2_w 269, 3, 5, 1, 0, 0, [(0, 4)])],
  [(33, .lreturn, 1, 0, 0, 0, 0, []), (34, .aload_n 0, 1, 0, 0, 0, 0, []), (35, .aload_n 3, 1, 0, 0, 0, 0, []), (36, .invokevirtual 254, 3, 120, 2, 1, 8, [(0, 140)]), (39, .ifCond .ne 7, 3, 46, 0, 0, 0, []), (42, .ldc2_w 271, 3, 6, 1, 0, 0, [(0, 5)]), (45, .lreturn, 1, 0, 0, 0, 0, []), (46, .aload_n 0, 1, 0, 0, 0, 0, []), (47, .getfield 67, 3, 8, 8, 2, 0, [(0, 8)]), (50, .aload_n 3, 1, 0, 0, 0, 0, []), (51, .invokevirtual 273, 3, 129, 2, 0, 2, [(0, 150)]), (54, .iload_n 2, 1, 0, 0, 0, 0, []), (55, .ifCond .ne 14, 3, 69, 0, 0, 0, []), (58, .aload_n 0, 1, 0, 0, 0, 0, []), (59, .getfield 67, 3, 8, 8, 2, 0, [(0, 8)]), (62, .getfield 277, 3, 2, 3, 0, 0, [(0, 68)])],
  [(65, .i2l, 1, 0, 0, 0, 0, []), (66, .goto 10, 3, 76, 0, 0, 0, []), (69, .aload_n 0, 1, 0, 0, 0, 0, []), (70, .getfield 67, 3, 8, 8, 2, 0, [(0, 8)]), (73, .getfield 280, 3, 2, 4, 3, 0, [(0, 69)]), (76, .lreturn, 1, 0, 0, 0, 0, [(0, 0), (0, 1), (0, 2), (0, 3)])]]
noncomputable def pm_128 : MR := (0, ⟨"OneAtATime", "evenest", "(II)J"⟩, prog_1_method_33_code, 4, (some (.long)), pgA_128)
set_option maxRecDepth 100000 in
noncomputable def pgA_129 : List (List (Nat × EN)) := [[(0, .aload_n 0, 1, 0, 0, 0, 0, []), (1, .aload_n 1, 1, 0, 0, 0, 0, []), (2, .invokevirtual 29, 3, 130, 2, 0, 2, [(0, 151)]), (5, .aload_n 0, 1, 0, 0, 0, 0, []), (6, .sipush 256, 3, 0, 0, 0, 0, []), (9, .putfield 21, 3, 2, 3, 0, 0, [(0, 34)]), (12, .aload_n 0, 1, 0, 0, 0, 0, []), (13, .lconst 0, 1, 0, 0, 0, 0, []), (14, .putfield 25, 3, 2, 4, 3, 0, [(0, 35)]), (17, .iconst 1, 1, 0, 0, 0, 0, []), (18, .istore_n 2, 1, 0, 0, 0, 0, []), (19, .iconst 0, 1, 0, 0, 0, 0, []), (20, .istore_n 3, 1, 0, 0, 0, 0, []), (21, .iload_n 2, 1, 0, 0, 0, 0, []), (22, .ifCond .eq 29, 3, 51, 0, 0, 0, []), (25, .iload_n 3, 1, 0, 0, 0, 0, []), (26, .ldc 33, 2, 65536, 0, 0, 0, [(0, 6)]), (28, .if_icmp .ge 23, 3, 51, 0, 0, 0, []), (31, .aload_n 0, 1, 0, 0, 0, 0, [])],
  [(32, .aload_n 1, 1, 0, 0, 0, 0, []), (33, .invokevirtual 34, 3, 131, 2, 0, 2, [(0, 152)]), (36, .aload_n 0, 1, 0, 0, 0, 0, []), (37, .aload_n 1, 1, 0, 0, 0, 0, []), (38, .getfield 37, 3, 0, 3, 0, 0, [(0, 70)]), (41, .invokevirtual 42, 3, 134, 2, 1, 2, [(0, 153)]), (44, .istore_n 2, 1, 0, 0, 0, 0, []), (45, .iinc 3 1, 3, 0, 0, 0, 0, []), (48, .goto (-27), 3, 21, 0, 0, 0, []), (51, .return_, 1, 0, 0, 0, 0, [(0, 0), (0, 1), (0, 2), (0, 3)])]]
noncomputable def pm_129 : MR := (9, ⟨"OneAtATime$Evenness", "seek", "(LOneAtATime$BitList;)V"⟩, prog_4_method_2_code, 4, none, pgA_129)
set_option maxRecDepth 100000 in
noncomputable def pgA_130 : List (List (Nat × EN)) := [[(0, .aload_n 0, 1, 0, 0, 0, 0, []), (1, .getfield 9, 3, 2, 0, 2, 0, [(0, 31)]), (4, .iconst 0, 1, 0, 0, 0, 0, []), (5, .invokestatic 46, 3, 46, 2, 0, 0, [(0, 154)]), (8, .aload_n 0, 1, 0, 0, 0, 0, []), (9, .getfield 15, 3, 2, 1, 2, 0, [(0, 32)]), (12, .iconst 0, 1, 0, 0, 0, 0, []), (13, .invokestatic 46, 3, 46, 2, 0, 0, [(0, 154)]), (16, .iconst 0, 1, 0, 0, 0, 0, []), (17, .istore_n 2, 1, 0, 0, 0, 0, []), (18, .iload_n 2, 1, 0, 0, 0, 0, []), (19, .aload_n 1, 1, 0, 0, 0, 0, []), (20, .getfield 52, 3, 0, 6, 0, 0, [(0, 71)]), (23, .iconst 1, 1, 0, 0, 0, 0, []), (24, .isub, 1, 0, 0, 0, 0, []), (25, .if_icmp .ge 24, 3, 49, 0, 0, 0, []), (28, .aload_n 0, 1, 0, 0, 0, 0, []), (29, .getfield 9, 3, 2, 0, 2, 0, [(0, 31)])],
  [(32, .aload_n 1, 1, 0, 0, 0, 0, []), (33, .getfield 55, 3, 0, 0, 2, 0, [(0, 72)]), (36, .iload_n 2, 1, 0, 0, 0, 0, []), (37, .iaload, 1, 20, 0, 0, 0, []), (38, .dup2, 1, 0, 0, 0, 0, []), (39, .iaload, 1, 20, 0, 0, 0, []), (40, .iconst 1, 1, 0, 0, 0, 0, []), (41, .iadd, 1, 0, 0, 0, 0, []), (42, .iastore, 1, 20, 0, 0, 0, []), (43, .iinc 2 1, 3, 0, 0, 0, 0, []), (46, .goto (-28), 3, 18, 0, 0, 0, []), (49, .return_, 1, 0, 0, 0, 0, [])]]
noncomputable def pm_130 : MR := (9, ⟨"OneAtATime$Evenness", "countTold", "(LOneAtATime$BitList;)V"⟩, prog_4_method_3_code, 3, none, pgA_130)
set_option maxRecDepth 100000 in
noncomputable def pgA_131 : List (List (Nat × EN)) := [[(0, .iconst 0, 1, 0, 0, 0, 0, []), (1, .istore_n 2, 1, 0, 0, 0, 0, []), (2, .iconst 0, 1, 0, 0, 0, 0, []), (3, .istore_n 3, 1, 0, 0, 0, 0, []), (4, .iload_n 3, 1, 0, 0, 0, 0, [(0, 4), (0, 5), (0, 6), (0, 7)]), (5, .aload_n 1, 1, 0, 0, 0, 0, []), (6, .getfield 37, 3, 0, 3, 0, 0, [(0, 70)]), (9, .if_icmp .ge 18, 3, 27, 0, 0, 0, []), (12, .iload_n 2, 1, 0, 0, 0, 0, []), (13, .aload_n 0, 1, 0, 0, 0, 0, []), (14, .getfield 15, 3, 2, 1, 2, 0, [(0, 32)]), (17, .iload_n 3, 1, 0, 0, 0, 0, []), (18, .iaload, 1, 20, 0, 0, 0, []), (19, .iadd, 1, 0, 0, 0, 0, []), (20, .istore_n 2, 1, 0, 0, 0, 0, []), (21, .iinc 3 1, 3, 0, 0, 0, 0, []), (24, .goto (-20), 3, 4, 0, 0, 0, []), (27, .iload_n 2, 1, 0, 0, 0, 0, []), (28, .iconst 2, 1, 0, 0, 0, 0, []), (29, .irem, 1, 0, 0, 0, 0, []), (30, .ifCond .eq 4, 3, 34, 0, 0, 0, [])],
  [(33, .return_, 1, 0, 0, 0, 0, []), (34, .iload_n 2, 1, 0, 0, 0, 0, []), (35, .iconst 2, 1, 0, 0, 0, 0, []), (36, .iadd, 1, 0, 0, 0, 0, []), (37, .istore_n 3, 1, 0, 0, 0, 0, []), (38, .iload_n 2, 1, 0, 0, 0, 0, []), (39, .iconst 2, 1, 0, 0, 0, 0, []), (40, .iadd, 1, 0, 0, 0, 0, []), (41, .istore 4, 2, 0, 0, 0, 0, []), (43, .iconst 0, 1, 0, 0, 0, 0, []), (44, .istore 5, 2, 0, 0, 0, 0, []), (46, .iload 5, 2, 0, 0, 0, 0, [(0, 2), (0, 6), (0, 7)]), (48, .aload_n 1, 1, 0, 0, 0, 0, []), (49, .getfield 37, 3, 0, 3, 0, 0, [(0, 70)]), (52, .if_icmp .ge 46, 3, 98, 0, 0, 0, []), (55, .iconst 4, 1, 0, 0, 0, 0, []), (56, .aload_n 0, 1, 0, 0, 0, 0, []), (57, .getfield 9, 3, 2, 0, 2, 0, [(0, 31)]), (60, .iload 5, 2, 0, 0, 0, 0, []), (62, .iaload, 1, 20, 0, 0, 0, []), (63, .imul, 1, 0, 0, 0, 0, [])],
  [(64, .iconst 2, 1, 0, 0, 0, 0, []), (65, .aload_n 0, 1, 0, 0, 0, 0, []), (66, .getfield 15, 3, 2, 1, 2, 0, [(0, 32)]), (69, .iload 5, 2, 0, 0, 0, 0, []), (71, .iaload, 1, 20, 0, 0, 0, []), (72, .imul, 1, 0, 0, 0, 0, []), (73, .isub, 1, 0, 0, 0, 0, []), (74, .istore 6, 2, 0, 0, 0, 0, []), (76, .iload_n 3, 1, 0, 0, 0, 0, []), (77, .iload 6, 2, 0, 0, 0, 0, []), (79, .invokestatic 58, 3, 1004, 2, 1, 0, [(0, 155)]), (82, .istore_n 3, 1, 0, 0, 0, 0, []), (83, .iload 4, 2, 0, 0, 0, 0, []), (85, .iload 6, 2, 0, 0, 0, 0, []), (87, .invokestatic 64, 3, 1005, 2, 1, 0, [(0, 156)]), (90, .istore 4, 2, 0, 0, 0, 0, []), (92, .iinc 5 1, 3, 0, 0, 0, 0, []), (95, .goto (-49), 3, 46, 0, 0, 0, [])],
  [(98, .iload_n 3, 1, 0, 0, 0, 0, []), (99, .iload 4, 2, 0, 0, 0, 0, []), (101, .isub, 1, 0, 0, 0, 0, []), (102, .istore 5, 2, 0, 0, 0, 0, []), (104, .iload 5, 2, 0, 0, 0, 0, []), (106, .aload_n 0, 1, 0, 0, 0, 0, []), (107, .getfield 21, 3, 2, 3, 0, 0, [(0, 34)]), (110, .if_icmp .gt 43, 3, 153, 0, 0, 0, []), (113, .aload_n 0, 1, 0, 0, 0, 0, []), (114, .aload_n 1, 1, 0, 0, 0, 0, []), (115, .invokevirtual 67, 3, 132, 2, 3, 2, [(0, 157)]), (118, .lstore 6, 2, 0, 0, 0, 0, []), (120, .aload_n 0, 1, 0, 0, 0, 0, []), (121, .iload 5, 2, 0, 0, 0, 0, []), (123, .aload_n 0, 1, 0, 0, 0, 0, []), (124, .getfield 21, 3, 2, 3, 0, 0, [(0, 34)]), (127, .if_icmp .ge 8, 3, 135, 0, 0, 0, [])],
  [(130, .lload 6, 2, 0, 0, 0, 0, []), (132, .goto 12, 3, 144, 0, 0, 0, []), (135, .aload_n 0, 1, 0, 0, 0, 0, []), (136, .getfield 25, 3, 2, 4, 3, 0, [(0, 35)]), (139, .lload 6, 2, 0, 0, 0, 0, []), (141, .invokestatic 71, 3, 1007, 2, 3, 0, [(0, 158)]), (144, .putfield 25, 3, 2, 4, 3, 0, [(0, 35)]), (147, .aload_n 0, 1, 0, 0, 0, 0, []), (148, .iload 5, 2, 0, 0, 0, 0, []), (150, .putfield 21, 3, 2, 3, 0, 0, [(0, 34)]), (153, .return_, 1, 0, 0, 0, 0, [(0, 0), (0, 1), (0, 2), (0, 3), (0, 4), (0, 5), (0, 6), (0, 7)])]]
noncomputable def pm_131 : MR := (9, ⟨"OneAtATime$Evenness", "weigh", "(LOneAtATime$BitList;)V"⟩, prog_4_method_5_code, 8, none, pgA_131)
set_option maxRecDepth 100000 in
noncomputable def pgA_132 : List (List (Nat × EN)) := [[(0, .aload_n 0, 1, 0, 0, 0, 0, []), (1, .getfield 15, 3, 2, 1, 2, 0, [(0, 32)]), (4, .iconst 0, 1, 0, 0, 0, 0, []), (5, .aload_n 0, 1, 0, 0, 0, 0, []), (6, .getfield 18, 3, 2, 2, 2, 0, [(0, 33)]), (9, .iconst 0, 1, 0, 0, 0, 0, []), (10, .bipush 8, 2, 0, 0, 0, 0, []), (12, .invokestatic 74, 3, 1002, 5, 0, 0, [(0, 159)]), (15, .lconst 0, 1, 0, 0, 0, 0, []), (16, .lstore_n 2, 1, 0, 0, 0, 0, []), (17, .iconst 0, 1, 0, 0, 0, 0, []), (18, .istore 4, 2, 0, 0, 0, 0, []), (20, .iload 4, 2, 0, 0, 0, 0, [(0, 3), (0, 5)]), (22, .aload_n 1, 1, 0, 0, 0, 0, []), (23, .getfield 52, 3, 0, 6, 0, 0, [(0, 71)]), (26, .iconst 1, 1, 0, 0, 0, 0, []), (27, .isub, 1, 0, 0, 0, 0, []), (28, .if_icmp .ge 46, 3, 74, 0, 0, 0, []), (31, .aload_n 1, 1, 0, 0, 0, 0, [])],
  [(32, .getfield 55, 3, 0, 0, 2, 0, [(0, 72)]), (35, .iload 4, 2, 0, 0, 0, 0, []), (37, .iaload, 1, 20, 0, 0, 0, []), (38, .istore 5, 2, 0, 0, 0, 0, []), (40, .aload_n 0, 1, 0, 0, 0, 0, []), (41, .getfield 18, 3, 2, 2, 2, 0, [(0, 33)]), (44, .iload 5, 2, 0, 0, 0, 0, []), (46, .iaload, 1, 20, 0, 0, 0, []), (47, .ifCond .le 21, 3, 68, 0, 0, 0, []), (50, .aload_n 0, 1, 0, 0, 0, 0, []), (51, .getfield 18, 3, 2, 2, 2, 0, [(0, 33)]), (54, .iload 5, 2, 0, 0, 0, 0, []), (56, .dup2, 1, 0, 0, 0, 0, []), (57, .iaload, 1, 20, 0, 0, 0, []), (58, .iconst 1, 1, 0, 0, 0, 0, []), (59, .isub, 1, 0, 0, 0, 0, []), (60, .iastore, 1, 20, 0, 0, 0, []), (61, .lload_n 2, 1, 0, 0, 0, 0, []), (62, .lconst 1, 1, 0, 0, 0, 0, []), (63, .iload 4, 2, 0, 0, 0, 0, [])],
  [(65, .lshl, 1, 0, 0, 0, 0, []), (66, .lor, 1, 0, 0, 0, 0, []), (67, .lstore_n 2, 1, 0, 0, 0, 0, []), (68, .iinc 4 1, 3, 0, 0, 0, 0, [(0, 3), (0, 5)]), (71, .goto (-51), 3, 20, 0, 0, 0, []), (74, .lload_n 2, 1, 0, 0, 0, 0, []), (75, .lreturn, 1, 0, 0, 0, 0, [])]]
noncomputable def pm_132 : MR := (9, ⟨"OneAtATime$Evenness", "firstCuts", "(LOneAtATime$BitList;)J"⟩, prog_4_method_6_code, 6, (some (.long)), pgA_132)
set_option maxRecDepth 100000 in
noncomputable def pgA_133 : List (List (Nat × EN)) := [[(0, .lload_n 0, 1, 0, 0, 0, 0, []), (1, .lload_n 2, 1, 0, 0, 0, 0, []), (2, .lcmp, 1, 0, 0, 0, 0, []), (3, .ifCond .gt 7, 3, 10, 0, 0, 0, []), (6, .lload_n 0, 1, 0, 0, 0, 0, []), (7, .goto 4, 3, 11, 0, 0, 0, []), (10, .lload_n 2, 1, 0, 0, 0, 0, []), (11, .lreturn, 1, 0, 0, 0, 0, [(0, 0), (0, 1), (0, 2), (0, 3)])]]
noncomputable def pm_133 : MR := (5, ⟨"java/lang/Math", "min", "(JJ)J"⟩, prog_15_method_70_code, 4, (some (.long)), pgA_133)
set_option maxRecDepth 100000 in
noncomputable def pgA_134 : List (List (Nat × EN)) := [[(0, .iconst 0, 1, 0, 0, 0, 0, []), (1, .istore_n 2, 1, 0, 0, 0, 0, []), (2, .iload_n 2, 1, 0, 0, 0, 0, []), (3, .iload_n 1, 1, 0, 0, 0, 0, []), (4, .if_icmp .ge 43, 3, 47, 0, 0, 0, []), (7, .aload_n 0, 1, 0, 0, 0, 0, []), (8, .getfield 15, 3, 2, 1, 2, 0, [(0, 32)]), (11, .iload_n 2, 1, 0, 0, 0, 0, []), (12, .iaload, 1, 20, 0, 0, 0, []), (13, .aload_n 0, 1, 0, 0, 0, 0, []), (14, .getfield 9, 3, 2, 0, 2, 0, [(0, 31)]), (17, .iload_n 2, 1, 0, 0, 0, 0, []), (18, .iaload, 1, 20, 0, 0, 0, []), (19, .if_icmp .ge 15, 3, 34, 0, 0, 0, []), (22, .aload_n 0, 1, 0, 0, 0, 0, []), (23, .getfield 15, 3, 2, 1, 2, 0, [(0, 32)]), (26, .iload_n 2, 1, 0, 0, 0, 0, []), (27, .dup2, 1, 0, 0, 0, 0, []), (28, .iaload, 1, 20, 0, 0, 0, []), (29, .iconst 1, 1, 0, 0, 0, 0, []), (30, .iadd, 1, 0, 0, 0, 0, []), (31, .iastore, 1, 20, 0, 0, 0, [])],
  [(32, .iconst 1, 1, 0, 0, 0, 0, []), (33, .ireturn, 1, 1, 0, 0, 0, []), (34, .aload_n 0, 1, 0, 0, 0, 0, []), (35, .getfield 15, 3, 2, 1, 2, 0, [(0, 32)]), (38, .iload_n 2, 1, 0, 0, 0, 0, []), (39, .iconst 0, 1, 0, 0, 0, 0, []), (40, .iastore, 1, 20, 0, 0, 0, []), (41, .iinc 2 1, 3, 0, 0, 0, 0, []), (44, .goto (-42), 3, 2, 0, 0, 0, []), (47, .iconst 0, 1, 0, 0, 0, 0, []), (48, .ireturn, 1, 1, 0, 0, 0, [])]]
noncomputable def pm_134 : MR := (9, ⟨"OneAtATime$Evenness", "nextChoice", "(I)Z"⟩, prog_4_method_4_code, 3, (some (.boolean)), pgA_134)
set_option maxRecDepth 100000 in
noncomputable def pgA_135 : List (List (Nat × EN)) := [[(0, .aload_n 0, 1, 0, 0, 0, 0, []), (1, .iload_n 1, 1, 0, 0, 0, 0, []), (2, .invokevirtual 109, 3, 41, 2, 2, 8, [(0, 50)]), (5, .astore 5, 2, 0, 0, 0, 0, []), (7, .aload 5, 2, 0, 0, 0, 0, []), (9, .ifnull 30, 3, 39, 0, 0, 0, []), (12, .aload 5, 2, 0, 0, 0, 0, []), (14, .getfield 113, 3, 0, 3, 0, 0, [(0, 52)]), (17, .iconst 2, 1, 0, 0, 0, 0, []), (18, .if_icmp .lt 21, 3, 39, 0, 0, 0, []), (21, .iload_n 2, 1, 0, 0, 0, 0, []), (22, .iconst 1, 1, 0, 0, 0, 0, []), (23, .if_icmp .lt 16, 3, 39, 0, 0, 0, []), (26, .iload 4, 2, 0, 0, 0, 0, []), (28, .iconst 1, 1, 0, 0, 0, 0, []), (29, .if_icmp .lt 10, 3, 39, 0, 0, 0, [])],
  [(32, .iload 4, 2, 0, 0, 0, 0, []), (34, .ldc 245, 2, 50000, 0, 0, 0, [(0, 4)]), (36, .if_icmp .le 6, 3, 42, 0, 0, 0, []), (39, .bipush (-2), 2, 0, 0, 0, 0, [(0, 0), (0, 1), (0, 2), (0, 3), (0, 4), (0, 5), (0, 6)]), (41, .ireturn, 1, 0, 0, 0, 0, []), (42, .iload_n 3, 1, 0, 0, 0, 0, []), (43, .iconst 1, 1, 0, 0, 0, 0, []), (44, .if_icmp .lt 24, 3, 68, 0, 0, 0, []), (47, .iload_n 3, 1, 0, 0, 0, 0, []), (48, .aload 5, 2, 0, 0, 0, 0, []), (50, .getfield 113, 3, 0, 3, 0, 0, [(0, 52)]), (53, .if_icmp .ge 15, 3, 68, 0, 0, 0, []), (56, .iload_n 3, 1, 0, 0, 0, 0, []), (57, .aload 5, 2, 0, 0, 0, 0, []), (59, .getfield 113, 3, 0, 3, 0, 0, [(0, 52)]), (62, .invokestatic 284, 3, 136, 2, 1, 0, [(0, 160)])],
  [(65, .ifCond .eq 6, 3, 71, 0, 0, 0, []), (68, .bipush (-2), 2, 0, 0, 0, 0, [(0, 0), (0, 1), (0, 2), (0, 3), (0, 4), (0, 5), (0, 6)]), (70, .ireturn, 1, 0, 0, 0, 0, []), (71, .iload_n 2, 1, 0, 0, 0, 0, []), (72, .sipush 256, 3, 0, 0, 0, 0, []), (75, .if_icmp .gt 16, 3, 91, 0, 0, 0, []), (78, .aload 5, 2, 0, 0, 0, 0, []), (80, .getfield 113, 3, 0, 3, 0, 0, [(0, 52)]), (83, .iload_n 2, 1, 0, 0, 0, 0, []), (84, .imul, 1, 0, 0, 0, 0, []), (85, .sipush 256, 3, 0, 0, 0, 0, []), (88, .if_icmp .le 6, 3, 94, 0, 0, 0, []), (91, .bipush (-5), 2, 0, 0, 0, 0, [(0, 0), (0, 1), (0, 2), (0, 3), (0, 4), (0, 5), (0, 6)]), (93, .ireturn, 1, 0, 0, 0, 0, []), (94, .aload_n 0, 1, 0, 0, 0, 0, []), (95, .getfield 53, 3, 8, 6, 2, 0, [(0, 6)])],
  [(98, .aload 5, 2, 0, 0, 0, 0, []), (100, .iload_n 2, 1, 0, 0, 0, 0, []), (101, .iload_n 3, 1, 0, 0, 0, 0, []), (102, .iload 4, 2, 0, 0, 0, 0, []), (104, .aload_n 0, 1, 0, 0, 0, 0, []), (105, .getfield 16, 3, 8, 1, 2, 0, [(0, 1)]), (108, .invokevirtual 288, 3, 137, 6, 1, 6, [(0, 161)]), (111, .istore 6, 2, 0, 0, 0, 0, []), (113, .iload 6, 2, 0, 0, 0, 0, []), (115, .ifCond .ge 6, 3, 121, 0, 0, 0, []), (118, .iload 6, 2, 0, 0, 0, 0, []), (120, .ireturn, 1, 0, 0, 0, 0, []), (121, .aload_n 0, 1, 0, 0, 0, 0, []), (122, .getfield 16, 3, 8, 1, 2, 0, [(0, 1)]), (125, .iload_n 2, 1, 0, 0, 0, 0, []), (126, .iload_n 3, 1, 0, 0, 0, 0, []), (127, .invokestatic 292, 3, 142, 3, 0, 0, [(0, 162)])],
  [(130, .aload_n 0, 1, 0, 0, 0, 0, []), (131, .iload_n 1, 1, 0, 0, 0, 0, []), (132, .invokevirtual 92, 3, 32, 2, 1, 8, [(0, 25)]), (135, .ireturn, 1, 0, 0, 0, 0, [])]]
noncomputable def pm_135 : MR := (0, ⟨"OneAtATime", "tracks", "(IIII)I"⟩, prog_1_method_34_code, 7, (some (.int)), pgA_135)
set_option maxRecDepth 100000 in
noncomputable def pgA_136 : List (List (Nat × EN)) := [[(0, .iconst 2, 1, 0, 0, 0, 0, []), (1, .istore_n 2, 1, 0, 0, 0, 0, []), (2, .iload_n 2, 1, 0, 0, 0, 0, []), (3, .bipush 8, 2, 0, 0, 0, 0, []), (5, .if_icmp .gt 23, 3, 28, 0, 0, 0, []), (8, .iload_n 0, 1, 0, 0, 0, 0, []), (9, .iload_n 2, 1, 0, 0, 0, 0, []), (10, .irem, 1, 0, 0, 0, 0, []), (11, .ifCond .ne 11, 3, 22, 0, 0, 0, []), (14, .iload_n 1, 1, 0, 0, 0, 0, []), (15, .iload_n 2, 1, 0, 0, 0, 0, []), (16, .irem, 1, 0, 0, 0, 0, []), (17, .ifCond .ne 5, 3, 22, 0, 0, 0, []), (20, .iconst 1, 1, 0, 0, 0, 0, []), (21, .ireturn, 1, 1, 0, 0, 0, []), (22, .iinc 2 1, 3, 0, 0, 0, 0, []), (25, .goto (-23), 3, 2, 0, 0, 0, []), (28, .iconst 0, 1, 0, 0, 0, 0, []), (29, .ireturn, 1, 1, 0, 0, 0, [])]]
noncomputable def pm_136 : MR := (0, ⟨"OneAtATime", "haveCommonDivisor", "(II)Z"⟩, prog_1_method_54_code, 3, (some (.boolean)), pgA_136)
set_option maxRecDepth 100000 in
noncomputable def pgA_137 : List (List (Nat × EN)) := [[(0, .aload_n 1, 1, 0, 0, 0, 0, []), (1, .getfield 21, 3, 0, 1, 2, 0, [(0, 64)]), (4, .iconst 0, 1, 0, 0, 0, 0, []), (5, .iaload, 1, 20, 0, 0, 0, []), (6, .istore 6, 2, 0, 0, 0, 0, []), (8, .aload_n 0, 1, 0, 0, 0, 0, []), (9, .aload_n 1, 1, 0, 0, 0, 0, []), (10, .getfield 86, 3, 0, 3, 0, 0, [(0, 66)]), (13, .invokevirtual 104, 3, 138, 2, 0, 6, [(0, 163)]), (16, .aload_n 0, 1, 0, 0, 0, 0, []), (17, .getfield 9, 3, 6, 0, 2, 0, [(0, 26)]), (20, .iload 6, 2, 0, 0, 0, 0, []), (22, .iaload, 1, 20, 0, 0, 0, []), (23, .iconst 1, 1, 0, 0, 0, 0, []), (24, .if_icmp .ne 5, 3, 29, 0, 0, 0, []), (27, .iconst (-1), 1, 0, 0, 0, 0, []), (28, .ireturn, 1, 0, 0, 0, 0, []), (29, .aload 5, 2, 0, 0, 0, 0, []), (31, .aload_n 1, 1, 0, 0, 0, 0, [])],
  [(32, .iload 6, 2, 0, 0, 0, 0, []), (34, .invokevirtual 34, 3, 104, 3, 0, 0, [(0, 123)]), (37, .aload_n 0, 1, 0, 0, 0, 0, []), (38, .iload 6, 2, 0, 0, 0, 0, []), (40, .aload_n 1, 1, 0, 0, 0, 0, []), (41, .getfield 86, 3, 0, 3, 0, 0, [(0, 66)]), (44, .iconst 1, 1, 0, 0, 0, 0, []), (45, .invokevirtual 107, 3, 140, 4, 0, 6, [(0, 164)]), (48, .aload_n 0, 1, 0, 0, 0, 0, []), (49, .getfield 15, 3, 6, 1, 2, 0, [(0, 27)]), (52, .iconst 0, 1, 0, 0, 0, 0, []), (53, .iconst 0, 1, 0, 0, 0, 0, []), (54, .iastore, 1, 20, 0, 0, 0, []), (55, .aload_n 0, 1, 0, 0, 0, 0, []), (56, .getfield 18, 3, 6, 2, 2, 0, [(0, 28)]), (59, .iconst 0, 1, 0, 0, 0, 0, []), (60, .iconst 0, 1, 0, 0, 0, 0, []), (61, .iastore, 1, 20, 0, 0, 0, []), (62, .iload 6, 2, 0, 0, 0, 0, [])],
  [(64, .iload_n 3, 1, 0, 0, 0, 0, []), (65, .aload_n 1, 1, 0, 0, 0, 0, []), (66, .getfield 86, 3, 0, 3, 0, 0, [(0, 66)]), (69, .invokestatic 111, 3, 139, 3, 1, 0, [(0, 165)]), (72, .istore 7, 2, 0, 0, 0, 0, []), (74, .iconst 0, 1, 0, 0, 0, 0, []), (75, .istore 8, 2, 0, 0, 0, 0, []), (77, .iconst 0, 1, 0, 0, 0, 0, []), (78, .istore 9, 2, 0, 0, 0, 0, []), (80, .iload 9, 2, 0, 0, 0, 0, [(0, 1), (0, 3), (0, 6), (0, 10), (0, 11)]), (82, .ldc 42, 2, 1000000, 0, 0, 0, [(0, 5)]), (84, .if_icmp .ge 137, 3, 221, 0, 0, 0, []), (87, .aload 5, 2, 0, 0, 0, 0, []), (89, .getfield 43, 3, 0, 6, 0, 0, [(0, 65)]), (92, .iload_n 2, 1, 0, 0, 0, 0, []), (93, .iconst 1, 1, 0, 0, 0, 0, []), (94, .isub, 1, 0, 0, 0, 0, []), (95, .if_icmp .ne 7, 3, 102, 0, 0, 0, [])],
  [(98, .iconst 1, 1, 0, 0, 0, 0, []), (99, .goto 4, 3, 103, 0, 0, 0, []), (102, .iconst 0, 1, 0, 0, 0, 0, []), (103, .istore 10, 2, 0, 0, 0, 0, [(0, 1), (0, 3), (0, 6), (0, 10), (0, 11)]), (105, .iload 10, 2, 0, 0, 0, 0, []), (107, .ifCond .eq 13, 3, 120, 0, 0, 0, []), (110, .aload 5, 2, 0, 0, 0, 0, []), (112, .iload 7, 2, 0, 0, 0, 0, []), (114, .invokestatic 115, 3, 141, 2, 1, 0, [(0, 166)]), (117, .goto 10, 3, 127, 0, 0, 0, []), (120, .aload_n 0, 1, 0, 0, 0, 0, []), (121, .aload 5, 2, 0, 0, 0, 0, []), (123, .iconst 0, 1, 0, 0, 0, 0, []), (124, .invokevirtual 51, 3, 114, 3, 1, 6, [(0, 126)]), (127, .istore 11, 2, 0, 0, 0, 0, [(0, 1), (0, 3), (0, 6), (0, 11)])],
  [(129, .iload 11, 2, 0, 0, 0, 0, []), (131, .iconst (-1), 1, 0, 0, 0, 0, []), (132, .if_icmp .ne 36, 3, 168, 0, 0, 0, []), (135, .aload 5, 2, 0, 0, 0, 0, []), (137, .getfield 43, 3, 0, 6, 0, 0, [(0, 65)]), (140, .ifCond .ne 5, 3, 145, 0, 0, 0, []), (143, .iconst (-1), 1, 0, 0, 0, 0, []), (144, .ireturn, 1, 0, 0, 0, 0, []), (145, .aload_n 0, 1, 0, 0, 0, 0, []), (146, .aload 5, 2, 0, 0, 0, 0, []), (148, .invokevirtual 55, 3, 112, 1, 1, 0, [(0, 127)]), (151, .aload 5, 2, 0, 0, 0, 0, []), (153, .getfield 86, 3, 0, 3, 0, 0, [(0, 66)]), (156, .iconst 0, 1, 0, 0, 0, 0, []), (157, .invokevirtual 107, 3, 140, 4, 0, 6, [(0, 164)])],
  [(160, .aload 5, 2, 0, 0, 0, 0, []), (162, .invokevirtual 58, 3, 113, 1, 0, 0, [(0, 128)]), (165, .goto 50, 3, 215, 0, 0, 0, []), (168, .iload 8, 2, 0, 0, 0, 0, []), (170, .iload 4, 2, 0, 0, 0, 0, []), (172, .if_icmp .ne 6, 3, 178, 0, 0, 0, []), (175, .bipush (-3), 2, 0, 0, 0, 0, []), (177, .ireturn, 1, 0, 0, 0, 0, []), (178, .iinc 8 1, 3, 0, 0, 0, 0, []), (181, .aload_n 0, 1, 0, 0, 0, 0, []), (182, .aload 5, 2, 0, 0, 0, 0, []), (184, .iload 11, 2, 0, 0, 0, 0, []), (186, .invokevirtual 61, 3, 116, 3, 0, 6, [(0, 129)]), (189, .iload 10, 2, 0, 0, 0, 0, []), (191, .ifCond .eq 9, 3, 200, 0, 0, 0, [])],
  [(194, .aload 5, 2, 0, 0, 0, 0, []), (196, .getfield 43, 3, 0, 6, 0, 0, [(0, 65)]), (199, .ireturn, 1, 0, 0, 0, 0, []), (200, .aload_n 0, 1, 0, 0, 0, 0, []), (201, .aload 5, 2, 0, 0, 0, 0, []), (203, .invokevirtual 55, 3, 112, 1, 1, 0, [(0, 127)]), (206, .aload 5, 2, 0, 0, 0, 0, []), (208, .getfield 86, 3, 0, 3, 0, 0, [(0, 66)]), (211, .iconst 1, 1, 0, 0, 0, 0, []), (212, .invokevirtual 107, 3, 140, 4, 0, 6, [(0, 164)]), (215, .iinc 9 1, 3, 0, 0, 0, 0, [(0, 1), (0, 3), (0, 6), (0, 10), (0, 11)]), (218, .goto (-138), 3, 80, 0, 0, 0, []), (221, .bipush (-3), 2, 0, 0, 0, 0, []), (223, .ireturn, 1, 0, 0, 0, 0, [])]]
noncomputable def pm_137 : MR := (7, ⟨"OneAtATime$Search", "forTracks", "(LOneAtATime$BitList;IIILOneAtATime$BitList;)I"⟩, prog_9_method_8_code, 12, (some (.int)), pgA_137)
set_option maxRecDepth 100000 in
noncomputable def pgA_138 : List (List (Nat × EN)) := [[(0, .iconst 0, 1, 0, 0, 0, 0, []), (1, .istore_n 2, 1, 0, 0, 0, 0, []), (2, .iload_n 2, 1, 0, 0, 0, 0, [(0, 3)]), (3, .iconst 1, 1, 0, 0, 0, 0, []), (4, .iload_n 1, 1, 0, 0, 0, 0, []), (5, .ishl, 1, 0, 0, 0, 0, []), (6, .if_icmp .ge 46, 3, 52, 0, 0, 0, []), (9, .aload_n 0, 1, 0, 0, 0, 0, []), (10, .getfield 9, 3, 6, 0, 2, 0, [(0, 26)]), (13, .iload_n 2, 1, 0, 0, 0, 0, []), (14, .iconst 0, 1, 0, 0, 0, 0, []), (15, .iastore, 1, 20, 0, 0, 0, []), (16, .iconst 1, 1, 0, 0, 0, 0, []), (17, .istore_n 3, 1, 0, 0, 0, 0, []), (18, .iload_n 3, 1, 0, 0, 0, 0, []), (19, .iload_n 1, 1, 0, 0, 0, 0, []), (20, .if_icmp .ge 26, 3, 46, 0, 0, 0, []), (23, .iload_n 2, 1, 0, 0, 0, 0, []), (24, .iload_n 3, 1, 0, 0, 0, 0, []), (25, .iload_n 1, 1, 0, 0, 0, 0, []), (26, .invokestatic 111, 3, 139, 3, 1, 0, [(0, 165)]), (29, .iload_n 2, 1, 0, 0, 0, 0, []), (30, .if_icmp .ne 10, 3, 40, 0, 0, 0, [])],
  [(33, .aload_n 0, 1, 0, 0, 0, 0, []), (34, .getfield 9, 3, 6, 0, 2, 0, [(0, 26)]), (37, .iload_n 2, 1, 0, 0, 0, 0, []), (38, .iconst 1, 1, 0, 0, 0, 0, []), (39, .iastore, 1, 20, 0, 0, 0, []), (40, .iinc 3 1, 3, 0, 0, 0, 0, []), (43, .goto (-25), 3, 18, 0, 0, 0, []), (46, .iinc 2 1, 3, 0, 0, 0, 0, []), (49, .goto (-47), 3, 2, 0, 0, 0, []), (52, .return_, 1, 0, 0, 0, 0, [])]]
noncomputable def pm_138 : MR := (7, ⟨"OneAtATime$Search", "barRolledToThemselves", "(I)V"⟩, prog_9_method_9_code, 4, none, pgA_138)
set_option maxRecDepth 100000 in
noncomputable def pgA_139 : List (List (Nat × EN)) := [[(0, .iconst 1, 1, 0, 0, 0, 0, []), (1, .iload_n 2, 1, 0, 0, 0, 0, []), (2, .ishl, 1, 0, 0, 0, 0, []), (3, .iconst 1, 1, 0, 0, 0, 0, []), (4, .isub, 1, 0, 0, 0, 0, []), (5, .istore_n 3, 1, 0, 0, 0, 0, []), (6, .iload_n 0, 1, 0, 0, 0, 0, []), (7, .iload_n 1, 1, 0, 0, 0, 0, []), (8, .ishl, 1, 0, 0, 0, 0, []), (9, .iload_n 0, 1, 0, 0, 0, 0, []), (10, .iload_n 2, 1, 0, 0, 0, 0, []), (11, .iload_n 1, 1, 0, 0, 0, 0, []), (12, .isub, 1, 0, 0, 0, 0, []), (13, .ishr, 1, 0, 0, 0, 0, []), (14, .ior, 1, 0, 0, 0, 0, []), (15, .iload_n 3, 1, 0, 0, 0, 0, []), (16, .iand, 1, 0, 0, 0, 0, []), (17, .ireturn, 1, 0, 0, 0, 0, [])]]
noncomputable def pm_139 : MR := (7, ⟨"OneAtATime$Search", "rolled", "(III)I"⟩, prog_9_method_11_code, 4, (some (.int)), pgA_139)
set_option maxRecDepth 100000 in
noncomputable def pgA_140 : List (List (Nat × EN)) := [[(0, .iconst 0, 1, 0, 0, 0, 0, []), (1, .istore 4, 2, 0, 0, 0, 0, []), (3, .iload 4, 2, 0, 0, 0, 0, []), (5, .iload_n 2, 1, 0, 0, 0, 0, []), (6, .if_icmp .ge 22, 3, 28, 0, 0, 0, []), (9, .aload_n 0, 1, 0, 0, 0, 0, []), (10, .getfield 9, 3, 6, 0, 2, 0, [(0, 26)]), (13, .iload_n 1, 1, 0, 0, 0, 0, []), (14, .iload 4, 2, 0, 0, 0, 0, []), (16, .iload_n 2, 1, 0, 0, 0, 0, []), (17, .invokestatic 111, 3, 139, 3, 1, 0, [(0, 165)]), (20, .iload_n 3, 1, 0, 0, 0, 0, []), (21, .iastore, 1, 20, 0, 0, 0, []), (22, .iinc 4 1, 3, 0, 0, 0, 0, []), (25, .goto (-22), 3, 3, 0, 0, 0, []), (28, .return_, 1, 0, 0, 0, 0, [])]]
noncomputable def pm_140 : MR := (7, ⟨"OneAtATime$Search", "barRolls", "(III)V"⟩, prog_9_method_10_code, 5, none, pgA_140)
set_option maxRecDepth 100000 in
noncomputable def pgA_141 : List (List (Nat × EN)) := [[(0, .aload_n 0, 1, 0, 0, 0, 0, []), (1, .invokevirtual 55, 3, 112, 1, 1, 0, [(0, 127)]), (4, .iload_n 1, 1, 0, 0, 0, 0, []), (5, .ixor, 1, 0, 0, 0, 0, []), (6, .istore_n 2, 1, 0, 0, 0, 0, []), (7, .iload_n 2, 1, 0, 0, 0, 0, []), (8, .invokestatic 67, 3, 50, 1, 1, 0, [(0, 131)]), (11, .iconst 1, 1, 0, 0, 0, 0, []), (12, .if_icmp .ne 10, 3, 22, 0, 0, 0, []), (15, .iload_n 2, 1, 0, 0, 0, 0, []), (16, .invokestatic 73, 3, 101, 1, 1, 0, [(0, 132)]), (19, .goto 4, 3, 23, 0, 0, 0, []), (22, .iconst (-1), 1, 0, 0, 0, 0, []), (23, .ireturn, 1, 0, 0, 0, 0, [(0, 0), (0, 1), (0, 2)])]]
noncomputable def pm_141 : MR := (7, ⟨"OneAtATime$Search", "bitTo", "(LOneAtATime$BitList;I)I"⟩, prog_9_method_12_code, 3, (some (.int)), pgA_141)
set_option maxRecDepth 100000 in
noncomputable def pgA_142 : List (List (Nat × EN)) := [[(0, .iconst 0, 1, 0, 0, 0, 0, []), (1, .istore_n 3, 1, 0, 0, 0, 0, []), (2, .iconst 1, 1, 0, 0, 0, 0, []), (3, .istore 4, 2, 0, 0, 0, 0, []), (5, .iload 4, 2, 0, 0, 0, 0, [(0, 5), (0, 6)]), (7, .aload_n 0, 1, 0, 0, 0, 0, []), (8, .getfield 31, 3, 0, 3, 0, 0, [(0, 62)]), (11, .if_icmp .ge 94, 3, 105, 0, 0, 0, []), (14, .iload_n 3, 1, 0, 0, 0, 0, []), (15, .iload_n 2, 1, 0, 0, 0, 0, []), (16, .iadd, 1, 0, 0, 0, 0, []), (17, .aload_n 0, 1, 0, 0, 0, 0, []), (18, .getfield 31, 3, 0, 3, 0, 0, [(0, 62)]), (21, .if_icmp .lt 14, 3, 35, 0, 0, 0, []), (24, .iload_n 3, 1, 0, 0, 0, 0, []), (25, .iload_n 2, 1, 0, 0, 0, 0, []), (26, .iadd, 1, 0, 0, 0, 0, []), (27, .aload_n 0, 1, 0, 0, 0, 0, []), (28, .getfield 31, 3, 0, 3, 0, 0, [(0, 62)]), (31, .isub, 1, 0, 0, 0, 0, [])],
  [(32, .goto 6, 3, 38, 0, 0, 0, []), (35, .iload_n 3, 1, 0, 0, 0, 0, []), (36, .iload_n 2, 1, 0, 0, 0, 0, []), (37, .iadd, 1, 0, 0, 0, 0, []), (38, .istore_n 3, 1, 0, 0, 0, 0, [(0, 3), (0, 5), (0, 6)]), (39, .iconst 0, 1, 0, 0, 0, 0, []), (40, .istore 5, 2, 0, 0, 0, 0, []), (42, .iload 5, 2, 0, 0, 0, 0, [(0, 6)]), (44, .iload_n 1, 1, 0, 0, 0, 0, []), (45, .if_icmp .ge 54, 3, 99, 0, 0, 0, []), (48, .iload 5, 2, 0, 0, 0, 0, []), (50, .aload_n 0, 1, 0, 0, 0, 0, []), (51, .getfield 39, 3, 0, 6, 0, 0, [(0, 63)]), (54, .if_icmp .ge 45, 3, 99, 0, 0, 0, []), (57, .aload_n 0, 1, 0, 0, 0, 0, []), (58, .getfield 71, 3, 0, 0, 2, 0, [(0, 67)]), (61, .iload 5, 2, 0, 0, 0, 0, []), (63, .iaload, 1, 20, 0, 0, 0, [])],
  [(64, .iload_n 3, 1, 0, 0, 0, 0, []), (65, .iadd, 1, 0, 0, 0, 0, []), (66, .istore 6, 2, 0, 0, 0, 0, []), (68, .aload_n 0, 1, 0, 0, 0, 0, []), (69, .iload 6, 2, 0, 0, 0, 0, []), (71, .aload_n 0, 1, 0, 0, 0, 0, []), (72, .getfield 31, 3, 0, 3, 0, 0, [(0, 62)]), (75, .if_icmp .lt 13, 3, 88, 0, 0, 0, []), (78, .iload 6, 2, 0, 0, 0, 0, []), (80, .aload_n 0, 1, 0, 0, 0, 0, []), (81, .getfield 31, 3, 0, 3, 0, 0, [(0, 62)]), (84, .isub, 1, 0, 0, 0, 0, []), (85, .goto 5, 3, 90, 0, 0, 0, []), (88, .iload 6, 2, 0, 0, 0, 0, []), (90, .invokevirtual 27, 3, 31, 2, 0, 0, [(0, 114)]), (93, .iinc 5 1, 3, 0, 0, 0, 0, [])],
  [(96, .goto (-54), 3, 42, 0, 0, 0, []), (99, .iinc 4 1, 3, 0, 0, 0, 0, [(0, 5), (0, 6)]), (102, .goto (-97), 3, 5, 0, 0, 0, []), (105, .return_, 1, 0, 0, 0, 0, [])]]
noncomputable def pm_142 : MR := (12, ⟨"OneAtATime$Maker", "toldRolled", "(LOneAtATime$BitList;II)V"⟩, prog_7_method_8_code, 7, none, pgA_142)
set_option maxRecDepth 100000 in
noncomputable def pgA_143 : List (List (Nat × EN)) := [[(0, .aload_n 0, 1, 0, 0, 0, 0, []), (1, .iload_n 1, 1, 0, 0, 0, 0, []), (2, .invokevirtual 109, 3, 41, 2, 2, 8, [(0, 50)]), (5, .astore 4, 2, 0, 0, 0, 0, []), (7, .aload_n 0, 1, 0, 0, 0, 0, []), (8, .iload_n 2, 1, 0, 0, 0, 0, []), (9, .invokevirtual 109, 3, 41, 2, 2, 8, [(0, 50)]), (12, .astore 5, 2, 0, 0, 0, 0, []), (14, .aload 4, 2, 0, 0, 0, 0, []), (16, .ifnull 15, 3, 31, 0, 0, 0, []), (19, .aload 5, 2, 0, 0, 0, 0, []), (21, .ifnull 10, 3, 31, 0, 0, 0, []), (24, .iload_n 3, 1, 0, 0, 0, 0, []), (25, .invokestatic 85, 3, 16, 1, 1, 0, [(0, 23)]), (28, .ifCond .ne 6, 3, 34, 0, 0, 0, []), (31, .bipush (-2), 2, 0, 0, 0, 0, [(0, 0), (0, 1), (0, 2), (0, 3), (0, 4), (0, 5), (0, 6)])],
  [(33, .ireturn, 1, 0, 0, 0, 0, []), (34, .aload 4, 2, 0, 0, 0, 0, []), (36, .getfield 126, 3, 0, 6, 0, 0, [(0, 47)]), (39, .aload 5, 2, 0, 0, 0, 0, []), (41, .getfield 126, 3, 0, 6, 0, 0, [(0, 47)]), (44, .iconst 1, 1, 0, 0, 0, 0, []), (45, .iadd, 1, 0, 0, 0, 0, []), (46, .imul, 1, 0, 0, 0, 0, []), (47, .aload 5, 2, 0, 0, 0, 0, []), (49, .getfield 126, 3, 0, 6, 0, 0, [(0, 47)]), (52, .iadd, 1, 0, 0, 0, 0, []), (53, .istore 6, 2, 0, 0, 0, 0, []), (55, .aload 4, 2, 0, 0, 0, 0, []), (57, .getfield 113, 3, 0, 3, 0, 0, [(0, 52)]), (60, .aload 5, 2, 0, 0, 0, 0, []), (62, .getfield 113, 3, 0, 3, 0, 0, [(0, 52)])],
  [(65, .iadd, 1, 0, 0, 0, 0, []), (66, .bipush 8, 2, 0, 0, 0, 0, []), (68, .if_icmp .gt 11, 3, 79, 0, 0, 0, []), (71, .iload 6, 2, 0, 0, 0, 0, []), (73, .sipush 256, 3, 0, 0, 0, 0, []), (76, .if_icmp .le 6, 3, 82, 0, 0, 0, []), (79, .bipush (-5), 2, 0, 0, 0, 0, [(0, 0), (0, 1), (0, 2), (0, 3), (0, 4), (0, 5), (0, 6)]), (81, .ireturn, 1, 0, 0, 0, 0, []), (82, .aload 4, 2, 0, 0, 0, 0, []), (84, .aload 5, 2, 0, 0, 0, 0, []), (86, .aload_n 0, 1, 0, 0, 0, 0, []), (87, .getfield 16, 3, 8, 1, 2, 0, [(0, 1)]), (90, .invokestatic 296, 3, 144, 3, 0, 0, [(0, 167)]), (93, .aload_n 0, 1, 0, 0, 0, 0, []), (94, .iload_n 3, 1, 0, 0, 0, 0, []), (95, .invokevirtual 92, 3, 32, 2, 1, 8, [(0, 25)])],
  [(98, .ireturn, 1, 0, 0, 0, 0, [])]]
noncomputable def pm_143 : MR := (0, ⟨"OneAtATime", "product", "(III)I"⟩, prog_1_method_35_code, 7, (some (.int)), pgA_143)
set_option maxRecDepth 100000 in
noncomputable def pgA_144 : List (List (Nat × EN)) := [[(0, .aload_n 0, 1, 0, 0, 0, 0, []), (1, .getfield 31, 3, 0, 3, 0, 0, [(0, 62)]), (4, .aload_n 1, 1, 0, 0, 0, 0, []), (5, .getfield 31, 3, 0, 3, 0, 0, [(0, 62)]), (8, .iadd, 1, 0, 0, 0, 0, []), (9, .istore_n 3, 1, 0, 0, 0, 0, []), (10, .aload_n 2, 1, 0, 0, 0, 0, []), (11, .iload_n 3, 1, 0, 0, 0, 0, []), (12, .iconst 0, 1, 0, 0, 0, 0, []), (13, .iload_n 3, 1, 0, 0, 0, 0, []), (14, .aload_n 0, 1, 0, 0, 0, 0, []), (15, .getfield 7, 3, 0, 1, 2, 0, [(0, 61)]), (18, .iconst 0, 1, 0, 0, 0, 0, []), (19, .iaload, 1, 20, 0, 0, 0, []), (20, .aload_n 1, 1, 0, 0, 0, 0, []), (21, .getfield 7, 3, 0, 1, 2, 0, [(0, 61)]), (24, .iconst 0, 1, 0, 0, 0, 0, []), (25, .iaload, 1, 20, 0, 0, 0, []), (26, .aload_n 0, 1, 0, 0, 0, 0, []), (27, .getfield 31, 3, 0, 3, 0, 0, [(0, 62)]), (30, .ishl, 1, 0, 0, 0, 0, []), (31, .ior, 1, 0, 0, 0, 0, [])],
  [(32, .invokevirtual 58, 3, 28, 5, 0, 0, [(0, 144)]), (35, .iconst 0, 1, 0, 0, 0, 0, []), (36, .istore 4, 2, 0, 0, 0, 0, []), (38, .iload 4, 2, 0, 0, 0, 0, [(0, 3)]), (40, .aload_n 1, 1, 0, 0, 0, 0, []), (41, .getfield 39, 3, 0, 6, 0, 0, [(0, 63)]), (44, .if_icmp .gt 56, 3, 100, 0, 0, 0, []), (47, .iload 4, 2, 0, 0, 0, 0, []), (49, .iconst 2, 1, 0, 0, 0, 0, []), (50, .irem, 1, 0, 0, 0, 0, []), (51, .ifCond .ne 17, 3, 68, 0, 0, 0, []), (54, .aload_n 2, 1, 0, 0, 0, 0, []), (55, .aload_n 0, 1, 0, 0, 0, 0, []), (56, .iconst 0, 1, 0, 0, 0, 0, []), (57, .aload_n 0, 1, 0, 0, 0, 0, []), (58, .getfield 39, 3, 0, 6, 0, 0, [(0, 63)]), (61, .iconst 0, 1, 0, 0, 0, 0, []), (62, .invokevirtual 42, 3, 107, 5, 0, 0, [(0, 117)])],
  [(65, .goto 14, 3, 79, 0, 0, 0, []), (68, .aload_n 2, 1, 0, 0, 0, 0, []), (69, .aload_n 0, 1, 0, 0, 0, 0, []), (70, .iconst 0, 1, 0, 0, 0, 0, []), (71, .aload_n 0, 1, 0, 0, 0, 0, []), (72, .getfield 39, 3, 0, 6, 0, 0, [(0, 63)]), (75, .iconst 0, 1, 0, 0, 0, 0, []), (76, .invokevirtual 68, 3, 123, 5, 0, 0, [(0, 146)]), (79, .aload_n 2, 1, 0, 0, 0, 0, [(0, 3)]), (80, .aload_n 1, 1, 0, 0, 0, 0, []), (81, .iload 4, 2, 0, 0, 0, 0, []), (83, .iload 4, 2, 0, 0, 0, 0, []), (85, .iconst 1, 1, 0, 0, 0, 0, []), (86, .iadd, 1, 0, 0, 0, 0, []), (87, .aload_n 0, 1, 0, 0, 0, 0, []), (88, .getfield 31, 3, 0, 3, 0, 0, [(0, 62)]), (91, .invokevirtual 42, 3, 107, 5, 0, 0, [(0, 117)]), (94, .iinc 4 1, 3, 0, 0, 0, 0, [])],
  [(97, .goto (-59), 3, 38, 0, 0, 0, []), (100, .return_, 1, 0, 0, 0, 0, [])]]
noncomputable def pm_144 : MR := (12, ⟨"OneAtATime$Maker", "multiplied", "(LOneAtATime$BitList;LOneAtATime$BitList;LOneAtATime$BitList;)V"⟩, prog_7_method_9_code, 5, none, pgA_144)
set_option maxRecDepth 100000 in
noncomputable def pgA_145 : List (List (Nat × EN)) := [[(0, .aload_n 0, 1, 0, 0, 0, 0, []), (1, .iload_n 1, 1, 0, 0, 0, 0, []), (2, .invokevirtual 109, 3, 41, 2, 2, 8, [(0, 50)]), (5, .astore 4, 2, 0, 0, 0, 0, []), (7, .aload 4, 2, 0, 0, 0, 0, []), (9, .ifnull 21, 3, 30, 0, 0, 0, []), (12, .iload_n 2, 1, 0, 0, 0, 0, []), (13, .ifCond .lt 17, 3, 30, 0, 0, 0, []), (16, .iload_n 2, 1, 0, 0, 0, 0, []), (17, .iload_n 3, 1, 0, 0, 0, 0, []), (18, .if_icmp .ge 12, 3, 30, 0, 0, 0, []), (21, .iload_n 3, 1, 0, 0, 0, 0, []), (22, .aload 4, 2, 0, 0, 0, 0, []), (24, .getfield 126, 3, 0, 6, 0, 0, [(0, 47)]), (27, .if_icmp .lt 6, 3, 33, 0, 0, 0, []), (30, .bipush (-2), 2, 0, 0, 0, 0, [(0, 0), (0, 1), (0, 2), (0, 3), (0, 4)])],
  [(32, .ireturn, 1, 0, 0, 0, 0, []), (33, .aload 4, 2, 0, 0, 0, 0, []), (35, .iload_n 2, 1, 0, 0, 0, 0, []), (36, .iload_n 3, 1, 0, 0, 0, 0, []), (37, .invokevirtual 300, 3, 146, 3, 1, 0, [(0, 168)]), (40, .ifCond .ne 6, 3, 46, 0, 0, 0, []), (43, .bipush (-6), 2, 0, 0, 0, 0, []), (45, .ireturn, 1, 0, 0, 0, 0, []), (46, .aload 4, 2, 0, 0, 0, 0, []), (48, .iload_n 2, 1, 0, 0, 0, 0, []), (49, .iload_n 3, 1, 0, 0, 0, 0, []), (50, .aload_n 0, 1, 0, 0, 0, 0, []), (51, .getfield 16, 3, 8, 1, 2, 0, [(0, 1)]), (54, .invokestatic 303, 3, 147, 4, 0, 0, [(0, 169)]), (57, .aload_n 0, 1, 0, 0, 0, 0, []), (58, .iload_n 1, 1, 0, 0, 0, 0, []), (59, .invokevirtual 92, 3, 32, 2, 1, 8, [(0, 25)]), (62, .ireturn, 1, 0, 0, 0, 0, [])]]
noncomputable def pm_145 : MR := (0, ⟨"OneAtATime", "twists", "(III)I"⟩, prog_1_method_36_code, 5, (some (.int)), pgA_145)
set_option maxRecDepth 100000 in
noncomputable def pgA_146 : List (List (Nat × EN)) := [[(0, .aload_n 0, 1, 0, 0, 0, 0, []), (1, .getfield 15, 3, 0, 1, 2, 0, [(0, 10)]), (4, .iload_n 1, 1, 0, 0, 0, 0, []), (5, .iaload, 1, 20, 0, 0, 0, []), (6, .aload_n 0, 1, 0, 0, 0, 0, []), (7, .getfield 15, 3, 0, 1, 2, 0, [(0, 10)]), (10, .iload_n 2, 1, 0, 0, 0, 0, []), (11, .iaload, 1, 20, 0, 0, 0, []), (12, .ixor, 1, 0, 0, 0, 0, []), (13, .invokestatic 70, 3, 50, 1, 1, 0, [(0, 61)]), (16, .iconst 1, 1, 0, 0, 0, 0, []), (17, .if_icmp .ne 31, 3, 48, 0, 0, 0, []), (20, .aload_n 0, 1, 0, 0, 0, 0, []), (21, .getfield 15, 3, 0, 1, 2, 0, [(0, 10)]), (24, .iload_n 1, 1, 0, 0, 0, 0, []), (25, .iconst 1, 1, 0, 0, 0, 0, []), (26, .iadd, 1, 0, 0, 0, 0, []), (27, .iaload, 1, 20, 0, 0, 0, []), (28, .aload_n 0, 1, 0, 0, 0, 0, []), (29, .getfield 15, 3, 0, 1, 2, 0, [(0, 10)])],
  [(32, .iload_n 2, 1, 0, 0, 0, 0, []), (33, .iconst 1, 1, 0, 0, 0, 0, []), (34, .iadd, 1, 0, 0, 0, 0, []), (35, .iaload, 1, 20, 0, 0, 0, []), (36, .ixor, 1, 0, 0, 0, 0, []), (37, .invokestatic 70, 3, 50, 1, 1, 0, [(0, 61)]), (40, .iconst 1, 1, 0, 0, 0, 0, []), (41, .if_icmp .ne 7, 3, 48, 0, 0, 0, []), (44, .iconst 1, 1, 0, 0, 0, 0, []), (45, .goto 4, 3, 49, 0, 0, 0, []), (48, .iconst 0, 1, 0, 0, 0, 0, [(0, 0), (0, 1), (0, 2)]), (49, .ireturn, 1, 1, 0, 0, 0, [(0, 0), (0, 1), (0, 2)])]]
noncomputable def pm_146 : MR := (1, ⟨"OneAtATime$BitList", "canTwist", "(II)Z"⟩, prog_2_method_22_code, 3, (some (.boolean)), pgA_146)
set_option maxRecDepth 100000 in
noncomputable def pgA_147 : List (List (Nat × EN)) := [[(0, .aload_n 3, 1, 0, 0, 0, 0, []), (1, .aload_n 0, 1, 0, 0, 0, 0, []), (2, .aload_n 0, 1, 0, 0, 0, 0, []), (3, .getfield 7, 3, 0, 1, 2, 0, [(0, 61)]), (6, .iconst 0, 1, 0, 0, 0, 0, []), (7, .iaload, 1, 20, 0, 0, 0, []), (8, .invokevirtual 13, 3, 104, 3, 0, 0, [(0, 111)]), (11, .aload_n 3, 1, 0, 0, 0, 0, []), (12, .aload_n 0, 1, 0, 0, 0, 0, []), (13, .iconst 0, 1, 0, 0, 0, 0, []), (14, .iload_n 1, 1, 0, 0, 0, 0, []), (15, .iconst 0, 1, 0, 0, 0, 0, []), (16, .invokevirtual 42, 3, 107, 5, 0, 0, [(0, 117)]), (19, .aload_n 3, 1, 0, 0, 0, 0, []), (20, .aload_n 0, 1, 0, 0, 0, 0, []), (21, .getfield 7, 3, 0, 1, 2, 0, [(0, 61)]), (24, .iload_n 1, 1, 0, 0, 0, 0, []), (25, .iaload, 1, 20, 0, 0, 0, []), (26, .aload_n 0, 1, 0, 0, 0, 0, []), (27, .getfield 7, 3, 0, 1, 2, 0, [(0, 61)]), (30, .iload_n 2, 1, 0, 0, 0, 0, []), (31, .iaload, 1, 20, 0, 0, 0, [])],
  [(32, .ixor, 1, 0, 0, 0, 0, []), (33, .invokestatic 21, 3, 101, 1, 1, 0, [(0, 113)]), (36, .invokevirtual 27, 3, 31, 2, 0, 0, [(0, 114)]), (39, .aload_n 3, 1, 0, 0, 0, 0, []), (40, .aload_n 0, 1, 0, 0, 0, 0, []), (41, .iload_n 1, 1, 0, 0, 0, 0, []), (42, .iconst 1, 1, 0, 0, 0, 0, []), (43, .iadd, 1, 0, 0, 0, 0, []), (44, .iload_n 2, 1, 0, 0, 0, 0, []), (45, .iconst 0, 1, 0, 0, 0, 0, []), (46, .invokevirtual 68, 3, 123, 5, 0, 0, [(0, 146)]), (49, .aload_n 3, 1, 0, 0, 0, 0, []), (50, .aload_n 0, 1, 0, 0, 0, 0, []), (51, .getfield 7, 3, 0, 1, 2, 0, [(0, 61)]), (54, .iload_n 1, 1, 0, 0, 0, 0, []), (55, .iconst 1, 1, 0, 0, 0, 0, []), (56, .iadd, 1, 0, 0, 0, 0, []), (57, .iaload, 1, 20, 0, 0, 0, []), (58, .aload_n 0, 1, 0, 0, 0, 0, []), (59, .getfield 7, 3, 0, 1, 2, 0, [(0, 61)]), (62, .iload_n 2, 1, 0, 0, 0, 0, []), (63, .iconst 1, 1, 0, 0, 0, 0, [])],
  [(64, .iadd, 1, 0, 0, 0, 0, []), (65, .iaload, 1, 20, 0, 0, 0, []), (66, .ixor, 1, 0, 0, 0, 0, []), (67, .invokestatic 21, 3, 101, 1, 1, 0, [(0, 113)]), (70, .invokevirtual 27, 3, 31, 2, 0, 0, [(0, 114)]), (73, .aload_n 3, 1, 0, 0, 0, 0, []), (74, .aload_n 0, 1, 0, 0, 0, 0, []), (75, .iload_n 2, 1, 0, 0, 0, 0, []), (76, .iconst 1, 1, 0, 0, 0, 0, []), (77, .iadd, 1, 0, 0, 0, 0, []), (78, .aload_n 0, 1, 0, 0, 0, 0, []), (79, .getfield 39, 3, 0, 6, 0, 0, [(0, 63)]), (82, .iconst 0, 1, 0, 0, 0, 0, []), (83, .invokevirtual 42, 3, 107, 5, 0, 0, [(0, 117)]), (86, .return_, 1, 0, 0, 0, 0, [])]]
noncomputable def pm_147 : MR := (12, ⟨"OneAtATime$Maker", "twisted", "(LOneAtATime$BitList;IILOneAtATime$BitList;)V"⟩, prog_7_method_10_code, 4, none, pgA_147)
set_option maxRecDepth 100000 in
noncomputable def pgA_148 : List (List (Nat × EN)) := [[(0, .aload_n 0, 1, 0, 0, 0, 0, []), (1, .iload_n 1, 1, 0, 0, 0, 0, []), (2, .invokevirtual 109, 3, 41, 2, 2, 8, [(0, 50)]), (5, .astore_n 2, 1, 0, 0, 0, 0, []), (6, .aload_n 2, 1, 0, 0, 0, 0, []), (7, .ifnonnull 8, 3, 15, 0, 0, 0, []), (10, .bipush (-2), 2, 0, 0, 0, 0, []), (12, .goto 7, 3, 19, 0, 0, 0, []), (15, .aload_n 2, 1, 0, 0, 0, 0, []), (16, .invokestatic 307, 3, 149, 1, 1, 0, [(0, 170)]), (19, .ireturn, 1, 0, 0, 0, 0, [(0, 0), (0, 1), (0, 2)])]]
noncomputable def pm_148 : MR := (0, ⟨"OneAtATime", "twistable", "(I)I"⟩, prog_1_method_37_code, 3, (some (.int)), pgA_148)
set_option maxRecDepth 100000 in
noncomputable def pgA_149 : List (List (Nat × EN)) := [[(0, .iconst 0, 1, 0, 0, 0, 0, []), (1, .istore_n 1, 1, 0, 0, 0, 0, []), (2, .iconst 0, 1, 0, 0, 0, 0, []), (3, .istore_n 2, 1, 0, 0, 0, 0, []), (4, .iload_n 2, 1, 0, 0, 0, 0, [(0, 3)]), (5, .aload_n 0, 1, 0, 0, 0, 0, []), (6, .getfield 57, 3, 0, 6, 0, 0, [(0, 57)]), (9, .if_icmp .ge 39, 3, 48, 0, 0, 0, []), (12, .iload_n 2, 1, 0, 0, 0, 0, []), (13, .iconst 2, 1, 0, 0, 0, 0, []), (14, .iadd, 1, 0, 0, 0, 0, []), (15, .istore_n 3, 1, 0, 0, 0, 0, []), (16, .iload_n 3, 1, 0, 0, 0, 0, []), (17, .aload_n 0, 1, 0, 0, 0, 0, []), (18, .getfield 57, 3, 0, 6, 0, 0, [(0, 57)]), (21, .if_icmp .ge 21, 3, 42, 0, 0, 0, []), (24, .aload_n 0, 1, 0, 0, 0, 0, []), (25, .iload_n 2, 1, 0, 0, 0, 0, []), (26, .iload_n 3, 1, 0, 0, 0, 0, []), (27, .invokevirtual 129, 3, 146, 3, 1, 0, [(0, 171)]), (30, .ifCond .eq 6, 3, 36, 0, 0, 0, [])],
  [(33, .iinc 1 1, 3, 0, 0, 0, 0, []), (36, .iinc 3 1, 3, 0, 0, 0, 0, []), (39, .goto (-23), 3, 16, 0, 0, 0, []), (42, .iinc 2 1, 3, 0, 0, 0, 0, []), (45, .goto (-41), 3, 4, 0, 0, 0, []), (48, .iload_n 1, 1, 0, 0, 0, 0, []), (49, .ireturn, 1, 0, 0, 0, 0, [])]]
noncomputable def pm_149 : MR := (6, ⟨"OneAtATime$Survey", "twistablePairs", "(LOneAtATime$BitList;)I"⟩, prog_10_method_28_code, 4, (some (.int)), pgA_149)
set_option maxRecDepth 100000 in
noncomputable def pgA_150 : List (List (Nat × EN)) := [[(0, .aload_n 0, 1, 0, 0, 0, 0, []), (1, .iload_n 1, 1, 0, 0, 0, 0, []), (2, .invokevirtual 109, 3, 41, 2, 2, 8, [(0, 50)]), (5, .astore 4, 2, 0, 0, 0, 0, []), (7, .aload 4, 2, 0, 0, 0, 0, []), (9, .ifnull 25, 3, 34, 0, 0, 0, []), (12, .iload_n 2, 1, 0, 0, 0, 0, []), (13, .ifCond .lt 21, 3, 34, 0, 0, 0, []), (16, .iload_n 2, 1, 0, 0, 0, 0, []), (17, .aload 4, 2, 0, 0, 0, 0, []), (19, .getfield 126, 3, 0, 6, 0, 0, [(0, 47)]), (22, .if_icmp .ge 12, 3, 34, 0, 0, 0, []), (25, .aload 4, 2, 0, 0, 0, 0, []), (27, .iload_n 3, 1, 0, 0, 0, 0, []), (28, .invokevirtual 175, 3, 30, 2, 1, 0, [(0, 85)]), (31, .ifCond .ne 6, 3, 37, 0, 0, 0, [])],
  [(34, .bipush (-2), 2, 0, 0, 0, 0, [(0, 0), (0, 1), (0, 2), (0, 3), (0, 4)]), (36, .ireturn, 1, 0, 0, 0, 0, []), (37, .aload 4, 2, 0, 0, 0, 0, []), (39, .getfield 126, 3, 0, 6, 0, 0, [(0, 47)]), (42, .iconst 2, 1, 0, 0, 0, 0, []), (43, .iadd, 1, 0, 0, 0, 0, []), (44, .sipush 256, 3, 0, 0, 0, 0, []), (47, .if_icmp .le 6, 3, 53, 0, 0, 0, []), (50, .bipush (-5), 2, 0, 0, 0, 0, []), (52, .ireturn, 1, 0, 0, 0, 0, []), (53, .aload 4, 2, 0, 0, 0, 0, []), (55, .iload_n 2, 1, 0, 0, 0, 0, []), (56, .iload_n 3, 1, 0, 0, 0, 0, []), (57, .aload_n 0, 1, 0, 0, 0, 0, []), (58, .getfield 16, 3, 8, 1, 2, 0, [(0, 1)]), (61, .invokestatic 310, 3, 151, 4, 0, 0, [(0, 172)])],
  [(64, .aload_n 0, 1, 0, 0, 0, 0, []), (65, .iload_n 1, 1, 0, 0, 0, 0, []), (66, .invokevirtual 92, 3, 32, 2, 1, 8, [(0, 25)]), (69, .ireturn, 1, 0, 0, 0, 0, [])]]
noncomputable def pm_150 : MR := (0, ⟨"OneAtATime", "detour", "(III)I"⟩, prog_1_method_38_code, 5, (some (.int)), pgA_150)
set_option maxRecDepth 100000 in
noncomputable def pgA_151 : List (List (Nat × EN)) := [[(0, .aload_n 3, 1, 0, 0, 0, 0, []), (1, .aload_n 0, 1, 0, 0, 0, 0, []), (2, .aload_n 0, 1, 0, 0, 0, 0, []), (3, .getfield 7, 3, 0, 1, 2, 0, [(0, 61)]), (6, .iconst 0, 1, 0, 0, 0, 0, []), (7, .iaload, 1, 20, 0, 0, 0, []), (8, .invokevirtual 13, 3, 104, 3, 0, 0, [(0, 111)]), (11, .aload_n 3, 1, 0, 0, 0, 0, []), (12, .aload_n 0, 1, 0, 0, 0, 0, []), (13, .iconst 0, 1, 0, 0, 0, 0, []), (14, .iload_n 1, 1, 0, 0, 0, 0, []), (15, .iconst 0, 1, 0, 0, 0, 0, []), (16, .invokevirtual 42, 3, 107, 5, 0, 0, [(0, 117)]), (19, .aload_n 3, 1, 0, 0, 0, 0, []), (20, .iload_n 2, 1, 0, 0, 0, 0, []), (21, .invokevirtual 27, 3, 31, 2, 0, 0, [(0, 114)]), (24, .aload_n 3, 1, 0, 0, 0, 0, []), (25, .aload_n 0, 1, 0, 0, 0, 0, []), (26, .iload_n 1, 1, 0, 0, 0, 0, []), (27, .iload_n 1, 1, 0, 0, 0, 0, []), (28, .iconst 1, 1, 0, 0, 0, 0, []), (29, .iadd, 1, 0, 0, 0, 0, []), (30, .iconst 0, 1, 0, 0, 0, 0, []), (31, .invokevirtual 42, 3, 107, 5, 0, 0, [(0, 117)])],
  [(34, .aload_n 3, 1, 0, 0, 0, 0, []), (35, .iload_n 2, 1, 0, 0, 0, 0, []), (36, .invokevirtual 27, 3, 31, 2, 0, 0, [(0, 114)]), (39, .aload_n 3, 1, 0, 0, 0, 0, []), (40, .aload_n 0, 1, 0, 0, 0, 0, []), (41, .iload_n 1, 1, 0, 0, 0, 0, []), (42, .iconst 1, 1, 0, 0, 0, 0, []), (43, .iadd, 1, 0, 0, 0, 0, []), (44, .aload_n 0, 1, 0, 0, 0, 0, []), (45, .getfield 39, 3, 0, 6, 0, 0, [(0, 63)]), (48, .iconst 0, 1, 0, 0, 0, 0, []), (49, .invokevirtual 42, 3, 107, 5, 0, 0, [(0, 117)]), (52, .return_, 1, 0, 0, 0, 0, [])]]
noncomputable def pm_151 : MR := (12, ⟨"OneAtATime$Maker", "detoured", "(LOneAtATime$BitList;IILOneAtATime$BitList;)V"⟩, prog_7_method_11_code, 4, none, pgA_151)
set_option maxRecDepth 100000 in
noncomputable def pgA_152 : List (List (Nat × EN)) := [[(0, .aload_n 0, 1, 0, 0, 0, 0, []), (1, .iload_n 1, 1, 0, 0, 0, 0, []), (2, .invokevirtual 109, 3, 41, 2, 2, 8, [(0, 50)]), (5, .astore_n 2, 1, 0, 0, 0, 0, []), (6, .aload_n 2, 1, 0, 0, 0, 0, []), (7, .ifnonnull 6, 3, 13, 0, 0, 0, []), (10, .bipush (-2), 2, 0, 0, 0, 0, []), (12, .ireturn, 1, 0, 0, 0, 0, []), (13, .aload_n 2, 1, 0, 0, 0, 0, []), (14, .aload_n 0, 1, 0, 0, 0, 0, []), (15, .getfield 16, 3, 8, 1, 2, 0, [(0, 1)]), (18, .invokestatic 313, 3, 153, 2, 0, 0, [(0, 173)]), (21, .aload_n 0, 1, 0, 0, 0, 0, []), (22, .iload_n 1, 1, 0, 0, 0, 0, []), (23, .invokevirtual 92, 3, 32, 2, 1, 8, [(0, 25)]), (26, .pop, 1, 0, 0, 0, 0, []), (27, .aload_n 2, 1, 0, 0, 0, 0, []), (28, .getfield 122, 3, 0, 1, 2, 0, [(0, 55)]), (31, .iconst 0, 1, 0, 0, 0, 0, [])],
  [(32, .iaload, 1, 20, 0, 0, 0, []), (33, .ireturn, 1, 0, 0, 0, 0, [])]]
noncomputable def pm_152 : MR := (0, ⟨"OneAtATime", "mirror", "(I)I"⟩, prog_1_method_39_code, 3, (some (.int)), pgA_152)
set_option maxRecDepth 100000 in
noncomputable def pgA_153 : List (List (Nat × EN)) := [[(0, .iconst 0, 1, 0, 0, 0, 0, []), (1, .istore_n 2, 1, 0, 0, 0, 0, []), (2, .iconst 0, 1, 0, 0, 0, 0, []), (3, .istore_n 3, 1, 0, 0, 0, 0, []), (4, .iload_n 3, 1, 0, 0, 0, 0, []), (5, .aload_n 0, 1, 0, 0, 0, 0, []), (6, .getfield 31, 3, 0, 3, 0, 0, [(0, 62)]), (9, .if_icmp .ge 27, 3, 36, 0, 0, 0, []), (12, .iload_n 2, 1, 0, 0, 0, 0, []), (13, .aload_n 0, 1, 0, 0, 0, 0, []), (14, .iconst 0, 1, 0, 0, 0, 0, []), (15, .iload_n 3, 1, 0, 0, 0, 0, []), (16, .invokevirtual 74, 3, 64, 3, 1, 0, [(0, 174)]), (19, .aload_n 0, 1, 0, 0, 0, 0, []), (20, .getfield 31, 3, 0, 3, 0, 0, [(0, 62)]), (23, .iconst 1, 1, 0, 0, 0, 0, []), (24, .isub, 1, 0, 0, 0, 0, []), (25, .iload_n 3, 1, 0, 0, 0, 0, []), (26, .isub, 1, 0, 0, 0, 0, []), (27, .ishl, 1, 0, 0, 0, 0, []), (28, .ior, 1, 0, 0, 0, 0, []), (29, .istore_n 2, 1, 0, 0, 0, 0, []), (30, .iinc 3 1, 3, 0, 0, 0, 0, [])],
  [(33, .goto (-29), 3, 4, 0, 0, 0, []), (36, .aload_n 1, 1, 0, 0, 0, 0, []), (37, .aload_n 0, 1, 0, 0, 0, 0, []), (38, .iload_n 2, 1, 0, 0, 0, 0, []), (39, .invokevirtual 13, 3, 104, 3, 0, 0, [(0, 111)]), (42, .iconst 0, 1, 0, 0, 0, 0, []), (43, .istore_n 3, 1, 0, 0, 0, 0, []), (44, .iload_n 3, 1, 0, 0, 0, 0, [(0, 2)]), (45, .aload_n 0, 1, 0, 0, 0, 0, []), (46, .getfield 39, 3, 0, 6, 0, 0, [(0, 63)]), (49, .if_icmp .ge 26, 3, 75, 0, 0, 0, []), (52, .aload_n 1, 1, 0, 0, 0, 0, []), (53, .aload_n 0, 1, 0, 0, 0, 0, []), (54, .getfield 31, 3, 0, 3, 0, 0, [(0, 62)]), (57, .iconst 1, 1, 0, 0, 0, 0, []), (58, .isub, 1, 0, 0, 0, 0, []), (59, .aload_n 0, 1, 0, 0, 0, 0, []), (60, .getfield 71, 3, 0, 0, 2, 0, [(0, 67)]), (63, .iload_n 3, 1, 0, 0, 0, 0, [])],
  [(64, .iaload, 1, 20, 0, 0, 0, []), (65, .isub, 1, 0, 0, 0, 0, []), (66, .invokevirtual 27, 3, 31, 2, 0, 0, [(0, 114)]), (69, .iinc 3 1, 3, 0, 0, 0, 0, []), (72, .goto (-28), 3, 44, 0, 0, 0, []), (75, .return_, 1, 0, 0, 0, 0, [])]]
noncomputable def pm_153 : MR := (12, ⟨"OneAtATime$Maker", "mirrored", "(LOneAtATime$BitList;LOneAtATime$BitList;)V"⟩, prog_7_method_12_code, 4, none, pgA_153)
set_option maxRecDepth 100000 in
noncomputable def pgA_154 : List (List (Nat × EN)) := [[(0, .aload_n 0, 1, 0, 0, 0, 0, []), (1, .iload_n 1, 1, 0, 0, 0, 0, []), (2, .invokevirtual 109, 3, 41, 2, 2, 8, [(0, 50)]), (5, .astore_n 3, 1, 0, 0, 0, 0, []), (6, .aload_n 3, 1, 0, 0, 0, 0, []), (7, .ifnull 11, 3, 18, 0, 0, 0, []), (10, .aload_n 3, 1, 0, 0, 0, 0, []), (11, .iload_n 2, 1, 0, 0, 0, 0, []), (12, .invokevirtual 168, 3, 68, 2, 1, 0, [(0, 83)]), (15, .ifCond .ne 6, 3, 21, 0, 0, 0, []), (18, .bipush (-2), 2, 0, 0, 0, 0, [(0, 0), (0, 1), (0, 2), (0, 3), (0, 4)]), (20, .ireturn, 1, 0, 0, 0, 0, []), (21, .aload_n 3, 1, 0, 0, 0, 0, []), (22, .getfield 122, 3, 0, 1, 2, 0, [(0, 55)]), (25, .iconst 0, 1, 0, 0, 0, 0, []), (26, .iaload, 1, 20, 0, 0, 0, []), (27, .istore 4, 2, 0, 0, 0, 0, []), (29, .aload_n 0, 1, 0, 0, 0, 0, []), (30, .getfield 16, 3, 8, 1, 2, 0, [(0, 1)])],
  [(33, .aload_n 3, 1, 0, 0, 0, 0, []), (34, .iload_n 2, 1, 0, 0, 0, 0, []), (35, .invokevirtual 316, 3, 104, 3, 0, 0, [(0, 175)]), (38, .aload_n 0, 1, 0, 0, 0, 0, []), (39, .getfield 16, 3, 8, 1, 2, 0, [(0, 1)]), (42, .aload_n 3, 1, 0, 0, 0, 0, []), (43, .iconst 0, 1, 0, 0, 0, 0, []), (44, .aload_n 3, 1, 0, 0, 0, 0, []), (45, .getfield 126, 3, 0, 6, 0, 0, [(0, 47)]), (48, .iconst 0, 1, 0, 0, 0, 0, []), (49, .invokevirtual 320, 3, 107, 5, 0, 0, [(0, 176)]), (52, .aload_n 0, 1, 0, 0, 0, 0, []), (53, .iload_n 1, 1, 0, 0, 0, 0, []), (54, .invokevirtual 92, 3, 32, 2, 1, 8, [(0, 25)]), (57, .pop, 1, 0, 0, 0, 0, []), (58, .iload 4, 2, 0, 0, 0, 0, []), (60, .ireturn, 1, 0, 0, 0, 0, [])]]
noncomputable def pm_154 : MR := (0, ⟨"OneAtATime", "starts", "(II)I"⟩, prog_1_method_40_code, 5, (some (.int)), pgA_154)
set_option maxRecDepth 100000 in
noncomputable def pgA_155 : List (List (Nat × EN)) := [[(0, .aload_n 0, 1, 0, 0, 0, 0, []), (1, .iload_n 1, 1, 0, 0, 0, 0, []), (2, .invokevirtual 109, 3, 41, 2, 2, 8, [(0, 50)]), (5, .astore 4, 2, 0, 0, 0, 0, []), (7, .aload 4, 2, 0, 0, 0, 0, []), (9, .ifnull 21, 3, 30, 0, 0, 0, []), (12, .aload 4, 2, 0, 0, 0, 0, []), (14, .iload_n 2, 1, 0, 0, 0, 0, []), (15, .invokevirtual 175, 3, 30, 2, 1, 0, [(0, 85)]), (18, .ifCond .eq 12, 3, 30, 0, 0, 0, []), (21, .aload 4, 2, 0, 0, 0, 0, []), (23, .iload_n 3, 1, 0, 0, 0, 0, []), (24, .invokevirtual 175, 3, 30, 2, 1, 0, [(0, 85)]), (27, .ifCond .ne 6, 3, 33, 0, 0, 0, []), (30, .bipush (-2), 2, 0, 0, 0, 0, [(0, 0), (0, 1), (0, 2), (0, 3), (0, 4), (0, 5)])],
  [(32, .ireturn, 1, 0, 0, 0, 0, []), (33, .iload_n 2, 1, 0, 0, 0, 0, []), (34, .iload_n 3, 1, 0, 0, 0, 0, []), (35, .if_icmp .ne 7, 3, 42, 0, 0, 0, []), (38, .iconst 0, 1, 0, 0, 0, 0, []), (39, .goto 16, 3, 55, 0, 0, 0, []), (42, .aload 4, 2, 0, 0, 0, 0, []), (44, .iload_n 2, 1, 0, 0, 0, 0, []), (45, .invokevirtual 178, 3, 72, 2, 1, 0, [(0, 86)]), (48, .aload 4, 2, 0, 0, 0, 0, []), (50, .iload_n 3, 1, 0, 0, 0, 0, []), (51, .invokevirtual 178, 3, 72, 2, 1, 0, [(0, 86)]), (54, .iadd, 1, 0, 0, 0, 0, []), (55, .istore 5, 2, 0, 0, 0, 0, [(0, 5)]), (57, .aload 4, 2, 0, 0, 0, 0, []), (59, .iload_n 2, 1, 0, 0, 0, 0, []), (60, .iload_n 3, 1, 0, 0, 0, 0, []), (61, .aload_n 0, 1, 0, 0, 0, 0, []), (62, .getfield 16, 3, 8, 1, 2, 0, [(0, 1)])],
  [(65, .invokestatic 324, 3, 156, 4, 0, 0, [(0, 177)]), (68, .aload_n 0, 1, 0, 0, 0, 0, []), (69, .iload_n 1, 1, 0, 0, 0, 0, []), (70, .invokevirtual 92, 3, 32, 2, 1, 8, [(0, 25)]), (73, .pop, 1, 0, 0, 0, 0, []), (74, .iload 5, 2, 0, 0, 0, 0, []), (76, .ireturn, 1, 0, 0, 0, 0, [])]]
noncomputable def pm_155 : MR := (0, ⟨"OneAtATime", "swaps", "(III)I"⟩, prog_1_method_41_code, 6, (some (.int)), pgA_155)
end
section
set_option maxRecDepth 100000 in
noncomputable def pgA_156 : List (List (Nat × EN)) := [[(0, .aload_n 0, 1, 0, 0, 0, 0, []), (1, .getfield 7, 3, 0, 1, 2, 0, [(0, 61)]), (4, .iconst 0, 1, 0, 0, 0, 0, []), (5, .iaload, 1, 20, 0, 0, 0, []), (6, .istore 4, 2, 0, 0, 0, 0, []), (8, .aload_n 0, 1, 0, 0, 0, 0, []), (9, .iconst 0, 1, 0, 0, 0, 0, []), (10, .iload_n 1, 1, 0, 0, 0, 0, []), (11, .invokevirtual 74, 3, 64, 3, 1, 0, [(0, 174)]), (14, .aload_n 0, 1, 0, 0, 0, 0, []), (15, .iconst 0, 1, 0, 0, 0, 0, []), (16, .iload_n 2, 1, 0, 0, 0, 0, []), (17, .invokevirtual 74, 3, 64, 3, 1, 0, [(0, 174)]), (20, .if_icmp .eq 15, 3, 35, 0, 0, 0, []), (23, .iload 4, 2, 0, 0, 0, 0, []), (25, .iconst 1, 1, 0, 0, 0, 0, []), (26, .iload_n 1, 1, 0, 0, 0, 0, []), (27, .ishl, 1, 0, 0, 0, 0, []), (28, .ixor, 1, 0, 0, 0, 0, []), (29, .iconst 1, 1, 0, 0, 0, 0, []), (30, .iload_n 2, 1, 0, 0, 0, 0, []), (31, .ishl, 1, 0, 0, 0, 0, [])],
  [(32, .ixor, 1, 0, 0, 0, 0, []), (33, .istore 4, 2, 0, 0, 0, 0, []), (35, .aload_n 3, 1, 0, 0, 0, 0, [(0, 5), (0, 6)]), (36, .aload_n 0, 1, 0, 0, 0, 0, []), (37, .iload 4, 2, 0, 0, 0, 0, []), (39, .invokevirtual 13, 3, 104, 3, 0, 0, [(0, 111)]), (42, .iconst 0, 1, 0, 0, 0, 0, []), (43, .istore 5, 2, 0, 0, 0, 0, []), (45, .iload 5, 2, 0, 0, 0, 0, [(0, 4), (0, 6)]), (47, .aload_n 0, 1, 0, 0, 0, 0, []), (48, .getfield 39, 3, 0, 6, 0, 0, [(0, 63)]), (51, .if_icmp .ge 44, 3, 95, 0, 0, 0, []), (54, .aload_n 0, 1, 0, 0, 0, 0, []), (55, .getfield 71, 3, 0, 0, 2, 0, [(0, 67)]), (58, .iload 5, 2, 0, 0, 0, 0, []), (60, .iaload, 1, 20, 0, 0, 0, []), (61, .istore 6, 2, 0, 0, 0, 0, []), (63, .aload_n 3, 1, 0, 0, 0, 0, [])],
  [(64, .iload 6, 2, 0, 0, 0, 0, []), (66, .iload_n 1, 1, 0, 0, 0, 0, []), (67, .if_icmp .ne 7, 3, 74, 0, 0, 0, []), (70, .iload_n 2, 1, 0, 0, 0, 0, []), (71, .goto 15, 3, 86, 0, 0, 0, []), (74, .iload 6, 2, 0, 0, 0, 0, []), (76, .iload_n 2, 1, 0, 0, 0, 0, []), (77, .if_icmp .ne 7, 3, 84, 0, 0, 0, []), (80, .iload_n 1, 1, 0, 0, 0, 0, []), (81, .goto 5, 3, 86, 0, 0, 0, []), (84, .iload 6, 2, 0, 0, 0, 0, []), (86, .invokevirtual 27, 3, 31, 2, 0, 0, [(0, 114)]), (89, .iinc 5 1, 3, 0, 0, 0, 0, []), (92, .goto (-47), 3, 45, 0, 0, 0, []), (95, .return_, 1, 0, 0, 0, 0, [])]]
noncomputable def pm_156 : MR := (12, ⟨"OneAtATime$Maker", "swapped", "(LOneAtATime$BitList;IILOneAtATime$BitList;)V"⟩, prog_7_method_13_code, 7, none, pgA_156)
set_option maxRecDepth 100000 in
noncomputable def pgA_157 : List (List (Nat × EN)) := [[(0, .aload_n 0, 1, 0, 0, 0, 0, []), (1, .iload_n 1, 1, 0, 0, 0, 0, []), (2, .invokevirtual 109, 3, 41, 2, 2, 8, [(0, 50)]), (5, .astore_n 2, 1, 0, 0, 0, 0, []), (6, .aload_n 2, 1, 0, 0, 0, 0, []), (7, .ifnonnull 6, 3, 13, 0, 0, 0, []), (10, .bipush (-2), 2, 0, 0, 0, 0, []), (12, .ireturn, 1, 0, 0, 0, 0, []), (13, .aload_n 0, 1, 0, 0, 0, 0, []), (14, .getfield 16, 3, 8, 1, 2, 0, [(0, 1)]), (17, .aload_n 2, 1, 0, 0, 0, 0, []), (18, .aload_n 2, 1, 0, 0, 0, 0, []), (19, .invokevirtual 327, 3, 112, 1, 1, 0, [(0, 178)]), (22, .invokevirtual 316, 3, 104, 3, 0, 0, [(0, 175)]), (25, .aload_n 0, 1, 0, 0, 0, 0, []), (26, .getfield 16, 3, 8, 1, 2, 0, [(0, 1)]), (29, .aload_n 2, 1, 0, 0, 0, 0, []), (30, .iconst 0, 1, 0, 0, 0, 0, []), (31, .aload_n 2, 1, 0, 0, 0, 0, [])],
  [(32, .getfield 126, 3, 0, 6, 0, 0, [(0, 47)]), (35, .iconst 0, 1, 0, 0, 0, 0, []), (36, .invokevirtual 330, 3, 123, 5, 0, 0, [(0, 179)]), (39, .aload_n 0, 1, 0, 0, 0, 0, []), (40, .iload_n 1, 1, 0, 0, 0, 0, []), (41, .invokevirtual 92, 3, 32, 2, 1, 8, [(0, 25)]), (44, .pop, 1, 0, 0, 0, 0, []), (45, .aload_n 2, 1, 0, 0, 0, 0, []), (46, .getfield 122, 3, 0, 1, 2, 0, [(0, 55)]), (49, .iconst 0, 1, 0, 0, 0, 0, []), (50, .iaload, 1, 20, 0, 0, 0, []), (51, .ireturn, 1, 0, 0, 0, 0, [])]]
noncomputable def pm_157 : MR := (0, ⟨"OneAtATime", "reverse", "(I)I"⟩, prog_1_method_42_code, 3, (some (.int)), pgA_157)
set_option maxRecDepth 100000 in
noncomputable def pgA_158 : List (List (Nat × EN)) := [[(0, .aload_n 0, 1, 0, 0, 0, 0, []), (1, .iload_n 1, 1, 0, 0, 0, 0, []), (2, .invokevirtual 109, 3, 41, 2, 2, 8, [(0, 50)]), (5, .astore_n 3, 1, 0, 0, 0, 0, []), (6, .aload_n 3, 1, 0, 0, 0, 0, []), (7, .ifnull 15, 3, 22, 0, 0, 0, []), (10, .iload_n 2, 1, 0, 0, 0, 0, []), (11, .ifCond .lt 11, 3, 22, 0, 0, 0, []), (14, .iload_n 2, 1, 0, 0, 0, 0, []), (15, .aload_n 3, 1, 0, 0, 0, 0, []), (16, .getfield 126, 3, 0, 6, 0, 0, [(0, 47)]), (19, .if_icmp .lt 6, 3, 25, 0, 0, 0, []), (22, .bipush (-2), 2, 0, 0, 0, 0, [(0, 0), (0, 1), (0, 2), (0, 3)]), (24, .ireturn, 1, 0, 0, 0, 0, []), (25, .aload_n 3, 1, 0, 0, 0, 0, []), (26, .invokevirtual 139, 3, 43, 1, 1, 0, [(0, 62)]), (29, .ifCond .ne 6, 3, 35, 0, 0, 0, [])],
  [(32, .bipush (-6), 2, 0, 0, 0, 0, []), (34, .ireturn, 1, 0, 0, 0, 0, []), (35, .aload_n 0, 1, 0, 0, 0, 0, []), (36, .getfield 16, 3, 8, 1, 2, 0, [(0, 1)]), (39, .aload_n 3, 1, 0, 0, 0, 0, []), (40, .aload_n 3, 1, 0, 0, 0, 0, []), (41, .getfield 122, 3, 0, 1, 2, 0, [(0, 55)]), (44, .iload_n 2, 1, 0, 0, 0, 0, []), (45, .iaload, 1, 20, 0, 0, 0, []), (46, .invokevirtual 316, 3, 104, 3, 0, 0, [(0, 175)]), (49, .aload_n 0, 1, 0, 0, 0, 0, []), (50, .getfield 16, 3, 8, 1, 2, 0, [(0, 1)]), (53, .aload_n 3, 1, 0, 0, 0, 0, []), (54, .iload_n 2, 1, 0, 0, 0, 0, []), (55, .aload_n 3, 1, 0, 0, 0, 0, []), (56, .getfield 126, 3, 0, 6, 0, 0, [(0, 47)]), (59, .iconst 0, 1, 0, 0, 0, 0, []), (60, .invokevirtual 320, 3, 107, 5, 0, 0, [(0, 176)]), (63, .aload_n 0, 1, 0, 0, 0, 0, [])],
  [(64, .getfield 16, 3, 8, 1, 2, 0, [(0, 1)]), (67, .aload_n 3, 1, 0, 0, 0, 0, []), (68, .iconst 0, 1, 0, 0, 0, 0, []), (69, .iload_n 2, 1, 0, 0, 0, 0, []), (70, .iconst 0, 1, 0, 0, 0, 0, []), (71, .invokevirtual 320, 3, 107, 5, 0, 0, [(0, 176)]), (74, .aload_n 0, 1, 0, 0, 0, 0, []), (75, .iload_n 1, 1, 0, 0, 0, 0, []), (76, .invokevirtual 92, 3, 32, 2, 1, 8, [(0, 25)]), (79, .pop, 1, 0, 0, 0, 0, []), (80, .aload_n 3, 1, 0, 0, 0, 0, []), (81, .getfield 122, 3, 0, 1, 2, 0, [(0, 55)]), (84, .iconst 0, 1, 0, 0, 0, 0, []), (85, .iaload, 1, 20, 0, 0, 0, []), (86, .ireturn, 1, 0, 0, 0, 0, [])]]
noncomputable def pm_158 : MR := (0, ⟨"OneAtATime", "rolls", "(II)I"⟩, prog_1_method_43_code, 4, (some (.int)), pgA_158)
set_option maxRecDepth 100000 in
noncomputable def pgA_159 : List (List (Nat × EN)) := [[(0, .aload_n 0, 1, 0, 0, 0, 0, []), (1, .iload_n 1, 1, 0, 0, 0, 0, []), (2, .invokevirtual 109, 3, 41, 2, 2, 8, [(0, 50)]), (5, .astore_n 3, 1, 0, 0, 0, 0, []), (6, .aload_n 3, 1, 0, 0, 0, 0, []), (7, .ifnull 11, 3, 18, 0, 0, 0, []), (10, .aload_n 3, 1, 0, 0, 0, 0, []), (11, .iload_n 2, 1, 0, 0, 0, 0, []), (12, .invokevirtual 175, 3, 30, 2, 1, 0, [(0, 85)]), (15, .ifCond .ne 6, 3, 21, 0, 0, 0, []), (18, .bipush (-2), 2, 0, 0, 0, 0, [(0, 0), (0, 1), (0, 2), (0, 3)]), (20, .ireturn, 1, 0, 0, 0, 0, []), (21, .aload_n 3, 1, 0, 0, 0, 0, []), (22, .getfield 126, 3, 0, 6, 0, 0, [(0, 47)]), (25, .sipush 256, 3, 0, 0, 0, 0, []), (28, .if_icmp .lt 6, 3, 34, 0, 0, 0, []), (31, .bipush (-5), 2, 0, 0, 0, 0, [])],
  [(33, .ireturn, 1, 0, 0, 0, 0, []), (34, .aload_n 0, 1, 0, 0, 0, 0, []), (35, .getfield 16, 3, 8, 1, 2, 0, [(0, 1)]), (38, .aload_n 3, 1, 0, 0, 0, 0, []), (39, .invokevirtual 333, 3, 35, 2, 0, 0, [(0, 45)]), (42, .aload_n 0, 1, 0, 0, 0, 0, []), (43, .getfield 16, 3, 8, 1, 2, 0, [(0, 1)]), (46, .iload_n 2, 1, 0, 0, 0, 0, []), (47, .invokevirtual 336, 3, 31, 2, 0, 0, [(0, 180)]), (50, .aload_n 0, 1, 0, 0, 0, 0, []), (51, .iload_n 1, 1, 0, 0, 0, 0, []), (52, .invokevirtual 92, 3, 32, 2, 1, 8, [(0, 25)]), (55, .pop, 1, 0, 0, 0, 0, []), (56, .aload_n 3, 1, 0, 0, 0, 0, []), (57, .invokevirtual 327, 3, 112, 1, 1, 0, [(0, 178)]), (60, .ireturn, 1, 0, 0, 0, 0, [])]]
noncomputable def pm_159 : MR := (0, ⟨"OneAtATime", "adds", "(II)I"⟩, prog_1_method_44_code, 4, (some (.int)), pgA_159)
set_option maxRecDepth 100000 in
noncomputable def pgA_160 : List (List (Nat × EN)) := [[(0, .aload_n 0, 1, 0, 0, 0, 0, []), (1, .iload_n 1, 1, 0, 0, 0, 0, []), (2, .invokevirtual 109, 3, 41, 2, 2, 8, [(0, 50)]), (5, .astore_n 3, 1, 0, 0, 0, 0, []), (6, .aload_n 3, 1, 0, 0, 0, 0, []), (7, .ifnull 16, 3, 23, 0, 0, 0, []), (10, .iload_n 2, 1, 0, 0, 0, 0, []), (11, .iconst 1, 1, 0, 0, 0, 0, []), (12, .if_icmp .lt 11, 3, 23, 0, 0, 0, []), (15, .iload_n 2, 1, 0, 0, 0, 0, []), (16, .aload_n 3, 1, 0, 0, 0, 0, []), (17, .getfield 126, 3, 0, 6, 0, 0, [(0, 47)]), (20, .if_icmp .le 6, 3, 26, 0, 0, 0, []), (23, .bipush (-2), 2, 0, 0, 0, 0, [(0, 0), (0, 1), (0, 2), (0, 3)]), (25, .ireturn, 1, 0, 0, 0, 0, []), (26, .aload_n 0, 1, 0, 0, 0, 0, []), (27, .getfield 16, 3, 8, 1, 2, 0, [(0, 1)]), (30, .aload_n 3, 1, 0, 0, 0, 0, []), (31, .invokevirtual 333, 3, 35, 2, 0, 0, [(0, 45)])],
  [(34, .aload_n 0, 1, 0, 0, 0, 0, []), (35, .getfield 16, 3, 8, 1, 2, 0, [(0, 1)]), (38, .aload_n 3, 1, 0, 0, 0, 0, []), (39, .getfield 126, 3, 0, 6, 0, 0, [(0, 47)]), (42, .iload_n 2, 1, 0, 0, 0, 0, []), (43, .isub, 1, 0, 0, 0, 0, []), (44, .putfield 126, 3, 0, 6, 0, 0, [(0, 47)]), (47, .aload_n 0, 1, 0, 0, 0, 0, []), (48, .iload_n 1, 1, 0, 0, 0, 0, []), (49, .invokevirtual 92, 3, 32, 2, 1, 8, [(0, 25)]), (52, .ireturn, 1, 0, 0, 0, 0, [])]]
noncomputable def pm_160 : MR := (0, ⟨"OneAtATime", "cuts", "(II)I"⟩, prog_1_method_45_code, 4, (some (.int)), pgA_160)
set_option maxRecDepth 100000 in
noncomputable def pgA_161 : List (List (Nat × EN)) := [[(0, .aload_n 0, 1, 0, 0, 0, 0, []), (1, .iload_n 1, 1, 0, 0, 0, 0, []), (2, .invokevirtual 109, 3, 41, 2, 2, 8, [(0, 50)]), (5, .astore_n 3, 1, 0, 0, 0, 0, []), (6, .aload_n 0, 1, 0, 0, 0, 0, []), (7, .iload_n 2, 1, 0, 0, 0, 0, []), (8, .invokevirtual 109, 3, 41, 2, 2, 8, [(0, 50)]), (11, .astore 4, 2, 0, 0, 0, 0, []), (13, .aload_n 3, 1, 0, 0, 0, 0, []), (14, .ifnull 8, 3, 22, 0, 0, 0, []), (17, .aload 4, 2, 0, 0, 0, 0, []), (19, .ifnonnull 6, 3, 25, 0, 0, 0, []), (22, .bipush (-2), 2, 0, 0, 0, 0, [(0, 0), (0, 1), (0, 2), (0, 3), (0, 4)]), (24, .ireturn, 1, 0, 0, 0, 0, []), (25, .aload_n 0, 1, 0, 0, 0, 0, []), (26, .getfield 60, 3, 8, 7, 2, 0, [(0, 7)]), (29, .aload_n 3, 1, 0, 0, 0, 0, []), (30, .aload 4, 2, 0, 0, 0, 0, [])],
  [(32, .invokevirtual 339, 3, 162, 3, 1, 4, [(0, 181)]), (35, .invokestatic 143, 3, 52, 1, 1, 0, [(0, 63)]), (38, .ireturn, 1, 0, 0, 0, 0, [])]]
noncomputable def pm_161 : MR := (0, ⟨"OneAtATime", "alike", "(II)I"⟩, prog_1_method_46_code, 5, (some (.int)), pgA_161)
set_option maxRecDepth 100000 in
noncomputable def pgA_162 : List (List (Nat × EN)) := [[(0, .aload_n 1, 1, 0, 0, 0, 0, []), (1, .getfield 18, 3, 0, 6, 0, 0, [(0, 73)]), (4, .aload_n 2, 1, 0, 0, 0, 0, []), (5, .getfield 18, 3, 0, 6, 0, 0, [(0, 73)]), (8, .if_icmp .ne 14, 3, 22, 0, 0, 0, []), (11, .aload_n 1, 1, 0, 0, 0, 0, []), (12, .invokevirtual 24, 3, 43, 1, 1, 0, [(0, 182)]), (15, .aload_n 2, 1, 0, 0, 0, 0, []), (16, .invokevirtual 24, 3, 43, 1, 1, 0, [(0, 182)]), (19, .if_icmp .eq 5, 3, 24, 0, 0, 0, []), (22, .iconst 0, 1, 0, 0, 0, 0, [(0, 0), (0, 1), (0, 2), (0, 3)]), (23, .ireturn, 1, 1, 0, 0, 0, []), (24, .aload_n 1, 1, 0, 0, 0, 0, []), (25, .invokevirtual 24, 3, 43, 1, 1, 0, [(0, 182)]), (28, .ifCond .ne 12, 3, 40, 0, 0, 0, []), (31, .aload_n 0, 1, 0, 0, 0, 0, [])],
  [(32, .aload_n 1, 1, 0, 0, 0, 0, []), (33, .aload_n 2, 1, 0, 0, 0, 0, []), (34, .iconst 0, 1, 0, 0, 0, 0, []), (35, .iconst 1, 1, 0, 0, 0, 0, []), (36, .invokevirtual 28, 3, 163, 5, 1, 4, [(0, 183)]), (39, .ireturn, 1, 1, 0, 0, 0, []), (40, .iconst 0, 1, 0, 0, 0, 0, []), (41, .istore_n 3, 1, 0, 0, 0, 0, []), (42, .iload_n 3, 1, 0, 0, 0, 0, []), (43, .aload_n 2, 1, 0, 0, 0, 0, []), (44, .getfield 18, 3, 0, 6, 0, 0, [(0, 73)]), (47, .if_icmp .ge 33, 3, 80, 0, 0, 0, []), (50, .aload_n 0, 1, 0, 0, 0, 0, []), (51, .aload_n 1, 1, 0, 0, 0, 0, []), (52, .aload_n 2, 1, 0, 0, 0, 0, []), (53, .iload_n 3, 1, 0, 0, 0, 0, []), (54, .iconst 1, 1, 0, 0, 0, 0, []), (55, .invokevirtual 28, 3, 163, 5, 1, 4, [(0, 183)]), (58, .ifCond .ne 14, 3, 72, 0, 0, 0, []), (61, .aload_n 0, 1, 0, 0, 0, 0, []), (62, .aload_n 1, 1, 0, 0, 0, 0, []), (63, .aload_n 2, 1, 0, 0, 0, 0, [])],
  [(64, .iload_n 3, 1, 0, 0, 0, 0, []), (65, .iconst 0, 1, 0, 0, 0, 0, []), (66, .invokevirtual 28, 3, 163, 5, 1, 4, [(0, 183)]), (69, .ifCond .eq 5, 3, 74, 0, 0, 0, []), (72, .iconst 1, 1, 0, 0, 0, 0, [(0, 0), (0, 1), (0, 2), (0, 3)]), (73, .ireturn, 1, 1, 0, 0, 0, []), (74, .iinc 3 1, 3, 0, 0, 0, 0, []), (77, .goto (-35), 3, 42, 0, 0, 0, []), (80, .iconst 0, 1, 0, 0, 0, 0, []), (81, .ireturn, 1, 1, 0, 0, 0, [])]]
noncomputable def pm_162 : MR := (8, ⟨"OneAtATime$Likeness", "holds", "(LOneAtATime$BitList;LOneAtATime$BitList;)Z"⟩, prog_6_method_2_code, 4, (some (.boolean)), pgA_162)
set_option maxRecDepth 100000 in
noncomputable def pgA_163 : List (List (Nat × EN)) := [[(0, .aload_n 0, 1, 0, 0, 0, 0, []), (1, .getfield 9, 3, 4, 0, 2, 0, [(0, 29)]), (4, .iconst (-1), 1, 0, 0, 0, 0, []), (5, .invokestatic 32, 3, 46, 2, 0, 0, [(0, 184)]), (8, .aload_n 0, 1, 0, 0, 0, 0, []), (9, .getfield 15, 3, 4, 1, 2, 0, [(0, 30)]), (12, .iconst (-1), 1, 0, 0, 0, 0, []), (13, .invokestatic 32, 3, 46, 2, 0, 0, [(0, 184)]), (16, .iload_n 3, 1, 0, 0, 0, 0, []), (17, .istore 5, 2, 0, 0, 0, 0, []), (19, .iconst 0, 1, 0, 0, 0, 0, []), (20, .istore 6, 2, 0, 0, 0, 0, []), (22, .iload 6, 2, 0, 0, 0, 0, [(0, 3), (0, 7), (0, 8)]), (24, .aload_n 1, 1, 0, 0, 0, 0, []), (25, .getfield 18, 3, 0, 6, 0, 0, [(0, 73)]), (28, .if_icmp .ge 133, 3, 161, 0, 0, 0, []), (31, .aload_n 1, 1, 0, 0, 0, 0, [])],
  [(32, .getfield 38, 3, 0, 0, 2, 0, [(0, 74)]), (35, .iload 6, 2, 0, 0, 0, 0, []), (37, .iaload, 1, 20, 0, 0, 0, []), (38, .istore 7, 2, 0, 0, 0, 0, []), (40, .aload_n 2, 1, 0, 0, 0, 0, []), (41, .getfield 38, 3, 0, 0, 2, 0, [(0, 74)]), (44, .iload 5, 2, 0, 0, 0, 0, []), (46, .iaload, 1, 20, 0, 0, 0, []), (47, .istore 8, 2, 0, 0, 0, 0, []), (49, .aload_n 0, 1, 0, 0, 0, 0, []), (50, .getfield 9, 3, 4, 0, 2, 0, [(0, 29)]), (53, .iload 7, 2, 0, 0, 0, 0, []), (55, .iaload, 1, 20, 0, 0, 0, []), (56, .iconst (-1), 1, 0, 0, 0, 0, []), (57, .if_icmp .ne 35, 3, 92, 0, 0, 0, []), (60, .aload_n 0, 1, 0, 0, 0, 0, []), (61, .getfield 15, 3, 4, 1, 2, 0, [(0, 30)])],
  [(64, .iload 8, 2, 0, 0, 0, 0, []), (66, .iaload, 1, 20, 0, 0, 0, []), (67, .iconst (-1), 1, 0, 0, 0, 0, []), (68, .if_icmp .ne 24, 3, 92, 0, 0, 0, []), (71, .aload_n 0, 1, 0, 0, 0, 0, []), (72, .getfield 9, 3, 4, 0, 2, 0, [(0, 29)]), (75, .iload 7, 2, 0, 0, 0, 0, []), (77, .iload 8, 2, 0, 0, 0, 0, []), (79, .iastore, 1, 20, 0, 0, 0, []), (80, .aload_n 0, 1, 0, 0, 0, 0, []), (81, .getfield 15, 3, 4, 1, 2, 0, [(0, 30)]), (84, .iload 8, 2, 0, 0, 0, 0, []), (86, .iload 7, 2, 0, 0, 0, 0, []), (88, .iastore, 1, 20, 0, 0, 0, []), (89, .goto 17, 3, 106, 0, 0, 0, []), (92, .aload_n 0, 1, 0, 0, 0, 0, [(0, 3)]), (93, .getfield 9, 3, 4, 0, 2, 0, [(0, 29)])],
  [(96, .iload 7, 2, 0, 0, 0, 0, []), (98, .iaload, 1, 20, 0, 0, 0, []), (99, .iload 8, 2, 0, 0, 0, 0, []), (101, .if_icmp .eq 5, 3, 106, 0, 0, 0, []), (104, .iconst 0, 1, 0, 0, 0, 0, []), (105, .ireturn, 1, 1, 0, 0, 0, []), (106, .iload 4, 2, 0, 0, 0, 0, [(0, 3), (0, 7), (0, 8)]), (108, .ifCond .eq 10, 3, 118, 0, 0, 0, []), (111, .iload 5, 2, 0, 0, 0, 0, []), (113, .iconst 1, 1, 0, 0, 0, 0, []), (114, .iadd, 1, 0, 0, 0, 0, []), (115, .goto 7, 3, 122, 0, 0, 0, []), (118, .iload 5, 2, 0, 0, 0, 0, []), (120, .iconst 1, 1, 0, 0, 0, 0, []), (121, .isub, 1, 0, 0, 0, 0, []), (122, .istore 5, 2, 0, 0, 0, 0, [(0, 3), (0, 5), (0, 7), (0, 8)]), (124, .iload 5, 2, 0, 0, 0, 0, []), (126, .aload_n 2, 1, 0, 0, 0, 0, []), (127, .getfield 18, 3, 0, 6, 0, 0, [(0, 73)])],
  [(130, .if_icmp .lt 7, 3, 137, 0, 0, 0, []), (133, .iconst 0, 1, 0, 0, 0, 0, []), (134, .goto 19, 3, 153, 0, 0, 0, []), (137, .iload 5, 2, 0, 0, 0, 0, []), (139, .ifCond .ge 12, 3, 151, 0, 0, 0, []), (142, .aload_n 2, 1, 0, 0, 0, 0, []), (143, .getfield 18, 3, 0, 6, 0, 0, [(0, 73)]), (146, .iconst 1, 1, 0, 0, 0, 0, []), (147, .isub, 1, 0, 0, 0, 0, []), (148, .goto 5, 3, 153, 0, 0, 0, []), (151, .iload 5, 2, 0, 0, 0, 0, []), (153, .istore 5, 2, 0, 0, 0, 0, [(0, 3), (0, 5), (0, 7), (0, 8)]), (155, .iinc 6 1, 3, 0, 0, 0, 0, []), (158, .goto (-136), 3, 22, 0, 0, 0, [])],
  [(161, .iconst 1, 1, 0, 0, 0, 0, []), (162, .ireturn, 1, 1, 0, 0, 0, [])]]
noncomputable def pm_163 : MR := (8, ⟨"OneAtATime$Likeness", "agrees", "(LOneAtATime$BitList;LOneAtATime$BitList;IZ)Z"⟩, prog_6_method_3_code, 9, (some (.boolean)), pgA_163)
set_option maxRecDepth 100000 in
noncomputable def pgA_164 : List (List (Nat × EN)) := [[(0, .iload_n 1, 1, 0, 0, 0, 0, []), (1, .invokestatic 85, 3, 16, 1, 1, 0, [(0, 23)]), (4, .ifCond .ne 6, 3, 10, 0, 0, 0, []), (7, .bipush (-2), 2, 0, 0, 0, 0, []), (9, .ireturn, 1, 0, 0, 0, 0, []), (10, .aload_n 0, 1, 0, 0, 0, 0, []), (11, .getfield 11, 3, 8, 0, 2, 0, [(0, 0)]), (14, .iload_n 1, 1, 0, 0, 0, 0, []), (15, .aaload, 1, 23, 0, 0, 0, []), (16, .astore_n 2, 1, 0, 0, 0, 0, []), (17, .aload_n 2, 1, 0, 0, 0, 0, []), (18, .getfield 343, 3, 0, 2, 1, 0, [(0, 51)]), (21, .ifCond .ne 5, 3, 26, 0, 0, 0, []), (24, .iconst 0, 1, 0, 0, 0, 0, []), (25, .ireturn, 1, 0, 0, 0, 0, []), (26, .aload_n 0, 1, 0, 0, 0, 0, []), (27, .getfield 23, 3, 8, 2, 2, 0, [(0, 2)]), (30, .iload_n 1, 1, 0, 0, 0, 0, []), (31, .aload_n 2, 1, 0, 0, 0, 0, [])],
  [(32, .invokevirtual 347, 3, 34, 3, 0, 3, [(0, 44)]), (35, .aload_n 2, 1, 0, 0, 0, 0, []), (36, .iconst 0, 1, 0, 0, 0, 0, []), (37, .putfield 343, 3, 0, 2, 1, 0, [(0, 51)]), (40, .iconst 1, 1, 0, 0, 0, 0, []), (41, .ireturn, 1, 0, 0, 0, 0, [])]]
noncomputable def pm_164 : MR := (0, ⟨"OneAtATime", "drops", "(I)I"⟩, prog_1_method_47_code, 3, (some (.int)), pgA_164)
set_option maxRecDepth 100000 in
noncomputable def pgA_165 : List (List (Nat × EN)) := [[(0, .aload_n 0, 1, 0, 0, 0, 0, []), (1, .getfield 23, 3, 8, 2, 2, 0, [(0, 2)]), (4, .getfield 106, 3, 3, 3, 0, 0, [(0, 50)]), (7, .ifCond .ne 5, 3, 12, 0, 0, 0, []), (10, .iconst (-1), 1, 0, 0, 0, 0, []), (11, .ireturn, 1, 0, 0, 0, 0, []), (12, .aload_n 0, 1, 0, 0, 0, 0, []), (13, .getfield 23, 3, 8, 2, 2, 0, [(0, 2)]), (16, .invokevirtual 351, 3, 166, 1, 1, 3, [(0, 185)]), (19, .istore_n 1, 1, 0, 0, 0, 0, []), (20, .iload_n 1, 1, 0, 0, 0, 0, []), (21, .invokestatic 85, 3, 16, 1, 1, 0, [(0, 23)]), (24, .ifCond .eq 16, 3, 40, 0, 0, 0, []), (27, .aload_n 0, 1, 0, 0, 0, 0, []), (28, .getfield 23, 3, 8, 2, 2, 0, [(0, 2)]), (31, .aload_n 0, 1, 0, 0, 0, 0, [])],
  [(32, .getfield 11, 3, 8, 0, 2, 0, [(0, 0)]), (35, .iload_n 1, 1, 0, 0, 0, 0, []), (36, .aaload, 1, 23, 0, 0, 0, []), (37, .invokevirtual 354, 3, 168, 2, 0, 3, [(0, 186)]), (40, .aload_n 0, 1, 0, 0, 0, 0, [(0, 1)]), (41, .getfield 23, 3, 8, 2, 2, 0, [(0, 2)]), (44, .getfield 106, 3, 3, 3, 0, 0, [(0, 50)]), (47, .ireturn, 1, 0, 0, 0, 0, [])]]
noncomputable def pm_165 : MR := (0, ⟨"OneAtATime", "undo", "()I"⟩, prog_1_method_48_code, 2, (some (.int)), pgA_165)
set_option maxRecDepth 100000 in
noncomputable def pgA_166 : List (List (Nat × EN)) := [[(0, .aload_n 0, 1, 0, 0, 0, 0, []), (1, .getfield 18, 3, 3, 1, 2, 0, [(0, 13)]), (4, .aload_n 0, 1, 0, 0, 0, 0, []), (5, .invokevirtual 39, 3, 167, 1, 1, 3, [(0, 187)]), (8, .iaload, 1, 20, 0, 0, 0, []), (9, .ireturn, 1, 0, 0, 0, 0, [])]]
noncomputable def pm_166 : MR := (2, ⟨"OneAtATime$History", "latestSlot", "()I"⟩, prog_5_method_3_code, 1, (some (.int)), pgA_166)
set_option maxRecDepth 100000 in
noncomputable def pgA_167 : List (List (Nat × EN)) := [[(0, .aload_n 0, 1, 0, 0, 0, 0, []), (1, .getfield 22, 3, 3, 2, 0, 0, [(0, 14)]), (4, .ifCond .ne 8, 3, 12, 0, 0, 0, []), (7, .bipush 9, 2, 0, 0, 0, 0, []), (9, .goto 9, 3, 18, 0, 0, 0, []), (12, .aload_n 0, 1, 0, 0, 0, 0, []), (13, .getfield 22, 3, 3, 2, 0, 0, [(0, 14)]), (16, .iconst 1, 1, 0, 0, 0, 0, []), (17, .isub, 1, 0, 0, 0, 0, []), (18, .ireturn, 1, 0, 0, 0, 0, [(0, 0)])]]
noncomputable def pm_167 : MR := (2, ⟨"OneAtATime$History", "latest", "()I"⟩, prog_5_method_5_code, 1, (some (.int)), pgA_167)
set_option maxRecDepth 100000 in
noncomputable def pgA_168 : List (List (Nat × EN)) := [[(0, .aload_n 0, 1, 0, 0, 0, 0, []), (1, .getfield 26, 3, 3, 3, 0, 0, [(0, 15)]), (4, .ifCond .le 34, 3, 38, 0, 0, 0, []), (7, .aload_n 0, 1, 0, 0, 0, 0, []), (8, .aload_n 0, 1, 0, 0, 0, 0, []), (9, .invokevirtual 39, 3, 167, 1, 1, 3, [(0, 187)]), (12, .putfield 22, 3, 3, 2, 0, 0, [(0, 14)]), (15, .aload_n 0, 1, 0, 0, 0, 0, []), (16, .dup, 1, 0, 0, 0, 0, []), (17, .getfield 26, 3, 3, 3, 0, 0, [(0, 15)]), (20, .iconst 1, 1, 0, 0, 0, 0, []), (21, .isub, 1, 0, 0, 0, 0, []), (22, .putfield 26, 3, 3, 3, 0, 0, [(0, 15)]), (25, .aload_n 1, 1, 0, 0, 0, 0, []), (26, .aload_n 0, 1, 0, 0, 0, 0, []), (27, .getfield 11, 3, 3, 0, 2, 0, [(0, 12)]), (30, .aload_n 0, 1, 0, 0, 0, 0, []), (31, .getfield 22, 3, 3, 2, 0, 0, [(0, 14)])],
  [(34, .aaload, 1, 23, 0, 0, 0, []), (35, .invokevirtual 29, 3, 35, 2, 0, 0, [(0, 46)]), (38, .return_, 1, 0, 0, 0, 0, [(0, 0), (0, 1)])]]
noncomputable def pm_168 : MR := (2, ⟨"OneAtATime$History", "takeBack", "(LOneAtATime$BitList;)V"⟩, prog_5_method_4_code, 2, none, pgA_168)
set_option maxRecDepth 100000 in
noncomputable def pgA_169 : List (List (Nat × EN)) := [[(0, .aload_n 0, 1, 0, 0, 0, 0, []), (1, .iload_n 1, 1, 0, 0, 0, 0, []), (2, .invokevirtual 109, 3, 41, 2, 2, 8, [(0, 50)]), (5, .astore_n 3, 1, 0, 0, 0, 0, []), (6, .aload_n 3, 1, 0, 0, 0, 0, []), (7, .ifnull 10, 3, 17, 0, 0, 0, []), (10, .iload_n 2, 1, 0, 0, 0, 0, []), (11, .invokestatic 193, 3, 82, 1, 1, 0, [(0, 94)]), (14, .ifCond .ne 6, 3, 20, 0, 0, 0, []), (17, .bipush (-2), 2, 0, 0, 0, 0, [(0, 0), (0, 1), (0, 2), (0, 3)]), (19, .ireturn, 1, 0, 0, 0, 0, []), (20, .aload_n 0, 1, 0, 0, 0, 0, []), (21, .getfield 39, 3, 8, 4, 2, 0, [(0, 4)]), (24, .iconst 0, 1, 0, 0, 0, 0, []), (25, .putfield 81, 3, 1, 1, 0, 0, [(0, 37)]), (28, .iload_n 2, 1, 0, 0, 0, 0, []), (29, .ifCond .ne 14, 3, 43, 0, 0, 0, [])],
  [(32, .aload_n 0, 1, 0, 0, 0, 0, []), (33, .getfield 39, 3, 8, 4, 2, 0, [(0, 4)]), (36, .aload_n 3, 1, 0, 0, 0, 0, []), (37, .invokevirtual 357, 3, 170, 2, 0, 1, [(0, 188)]), (40, .goto 11, 3, 51, 0, 0, 0, []), (43, .aload_n 0, 1, 0, 0, 0, 0, []), (44, .getfield 39, 3, 8, 4, 2, 0, [(0, 4)]), (47, .aload_n 3, 1, 0, 0, 0, 0, []), (48, .invokevirtual 360, 3, 173, 2, 0, 1, [(0, 189)]), (51, .aload_n 0, 1, 0, 0, 0, 0, [(0, 1), (0, 2), (0, 3)]), (52, .getfield 39, 3, 8, 4, 2, 0, [(0, 4)]), (55, .getfield 81, 3, 1, 1, 0, 0, [(0, 37)]), (58, .ireturn, 1, 0, 0, 0, 0, [])]]
noncomputable def pm_169 : MR := (0, ⟨"OneAtATime", "tell", "(II)I"⟩, prog_1_method_49_code, 4, (some (.int)), pgA_169)
set_option maxRecDepth 100000 in
noncomputable def pgA_170 : List (List (Nat × EN)) := [[(0, .aload_n 0, 1, 0, 0, 0, 0, []), (1, .ldc 38, 2, 8, 2, 0, 0, [(2, 4)]), (3, .invokevirtual 40, 3, 171, 2, 0, 1, [(0, 190)]), (6, .aload_n 0, 1, 0, 0, 0, 0, []), (7, .aload_n 1, 1, 0, 0, 0, 0, []), (8, .getfield 44, 3, 0, 3, 0, 0, [(0, 75)]), (11, .invokevirtual 49, 3, 172, 2, 0, 1, [(0, 191)]), (14, .aload_n 0, 1, 0, 0, 0, 0, []), (15, .ldc 52, 2, 2, 2, 0, 0, [(2, 5)]), (17, .invokevirtual 40, 3, 171, 2, 0, 1, [(0, 190)]), (20, .aload_n 0, 1, 0, 0, 0, 0, []), (21, .aload_n 1, 1, 0, 0, 0, 0, []), (22, .getfield 54, 3, 0, 4, 0, 0, [(0, 76)]), (25, .invokevirtual 49, 3, 172, 2, 0, 1, [(0, 191)]), (28, .aload_n 0, 1, 0, 0, 0, 0, []), (29, .ldc 57, 2, 4, 2, 0, 0, [(2, 6)]), (31, .invokevirtual 40, 3, 171, 2, 0, 1, [(0, 190)])],
  [(34, .aload_n 0, 1, 0, 0, 0, 0, []), (35, .aload_n 1, 1, 0, 0, 0, 0, []), (36, .getfield 59, 3, 0, 5, 0, 0, [(0, 77)]), (39, .invokevirtual 49, 3, 172, 2, 0, 1, [(0, 191)]), (42, .aload_n 0, 1, 0, 0, 0, 0, []), (43, .ldc 62, 2, 3, 2, 0, 0, [(2, 7)]), (45, .invokevirtual 40, 3, 171, 2, 0, 1, [(0, 190)]), (48, .aload_n 0, 1, 0, 0, 0, 0, []), (49, .aload_n 1, 1, 0, 0, 0, 0, []), (50, .getfield 64, 3, 0, 1, 2, 0, [(0, 78)]), (53, .iconst 0, 1, 0, 0, 0, 0, []), (54, .iaload, 1, 20, 0, 0, 0, []), (55, .invokevirtual 49, 3, 172, 2, 0, 1, [(0, 191)]), (58, .aload_n 0, 1, 0, 0, 0, 0, []), (59, .bipush 58, 2, 0, 0, 0, 0, []), (61, .invokevirtual 25, 3, 13, 2, 0, 1, [(0, 22)])],
  [(64, .iconst 0, 1, 0, 0, 0, 0, []), (65, .istore_n 2, 1, 0, 0, 0, 0, []), (66, .iload_n 2, 1, 0, 0, 0, 0, []), (67, .aload_n 1, 1, 0, 0, 0, 0, []), (68, .getfield 68, 3, 0, 6, 0, 0, [(0, 79)]), (71, .if_icmp .ge 22, 3, 93, 0, 0, 0, []), (74, .aload_n 0, 1, 0, 0, 0, 0, []), (75, .bipush 48, 2, 0, 0, 0, 0, []), (77, .aload_n 1, 1, 0, 0, 0, 0, []), (78, .getfield 71, 3, 0, 0, 2, 0, [(0, 80)]), (81, .iload_n 2, 1, 0, 0, 0, 0, []), (82, .iaload, 1, 20, 0, 0, 0, []), (83, .iadd, 1, 0, 0, 0, 0, []), (84, .invokevirtual 25, 3, 13, 2, 0, 1, [(0, 22)]), (87, .iinc 2 1, 3, 0, 0, 0, 0, []), (90, .goto (-24), 3, 66, 0, 0, 0, []), (93, .aload_n 0, 1, 0, 0, 0, 0, []), (94, .bipush 59, 2, 0, 0, 0, 0, [])],
  [(96, .invokevirtual 25, 3, 13, 2, 0, 1, [(0, 22)]), (99, .return_, 1, 0, 0, 0, 0, [])]]
noncomputable def pm_170 : MR := (4, ⟨"OneAtATime$Bytes", "putText", "(LOneAtATime$BitList;)V"⟩, prog_3_method_8_code, 3, none, pgA_170)
set_option maxRecDepth 100000 in
noncomputable def pgA_171 : List (List (Nat × EN)) := [[(0, .iconst 0, 1, 0, 0, 0, 0, []), (1, .istore_n 2, 1, 0, 0, 0, 0, []), (2, .iload_n 2, 1, 0, 0, 0, 0, []), (3, .aload_n 1, 1, 0, 0, 0, 0, []), (4, .invokevirtual 29, 3, 1000, 1, 1, 30, [(0, 192)]), (7, .if_icmp .ge 18, 3, 25, 0, 0, 0, []), (10, .aload_n 0, 1, 0, 0, 0, 0, []), (11, .aload_n 1, 1, 0, 0, 0, 0, []), (12, .iload_n 2, 1, 0, 0, 0, 0, []), (13, .invokevirtual 34, 3, 1001, 2, 1, 30, [(0, 193)]), (16, .invokevirtual 25, 3, 13, 2, 0, 1, [(0, 22)]), (19, .iinc 2 1, 3, 0, 0, 0, 0, []), (22, .goto (-20), 3, 2, 0, 0, 0, []), (25, .return_, 1, 0, 0, 0, 0, [])]]
noncomputable def pm_171 : MR := (4, ⟨"OneAtATime$Bytes", "putSigns", "(Ljava/lang/String;)V"⟩, prog_3_method_6_code, 3, none, pgA_171)
set_option maxRecDepth 100000 in
noncomputable def pgA_172 : List (List (Nat × EN)) := [[(0, .iload_n 1, 1, 0, 0, 0, 0, []), (1, .bipush 100, 2, 0, 0, 0, 0, []), (3, .if_icmp .lt 17, 3, 20, 0, 0, 0, []), (6, .aload_n 0, 1, 0, 0, 0, 0, []), (7, .bipush 48, 2, 0, 0, 0, 0, []), (9, .iload_n 1, 1, 0, 0, 0, 0, []), (10, .bipush 100, 2, 0, 0, 0, 0, []), (12, .idiv, 1, 0, 0, 0, 0, []), (13, .bipush 10, 2, 0, 0, 0, 0, []), (15, .irem, 1, 0, 0, 0, 0, []), (16, .iadd, 1, 0, 0, 0, 0, []), (17, .invokevirtual 25, 3, 13, 2, 0, 1, [(0, 22)]), (20, .iload_n 1, 1, 0, 0, 0, 0, []), (21, .bipush 10, 2, 0, 0, 0, 0, []), (23, .if_icmp .lt 17, 3, 40, 0, 0, 0, []), (26, .aload_n 0, 1, 0, 0, 0, 0, []), (27, .bipush 48, 2, 0, 0, 0, 0, []), (29, .iload_n 1, 1, 0, 0, 0, 0, []), (30, .bipush 10, 2, 0, 0, 0, 0, [])],
  [(32, .idiv, 1, 0, 0, 0, 0, []), (33, .bipush 10, 2, 0, 0, 0, 0, []), (35, .irem, 1, 0, 0, 0, 0, []), (36, .iadd, 1, 0, 0, 0, 0, []), (37, .invokevirtual 25, 3, 13, 2, 0, 1, [(0, 22)]), (40, .aload_n 0, 1, 0, 0, 0, 0, []), (41, .bipush 48, 2, 0, 0, 0, 0, []), (43, .iload_n 1, 1, 0, 0, 0, 0, []), (44, .bipush 10, 2, 0, 0, 0, 0, []), (46, .irem, 1, 0, 0, 0, 0, []), (47, .iadd, 1, 0, 0, 0, 0, []), (48, .invokevirtual 25, 3, 13, 2, 0, 1, [(0, 22)]), (51, .return_, 1, 0, 0, 0, 0, [])]]
noncomputable def pm_172 : MR := (4, ⟨"OneAtATime$Bytes", "putNumber", "(I)V"⟩, prog_3_method_7_code, 2, none, pgA_172)
set_option maxRecDepth 100000 in
noncomputable def pgA_173 : List (List (Nat × EN)) := [[(0, .aload_n 1, 1, 0, 0, 0, 0, []), (1, .invokevirtual 74, 3, 42, 1, 1, 0, [(0, 194)]), (4, .istore_n 2, 1, 0, 0, 0, 0, []), (5, .iconst 0, 1, 0, 0, 0, 0, []), (6, .istore_n 3, 1, 0, 0, 0, 0, []), (7, .iload_n 3, 1, 0, 0, 0, 0, [(0, 4)]), (8, .iload_n 2, 1, 0, 0, 0, 0, []), (9, .if_icmp .ge 48, 3, 57, 0, 0, 0, []), (12, .aload_n 1, 1, 0, 0, 0, 0, []), (13, .getfield 44, 3, 0, 3, 0, 0, [(0, 75)]), (16, .iconst 1, 1, 0, 0, 0, 0, []), (17, .isub, 1, 0, 0, 0, 0, []), (18, .istore 4, 2, 0, 0, 0, 0, []), (20, .iload 4, 2, 0, 0, 0, 0, []), (22, .ifCond .lt 23, 3, 45, 0, 0, 0, []), (25, .aload_n 0, 1, 0, 0, 0, 0, []), (26, .bipush 48, 2, 0, 0, 0, 0, []), (28, .aload_n 1, 1, 0, 0, 0, 0, []), (29, .iload_n 3, 1, 0, 0, 0, 0, []), (30, .iload 4, 2, 0, 0, 0, 0, [])],
  [(32, .invokevirtual 77, 3, 64, 3, 1, 0, [(0, 195)]), (35, .iadd, 1, 0, 0, 0, 0, []), (36, .invokevirtual 25, 3, 13, 2, 0, 1, [(0, 22)]), (39, .iinc 4 (-1), 3, 0, 0, 0, 0, []), (42, .goto (-22), 3, 20, 0, 0, 0, []), (45, .aload_n 0, 1, 0, 0, 0, 0, []), (46, .bipush 10, 2, 0, 0, 0, 0, []), (48, .invokevirtual 25, 3, 13, 2, 0, 1, [(0, 22)]), (51, .iinc 3 1, 3, 0, 0, 0, 0, []), (54, .goto (-47), 3, 7, 0, 0, 0, []), (57, .return_, 1, 0, 0, 0, 0, [])]]
noncomputable def pm_173 : MR := (4, ⟨"OneAtATime$Bytes", "putWords", "(LOneAtATime$BitList;)V"⟩, prog_3_method_9_code, 5, none, pgA_173)
set_option maxRecDepth 100000 in
noncomputable def pgA_174 : List (List (Nat × EN)) := [[(0, .iload_n 1, 1, 0, 0, 0, 0, []), (1, .ifCond .lt 14, 3, 15, 0, 0, 0, []), (4, .iload_n 1, 1, 0, 0, 0, 0, []), (5, .aload_n 0, 1, 0, 0, 0, 0, []), (6, .getfield 39, 3, 8, 4, 2, 0, [(0, 4)]), (9, .getfield 81, 3, 1, 1, 0, 0, [(0, 37)]), (12, .if_icmp .lt 7, 3, 19, 0, 0, 0, []), (15, .iconst (-1), 1, 0, 0, 0, 0, [(0, 0), (0, 1)]), (16, .goto 11, 3, 27, 0, 0, 0, []), (19, .aload_n 0, 1, 0, 0, 0, 0, []), (20, .getfield 39, 3, 8, 4, 2, 0, [(0, 4)]), (23, .iload_n 1, 1, 0, 0, 0, 0, []), (24, .invokevirtual 363, 3, 19, 2, 1, 1, [(0, 196)]), (27, .ireturn, 1, 0, 0, 0, 0, [(0, 0), (0, 1)])]]
noncomputable def pm_174 : MR := (0, ⟨"OneAtATime", "octet", "(I)I"⟩, prog_1_method_50_code, 2, (some (.int)), pgA_174)
set_option maxRecDepth 100000 in
noncomputable def pgA_175 : List (List (Nat × EN)) := [[(0, .aload_n 0, 1, 0, 0, 0, 0, []), (1, .invokespecial 7, 3, 1003, 1, 0, 0, [(0, 197)]), (4, .aload_n 0, 1, 0, 0, 0, 0, []), (5, .sipush 783, 3, 0, 0, 0, 0, []), (8, .newarray .int, 2, 20, 0, 0, 0, []), (10, .putfield 13, 3, 9, 0, 2, 0, [(0, 81)]), (13, .aload_n 0, 1, 0, 0, 0, 0, []), (14, .sipush 783, 3, 0, 0, 0, 0, []), (17, .newarray .int, 2, 20, 0, 0, 0, []), (19, .putfield 17, 3, 9, 1, 2, 0, [(0, 82)]), (22, .aload_n 0, 1, 0, 0, 0, 0, []), (23, .sipush 7830, 3, 0, 0, 0, 0, []), (26, .newarray .int, 2, 20, 0, 0, 0, []), (28, .putfield 20, 3, 9, 2, 2, 0, [(0, 83)]), (31, .aload_n 0, 1, 0, 0, 0, 0, [])],
  [(32, .sipush 600, 3, 0, 0, 0, 0, []), (35, .newarray .int, 2, 20, 0, 0, 0, []), (37, .putfield 23, 3, 9, 4, 2, 0, [(0, 84)]), (40, .aload_n 0, 1, 0, 0, 0, 0, []), (41, .sipush 400, 3, 0, 0, 0, 0, []), (44, .newarray .int, 2, 20, 0, 0, 0, []), (46, .putfield 26, 3, 9, 6, 2, 0, [(0, 85)]), (49, .aload_n 0, 1, 0, 0, 0, 0, []), (50, .iconst (-1), 1, 0, 0, 0, 0, []), (51, .putfield 29, 3, 9, 9, 0, 0, [(0, 86)]), (54, .aload_n 0, 1, 0, 0, 0, 0, []), (55, .sipush 257, 3, 0, 0, 0, 0, []), (58, .newarray .int, 2, 20, 0, 0, 0, []), (60, .putfield 33, 3, 9, 15, 2, 0, [(0, 87)]), (63, .aload_n 0, 1, 0, 0, 0, 0, [])],
  [(64, .sipush 256, 3, 0, 0, 0, 0, []), (67, .newarray .int, 2, 20, 0, 0, 0, []), (69, .putfield 36, 3, 9, 16, 2, 0, [(0, 88)]), (72, .aload_n 0, 1, 0, 0, 0, 0, []), (73, .sipush 256, 3, 0, 0, 0, 0, []), (76, .newarray .boolean, 2, 22, 0, 0, 0, []), (78, .putfield 39, 3, 9, 19, 2, 0, [(0, 89)]), (81, .aload_n 0, 1, 0, 0, 0, 0, []), (82, .sipush 257, 3, 0, 0, 0, 0, []), (85, .newarray .int, 2, 20, 0, 0, 0, []), (87, .putfield 43, 3, 9, 20, 2, 0, [(0, 90)]), (90, .aload_n 0, 1, 0, 0, 0, 0, []), (91, .sipush 256, 3, 0, 0, 0, 0, []), (94, .newarray .int, 2, 20, 0, 0, 0, [])],
  [(96, .putfield 46, 3, 9, 24, 2, 0, [(0, 91)]), (99, .aload_n 0, 1, 0, 0, 0, 0, []), (100, .bipush 8, 2, 0, 0, 0, 0, []), (102, .newarray .int, 2, 20, 0, 0, 0, []), (104, .putfield 49, 3, 9, 25, 2, 0, [(0, 92)]), (107, .aload_n 0, 1, 0, 0, 0, 0, []), (108, .bipush 8, 2, 0, 0, 0, 0, []), (110, .newarray .int, 2, 20, 0, 0, 0, []), (112, .putfield 52, 3, 9, 26, 2, 0, [(0, 93)]), (115, .aload_n 0, 1, 0, 0, 0, 0, []), (116, .sipush 2400, 3, 0, 0, 0, 0, []), (119, .newarray .int, 2, 20, 0, 0, 0, []), (121, .putfield 55, 3, 9, 27, 2, 0, [(0, 94)]), (124, .return_, 1, 0, 0, 0, 0, [])]]
noncomputable def pm_175 : MR := (14, ⟨"OneAtATimeModel", "<init>", "()V"⟩, prog_12_method_5_code, 1, none, pgA_175)
set_option maxRecDepth 100000 in
noncomputable def pgA_176 : List (List (Nat × EN)) := [[(0, .aload_n 0, 1, 0, 0, 0, 0, []), (1, .getfield 82, 3, 9, 3, 0, 0, [(0, 95)]), (4, .ifCond .ne 5, 3, 9, 0, 0, 0, []), (7, .iconst (-1), 1, 0, 0, 0, 0, []), (8, .ireturn, 1, 0, 0, 0, 0, []), (9, .aload_n 0, 1, 0, 0, 0, 0, []), (10, .dup, 1, 0, 0, 0, 0, []), (11, .getfield 82, 3, 9, 3, 0, 0, [(0, 95)]), (14, .iconst 1, 1, 0, 0, 0, 0, []), (15, .isub, 1, 0, 0, 0, 0, []), (16, .putfield 82, 3, 9, 3, 0, 0, [(0, 95)]), (19, .iconst 0, 1, 0, 0, 0, 0, []), (20, .istore_n 1, 1, 0, 0, 0, 0, []), (21, .iload_n 1, 1, 0, 0, 0, 0, []), (22, .sipush 783, 3, 0, 0, 0, 0, []), (25, .if_icmp .ge 30, 3, 55, 0, 0, 0, []), (28, .aload_n 0, 1, 0, 0, 0, 0, []), (29, .getfield 13, 3, 9, 0, 2, 0, [(0, 81)])],
  [(32, .iload_n 1, 1, 0, 0, 0, 0, []), (33, .aload_n 0, 1, 0, 0, 0, 0, []), (34, .getfield 20, 3, 9, 2, 2, 0, [(0, 83)]), (37, .sipush 783, 3, 0, 0, 0, 0, []), (40, .aload_n 0, 1, 0, 0, 0, 0, []), (41, .getfield 82, 3, 9, 3, 0, 0, [(0, 95)]), (44, .imul, 1, 0, 0, 0, 0, []), (45, .iload_n 1, 1, 0, 0, 0, 0, []), (46, .iadd, 1, 0, 0, 0, 0, []), (47, .iaload, 1, 20, 0, 0, 0, []), (48, .iastore, 1, 20, 0, 0, 0, []), (49, .iinc 1 1, 3, 0, 0, 0, 0, []), (52, .goto (-31), 3, 21, 0, 0, 0, []), (55, .aload_n 0, 1, 0, 0, 0, 0, []), (56, .getfield 82, 3, 9, 3, 0, 0, [(0, 95)]), (59, .ireturn, 1, 0, 0, 0, 0, [])]]
noncomputable def pm_176 : MR := (14, ⟨"OneAtATimeModel", "undo", "()I"⟩, prog_12_method_18_code, 2, (some (.int)), pgA_176)
set_option maxRecDepth 100000 in
noncomputable def pgA_177 : List (List (Nat × EN)) := [[(0, .iload_n 1, 1, 0, 0, 0, 0, []), (1, .invokestatic 64, 3, 178, 1, 1, 0, [(0, 198)]), (4, .ifCond .ne 6, 3, 10, 0, 0, 0, []), (7, .bipush (-2), 2, 0, 0, 0, 0, []), (9, .ireturn, 1, 0, 0, 0, 0, []), (10, .aload_n 0, 1, 0, 0, 0, 0, []), (11, .iload_n 1, 1, 0, 0, 0, 0, []), (12, .invokevirtual 72, 3, 180, 2, 1, 9, [(0, 199)]), (15, .ifCond .ne 5, 3, 20, 0, 0, 0, []), (18, .iconst 0, 1, 0, 0, 0, 0, []), (19, .ireturn, 1, 0, 0, 0, 0, []), (20, .aload_n 0, 1, 0, 0, 0, 0, []), (21, .iconst 0, 1, 0, 0, 0, 0, []), (22, .putfield 88, 3, 9, 5, 0, 0, [(0, 96)]), (25, .aload_n 0, 1, 0, 0, 0, 0, []), (26, .iload_n 1, 1, 0, 0, 0, 0, []), (27, .iconst 0, 1, 0, 0, 0, 0, []), (28, .iconst 0, 1, 0, 0, 0, 0, []), (29, .iconst 0, 1, 0, 0, 0, 0, []), (30, .iconst 0, 1, 0, 0, 0, 0, []), (31, .invokevirtual 94, 3, 182, 6, 0, 9, [(0, 200)])],
  [(34, .aload_n 0, 1, 0, 0, 0, 0, []), (35, .iconst 1, 1, 0, 0, 0, 0, []), (36, .invokevirtual 85, 3, 184, 2, 1, 9, [(0, 201)]), (39, .ireturn, 1, 0, 0, 0, 0, [])]]
noncomputable def pm_177 : MR := (14, ⟨"OneAtATimeModel", "drops", "(I)I"⟩, prog_12_method_23_code, 2, (some (.int)), pgA_177)
set_option maxRecDepth 100000 in
noncomputable def pgA_178 : List (List (Nat × EN)) := [[(0, .iload_n 0, 1, 0, 0, 0, 0, []), (1, .i2l, 1, 0, 0, 0, 0, []), (2, .lconst 0, 1, 0, 0, 0, 0, []), (3, .ldc2_w 58, 3, 2, 0, 0, 0, [(0, 6)]), (6, .invokestatic 60, 3, 179, 3, 1, 0, [(0, 202)]), (9, .ireturn, 1, 1, 0, 0, 0, [])]]
noncomputable def pm_178 : MR := (14, ⟨"OneAtATimeModel", "isSlot", "(I)Z"⟩, prog_12_method_6_code, 1, (some (.boolean)), pgA_178)
set_option maxRecDepth 100000 in
noncomputable def pgA_179 : List (List (Nat × EN)) := [[(0, .lload_n 0, 1, 0, 0, 0, 0, []), (1, .lload_n 2, 1, 0, 0, 0, 0, []), (2, .lcmp, 1, 0, 0, 0, 0, []), (3, .ifCond .lt 14, 3, 17, 0, 0, 0, []), (6, .lload_n 0, 1, 0, 0, 0, 0, []), (7, .lload 4, 2, 0, 0, 0, 0, []), (9, .lcmp, 1, 0, 0, 0, 0, []), (10, .ifCond .gt 7, 3, 17, 0, 0, 0, []), (13, .iconst 1, 1, 0, 0, 0, 0, []), (14, .goto 4, 3, 18, 0, 0, 0, []), (17, .iconst 0, 1, 0, 0, 0, 0, [(0, 0), (0, 1), (0, 2), (0, 3), (0, 4), (0, 5)]), (18, .ireturn, 1, 1, 0, 0, 0, [(0, 0), (0, 1), (0, 2), (0, 3), (0, 4), (0, 5)])]]
noncomputable def pm_179 : MR := (14, ⟨"OneAtATimeModel", "in", "(JJJ)Z"⟩, prog_12_method_1_code, 6, (some (.boolean)), pgA_179)
set_option maxRecDepth 100000 in
noncomputable def pgA_180 : List (List (Nat × EN)) := [[(0, .iload_n 1, 1, 0, 0, 0, 0, []), (1, .invokestatic 64, 3, 178, 1, 1, 0, [(0, 198)]), (4, .ifCond .eq 16, 3, 20, 0, 0, 0, []), (7, .aload_n 0, 1, 0, 0, 0, 0, []), (8, .iload_n 1, 1, 0, 0, 0, 0, []), (9, .iconst 0, 1, 0, 0, 0, 0, []), (10, .invokevirtual 68, 3, 181, 3, 1, 9, [(0, 203)]), (13, .ifCond .le 7, 3, 20, 0, 0, 0, []), (16, .iconst 1, 1, 0, 0, 0, 0, []), (17, .goto 4, 3, 21, 0, 0, 0, []), (20, .iconst 0, 1, 0, 0, 0, 0, [(0, 0), (0, 1)]), (21, .ireturn, 1, 1, 0, 0, 0, [(0, 0), (0, 1)])]]
noncomputable def pm_180 : MR := (14, ⟨"OneAtATimeModel", "isList", "(I)Z"⟩, prog_12_method_8_code, 2, (some (.boolean)), pgA_180)
set_option maxRecDepth 100000 in
noncomputable def pgA_181 : List (List (Nat × EN)) := [[(0, .aload_n 0, 1, 0, 0, 0, 0, []), (1, .getfield 13, 3, 9, 0, 2, 0, [(0, 81)]), (4, .sipush 261, 3, 0, 0, 0, 0, []), (7, .iload_n 1, 1, 0, 0, 0, 0, []), (8, .imul, 1, 0, 0, 0, 0, []), (9, .iload_n 2, 1, 0, 0, 0, 0, []), (10, .iadd, 1, 0, 0, 0, 0, []), (11, .iaload, 1, 20, 0, 0, 0, []), (12, .ireturn, 1, 0, 0, 0, 0, [])]]
noncomputable def pm_181 : MR := (14, ⟨"OneAtATimeModel", "of", "(II)I"⟩, prog_12_method_7_code, 3, (some (.int)), pgA_181)
set_option maxRecDepth 100000 in
noncomputable def pgA_182 : List (List (Nat × EN)) := [[(0, .aload_n 0, 1, 0, 0, 0, 0, []), (1, .invokevirtual 91, 3, 183, 1, 0, 9, [(0, 204)]), (4, .aload_n 0, 1, 0, 0, 0, 0, []), (5, .getfield 13, 3, 9, 0, 2, 0, [(0, 81)]), (8, .sipush 261, 3, 0, 0, 0, 0, []), (11, .iload_n 1, 1, 0, 0, 0, 0, []), (12, .imul, 1, 0, 0, 0, 0, []), (13, .iconst 0, 1, 0, 0, 0, 0, []), (14, .iadd, 1, 0, 0, 0, 0, []), (15, .iload_n 2, 1, 0, 0, 0, 0, []), (16, .iastore, 1, 20, 0, 0, 0, []), (17, .aload_n 0, 1, 0, 0, 0, 0, []), (18, .getfield 13, 3, 9, 0, 2, 0, [(0, 81)]), (21, .sipush 261, 3, 0, 0, 0, 0, []), (24, .iload_n 1, 1, 0, 0, 0, 0, []), (25, .imul, 1, 0, 0, 0, 0, []), (26, .iconst 1, 1, 0, 0, 0, 0, []), (27, .iadd, 1, 0, 0, 0, 0, []), (28, .iload_n 3, 1, 0, 0, 0, 0, []), (29, .iastore, 1, 20, 0, 0, 0, []), (30, .aload_n 0, 1, 0, 0, 0, 0, []), (31, .getfield 13, 3, 9, 0, 2, 0, [(0, 81)])],
  [(34, .sipush 261, 3, 0, 0, 0, 0, []), (37, .iload_n 1, 1, 0, 0, 0, 0, []), (38, .imul, 1, 0, 0, 0, 0, []), (39, .iconst 2, 1, 0, 0, 0, 0, []), (40, .iadd, 1, 0, 0, 0, 0, []), (41, .iload 4, 2, 0, 0, 0, 0, []), (43, .iastore, 1, 20, 0, 0, 0, []), (44, .aload_n 0, 1, 0, 0, 0, 0, []), (45, .getfield 13, 3, 9, 0, 2, 0, [(0, 81)]), (48, .sipush 261, 3, 0, 0, 0, 0, []), (51, .iload_n 1, 1, 0, 0, 0, 0, []), (52, .imul, 1, 0, 0, 0, 0, []), (53, .iconst 3, 1, 0, 0, 0, 0, []), (54, .iadd, 1, 0, 0, 0, 0, []), (55, .iload 5, 2, 0, 0, 0, 0, []), (57, .iastore, 1, 20, 0, 0, 0, []), (58, .aload_n 0, 1, 0, 0, 0, 0, []), (59, .getfield 13, 3, 9, 0, 2, 0, [(0, 81)]), (62, .sipush 261, 3, 0, 0, 0, 0, [])],
  [(65, .iload_n 1, 1, 0, 0, 0, 0, []), (66, .imul, 1, 0, 0, 0, 0, []), (67, .iconst 4, 1, 0, 0, 0, 0, []), (68, .iadd, 1, 0, 0, 0, 0, []), (69, .aload_n 0, 1, 0, 0, 0, 0, []), (70, .getfield 88, 3, 9, 5, 0, 0, [(0, 96)]), (73, .iastore, 1, 20, 0, 0, 0, []), (74, .iconst 0, 1, 0, 0, 0, 0, []), (75, .istore 6, 2, 0, 0, 0, 0, []), (77, .iload 6, 2, 0, 0, 0, 0, [(0, 2), (0, 3), (0, 4), (0, 5)]), (79, .sipush 256, 3, 0, 0, 0, 0, []), (82, .if_icmp .ge 44, 3, 126, 0, 0, 0, []), (85, .aload_n 0, 1, 0, 0, 0, 0, []), (86, .getfield 13, 3, 9, 0, 2, 0, [(0, 81)]), (89, .sipush 261, 3, 0, 0, 0, 0, []), (92, .iload_n 1, 1, 0, 0, 0, 0, []), (93, .imul, 1, 0, 0, 0, 0, []), (94, .iconst 5, 1, 0, 0, 0, 0, []), (95, .iadd, 1, 0, 0, 0, 0, [])],
  [(96, .iload 6, 2, 0, 0, 0, 0, []), (98, .iadd, 1, 0, 0, 0, 0, []), (99, .iload 6, 2, 0, 0, 0, 0, []), (101, .aload_n 0, 1, 0, 0, 0, 0, []), (102, .getfield 88, 3, 9, 5, 0, 0, [(0, 96)]), (105, .if_icmp .ge 13, 3, 118, 0, 0, 0, []), (108, .aload_n 0, 1, 0, 0, 0, 0, []), (109, .getfield 23, 3, 9, 4, 2, 0, [(0, 84)]), (112, .iload 6, 2, 0, 0, 0, 0, []), (114, .iaload, 1, 20, 0, 0, 0, []), (115, .goto 4, 3, 119, 0, 0, 0, []), (118, .iconst 0, 1, 0, 0, 0, 0, []), (119, .iastore, 1, 20, 0, 0, 0, [(0, 2), (0, 3), (0, 4), (0, 5)]), (120, .iinc 6 1, 3, 0, 0, 0, 0, []), (123, .goto (-46), 3, 77, 0, 0, 0, []), (126, .return_, 1, 0, 0, 0, 0, [])]]
noncomputable def pm_182 : MR := (14, ⟨"OneAtATimeModel", "lays", "(IIIII)V"⟩, prog_12_method_20_code, 7, none, pgA_182)
set_option maxRecDepth 100000 in
noncomputable def pgA_183 : List (List (Nat × EN)) := [[(0, .iconst 0, 1, 0, 0, 0, 0, []), (1, .istore_n 1, 1, 0, 0, 0, 0, []), (2, .iload_n 1, 1, 0, 0, 0, 0, []), (3, .sipush 783, 3, 0, 0, 0, 0, []), (6, .if_icmp .ge 21, 3, 27, 0, 0, 0, []), (9, .aload_n 0, 1, 0, 0, 0, 0, []), (10, .getfield 17, 3, 9, 1, 2, 0, [(0, 82)]), (13, .iload_n 1, 1, 0, 0, 0, 0, []), (14, .aload_n 0, 1, 0, 0, 0, 0, []), (15, .getfield 13, 3, 9, 0, 2, 0, [(0, 81)]), (18, .iload_n 1, 1, 0, 0, 0, 0, []), (19, .iaload, 1, 20, 0, 0, 0, []), (20, .iastore, 1, 20, 0, 0, 0, []), (21, .iinc 1 1, 3, 0, 0, 0, 0, []), (24, .goto (-22), 3, 2, 0, 0, 0, []), (27, .return_, 1, 0, 0, 0, 0, [])]]
noncomputable def pm_183 : MR := (14, ⟨"OneAtATimeModel", "remembers", "()V"⟩, prog_12_method_15_code, 2, none, pgA_183)
set_option maxRecDepth 100000 in
noncomputable def pgA_184 : List (List (Nat × EN)) := [[(0, .aload_n 0, 1, 0, 0, 0, 0, []), (1, .getfield 82, 3, 9, 3, 0, 0, [(0, 95)]), (4, .bipush 10, 2, 0, 0, 0, 0, []), (6, .if_icmp .ne 44, 3, 50, 0, 0, 0, []), (9, .iconst 0, 1, 0, 0, 0, 0, []), (10, .istore_n 2, 1, 0, 0, 0, 0, []), (11, .iload_n 2, 1, 0, 0, 0, 0, []), (12, .sipush 7047, 3, 0, 0, 0, 0, []), (15, .if_icmp .ge 25, 3, 40, 0, 0, 0, []), (18, .aload_n 0, 1, 0, 0, 0, 0, []), (19, .getfield 20, 3, 9, 2, 2, 0, [(0, 83)]), (22, .iload_n 2, 1, 0, 0, 0, 0, []), (23, .aload_n 0, 1, 0, 0, 0, 0, []), (24, .getfield 20, 3, 9, 2, 2, 0, [(0, 83)]), (27, .iload_n 2, 1, 0, 0, 0, 0, []), (28, .sipush 783, 3, 0, 0, 0, 0, []), (31, .iadd, 1, 0, 0, 0, 0, [])],
  [(32, .iaload, 1, 20, 0, 0, 0, []), (33, .iastore, 1, 20, 0, 0, 0, []), (34, .iinc 2 1, 3, 0, 0, 0, 0, []), (37, .goto (-26), 3, 11, 0, 0, 0, []), (40, .aload_n 0, 1, 0, 0, 0, 0, []), (41, .dup, 1, 0, 0, 0, 0, []), (42, .getfield 82, 3, 9, 3, 0, 0, [(0, 95)]), (45, .iconst 1, 1, 0, 0, 0, 0, []), (46, .isub, 1, 0, 0, 0, 0, []), (47, .putfield 82, 3, 9, 3, 0, 0, [(0, 95)]), (50, .iconst 0, 1, 0, 0, 0, 0, [(0, 2)]), (51, .istore_n 2, 1, 0, 0, 0, 0, []), (52, .iload_n 2, 1, 0, 0, 0, 0, []), (53, .sipush 783, 3, 0, 0, 0, 0, []), (56, .if_icmp .ge 30, 3, 86, 0, 0, 0, []), (59, .aload_n 0, 1, 0, 0, 0, 0, []), (60, .getfield 20, 3, 9, 2, 2, 0, [(0, 83)]), (63, .sipush 783, 3, 0, 0, 0, 0, [])],
  [(66, .aload_n 0, 1, 0, 0, 0, 0, []), (67, .getfield 82, 3, 9, 3, 0, 0, [(0, 95)]), (70, .imul, 1, 0, 0, 0, 0, []), (71, .iload_n 2, 1, 0, 0, 0, 0, []), (72, .iadd, 1, 0, 0, 0, 0, []), (73, .aload_n 0, 1, 0, 0, 0, 0, []), (74, .getfield 17, 3, 9, 1, 2, 0, [(0, 82)]), (77, .iload_n 2, 1, 0, 0, 0, 0, []), (78, .iaload, 1, 20, 0, 0, 0, []), (79, .iastore, 1, 20, 0, 0, 0, []), (80, .iinc 2 1, 3, 0, 0, 0, 0, []), (83, .goto (-31), 3, 52, 0, 0, 0, []), (86, .aload_n 0, 1, 0, 0, 0, 0, []), (87, .dup, 1, 0, 0, 0, 0, []), (88, .getfield 82, 3, 9, 3, 0, 0, [(0, 95)]), (91, .iconst 1, 1, 0, 0, 0, 0, []), (92, .iadd, 1, 0, 0, 0, 0, []), (93, .putfield 82, 3, 9, 3, 0, 0, [(0, 95)])],
  [(96, .iload_n 1, 1, 0, 0, 0, 0, []), (97, .ireturn, 1, 0, 0, 0, 0, [])]]
noncomputable def pm_184 : MR := (14, ⟨"OneAtATimeModel", "keeps", "(I)I"⟩, prog_12_method_16_code, 3, (some (.int)), pgA_184)
set_option maxRecDepth 100000 in
noncomputable def pgA_185 : List (List (Nat × EN)) := [[(0, .aload_n 0, 1, 0, 0, 0, 0, []), (1, .getfield 111, 3, 9, 7, 0, 0, [(0, 97)]), (4, .sipush 380, 3, 0, 0, 0, 0, []), (7, .if_icmp .le 5, 3, 12, 0, 0, 0, []), (10, .iconst (-1), 1, 0, 0, 0, 0, []), (11, .ireturn, 1, 0, 0, 0, 0, []), (12, .iconst 5, 1, 0, 0, 0, 0, []), (13, .newarray .int, 2, 20, 0, 0, 0, []), (15, .dup, 1, 0, 0, 0, 0, []), (16, .iconst 0, 1, 0, 0, 0, 0, []), (17, .iload_n 1, 1, 0, 0, 0, 0, []), (18, .iastore, 1, 20, 0, 0, 0, []), (19, .dup, 1, 0, 0, 0, 0, []), (20, .iconst 1, 1, 0, 0, 0, 0, []), (21, .iload_n 2, 1, 0, 0, 0, 0, []), (22, .iastore, 1, 20, 0, 0, 0, []), (23, .dup, 1, 0, 0, 0, 0, []), (24, .iconst 2, 1, 0, 0, 0, 0, []), (25, .iload_n 3, 1, 0, 0, 0, 0, []), (26, .iastore, 1, 20, 0, 0, 0, []), (27, .dup, 1, 0, 0, 0, 0, []), (28, .iconst 3, 1, 0, 0, 0, 0, []), (29, .iload 4, 2, 0, 0, 0, 0, []), (31, .iastore, 1, 20, 0, 0, 0, [])],
  [(32, .dup, 1, 0, 0, 0, 0, []), (33, .iconst 4, 1, 0, 0, 0, 0, []), (34, .iload 5, 2, 0, 0, 0, 0, []), (36, .iastore, 1, 20, 0, 0, 0, []), (37, .astore 6, 2, 0, 0, 0, 0, []), (39, .iconst 0, 1, 0, 0, 0, 0, []), (40, .istore 7, 2, 0, 0, 0, 0, []), (42, .iload 7, 2, 0, 0, 0, 0, [(0, 1), (0, 2), (0, 3), (0, 4), (0, 5)]), (44, .bipush 20, 2, 0, 0, 0, 0, []), (46, .if_icmp .ge 43, 3, 89, 0, 0, 0, []), (49, .aload_n 0, 1, 0, 0, 0, 0, []), (50, .getfield 26, 3, 9, 6, 2, 0, [(0, 85)]), (53, .aload_n 0, 1, 0, 0, 0, 0, []), (54, .getfield 111, 3, 9, 7, 0, 0, [(0, 97)]), (57, .iload 7, 2, 0, 0, 0, 0, []), (59, .iadd, 1, 0, 0, 0, 0, []), (60, .aload 6, 2, 0, 0, 0, 0, []), (62, .iload 7, 2, 0, 0, 0, 0, [])],
  [(64, .iconst 4, 1, 0, 0, 0, 0, []), (65, .idiv, 1, 0, 0, 0, 0, []), (66, .iaload, 1, 20, 0, 0, 0, []), (67, .bipush 24, 2, 0, 0, 0, 0, []), (69, .bipush 8, 2, 0, 0, 0, 0, []), (71, .iload 7, 2, 0, 0, 0, 0, []), (73, .iconst 4, 1, 0, 0, 0, 0, []), (74, .irem, 1, 0, 0, 0, 0, []), (75, .imul, 1, 0, 0, 0, 0, []), (76, .isub, 1, 0, 0, 0, 0, []), (77, .iushr, 1, 0, 0, 0, 0, []), (78, .sipush 255, 3, 0, 0, 0, 0, []), (81, .iand, 1, 0, 0, 0, 0, []), (82, .iastore, 1, 20, 0, 0, 0, []), (83, .iinc 7 1, 3, 0, 0, 0, 0, []), (86, .goto (-44), 3, 42, 0, 0, 0, []), (89, .aload_n 0, 1, 0, 0, 0, 0, []), (90, .dup, 1, 0, 0, 0, 0, []), (91, .getfield 111, 3, 9, 7, 0, 0, [(0, 97)]), (94, .bipush 20, 2, 0, 0, 0, 0, [])],
  [(96, .iadd, 1, 0, 0, 0, 0, []), (97, .putfield 111, 3, 9, 7, 0, 0, [(0, 97)]), (100, .aload_n 0, 1, 0, 0, 0, 0, []), (101, .getfield 111, 3, 9, 7, 0, 0, [(0, 97)]), (104, .ireturn, 1, 0, 0, 0, 0, [])]]
noncomputable def pm_185 : MR := (14, ⟨"OneAtATimeModel", "feed", "(IIIII)I"⟩, prog_12_method_24_code, 8, (some (.int)), pgA_185)
set_option maxRecDepth 100000 in
noncomputable def pgA_186 : List (List (Nat × EN)) := [[(0, .iload_n 1, 1, 0, 0, 0, 0, []), (1, .i2l, 1, 0, 0, 0, 0, []), (2, .lconst 0, 1, 0, 0, 0, 0, []), (3, .aload_n 0, 1, 0, 0, 0, 0, []), (4, .getfield 111, 3, 9, 7, 0, 0, [(0, 97)]), (7, .i2l, 1, 0, 0, 0, 0, []), (8, .invokestatic 60, 3, 179, 3, 1, 0, [(0, 202)]), (11, .ifCond .ne 5, 3, 16, 0, 0, 0, []), (14, .iconst (-1), 1, 0, 0, 0, 0, []), (15, .ireturn, 1, 0, 0, 0, 0, []), (16, .aload_n 0, 1, 0, 0, 0, 0, []), (17, .iload_n 1, 1, 0, 0, 0, 0, []), (18, .putfield 111, 3, 9, 7, 0, 0, [(0, 97)]), (21, .iload_n 1, 1, 0, 0, 0, 0, []), (22, .ireturn, 1, 0, 0, 0, 0, [])]]
noncomputable def pm_186 : MR := (14, ⟨"OneAtATimeModel", "end", "(I)I"⟩, prog_12_method_25_code, 2, (some (.int)), pgA_186)
set_option maxRecDepth 100000 in
noncomputable def pgA_187 : List (List (Nat × EN)) := [[(0, .iload_n 1, 1, 0, 0, 0, 0, []), (1, .invokestatic 64, 3, 178, 1, 1, 0, [(0, 198)]), (4, .ifCond .ne 6, 3, 10, 0, 0, 0, []), (7, .bipush (-2), 2, 0, 0, 0, 0, []), (9, .ireturn, 1, 0, 0, 0, 0, []), (10, .aload_n 0, 1, 0, 0, 0, 0, []), (11, .iconst 0, 1, 0, 0, 0, 0, []), (12, .putfield 138, 3, 9, 8, 0, 0, [(0, 98)]), (15, .aload_n 0, 1, 0, 0, 0, 0, []), (16, .iconst (-1), 1, 0, 0, 0, 0, []), (17, .putfield 29, 3, 9, 9, 0, 0, [(0, 86)]), (20, .aload_n 0, 1, 0, 0, 0, 0, []), (21, .iconst 0, 1, 0, 0, 0, 0, []), (22, .putfield 134, 3, 9, 14, 1, 0, [(0, 99)]), (25, .aload_n 0, 1, 0, 0, 0, 0, []), (26, .iconst 0, 1, 0, 0, 0, 0, []), (27, .putfield 114, 3, 9, 10, 0, 0, [(0, 100)]), (30, .aload_n 0, 1, 0, 0, 0, 0, []), (31, .invokevirtual 145, 3, 188, 1, 0, 9, [(0, 205)])],
  [(34, .aload_n 0, 1, 0, 0, 0, 0, []), (35, .aload_n 0, 1, 0, 0, 0, 0, []), (36, .ldc 162, 2, 7, 2, 0, 0, [(2, 8)]), (38, .invokevirtual 163, 3, 190, 2, 1, 9, [(0, 206)]), (41, .invokevirtual 158, 3, 191, 2, 0, 9, [(0, 207)]), (44, .aload_n 0, 1, 0, 0, 0, 0, []), (45, .iconst 1, 1, 0, 0, 0, 0, []), (46, .bipush 8, 2, 0, 0, 0, 0, []), (48, .invokevirtual 167, 3, 193, 3, 1, 9, [(0, 208)]), (51, .istore_n 2, 1, 0, 0, 0, 0, []), (52, .iconst 0, 1, 0, 0, 0, 0, []), (53, .istore_n 3, 1, 0, 0, 0, 0, []), (54, .iload_n 2, 1, 0, 0, 0, 0, []), (55, .istore 4, 2, 0, 0, 0, 0, []), (57, .aload_n 0, 1, 0, 0, 0, 0, []), (58, .ldc 170, 2, 9, 2, 0, 0, [(2, 9)]), (60, .invokevirtual 163, 3, 190, 2, 1, 9, [(0, 206)]), (63, .ifCond .eq 32, 3, 95, 0, 0, 0, [])],
  [(66, .aload_n 0, 1, 0, 0, 0, 0, []), (67, .invokevirtual 145, 3, 188, 1, 0, 9, [(0, 205)]), (70, .aload_n 0, 1, 0, 0, 0, 0, []), (71, .iconst 0, 1, 0, 0, 0, 0, []), (72, .iload_n 2, 1, 0, 0, 0, 0, []), (73, .invokevirtual 167, 3, 193, 3, 1, 9, [(0, 208)]), (76, .istore_n 3, 1, 0, 0, 0, 0, []), (77, .aload_n 0, 1, 0, 0, 0, 0, []), (78, .aload_n 0, 1, 0, 0, 0, 0, []), (79, .ldc 172, 2, 11, 2, 0, 0, [(2, 10)]), (81, .invokevirtual 163, 3, 190, 2, 1, 9, [(0, 206)]), (84, .invokevirtual 158, 3, 191, 2, 0, 9, [(0, 207)]), (87, .aload_n 0, 1, 0, 0, 0, 0, []), (88, .iload_n 3, 1, 0, 0, 0, 0, []), (89, .iload_n 2, 1, 0, 0, 0, 0, []), (90, .invokevirtual 167, 3, 193, 3, 1, 9, [(0, 208)]), (93, .istore 4, 2, 0, 0, 0, 0, []), (95, .aload_n 0, 1, 0, 0, 0, 0, [(0, 5)])],
  [(96, .aload_n 0, 1, 0, 0, 0, 0, []), (97, .ldc 174, 2, 10, 2, 0, 0, [(2, 11)]), (99, .invokevirtual 163, 3, 190, 2, 1, 9, [(0, 206)]), (102, .invokevirtual 158, 3, 191, 2, 0, 9, [(0, 207)]), (105, .aload_n 0, 1, 0, 0, 0, 0, []), (106, .iconst 0, 1, 0, 0, 0, 0, []), (107, .iconst 1, 1, 0, 0, 0, 0, []), (108, .iload_n 2, 1, 0, 0, 0, 0, []), (109, .ishl, 1, 0, 0, 0, 0, []), (110, .iconst 1, 1, 0, 0, 0, 0, []), (111, .isub, 1, 0, 0, 0, 0, []), (112, .invokevirtual 167, 3, 193, 3, 1, 9, [(0, 208)]), (115, .istore 5, 2, 0, 0, 0, 0, []), (117, .aload_n 0, 1, 0, 0, 0, 0, []), (118, .bipush 58, 2, 0, 0, 0, 0, []), (120, .invokevirtual 176, 3, 194, 2, 0, 9, [(0, 209)]), (123, .aload_n 0, 1, 0, 0, 0, 0, []), (124, .iload_n 2, 1, 0, 0, 0, 0, []), (125, .invokevirtual 179, 3, 195, 2, 0, 9, [(0, 210)])],
  [(128, .aload_n 0, 1, 0, 0, 0, 0, []), (129, .bipush 59, 2, 0, 0, 0, 0, []), (131, .invokevirtual 176, 3, 194, 2, 0, 9, [(0, 209)]), (134, .aload_n 0, 1, 0, 0, 0, 0, []), (135, .aload_n 0, 1, 0, 0, 0, 0, []), (136, .getfield 134, 3, 9, 14, 1, 0, [(0, 99)]), (139, .ifCond .ne 10, 3, 149, 0, 0, 0, []), (142, .aload_n 0, 1, 0, 0, 0, 0, []), (143, .getfield 126, 3, 9, 12, 0, 0, [(0, 101)]), (146, .ifCond .ne 7, 3, 153, 0, 0, 0, []), (149, .iconst 1, 1, 0, 0, 0, 0, []), (150, .goto 4, 3, 154, 0, 0, 0, []), (153, .iconst 0, 1, 0, 0, 0, 0, []), (154, .invokevirtual 158, 3, 191, 2, 0, 9, [(0, 207)]), (157, .aload_n 0, 1, 0, 0, 0, 0, []), (158, .iconst 0, 1, 0, 0, 0, 0, []), (159, .putfield 111, 3, 9, 7, 0, 0, [(0, 97)])],
  [(162, .aload_n 0, 1, 0, 0, 0, 0, []), (163, .getfield 134, 3, 9, 14, 1, 0, [(0, 99)]), (166, .ifCond .eq 6, 3, 172, 0, 0, 0, []), (169, .bipush (-4), 2, 0, 0, 0, 0, []), (171, .ireturn, 1, 0, 0, 0, 0, []), (172, .aload_n 0, 1, 0, 0, 0, 0, []), (173, .iload_n 1, 1, 0, 0, 0, 0, []), (174, .iload_n 2, 1, 0, 0, 0, 0, []), (175, .iload_n 3, 1, 0, 0, 0, 0, []), (176, .iload 4, 2, 0, 0, 0, 0, []), (178, .iload 5, 2, 0, 0, 0, 0, []), (180, .invokevirtual 94, 3, 182, 6, 0, 9, [(0, 200)]), (183, .aload_n 0, 1, 0, 0, 0, 0, []), (184, .aload_n 0, 1, 0, 0, 0, 0, []), (185, .getfield 88, 3, 9, 5, 0, 0, [(0, 96)]), (188, .invokevirtual 98, 3, 197, 2, 1, 9, [(0, 211)]), (191, .ireturn, 1, 0, 0, 0, 0, [])]]
noncomputable def pm_187 : MR := (14, ⟨"OneAtATimeModel", "told", "(I)I"⟩, prog_12_method_34_code, 6, (some (.int)), pgA_187)
set_option maxRecDepth 100000 in
noncomputable def pgA_188 : List (List (Nat × EN)) := [[(0, .aload_n 0, 1, 0, 0, 0, 0, []), (1, .bipush 32, 2, 0, 0, 0, 0, []), (3, .bipush 32, 2, 0, 0, 0, 0, []), (5, .invokevirtual 117, 3, 189, 3, 1, 9, [(0, 212)]), (8, .ifCond .ne 14, 3, 22, 0, 0, 0, []), (11, .aload_n 0, 1, 0, 0, 0, 0, []), (12, .bipush 10, 2, 0, 0, 0, 0, []), (14, .bipush 10, 2, 0, 0, 0, 0, []), (16, .invokevirtual 117, 3, 189, 3, 1, 9, [(0, 212)]), (19, .ifCond .eq 16, 3, 35, 0, 0, 0, []), (22, .aload_n 0, 1, 0, 0, 0, 0, []), (23, .dup, 1, 0, 0, 0, 0, []), (24, .getfield 114, 3, 9, 10, 0, 0, [(0, 100)]), (27, .iconst 1, 1, 0, 0, 0, 0, []), (28, .iadd, 1, 0, 0, 0, 0, []), (29, .putfield 114, 3, 9, 10, 0, 0, [(0, 100)])],
  [(32, .goto (-32), 3, 0, 0, 0, 0, []), (35, .aload_n 0, 1, 0, 0, 0, 0, []), (36, .aload_n 0, 1, 0, 0, 0, 0, []), (37, .getfield 114, 3, 9, 10, 0, 0, [(0, 100)]), (40, .putfield 120, 3, 9, 11, 0, 0, [(0, 102)]), (43, .aload_n 0, 1, 0, 0, 0, 0, []), (44, .iconst 0, 1, 0, 0, 0, 0, []), (45, .putfield 123, 3, 9, 13, 0, 0, [(0, 103)]), (48, .aload_n 0, 1, 0, 0, 0, 0, []), (49, .getfield 114, 3, 9, 10, 0, 0, [(0, 100)]), (52, .aload_n 0, 1, 0, 0, 0, 0, []), (53, .getfield 111, 3, 9, 7, 0, 0, [(0, 97)]), (56, .if_icmp .ne 11, 3, 67, 0, 0, 0, []), (59, .aload_n 0, 1, 0, 0, 0, 0, []), (60, .iconst 0, 1, 0, 0, 0, 0, []), (61, .putfield 126, 3, 9, 12, 0, 0, [(0, 101)])],
  [(64, .goto 128, 3, 192, 0, 0, 0, []), (67, .aload_n 0, 1, 0, 0, 0, 0, []), (68, .bipush 97, 2, 0, 0, 0, 0, []), (70, .bipush 122, 2, 0, 0, 0, 0, []), (72, .invokevirtual 117, 3, 189, 3, 1, 9, [(0, 212)]), (75, .ifCond .eq 32, 3, 107, 0, 0, 0, []), (78, .aload_n 0, 1, 0, 0, 0, 0, []), (79, .iconst 1, 1, 0, 0, 0, 0, []), (80, .putfield 126, 3, 9, 12, 0, 0, [(0, 101)]), (83, .aload_n 0, 1, 0, 0, 0, 0, []), (84, .bipush 97, 2, 0, 0, 0, 0, []), (86, .bipush 122, 2, 0, 0, 0, 0, []), (88, .invokevirtual 117, 3, 189, 3, 1, 9, [(0, 212)]), (91, .ifCond .eq 101, 3, 192, 0, 0, 0, []), (94, .aload_n 0, 1, 0, 0, 0, 0, []), (95, .dup, 1, 0, 0, 0, 0, [])],
  [(96, .getfield 114, 3, 9, 10, 0, 0, [(0, 100)]), (99, .iconst 1, 1, 0, 0, 0, 0, []), (100, .iadd, 1, 0, 0, 0, 0, []), (101, .putfield 114, 3, 9, 10, 0, 0, [(0, 100)]), (104, .goto (-21), 3, 83, 0, 0, 0, []), (107, .aload_n 0, 1, 0, 0, 0, 0, []), (108, .bipush 48, 2, 0, 0, 0, 0, []), (110, .bipush 57, 2, 0, 0, 0, 0, []), (112, .invokevirtual 117, 3, 189, 3, 1, 9, [(0, 212)]), (115, .ifCond .eq 62, 3, 177, 0, 0, 0, []), (118, .aload_n 0, 1, 0, 0, 0, 0, []), (119, .iconst 2, 1, 0, 0, 0, 0, []), (120, .putfield 126, 3, 9, 12, 0, 0, [(0, 101)]), (123, .aload_n 0, 1, 0, 0, 0, 0, []), (124, .bipush 48, 2, 0, 0, 0, 0, []), (126, .bipush 57, 2, 0, 0, 0, 0, [])],
  [(128, .invokevirtual 117, 3, 189, 3, 1, 9, [(0, 212)]), (131, .ifCond .eq 61, 3, 192, 0, 0, 0, []), (134, .aload_n 0, 1, 0, 0, 0, 0, []), (135, .sipush 1000, 3, 0, 0, 0, 0, []), (138, .bipush 10, 2, 0, 0, 0, 0, []), (140, .aload_n 0, 1, 0, 0, 0, 0, []), (141, .getfield 123, 3, 9, 13, 0, 0, [(0, 103)]), (144, .imul, 1, 0, 0, 0, 0, []), (145, .aload_n 0, 1, 0, 0, 0, 0, []), (146, .getfield 26, 3, 9, 6, 2, 0, [(0, 85)]), (149, .aload_n 0, 1, 0, 0, 0, 0, []), (150, .getfield 114, 3, 9, 10, 0, 0, [(0, 100)]), (153, .iaload, 1, 20, 0, 0, 0, []), (154, .iadd, 1, 0, 0, 0, 0, []), (155, .bipush 48, 2, 0, 0, 0, 0, []), (157, .isub, 1, 0, 0, 0, 0, []), (158, .invokestatic 129, 3, 1005, 2, 1, 0, [(0, 213)])],
  [(161, .putfield 123, 3, 9, 13, 0, 0, [(0, 103)]), (164, .aload_n 0, 1, 0, 0, 0, 0, []), (165, .dup, 1, 0, 0, 0, 0, []), (166, .getfield 114, 3, 9, 10, 0, 0, [(0, 100)]), (169, .iconst 1, 1, 0, 0, 0, 0, []), (170, .iadd, 1, 0, 0, 0, 0, []), (171, .putfield 114, 3, 9, 10, 0, 0, [(0, 100)]), (174, .goto (-51), 3, 123, 0, 0, 0, []), (177, .aload_n 0, 1, 0, 0, 0, 0, []), (178, .iconst 3, 1, 0, 0, 0, 0, []), (179, .putfield 126, 3, 9, 12, 0, 0, [(0, 101)]), (182, .aload_n 0, 1, 0, 0, 0, 0, []), (183, .dup, 1, 0, 0, 0, 0, []), (184, .getfield 114, 3, 9, 10, 0, 0, [(0, 100)]), (187, .iconst 1, 1, 0, 0, 0, 0, []), (188, .iadd, 1, 0, 0, 0, 0, []), (189, .putfield 114, 3, 9, 10, 0, 0, [(0, 100)])],
  [(192, .return_, 1, 0, 0, 0, 0, [(0, 0)])]]
noncomputable def pm_188 : MR := (14, ⟨"OneAtATimeModel", "next", "()V"⟩, prog_12_method_27_code, 1, none, pgA_188)
set_option maxRecDepth 100000 in
noncomputable def pgA_189 : List (List (Nat × EN)) := [[(0, .aload_n 0, 1, 0, 0, 0, 0, []), (1, .getfield 114, 3, 9, 10, 0, 0, [(0, 100)]), (4, .aload_n 0, 1, 0, 0, 0, 0, []), (5, .getfield 111, 3, 9, 7, 0, 0, [(0, 97)]), (8, .if_icmp .ge 27, 3, 35, 0, 0, 0, []), (11, .aload_n 0, 1, 0, 0, 0, 0, []), (12, .getfield 26, 3, 9, 6, 2, 0, [(0, 85)]), (15, .aload_n 0, 1, 0, 0, 0, 0, []), (16, .getfield 114, 3, 9, 10, 0, 0, [(0, 100)]), (19, .iaload, 1, 20, 0, 0, 0, []), (20, .i2l, 1, 0, 0, 0, 0, []), (21, .iload_n 1, 1, 0, 0, 0, 0, []), (22, .i2l, 1, 0, 0, 0, 0, []), (23, .iload_n 2, 1, 0, 0, 0, 0, []), (24, .i2l, 1, 0, 0, 0, 0, []), (25, .invokestatic 60, 3, 179, 3, 1, 0, [(0, 202)]), (28, .ifCond .eq 7, 3, 35, 0, 0, 0, []), (31, .iconst 1, 1, 0, 0, 0, 0, [])],
  [(32, .goto 4, 3, 36, 0, 0, 0, []), (35, .iconst 0, 1, 0, 0, 0, 0, [(0, 0), (0, 1), (0, 2)]), (36, .ireturn, 1, 1, 0, 0, 0, [(0, 0), (0, 1), (0, 2)])]]
noncomputable def pm_189 : MR := (14, ⟨"OneAtATimeModel", "isAt", "(II)Z"⟩, prog_12_method_26_code, 3, (some (.boolean)), pgA_189)
set_option maxRecDepth 100000 in
noncomputable def pgA_190 : List (List (Nat × EN)) := [[(0, .aload_n 0, 1, 0, 0, 0, 0, []), (1, .getfield 134, 3, 9, 14, 1, 0, [(0, 99)]), (4, .ifCond .ne 31, 3, 35, 0, 0, 0, []), (7, .aload_n 0, 1, 0, 0, 0, 0, []), (8, .getfield 126, 3, 9, 12, 0, 0, [(0, 101)]), (11, .iconst 1, 1, 0, 0, 0, 0, []), (12, .if_icmp .ne 23, 3, 35, 0, 0, 0, []), (15, .aload_n 0, 1, 0, 0, 0, 0, []), (16, .getfield 114, 3, 9, 10, 0, 0, [(0, 100)]), (19, .aload_n 0, 1, 0, 0, 0, 0, []), (20, .getfield 120, 3, 9, 11, 0, 0, [(0, 102)]), (23, .isub, 1, 0, 0, 0, 0, []), (24, .aload_n 1, 1, 0, 0, 0, 0, []), (25, .invokevirtual 148, 3, 1000, 1, 1, 30, [(0, 214)]), (28, .if_icmp .ne 7, 3, 35, 0, 0, 0, []), (31, .iconst 1, 1, 0, 0, 0, 0, [])],
  [(32, .goto 4, 3, 36, 0, 0, 0, []), (35, .iconst 0, 1, 0, 0, 0, 0, [(0, 2), (0, 3)]), (36, .istore_n 2, 1, 0, 0, 0, 0, [(0, 2), (0, 3)]), (37, .iconst 0, 1, 0, 0, 0, 0, []), (38, .istore_n 3, 1, 0, 0, 0, 0, []), (39, .iload_n 3, 1, 0, 0, 0, 0, []), (40, .aload_n 1, 1, 0, 0, 0, 0, []), (41, .invokevirtual 148, 3, 1000, 1, 1, 30, [(0, 214)]), (44, .if_icmp .ge 38, 3, 82, 0, 0, 0, []), (47, .iload_n 2, 1, 0, 0, 0, 0, []), (48, .ifCond .eq 34, 3, 82, 0, 0, 0, []), (51, .aload_n 0, 1, 0, 0, 0, 0, []), (52, .getfield 26, 3, 9, 6, 2, 0, [(0, 85)]), (55, .aload_n 0, 1, 0, 0, 0, 0, []), (56, .getfield 120, 3, 9, 11, 0, 0, [(0, 102)]), (59, .iload_n 3, 1, 0, 0, 0, 0, []), (60, .iadd, 1, 0, 0, 0, 0, []), (61, .iaload, 1, 20, 0, 0, 0, []), (62, .aload_n 1, 1, 0, 0, 0, 0, []), (63, .iload_n 3, 1, 0, 0, 0, 0, [])],
  [(64, .invokevirtual 154, 3, 1001, 2, 1, 30, [(0, 215)]), (67, .if_icmp .ne 7, 3, 74, 0, 0, 0, []), (70, .iconst 1, 1, 0, 0, 0, 0, []), (71, .goto 4, 3, 75, 0, 0, 0, []), (74, .iconst 0, 1, 0, 0, 0, 0, []), (75, .istore_n 2, 1, 0, 0, 0, 0, [(0, 2)]), (76, .iinc 3 1, 3, 0, 0, 0, 0, []), (79, .goto (-40), 3, 39, 0, 0, 0, []), (82, .iload_n 2, 1, 0, 0, 0, 0, [(0, 0), (0, 1), (0, 3)]), (83, .ireturn, 1, 1, 0, 0, 0, [])]]
noncomputable def pm_190 : MR := (14, ⟨"OneAtATimeModel", "isWord", "(Ljava/lang/String;)Z"⟩, prog_12_method_30_code, 4, (some (.boolean)), pgA_190)
set_option maxRecDepth 100000 in
noncomputable def pgA_191 : List (List (Nat × EN)) := [[(0, .iload_n 1, 1, 0, 0, 0, 0, []), (1, .ifCond .ne 12, 3, 13, 0, 0, 0, []), (4, .aload_n 0, 1, 0, 0, 0, 0, []), (5, .iconst 1, 1, 0, 0, 0, 0, []), (6, .aload_n 0, 1, 0, 0, 0, 0, []), (7, .getfield 120, 3, 9, 11, 0, 0, [(0, 102)]), (10, .invokevirtual 141, 3, 192, 3, 0, 9, [(0, 216)]), (13, .aload_n 0, 1, 0, 0, 0, 0, [(0, 1)]), (14, .getfield 134, 3, 9, 14, 1, 0, [(0, 99)]), (17, .ifCond .ne 7, 3, 24, 0, 0, 0, []), (20, .aload_n 0, 1, 0, 0, 0, 0, []), (21, .invokevirtual 145, 3, 188, 1, 0, 9, [(0, 205)]), (24, .return_, 1, 0, 0, 0, 0, [(0, 0), (0, 1)])]]
noncomputable def pm_191 : MR := (14, ⟨"OneAtATimeModel", "must", "(Z)V"⟩, prog_12_method_29_code, 2, none, pgA_191)
set_option maxRecDepth 100000 in
noncomputable def pgA_192 : List (List (Nat × EN)) := [[(0, .aload_n 0, 1, 0, 0, 0, 0, []), (1, .getfield 134, 3, 9, 14, 1, 0, [(0, 99)]), (4, .ifCond .ne 18, 3, 22, 0, 0, 0, []), (7, .aload_n 0, 1, 0, 0, 0, 0, []), (8, .iconst 1, 1, 0, 0, 0, 0, []), (9, .putfield 134, 3, 9, 14, 1, 0, [(0, 99)]), (12, .aload_n 0, 1, 0, 0, 0, 0, []), (13, .iload_n 1, 1, 0, 0, 0, 0, []), (14, .putfield 138, 3, 9, 8, 0, 0, [(0, 98)]), (17, .aload_n 0, 1, 0, 0, 0, 0, []), (18, .iload_n 2, 1, 0, 0, 0, 0, []), (19, .putfield 29, 3, 9, 9, 0, 0, [(0, 86)]), (22, .return_, 1, 0, 0, 0, 0, [(0, 0), (0, 1), (0, 2)])]]
noncomputable def pm_192 : MR := (14, ⟨"OneAtATimeModel", "faultsAt", "(II)V"⟩, prog_12_method_28_code, 3, none, pgA_192)
set_option maxRecDepth 100000 in
noncomputable def pgA_193 : List (List (Nat × EN)) := [[(0, .aload_n 0, 1, 0, 0, 0, 0, []), (1, .getfield 134, 3, 9, 14, 1, 0, [(0, 99)]), (4, .ifCond .eq 5, 3, 9, 0, 0, 0, []), (7, .iload_n 1, 1, 0, 0, 0, 0, []), (8, .ireturn, 1, 0, 0, 0, 0, []), (9, .aload_n 0, 1, 0, 0, 0, 0, []), (10, .getfield 123, 3, 9, 13, 0, 0, [(0, 103)]), (13, .istore_n 3, 1, 0, 0, 0, 0, []), (14, .aload_n 0, 1, 0, 0, 0, 0, []), (15, .getfield 126, 3, 9, 12, 0, 0, [(0, 101)]), (18, .iconst 2, 1, 0, 0, 0, 0, []), (19, .if_icmp .eq 15, 3, 34, 0, 0, 0, []), (22, .aload_n 0, 1, 0, 0, 0, 0, []), (23, .iconst 1, 1, 0, 0, 0, 0, []), (24, .aload_n 0, 1, 0, 0, 0, 0, []), (25, .getfield 120, 3, 9, 11, 0, 0, [(0, 102)]), (28, .invokevirtual 141, 3, 192, 3, 0, 9, [(0, 216)]), (31, .goto 24, 3, 55, 0, 0, 0, [])],
  [(34, .iload_n 3, 1, 0, 0, 0, 0, []), (35, .i2l, 1, 0, 0, 0, 0, []), (36, .iload_n 1, 1, 0, 0, 0, 0, []), (37, .i2l, 1, 0, 0, 0, 0, []), (38, .iload_n 2, 1, 0, 0, 0, 0, []), (39, .i2l, 1, 0, 0, 0, 0, []), (40, .invokestatic 60, 3, 179, 3, 1, 0, [(0, 202)]), (43, .ifCond .ne 12, 3, 55, 0, 0, 0, []), (46, .aload_n 0, 1, 0, 0, 0, 0, []), (47, .iconst 2, 1, 0, 0, 0, 0, []), (48, .aload_n 0, 1, 0, 0, 0, 0, []), (49, .getfield 120, 3, 9, 11, 0, 0, [(0, 102)]), (52, .invokevirtual 141, 3, 192, 3, 0, 9, [(0, 216)]), (55, .aload_n 0, 1, 0, 0, 0, 0, [(0, 2)]), (56, .aload_n 0, 1, 0, 0, 0, 0, []), (57, .getfield 134, 3, 9, 14, 1, 0, [(0, 99)]), (60, .ifCond .ne 7, 3, 67, 0, 0, 0, []), (63, .iconst 1, 1, 0, 0, 0, 0, [])],
  [(64, .goto 4, 3, 68, 0, 0, 0, []), (67, .iconst 0, 1, 0, 0, 0, 0, []), (68, .invokevirtual 158, 3, 191, 2, 0, 9, [(0, 207)]), (71, .aload_n 0, 1, 0, 0, 0, 0, []), (72, .getfield 134, 3, 9, 14, 1, 0, [(0, 99)]), (75, .ifCond .eq 7, 3, 82, 0, 0, 0, []), (78, .iload_n 1, 1, 0, 0, 0, 0, []), (79, .goto 4, 3, 83, 0, 0, 0, []), (82, .iload_n 3, 1, 0, 0, 0, 0, []), (83, .ireturn, 1, 0, 0, 0, 0, [(0, 0), (0, 1), (0, 2), (0, 3)])]]
noncomputable def pm_193 : MR := (14, ⟨"OneAtATimeModel", "number", "(II)I"⟩, prog_12_method_32_code, 4, (some (.int)), pgA_193)
set_option maxRecDepth 100000 in
noncomputable def pgA_194 : List (List (Nat × EN)) := [[(0, .aload_n 0, 1, 0, 0, 0, 0, []), (1, .aload_n 0, 1, 0, 0, 0, 0, []), (2, .getfield 134, 3, 9, 14, 1, 0, [(0, 99)]), (5, .ifCond .ne 28, 3, 33, 0, 0, 0, []), (8, .aload_n 0, 1, 0, 0, 0, 0, []), (9, .getfield 126, 3, 9, 12, 0, 0, [(0, 101)]), (12, .iconst 3, 1, 0, 0, 0, 0, []), (13, .if_icmp .ne 20, 3, 33, 0, 0, 0, []), (16, .aload_n 0, 1, 0, 0, 0, 0, []), (17, .getfield 26, 3, 9, 6, 2, 0, [(0, 85)]), (20, .aload_n 0, 1, 0, 0, 0, 0, []), (21, .getfield 120, 3, 9, 11, 0, 0, [(0, 102)]), (24, .iaload, 1, 20, 0, 0, 0, []), (25, .iload_n 1, 1, 0, 0, 0, 0, []), (26, .if_icmp .ne 7, 3, 33, 0, 0, 0, []), (29, .iconst 1, 1, 0, 0, 0, 0, []), (30, .goto 4, 3, 34, 0, 0, 0, [])],
  [(33, .iconst 0, 1, 0, 0, 0, 0, [(0, 0), (0, 1)]), (34, .invokevirtual 158, 3, 191, 2, 0, 9, [(0, 207)]), (37, .return_, 1, 0, 0, 0, 0, [])]]
noncomputable def pm_194 : MR := (14, ⟨"OneAtATimeModel", "mustBeSign", "(I)V"⟩, prog_12_method_31_code, 2, none, pgA_194)
set_option maxRecDepth 100000 in
noncomputable def pgA_195 : List (List (Nat × EN)) := [[(0, .aload_n 0, 1, 0, 0, 0, 0, []), (1, .iconst 0, 1, 0, 0, 0, 0, []), (2, .putfield 88, 3, 9, 5, 0, 0, [(0, 96)]), (5, .aload_n 0, 1, 0, 0, 0, 0, []), (6, .getfield 134, 3, 9, 14, 1, 0, [(0, 99)]), (9, .ifCond .ne 11, 3, 20, 0, 0, 0, []), (12, .aload_n 0, 1, 0, 0, 0, 0, []), (13, .getfield 126, 3, 9, 12, 0, 0, [(0, 101)]), (16, .iconst 2, 1, 0, 0, 0, 0, []), (17, .if_icmp .eq 4, 3, 21, 0, 0, 0, []), (20, .return_, 1, 0, 0, 0, 0, [(0, 0), (0, 1), (0, 2), (0, 3)]), (21, .aload_n 0, 1, 0, 0, 0, 0, []), (22, .getfield 120, 3, 9, 11, 0, 0, [(0, 102)]), (25, .istore_n 2, 1, 0, 0, 0, 0, []), (26, .iload_n 2, 1, 0, 0, 0, 0, [(0, 3)]), (27, .aload_n 0, 1, 0, 0, 0, 0, []), (28, .getfield 114, 3, 9, 10, 0, 0, [(0, 100)]), (31, .if_icmp .ge 64, 3, 95, 0, 0, 0, [])],
  [(34, .aload_n 0, 1, 0, 0, 0, 0, []), (35, .getfield 134, 3, 9, 14, 1, 0, [(0, 99)]), (38, .ifCond .ne 57, 3, 95, 0, 0, 0, []), (41, .aload_n 0, 1, 0, 0, 0, 0, []), (42, .getfield 26, 3, 9, 6, 2, 0, [(0, 85)]), (45, .iload_n 2, 1, 0, 0, 0, 0, []), (46, .iaload, 1, 20, 0, 0, 0, []), (47, .bipush 48, 2, 0, 0, 0, 0, []), (49, .isub, 1, 0, 0, 0, 0, []), (50, .istore_n 3, 1, 0, 0, 0, 0, []), (51, .iload_n 3, 1, 0, 0, 0, 0, []), (52, .iload_n 1, 1, 0, 0, 0, 0, []), (53, .if_icmp .lt 12, 3, 65, 0, 0, 0, []), (56, .aload_n 0, 1, 0, 0, 0, 0, []), (57, .iconst 3, 1, 0, 0, 0, 0, []), (58, .iload_n 2, 1, 0, 0, 0, 0, []), (59, .invokevirtual 141, 3, 192, 3, 0, 9, [(0, 216)]), (62, .goto 27, 3, 89, 0, 0, 0, [])],
  [(65, .aload_n 0, 1, 0, 0, 0, 0, []), (66, .getfield 88, 3, 9, 5, 0, 0, [(0, 96)]), (69, .sipush 256, 3, 0, 0, 0, 0, []), (72, .if_icmp .ne 12, 3, 84, 0, 0, 0, []), (75, .aload_n 0, 1, 0, 0, 0, 0, []), (76, .iconst 4, 1, 0, 0, 0, 0, []), (77, .iload_n 2, 1, 0, 0, 0, 0, []), (78, .invokevirtual 141, 3, 192, 3, 0, 9, [(0, 216)]), (81, .goto 8, 3, 89, 0, 0, 0, []), (84, .aload_n 0, 1, 0, 0, 0, 0, []), (85, .iload_n 3, 1, 0, 0, 0, 0, []), (86, .invokevirtual 107, 3, 196, 2, 0, 9, [(0, 217)]), (89, .iinc 2 1, 3, 0, 0, 0, 0, [(0, 3)]), (92, .goto (-66), 3, 26, 0, 0, 0, []), (95, .aload_n 0, 1, 0, 0, 0, 0, [(0, 1), (0, 2), (0, 3)])],
  [(96, .aload_n 0, 1, 0, 0, 0, 0, []), (97, .getfield 134, 3, 9, 14, 1, 0, [(0, 99)]), (100, .ifCond .ne 7, 3, 107, 0, 0, 0, []), (103, .iconst 1, 1, 0, 0, 0, 0, []), (104, .goto 4, 3, 108, 0, 0, 0, []), (107, .iconst 0, 1, 0, 0, 0, 0, []), (108, .invokevirtual 158, 3, 191, 2, 0, 9, [(0, 207)]), (111, .return_, 1, 0, 0, 0, 0, [])]]
noncomputable def pm_195 : MR := (14, ⟨"OneAtATimeModel", "readsBits", "(I)V"⟩, prog_12_method_33_code, 4, none, pgA_195)
set_option maxRecDepth 100000 in
noncomputable def pgA_196 : List (List (Nat × EN)) := [[(0, .aload_n 0, 1, 0, 0, 0, 0, []), (1, .getfield 23, 3, 9, 4, 2, 0, [(0, 84)]), (4, .aload_n 0, 1, 0, 0, 0, 0, []), (5, .getfield 88, 3, 9, 5, 0, 0, [(0, 96)]), (8, .iload_n 1, 1, 0, 0, 0, 0, []), (9, .iastore, 1, 20, 0, 0, 0, []), (10, .aload_n 0, 1, 0, 0, 0, 0, []), (11, .dup, 1, 0, 0, 0, 0, []), (12, .getfield 88, 3, 9, 5, 0, 0, [(0, 96)]), (15, .iconst 1, 1, 0, 0, 0, 0, []), (16, .iadd, 1, 0, 0, 0, 0, []), (17, .putfield 88, 3, 9, 5, 0, 0, [(0, 96)]), (20, .return_, 1, 0, 0, 0, 0, [])]]
noncomputable def pm_196 : MR := (14, ⟨"OneAtATimeModel", "lies", "(I)V"⟩, prog_12_method_19_code, 2, none, pgA_196)
set_option maxRecDepth 100000 in
noncomputable def pgA_197 : List (List (Nat × EN)) := [[(0, .iconst 1, 1, 0, 0, 0, 0, []), (1, .istore_n 2, 1, 0, 0, 0, 0, []), (2, .iconst 0, 1, 0, 0, 0, 0, []), (3, .istore_n 3, 1, 0, 0, 0, 0, []), (4, .iload_n 3, 1, 0, 0, 0, 0, []), (5, .sipush 783, 3, 0, 0, 0, 0, []), (8, .if_icmp .ge 34, 3, 42, 0, 0, 0, []), (11, .iload_n 2, 1, 0, 0, 0, 0, []), (12, .ifCond .eq 22, 3, 34, 0, 0, 0, []), (15, .aload_n 0, 1, 0, 0, 0, 0, []), (16, .getfield 17, 3, 9, 1, 2, 0, [(0, 82)]), (19, .iload_n 3, 1, 0, 0, 0, 0, []), (20, .iaload, 1, 20, 0, 0, 0, []), (21, .aload_n 0, 1, 0, 0, 0, 0, []), (22, .getfield 13, 3, 9, 0, 2, 0, [(0, 81)]), (25, .iload_n 3, 1, 0, 0, 0, 0, []), (26, .iaload, 1, 20, 0, 0, 0, []), (27, .if_icmp .ne 7, 3, 34, 0, 0, 0, []), (30, .iconst 1, 1, 0, 0, 0, 0, []), (31, .goto 4, 3, 35, 0, 0, 0, [])],
  [(34, .iconst 0, 1, 0, 0, 0, 0, [(0, 2)]), (35, .istore_n 2, 1, 0, 0, 0, 0, [(0, 2)]), (36, .iinc 3 1, 3, 0, 0, 0, 0, []), (39, .goto (-35), 3, 4, 0, 0, 0, []), (42, .iload_n 2, 1, 0, 0, 0, 0, []), (43, .ifCond .eq 7, 3, 50, 0, 0, 0, []), (46, .iload_n 1, 1, 0, 0, 0, 0, []), (47, .goto 8, 3, 55, 0, 0, 0, []), (50, .aload_n 0, 1, 0, 0, 0, 0, []), (51, .iload_n 1, 1, 0, 0, 0, 0, []), (52, .invokevirtual 85, 3, 184, 2, 1, 9, [(0, 201)]), (55, .ireturn, 1, 0, 0, 0, 0, [(0, 0), (0, 1), (0, 2), (0, 3)])]]
noncomputable def pm_197 : MR := (14, ⟨"OneAtATimeModel", "done", "(I)I"⟩, prog_12_method_17_code, 4, (some (.int)), pgA_197)
set_option maxRecDepth 100000 in
noncomputable def pgA_198 : List (List (Nat × EN)) := [[(0, .iload_n 1, 1, 0, 0, 0, 0, []), (1, .ifCond .ne 10, 3, 11, 0, 0, 0, []), (4, .aload_n 0, 1, 0, 0, 0, 0, []), (5, .getfield 138, 3, 9, 8, 0, 0, [(0, 98)]), (8, .goto 16, 3, 24, 0, 0, 0, []), (11, .iload_n 1, 1, 0, 0, 0, 0, []), (12, .iconst 1, 1, 0, 0, 0, 0, []), (13, .if_icmp .ne 10, 3, 23, 0, 0, 0, []), (16, .aload_n 0, 1, 0, 0, 0, 0, []), (17, .getfield 29, 3, 9, 9, 0, 0, [(0, 86)]), (20, .goto 4, 3, 24, 0, 0, 0, []), (23, .iconst (-1), 1, 0, 0, 0, 0, []), (24, .ireturn, 1, 0, 0, 0, 0, [(0, 0), (0, 1)])]]
noncomputable def pm_198 : MR := (14, ⟨"OneAtATimeModel", "fault", "(I)I"⟩, prog_12_method_35_code, 2, (some (.int)), pgA_198)
set_option maxRecDepth 100000 in
noncomputable def pgA_199 : List (List (Nat × EN)) := [[(0, .iconst 0, 1, 0, 0, 0, 0, []), (1, .istore_n 2, 1, 0, 0, 0, 0, []), (2, .iconst 0, 1, 0, 0, 0, 0, []), (3, .istore_n 3, 1, 0, 0, 0, 0, []), (4, .iload_n 3, 1, 0, 0, 0, 0, []), (5, .iconst 3, 1, 0, 0, 0, 0, []), (6, .if_icmp .ge 27, 3, 33, 0, 0, 0, []), (9, .iload_n 2, 1, 0, 0, 0, 0, []), (10, .aload_n 0, 1, 0, 0, 0, 0, []), (11, .iload_n 3, 1, 0, 0, 0, 0, []), (12, .invokevirtual 72, 3, 180, 2, 1, 9, [(0, 199)]), (15, .ifCond .eq 9, 3, 24, 0, 0, 0, []), (18, .iconst 1, 1, 0, 0, 0, 0, []), (19, .iload_n 3, 1, 0, 0, 0, 0, []), (20, .ishl, 1, 0, 0, 0, 0, []), (21, .goto 4, 3, 25, 0, 0, 0, []), (24, .iconst 0, 1, 0, 0, 0, 0, []), (25, .ior, 1, 0, 0, 0, 0, [(0, 2)]), (26, .istore_n 2, 1, 0, 0, 0, 0, []), (27, .iinc 3 1, 3, 0, 0, 0, 0, []), (30, .goto (-26), 3, 4, 0, 0, 0, [])],
  [(33, .iload_n 1, 1, 0, 0, 0, 0, []), (34, .tableswitch 47 0 3 #[30, 32, 37, 42], 30, 81, 0, 0, 0, [(0, 64), (1, 66), (2, 71), (3, 76)])],
  [(64, .iload_n 2, 1, 0, 0, 0, 0, []), (65, .ireturn, 1, 0, 0, 0, 0, []), (66, .aload_n 0, 1, 0, 0, 0, 0, []), (67, .getfield 82, 3, 9, 3, 0, 0, [(0, 95)]), (70, .ireturn, 1, 0, 0, 0, 0, []), (71, .aload_n 0, 1, 0, 0, 0, 0, []), (72, .getfield 111, 3, 9, 7, 0, 0, [(0, 97)]), (75, .ireturn, 1, 0, 0, 0, 0, []), (76, .aload_n 0, 1, 0, 0, 0, 0, []), (77, .getfield 182, 3, 9, 28, 0, 0, [(0, 104)]), (80, .ireturn, 1, 0, 0, 0, 0, []), (81, .iconst (-1), 1, 0, 0, 0, 0, []), (82, .ireturn, 1, 0, 0, 0, 0, [])]]
noncomputable def pm_199 : MR := (14, ⟨"OneAtATimeModel", "count", "(I)I"⟩, prog_12_method_36_code, 4, (some (.int)), pgA_199)
end
section
set_option maxRecDepth 100000 in
noncomputable def pgA_200 : List (List (Nat × EN)) := [[(0, .aload_n 0, 1, 0, 0, 0, 0, []), (1, .iload_n 1, 1, 0, 0, 0, 0, []), (2, .invokevirtual 72, 3, 180, 2, 1, 9, [(0, 199)]), (5, .ifCond .eq 15, 3, 20, 0, 0, 0, []), (8, .iload_n 2, 1, 0, 0, 0, 0, []), (9, .i2l, 1, 0, 0, 0, 0, []), (10, .lconst 0, 1, 0, 0, 0, 0, []), (11, .ldc2_w 224, 3, 6, 0, 0, 0, [(0, 7)]), (14, .invokestatic 60, 3, 179, 3, 1, 0, [(0, 202)]), (17, .ifCond .ne 8, 3, 25, 0, 0, 0, []), (20, .bipush (-2), 2, 0, 0, 0, 0, [(0, 0), (0, 1), (0, 2)]), (22, .goto 17, 3, 39, 0, 0, 0, []), (25, .aload_n 0, 1, 0, 0, 0, 0, []), (26, .iload_n 1, 1, 0, 0, 0, 0, []), (27, .iload_n 2, 1, 0, 0, 0, 0, []), (28, .invokevirtual 226, 3, 201, 3, 1, 9, [(0, 218)]), (31, .ifCond .eq 7, 3, 38, 0, 0, 0, [])],
  [(34, .iconst 1, 1, 0, 0, 0, 0, []), (35, .goto 4, 3, 39, 0, 0, 0, []), (38, .iconst 0, 1, 0, 0, 0, 0, []), (39, .ireturn, 1, 0, 0, 0, 0, [(0, 0), (0, 1), (0, 2)])]]
noncomputable def pm_200 : MR := (14, ⟨"OneAtATimeModel", "is", "(II)I"⟩, prog_12_method_47_code, 3, (some (.int)), pgA_200)
set_option maxRecDepth 100000 in
noncomputable def pgA_201 : List (List (Nat × EN)) := [[(0, .iload_n 2, 1, 0, 0, 0, 0, []), (1, .tableswitch 75 1 6 #[39, 45, 51, 57, 63, 69], 39, 76, 0, 0, 0, [(1, 40), (2, 46), (3, 52), (4, 58), (5, 64), (6, 70)])],
  [(40, .aload_n 0, 1, 0, 0, 0, 0, []), (41, .iload_n 1, 1, 0, 0, 0, 0, []), (42, .invokevirtual 200, 3, 202, 2, 1, 9, [(0, 219)]), (45, .ireturn, 1, 1, 0, 0, 0, []), (46, .aload_n 0, 1, 0, 0, 0, 0, []), (47, .iload_n 1, 1, 0, 0, 0, 0, []), (48, .invokevirtual 209, 3, 206, 2, 1, 9, [(0, 220)]), (51, .ireturn, 1, 1, 0, 0, 0, []), (52, .aload_n 0, 1, 0, 0, 0, 0, []), (53, .iload_n 1, 1, 0, 0, 0, 0, []), (54, .invokevirtual 212, 3, 210, 2, 1, 9, [(0, 221)]), (57, .ireturn, 1, 1, 0, 0, 0, []), (58, .aload_n 0, 1, 0, 0, 0, 0, []), (59, .iload_n 1, 1, 0, 0, 0, 0, []), (60, .invokevirtual 215, 3, 211, 2, 1, 9, [(0, 222)]), (63, .ireturn, 1, 1, 0, 0, 0, [])],
  [(64, .aload_n 0, 1, 0, 0, 0, 0, []), (65, .iload_n 1, 1, 0, 0, 0, 0, []), (66, .invokevirtual 218, 3, 213, 2, 1, 9, [(0, 223)]), (69, .ireturn, 1, 1, 0, 0, 0, []), (70, .aload_n 0, 1, 0, 0, 0, 0, []), (71, .iload_n 1, 1, 0, 0, 0, 0, []), (72, .invokevirtual 221, 3, 214, 2, 1, 9, [(0, 224)]), (75, .ireturn, 1, 1, 0, 0, 0, []), (76, .aload_n 0, 1, 0, 0, 0, 0, []), (77, .iload_n 1, 1, 0, 0, 0, 0, []), (78, .invokevirtual 191, 3, 203, 2, 0, 9, [(0, 225)]), (81, .aload_n 0, 1, 0, 0, 0, 0, []), (82, .getfield 185, 3, 9, 18, 1, 0, [(0, 105)]), (85, .ireturn, 1, 1, 0, 0, 0, [])]]
noncomputable def pm_201 : MR := (14, ⟨"OneAtATimeModel", "isSo", "(II)Z"⟩, prog_12_method_46_code, 3, (some (.boolean)), pgA_201)
set_option maxRecDepth 100000 in
noncomputable def pgA_202 : List (List (Nat × EN)) := [[(0, .aload_n 0, 1, 0, 0, 0, 0, []), (1, .iload_n 1, 1, 0, 0, 0, 0, []), (2, .invokevirtual 191, 3, 203, 2, 0, 9, [(0, 225)]), (5, .iconst 0, 1, 0, 0, 0, 0, []), (6, .istore_n 2, 1, 0, 0, 0, 0, []), (7, .iload_n 2, 1, 0, 0, 0, 0, [(0, 1)]), (8, .sipush 256, 3, 0, 0, 0, 0, []), (11, .if_icmp .ge 21, 3, 32, 0, 0, 0, []), (14, .aload_n 0, 1, 0, 0, 0, 0, []), (15, .getfield 36, 3, 9, 16, 2, 0, [(0, 88)]), (18, .iload_n 2, 1, 0, 0, 0, 0, []), (19, .iaload, 1, 20, 0, 0, 0, []), (20, .iconst 1, 1, 0, 0, 0, 0, []), (21, .if_icmp .le 5, 3, 26, 0, 0, 0, []), (24, .iconst 0, 1, 0, 0, 0, 0, []), (25, .ireturn, 1, 1, 0, 0, 0, []), (26, .iinc 2 1, 3, 0, 0, 0, 0, []), (29, .goto (-22), 3, 7, 0, 0, 0, [])],
  [(32, .iconst 1, 1, 0, 0, 0, 0, []), (33, .ireturn, 1, 1, 0, 0, 0, [])]]
noncomputable def pm_202 : MR := (14, ⟨"OneAtATimeModel", "isClean", "(I)Z"⟩, prog_12_method_38_code, 3, (some (.boolean)), pgA_202)
set_option maxRecDepth 100000 in
noncomputable def pgA_203 : List (List (Nat × EN)) := [[(0, .aload_n 0, 1, 0, 0, 0, 0, []), (1, .getfield 33, 3, 9, 15, 2, 0, [(0, 87)]), (4, .iconst 0, 1, 0, 0, 0, 0, []), (5, .aload_n 0, 1, 0, 0, 0, 0, []), (6, .iload_n 1, 1, 0, 0, 0, 0, []), (7, .iconst 3, 1, 0, 0, 0, 0, []), (8, .invokevirtual 68, 3, 181, 3, 1, 9, [(0, 203)]), (11, .iastore, 1, 20, 0, 0, 0, []), (12, .iconst 0, 1, 0, 0, 0, 0, []), (13, .istore_n 2, 1, 0, 0, 0, 0, []), (14, .iload_n 2, 1, 0, 0, 0, 0, []), (15, .aload_n 0, 1, 0, 0, 0, 0, []), (16, .iload_n 1, 1, 0, 0, 0, 0, []), (17, .invokevirtual 101, 3, 204, 2, 1, 9, [(0, 226)]), (20, .if_icmp .ge 32, 3, 52, 0, 0, 0, []), (23, .aload_n 0, 1, 0, 0, 0, 0, []), (24, .getfield 33, 3, 9, 15, 2, 0, [(0, 87)]), (27, .iload_n 2, 1, 0, 0, 0, 0, []), (28, .iconst 1, 1, 0, 0, 0, 0, []), (29, .iadd, 1, 0, 0, 0, 0, []), (30, .aload_n 0, 1, 0, 0, 0, 0, []), (31, .getfield 33, 3, 9, 15, 2, 0, [(0, 87)])],
  [(34, .iload_n 2, 1, 0, 0, 0, 0, []), (35, .iaload, 1, 20, 0, 0, 0, []), (36, .iconst 1, 1, 0, 0, 0, 0, []), (37, .aload_n 0, 1, 0, 0, 0, 0, []), (38, .iload_n 1, 1, 0, 0, 0, 0, []), (39, .iload_n 2, 1, 0, 0, 0, 0, []), (40, .invokevirtual 104, 3, 205, 3, 1, 9, [(0, 227)]), (43, .ishl, 1, 0, 0, 0, 0, []), (44, .ixor, 1, 0, 0, 0, 0, []), (45, .iastore, 1, 20, 0, 0, 0, []), (46, .iinc 2 1, 3, 0, 0, 0, 0, []), (49, .goto (-35), 3, 14, 0, 0, 0, []), (52, .aload_n 0, 1, 0, 0, 0, 0, []), (53, .aload_n 0, 1, 0, 0, 0, 0, []), (54, .iload_n 1, 1, 0, 0, 0, 0, []), (55, .invokevirtual 101, 3, 204, 2, 1, 9, [(0, 226)]), (58, .ifCond .le 26, 3, 84, 0, 0, 0, []), (61, .aload_n 0, 1, 0, 0, 0, 0, []), (62, .getfield 33, 3, 9, 15, 2, 0, [(0, 87)])],
  [(65, .aload_n 0, 1, 0, 0, 0, 0, []), (66, .iload_n 1, 1, 0, 0, 0, 0, []), (67, .invokevirtual 101, 3, 204, 2, 1, 9, [(0, 226)]), (70, .iaload, 1, 20, 0, 0, 0, []), (71, .aload_n 0, 1, 0, 0, 0, 0, []), (72, .getfield 33, 3, 9, 15, 2, 0, [(0, 87)]), (75, .iconst 0, 1, 0, 0, 0, 0, []), (76, .iaload, 1, 20, 0, 0, 0, []), (77, .if_icmp .ne 7, 3, 84, 0, 0, 0, []), (80, .iconst 1, 1, 0, 0, 0, 0, []), (81, .goto 4, 3, 85, 0, 0, 0, []), (84, .iconst 0, 1, 0, 0, 0, 0, [(0, 2)]), (85, .putfield 185, 3, 9, 18, 1, 0, [(0, 105)]), (88, .aload_n 0, 1, 0, 0, 0, 0, []), (89, .aload_n 0, 1, 0, 0, 0, 0, []), (90, .getfield 185, 3, 9, 18, 1, 0, [(0, 105)]), (93, .ifCond .eq 11, 3, 104, 0, 0, 0, [])],
  [(96, .aload_n 0, 1, 0, 0, 0, 0, []), (97, .iload_n 1, 1, 0, 0, 0, 0, []), (98, .invokevirtual 101, 3, 204, 2, 1, 9, [(0, 226)]), (101, .goto 10, 3, 111, 0, 0, 0, []), (104, .aload_n 0, 1, 0, 0, 0, 0, []), (105, .iload_n 1, 1, 0, 0, 0, 0, []), (106, .invokevirtual 101, 3, 204, 2, 1, 9, [(0, 226)]), (109, .iconst 1, 1, 0, 0, 0, 0, []), (110, .iadd, 1, 0, 0, 0, 0, []), (111, .putfield 188, 3, 9, 17, 0, 0, [(0, 106)]), (114, .iconst 0, 1, 0, 0, 0, 0, []), (115, .istore_n 2, 1, 0, 0, 0, 0, []), (116, .iload_n 2, 1, 0, 0, 0, 0, [(0, 1)]), (117, .sipush 256, 3, 0, 0, 0, 0, []), (120, .if_icmp .ge 16, 3, 136, 0, 0, 0, []), (123, .aload_n 0, 1, 0, 0, 0, 0, []), (124, .getfield 36, 3, 9, 16, 2, 0, [(0, 88)]), (127, .iload_n 2, 1, 0, 0, 0, 0, [])],
  [(128, .iconst 0, 1, 0, 0, 0, 0, []), (129, .iastore, 1, 20, 0, 0, 0, []), (130, .iinc 2 1, 3, 0, 0, 0, 0, []), (133, .goto (-17), 3, 116, 0, 0, 0, []), (136, .iconst 0, 1, 0, 0, 0, 0, []), (137, .istore_n 2, 1, 0, 0, 0, 0, []), (138, .iload_n 2, 1, 0, 0, 0, 0, [(0, 1)]), (139, .aload_n 0, 1, 0, 0, 0, 0, []), (140, .getfield 188, 3, 9, 17, 0, 0, [(0, 106)]), (143, .if_icmp .ge 24, 3, 167, 0, 0, 0, []), (146, .aload_n 0, 1, 0, 0, 0, 0, []), (147, .getfield 36, 3, 9, 16, 2, 0, [(0, 88)]), (150, .aload_n 0, 1, 0, 0, 0, 0, []), (151, .getfield 33, 3, 9, 15, 2, 0, [(0, 87)]), (154, .iload_n 2, 1, 0, 0, 0, 0, []), (155, .iaload, 1, 20, 0, 0, 0, []), (156, .dup2, 1, 0, 0, 0, 0, []), (157, .iaload, 1, 20, 0, 0, 0, []), (158, .iconst 1, 1, 0, 0, 0, 0, []), (159, .iadd, 1, 0, 0, 0, 0, [])],
  [(160, .iastore, 1, 20, 0, 0, 0, []), (161, .iinc 2 1, 3, 0, 0, 0, 0, []), (164, .goto (-26), 3, 138, 0, 0, 0, []), (167, .return_, 1, 0, 0, 0, 0, [])]]
noncomputable def pm_203 : MR := (14, ⟨"OneAtATimeModel", "laysWords", "(I)V"⟩, prog_12_method_37_code, 3, none, pgA_203)
set_option maxRecDepth 100000 in
noncomputable def pgA_204 : List (List (Nat × EN)) := [[(0, .aload_n 0, 1, 0, 0, 0, 0, []), (1, .iload_n 1, 1, 0, 0, 0, 0, []), (2, .iconst 4, 1, 0, 0, 0, 0, []), (3, .invokevirtual 68, 3, 181, 3, 1, 9, [(0, 203)]), (6, .ireturn, 1, 0, 0, 0, 0, [])]]
noncomputable def pm_204 : MR := (14, ⟨"OneAtATimeModel", "many", "(I)I"⟩, prog_12_method_10_code, 2, (some (.int)), pgA_204)
set_option maxRecDepth 100000 in
noncomputable def pgA_205 : List (List (Nat × EN)) := [[(0, .aload_n 0, 1, 0, 0, 0, 0, []), (1, .getfield 13, 3, 9, 0, 2, 0, [(0, 81)]), (4, .sipush 261, 3, 0, 0, 0, 0, []), (7, .iload_n 1, 1, 0, 0, 0, 0, []), (8, .imul, 1, 0, 0, 0, 0, []), (9, .iconst 5, 1, 0, 0, 0, 0, []), (10, .iadd, 1, 0, 0, 0, 0, []), (11, .iload_n 2, 1, 0, 0, 0, 0, []), (12, .iadd, 1, 0, 0, 0, 0, []), (13, .iaload, 1, 20, 0, 0, 0, []), (14, .ireturn, 1, 0, 0, 0, 0, [])]]
noncomputable def pm_205 : MR := (14, ⟨"OneAtATimeModel", "stepAt", "(II)I"⟩, prog_12_method_11_code, 3, (some (.int)), pgA_205)
set_option maxRecDepth 100000 in
noncomputable def pgA_206 : List (List (Nat × EN)) := [[(0, .aload_n 0, 1, 0, 0, 0, 0, []), (1, .iload_n 1, 1, 0, 0, 0, 0, []), (2, .invokevirtual 191, 3, 203, 2, 0, 9, [(0, 225)]), (5, .iconst 0, 1, 0, 0, 0, 0, []), (6, .istore_n 2, 1, 0, 0, 0, 0, []), (7, .iload_n 2, 1, 0, 0, 0, 0, []), (8, .iconst 1, 1, 0, 0, 0, 0, []), (9, .aload_n 0, 1, 0, 0, 0, 0, []), (10, .iload_n 1, 1, 0, 0, 0, 0, []), (11, .invokevirtual 75, 3, 207, 2, 1, 9, [(0, 228)]), (14, .ishl, 1, 0, 0, 0, 0, []), (15, .if_icmp .ge 34, 3, 49, 0, 0, 0, []), (18, .aload_n 0, 1, 0, 0, 0, 0, []), (19, .getfield 36, 3, 9, 16, 2, 0, [(0, 88)]), (22, .iload_n 2, 1, 0, 0, 0, 0, []), (23, .iaload, 1, 20, 0, 0, 0, []), (24, .aload_n 0, 1, 0, 0, 0, 0, []), (25, .iload_n 1, 1, 0, 0, 0, 0, []), (26, .iload_n 2, 1, 0, 0, 0, 0, []), (27, .invokevirtual 194, 3, 208, 3, 1, 9, [(0, 229)]), (30, .ifCond .eq 7, 3, 37, 0, 0, 0, [])],
  [(33, .iconst 1, 1, 0, 0, 0, 0, []), (34, .goto 4, 3, 38, 0, 0, 0, []), (37, .iconst 0, 1, 0, 0, 0, 0, []), (38, .if_icmp .eq 5, 3, 43, 0, 0, 0, []), (41, .iconst 0, 1, 0, 0, 0, 0, []), (42, .ireturn, 1, 1, 0, 0, 0, []), (43, .iinc 2 1, 3, 0, 0, 0, 0, []), (46, .goto (-39), 3, 7, 0, 0, 0, []), (49, .iconst 1, 1, 0, 0, 0, 0, []), (50, .ireturn, 1, 1, 0, 0, 0, [])]]
noncomputable def pm_206 : MR := (14, ⟨"OneAtATimeModel", "isFull", "(I)Z"⟩, prog_12_method_39_code, 3, (some (.boolean)), pgA_206)
set_option maxRecDepth 100000 in
noncomputable def pgA_207 : List (List (Nat × EN)) := [[(0, .aload_n 0, 1, 0, 0, 0, 0, []), (1, .iload_n 1, 1, 0, 0, 0, 0, []), (2, .iconst 0, 1, 0, 0, 0, 0, []), (3, .invokevirtual 68, 3, 181, 3, 1, 9, [(0, 203)]), (6, .ireturn, 1, 0, 0, 0, 0, [])]]
noncomputable def pm_207 : MR := (14, ⟨"OneAtATimeModel", "bits", "(I)I"⟩, prog_12_method_9_code, 2, (some (.int)), pgA_207)
set_option maxRecDepth 100000 in
noncomputable def pgA_208 : List (List (Nat × EN)) := [[(0, .iload_n 2, 1, 0, 0, 0, 0, []), (1, .invokestatic 79, 3, 209, 1, 1, 0, [(0, 230)]), (4, .i2l, 1, 0, 0, 0, 0, []), (5, .aload_n 0, 1, 0, 0, 0, 0, []), (6, .iload_n 1, 1, 0, 0, 0, 0, []), (7, .iconst 1, 1, 0, 0, 0, 0, []), (8, .invokevirtual 68, 3, 181, 3, 1, 9, [(0, 203)]), (11, .i2l, 1, 0, 0, 0, 0, []), (12, .aload_n 0, 1, 0, 0, 0, 0, []), (13, .iload_n 1, 1, 0, 0, 0, 0, []), (14, .iconst 2, 1, 0, 0, 0, 0, []), (15, .invokevirtual 68, 3, 181, 3, 1, 9, [(0, 203)]), (18, .i2l, 1, 0, 0, 0, 0, []), (19, .invokestatic 60, 3, 179, 3, 1, 0, [(0, 202)]), (22, .ireturn, 1, 1, 0, 0, 0, [])]]
noncomputable def pm_208 : MR := (14, ⟨"OneAtATimeModel", "isInScope", "(II)Z"⟩, prog_12_method_14_code, 3, (some (.boolean)), pgA_208)
set_option maxRecDepth 100000 in
noncomputable def pgA_209 : List (List (Nat × EN)) := [[(0, .iconst 0, 1, 0, 0, 0, 0, []), (1, .istore_n 1, 1, 0, 0, 0, 0, []), (2, .iload_n 0, 1, 0, 0, 0, 0, []), (3, .istore_n 2, 1, 0, 0, 0, 0, []), (4, .iload_n 2, 1, 0, 0, 0, 0, [(0, 0)]), (5, .ifCond .eq 15, 3, 20, 0, 0, 0, []), (8, .iinc 1 1, 3, 0, 0, 0, 0, []), (11, .iload_n 2, 1, 0, 0, 0, 0, []), (12, .iload_n 2, 1, 0, 0, 0, 0, []), (13, .iconst 1, 1, 0, 0, 0, 0, []), (14, .isub, 1, 0, 0, 0, 0, []), (15, .iand, 1, 0, 0, 0, 0, []), (16, .istore_n 2, 1, 0, 0, 0, 0, []), (17, .goto (-13), 3, 4, 0, 0, 0, []), (20, .iload_n 1, 1, 0, 0, 0, 0, []), (21, .ireturn, 1, 0, 0, 0, 0, [])]]
noncomputable def pm_209 : MR := (14, ⟨"OneAtATimeModel", "ones", "(I)I"⟩, prog_12_method_3_code, 3, (some (.int)), pgA_209)
set_option maxRecDepth 100000 in
noncomputable def pgA_210 : List (List (Nat × EN)) := [[(0, .aload_n 0, 1, 0, 0, 0, 0, []), (1, .iload_n 1, 1, 0, 0, 0, 0, []), (2, .invokevirtual 191, 3, 203, 2, 0, 9, [(0, 225)]), (5, .iconst 0, 1, 0, 0, 0, 0, []), (6, .istore_n 2, 1, 0, 0, 0, 0, []), (7, .iconst 0, 1, 0, 0, 0, 0, []), (8, .istore_n 3, 1, 0, 0, 0, 0, []), (9, .iload_n 3, 1, 0, 0, 0, 0, [(0, 4)]), (10, .aload_n 0, 1, 0, 0, 0, 0, []), (11, .iload_n 1, 1, 0, 0, 0, 0, []), (12, .invokevirtual 101, 3, 204, 2, 1, 9, [(0, 226)]), (15, .if_icmp .ge 51, 3, 66, 0, 0, 0, []), (18, .aload_n 0, 1, 0, 0, 0, 0, []), (19, .getfield 33, 3, 9, 15, 2, 0, [(0, 87)]), (22, .iload_n 3, 1, 0, 0, 0, 0, []), (23, .iaload, 1, 20, 0, 0, 0, []), (24, .invokestatic 79, 3, 209, 1, 1, 0, [(0, 230)]), (27, .aload_n 0, 1, 0, 0, 0, 0, []), (28, .getfield 33, 3, 9, 15, 2, 0, [(0, 87)]), (31, .iload_n 3, 1, 0, 0, 0, 0, [])],
  [(32, .iconst 1, 1, 0, 0, 0, 0, []), (33, .iadd, 1, 0, 0, 0, 0, []), (34, .iaload, 1, 20, 0, 0, 0, []), (35, .invokestatic 79, 3, 209, 1, 1, 0, [(0, 230)]), (38, .invokestatic 129, 3, 1005, 2, 1, 0, [(0, 213)]), (41, .istore 4, 2, 0, 0, 0, 0, []), (43, .iload_n 2, 1, 0, 0, 0, 0, []), (44, .iload 4, 2, 0, 0, 0, 0, []), (46, .iconst 2, 1, 0, 0, 0, 0, []), (47, .iadd, 1, 0, 0, 0, 0, []), (48, .if_icmp .lt 5, 3, 53, 0, 0, 0, []), (51, .iconst 0, 1, 0, 0, 0, 0, []), (52, .ireturn, 1, 1, 0, 0, 0, []), (53, .iload_n 2, 1, 0, 0, 0, 0, []), (54, .iload 4, 2, 0, 0, 0, 0, []), (56, .invokestatic 197, 3, 1004, 2, 1, 0, [(0, 231)]), (59, .istore_n 2, 1, 0, 0, 0, 0, []), (60, .iinc 3 1, 3, 0, 0, 0, 0, []), (63, .goto (-54), 3, 9, 0, 0, 0, [])],
  [(66, .iconst 1, 1, 0, 0, 0, 0, []), (67, .ireturn, 1, 1, 0, 0, 0, [])]]
noncomputable def pm_210 : MR := (14, ⟨"OneAtATimeModel", "isMonotone", "(I)Z"⟩, prog_12_method_40_code, 5, (some (.boolean)), pgA_210)
set_option maxRecDepth 100000 in
noncomputable def pgA_211 : List (List (Nat × EN)) := [[(0, .aload_n 0, 1, 0, 0, 0, 0, []), (1, .iload_n 1, 1, 0, 0, 0, 0, []), (2, .invokevirtual 200, 3, 202, 2, 1, 9, [(0, 219)]), (5, .ifCond .ne 5, 3, 10, 0, 0, 0, []), (8, .iconst 0, 1, 0, 0, 0, 0, []), (9, .ireturn, 1, 1, 0, 0, 0, []), (10, .iconst 0, 1, 0, 0, 0, 0, []), (11, .istore_n 2, 1, 0, 0, 0, 0, []), (12, .iload_n 2, 1, 0, 0, 0, 0, [(0, 1), (0, 3)]), (13, .aload_n 0, 1, 0, 0, 0, 0, []), (14, .getfield 188, 3, 9, 17, 0, 0, [(0, 106)]), (17, .if_icmp .ge 54, 3, 71, 0, 0, 0, []), (20, .iconst 0, 1, 0, 0, 0, 0, []), (21, .istore_n 3, 1, 0, 0, 0, 0, []), (22, .iload_n 3, 1, 0, 0, 0, 0, [(0, 1)]), (23, .iload_n 2, 1, 0, 0, 0, 0, []), (24, .if_icmp .ge 41, 3, 65, 0, 0, 0, []), (27, .aload_n 0, 1, 0, 0, 0, 0, []), (28, .iload_n 2, 1, 0, 0, 0, 0, []), (29, .iload_n 3, 1, 0, 0, 0, 0, []), (30, .invokevirtual 203, 3, 212, 3, 1, 9, [(0, 232)])],
  [(33, .iconst 1, 1, 0, 0, 0, 0, []), (34, .if_icmp .le 25, 3, 59, 0, 0, 0, []), (37, .aload_n 0, 1, 0, 0, 0, 0, []), (38, .getfield 33, 3, 9, 15, 2, 0, [(0, 87)]), (41, .iload_n 2, 1, 0, 0, 0, 0, []), (42, .iaload, 1, 20, 0, 0, 0, []), (43, .aload_n 0, 1, 0, 0, 0, 0, []), (44, .getfield 33, 3, 9, 15, 2, 0, [(0, 87)]), (47, .iload_n 3, 1, 0, 0, 0, 0, []), (48, .iaload, 1, 20, 0, 0, 0, []), (49, .ixor, 1, 0, 0, 0, 0, []), (50, .invokestatic 79, 3, 209, 1, 1, 0, [(0, 230)]), (53, .iconst 2, 1, 0, 0, 0, 0, []), (54, .if_icmp .ge 5, 3, 59, 0, 0, 0, []), (57, .iconst 0, 1, 0, 0, 0, 0, []), (58, .ireturn, 1, 1, 0, 0, 0, []), (59, .iinc 3 1, 3, 0, 0, 0, 0, [(0, 1)]), (62, .goto (-40), 3, 22, 0, 0, 0, [])],
  [(65, .iinc 2 1, 3, 0, 0, 0, 0, []), (68, .goto (-56), 3, 12, 0, 0, 0, []), (71, .iconst 1, 1, 0, 0, 0, 0, []), (72, .ireturn, 1, 1, 0, 0, 0, [])]]
noncomputable def pm_211 : MR := (14, ⟨"OneAtATimeModel", "isSnake", "(I)Z"⟩, prog_12_method_42_code, 4, (some (.boolean)), pgA_211)
set_option maxRecDepth 100000 in
noncomputable def pgA_212 : List (List (Nat × EN)) := [[(0, .iload_n 1, 1, 0, 0, 0, 0, []), (1, .iload_n 2, 1, 0, 0, 0, 0, []), (2, .if_icmp .ge 9, 3, 11, 0, 0, 0, []), (5, .iload_n 2, 1, 0, 0, 0, 0, []), (6, .iload_n 1, 1, 0, 0, 0, 0, []), (7, .isub, 1, 0, 0, 0, 0, []), (8, .goto 6, 3, 14, 0, 0, 0, []), (11, .iload_n 1, 1, 0, 0, 0, 0, []), (12, .iload_n 2, 1, 0, 0, 0, 0, []), (13, .isub, 1, 0, 0, 0, 0, []), (14, .istore_n 3, 1, 0, 0, 0, 0, [(0, 1), (0, 2), (0, 3)]), (15, .aload_n 0, 1, 0, 0, 0, 0, []), (16, .getfield 185, 3, 9, 18, 1, 0, [(0, 105)]), (19, .ifCond .eq 16, 3, 35, 0, 0, 0, []), (22, .iload_n 3, 1, 0, 0, 0, 0, []), (23, .aload_n 0, 1, 0, 0, 0, 0, []), (24, .getfield 188, 3, 9, 17, 0, 0, [(0, 106)]), (27, .iload_n 3, 1, 0, 0, 0, 0, []), (28, .isub, 1, 0, 0, 0, 0, []), (29, .invokestatic 129, 3, 1005, 2, 1, 0, [(0, 213)])],
  [(32, .goto 4, 3, 36, 0, 0, 0, []), (35, .iload_n 3, 1, 0, 0, 0, 0, []), (36, .ireturn, 1, 0, 0, 0, 0, [(0, 0), (0, 1), (0, 2), (0, 3)])]]
noncomputable def pm_212 : MR := (14, ⟨"OneAtATimeModel", "placesApart", "(II)I"⟩, prog_12_method_41_code, 4, (some (.int)), pgA_212)
set_option maxRecDepth 100000 in
noncomputable def pgA_213 : List (List (Nat × EN)) := [[(0, .aload_n 0, 1, 0, 0, 0, 0, []), (1, .iload_n 1, 1, 0, 0, 0, 0, []), (2, .invokevirtual 191, 3, 203, 2, 0, 9, [(0, 225)]), (5, .aload_n 0, 1, 0, 0, 0, 0, []), (6, .getfield 185, 3, 9, 18, 1, 0, [(0, 105)]), (9, .ifCond .eq 13, 3, 22, 0, 0, 0, []), (12, .aload_n 0, 1, 0, 0, 0, 0, []), (13, .getfield 188, 3, 9, 17, 0, 0, [(0, 106)]), (16, .iconst 2, 1, 0, 0, 0, 0, []), (17, .irem, 1, 0, 0, 0, 0, []), (18, .iconst 1, 1, 0, 0, 0, 0, []), (19, .if_icmp .ne 5, 3, 24, 0, 0, 0, []), (22, .iconst 0, 1, 0, 0, 0, 0, [(0, 0), (0, 1), (0, 2)]), (23, .ireturn, 1, 1, 0, 0, 0, []), (24, .iconst 0, 1, 0, 0, 0, 0, []), (25, .istore_n 2, 1, 0, 0, 0, 0, []), (26, .iload_n 2, 1, 0, 0, 0, 0, []), (27, .aload_n 0, 1, 0, 0, 0, 0, []), (28, .getfield 188, 3, 9, 17, 0, 0, [(0, 106)]), (31, .iconst 2, 1, 0, 0, 0, 0, [])],
  [(32, .idiv, 1, 0, 0, 0, 0, []), (33, .if_icmp .ge 43, 3, 76, 0, 0, 0, []), (36, .aload_n 0, 1, 0, 0, 0, 0, []), (37, .getfield 33, 3, 9, 15, 2, 0, [(0, 87)]), (40, .iload_n 2, 1, 0, 0, 0, 0, []), (41, .iaload, 1, 20, 0, 0, 0, []), (42, .aload_n 0, 1, 0, 0, 0, 0, []), (43, .getfield 33, 3, 9, 15, 2, 0, [(0, 87)]), (46, .iload_n 2, 1, 0, 0, 0, 0, []), (47, .aload_n 0, 1, 0, 0, 0, 0, []), (48, .getfield 188, 3, 9, 17, 0, 0, [(0, 106)]), (51, .iconst 2, 1, 0, 0, 0, 0, []), (52, .idiv, 1, 0, 0, 0, 0, []), (53, .iadd, 1, 0, 0, 0, 0, []), (54, .iaload, 1, 20, 0, 0, 0, []), (55, .ixor, 1, 0, 0, 0, 0, []), (56, .iconst 1, 1, 0, 0, 0, 0, []), (57, .aload_n 0, 1, 0, 0, 0, 0, []), (58, .iload_n 1, 1, 0, 0, 0, 0, []), (59, .invokevirtual 75, 3, 207, 2, 1, 9, [(0, 228)]), (62, .ishl, 1, 0, 0, 0, 0, []), (63, .iconst 1, 1, 0, 0, 0, 0, [])],
  [(64, .isub, 1, 0, 0, 0, 0, []), (65, .if_icmp .eq 5, 3, 70, 0, 0, 0, []), (68, .iconst 0, 1, 0, 0, 0, 0, []), (69, .ireturn, 1, 1, 0, 0, 0, []), (70, .iinc 2 1, 3, 0, 0, 0, 0, []), (73, .goto (-47), 3, 26, 0, 0, 0, []), (76, .iconst 1, 1, 0, 0, 0, 0, []), (77, .ireturn, 1, 1, 0, 0, 0, [])]]
noncomputable def pm_213 : MR := (14, ⟨"OneAtATimeModel", "isOpposite", "(I)Z"⟩, prog_12_method_43_code, 3, (some (.boolean)), pgA_213)
set_option maxRecDepth 100000 in
noncomputable def pgA_214 : List (List (Nat × EN)) := [[(0, .aload_n 0, 1, 0, 0, 0, 0, []), (1, .iload_n 1, 1, 0, 0, 0, 0, []), (2, .invokevirtual 191, 3, 203, 2, 0, 9, [(0, 225)]), (5, .iconst 0, 1, 0, 0, 0, 0, []), (6, .istore_n 2, 1, 0, 0, 0, 0, []), (7, .iload_n 2, 1, 0, 0, 0, 0, []), (8, .aload_n 0, 1, 0, 0, 0, 0, []), (9, .iload_n 1, 1, 0, 0, 0, 0, []), (10, .invokevirtual 75, 3, 207, 2, 1, 9, [(0, 228)]), (13, .if_icmp .ge 27, 3, 40, 0, 0, 0, []), (16, .aload_n 0, 1, 0, 0, 0, 0, []), (17, .getfield 185, 3, 9, 18, 1, 0, [(0, 105)]), (20, .ifCond .eq 12, 3, 32, 0, 0, 0, []), (23, .aload_n 0, 1, 0, 0, 0, 0, []), (24, .iload_n 2, 1, 0, 0, 0, 0, []), (25, .invokevirtual 206, 3, 215, 2, 1, 9, [(0, 233)]), (28, .iconst (-1), 1, 0, 0, 0, 0, []), (29, .if_icmp .ne 5, 3, 34, 0, 0, 0, [])],
  [(32, .iconst 0, 1, 0, 0, 0, 0, [(0, 0), (0, 1), (0, 2)]), (33, .ireturn, 1, 1, 0, 0, 0, []), (34, .iinc 2 1, 3, 0, 0, 0, 0, []), (37, .goto (-30), 3, 7, 0, 0, 0, []), (40, .iconst 1, 1, 0, 0, 0, 0, []), (41, .ireturn, 1, 1, 0, 0, 0, [])]]
noncomputable def pm_214 : MR := (14, ⟨"OneAtATimeModel", "isOneTrack", "(I)Z"⟩, prog_12_method_45_code, 3, (some (.boolean)), pgA_214)
set_option maxRecDepth 100000 in
noncomputable def pgA_215 : List (List (Nat × EN)) := [[(0, .iconst 0, 1, 0, 0, 0, 0, []), (1, .istore_n 2, 1, 0, 0, 0, 0, []), (2, .iload_n 2, 1, 0, 0, 0, 0, [(0, 3), (0, 4)]), (3, .aload_n 0, 1, 0, 0, 0, 0, []), (4, .getfield 188, 3, 9, 17, 0, 0, [(0, 106)]), (7, .if_icmp .ge 77, 3, 84, 0, 0, 0, []), (10, .iconst 1, 1, 0, 0, 0, 0, []), (11, .istore_n 3, 1, 0, 0, 0, 0, []), (12, .iconst 0, 1, 0, 0, 0, 0, []), (13, .istore 4, 2, 0, 0, 0, 0, []), (15, .iload 4, 2, 0, 0, 0, 0, []), (17, .aload_n 0, 1, 0, 0, 0, 0, []), (18, .getfield 188, 3, 9, 17, 0, 0, [(0, 106)]), (21, .if_icmp .ge 51, 3, 72, 0, 0, 0, []), (24, .iload_n 3, 1, 0, 0, 0, 0, []), (25, .ifCond .eq 47, 3, 72, 0, 0, 0, []), (28, .aload_n 0, 1, 0, 0, 0, 0, []), (29, .getfield 33, 3, 9, 15, 2, 0, [(0, 87)])],
  [(32, .iload 4, 2, 0, 0, 0, 0, []), (34, .iaload, 1, 20, 0, 0, 0, []), (35, .iload_n 1, 1, 0, 0, 0, 0, []), (36, .invokestatic 1, 3, 216, 2, 1, 0, [(0, 234)]), (39, .aload_n 0, 1, 0, 0, 0, 0, []), (40, .getfield 33, 3, 9, 15, 2, 0, [(0, 87)]), (43, .iload 4, 2, 0, 0, 0, 0, []), (45, .iload_n 2, 1, 0, 0, 0, 0, []), (46, .iadd, 1, 0, 0, 0, 0, []), (47, .aload_n 0, 1, 0, 0, 0, 0, []), (48, .getfield 188, 3, 9, 17, 0, 0, [(0, 106)]), (51, .irem, 1, 0, 0, 0, 0, []), (52, .iaload, 1, 20, 0, 0, 0, []), (53, .iconst 0, 1, 0, 0, 0, 0, []), (54, .invokestatic 1, 3, 216, 2, 1, 0, [(0, 234)]), (57, .if_icmp .ne 7, 3, 64, 0, 0, 0, []), (60, .iconst 1, 1, 0, 0, 0, 0, []), (61, .goto 4, 3, 65, 0, 0, 0, [])],
  [(64, .iconst 0, 1, 0, 0, 0, 0, []), (65, .istore_n 3, 1, 0, 0, 0, 0, [(0, 3)]), (66, .iinc 4 1, 3, 0, 0, 0, 0, []), (69, .goto (-54), 3, 15, 0, 0, 0, []), (72, .iload_n 3, 1, 0, 0, 0, 0, [(0, 4)]), (73, .ifCond .eq 5, 3, 78, 0, 0, 0, []), (76, .iload_n 2, 1, 0, 0, 0, 0, []), (77, .ireturn, 1, 0, 0, 0, 0, []), (78, .iinc 2 1, 3, 0, 0, 0, 0, []), (81, .goto (-79), 3, 2, 0, 0, 0, []), (84, .iconst (-1), 1, 0, 0, 0, 0, []), (85, .ireturn, 1, 0, 0, 0, 0, [])]]
noncomputable def pm_215 : MR := (14, ⟨"OneAtATimeModel", "shiftOf", "(I)I"⟩, prog_12_method_44_code, 5, (some (.int)), pgA_215)
set_option maxRecDepth 100000 in
noncomputable def pgA_216 : List (List (Nat × EN)) := [[(0, .iload_n 0, 1, 0, 0, 0, 0, []), (1, .iload_n 1, 1, 0, 0, 0, 0, []), (2, .ishr, 1, 0, 0, 0, 0, []), (3, .iconst 1, 1, 0, 0, 0, 0, []), (4, .iand, 1, 0, 0, 0, 0, []), (5, .iconst 1, 1, 0, 0, 0, 0, []), (6, .if_icmp .ne 7, 3, 13, 0, 0, 0, []), (9, .iconst 1, 1, 0, 0, 0, 0, []), (10, .goto 4, 3, 14, 0, 0, 0, []), (13, .iconst 0, 1, 0, 0, 0, 0, []), (14, .ireturn, 1, 1, 0, 0, 0, [(0, 0), (0, 1)])]]
noncomputable def pm_216 : MR := (14, ⟨"OneAtATimeModel", "has", "(II)Z"⟩, prog_12_method_2_code, 2, (some (.boolean)), pgA_216)
set_option maxRecDepth 100000 in
noncomputable def pgA_217 : List (List (Nat × EN)) := [[(0, .aload_n 0, 1, 0, 0, 0, 0, []), (1, .iload_n 1, 1, 0, 0, 0, 0, []), (2, .invokevirtual 72, 3, 180, 2, 1, 9, [(0, 199)]), (5, .ifCond .eq 15, 3, 20, 0, 0, 0, []), (8, .iload_n 2, 1, 0, 0, 0, 0, []), (9, .i2l, 1, 0, 0, 0, 0, []), (10, .lconst 0, 1, 0, 0, 0, 0, []), (11, .ldc2_w 229, 3, 7, 0, 0, 0, [(0, 8)]), (14, .invokestatic 60, 3, 179, 3, 1, 0, [(0, 202)]), (17, .ifCond .ne 6, 3, 23, 0, 0, 0, []), (20, .bipush (-2), 2, 0, 0, 0, 0, [(0, 0), (0, 1), (0, 2), (0, 3), (0, 4), (0, 5)]), (22, .ireturn, 1, 0, 0, 0, 0, []), (23, .iload_n 2, 1, 0, 0, 0, 0, []), (24, .iconst 5, 1, 0, 0, 0, 0, []), (25, .if_icmp .ge 10, 3, 35, 0, 0, 0, []), (28, .aload_n 0, 1, 0, 0, 0, 0, []), (29, .iload_n 1, 1, 0, 0, 0, 0, []), (30, .iload_n 2, 1, 0, 0, 0, 0, []), (31, .invokevirtual 68, 3, 181, 3, 1, 9, [(0, 203)])],
  [(34, .ireturn, 1, 0, 0, 0, 0, []), (35, .aload_n 0, 1, 0, 0, 0, 0, []), (36, .iload_n 1, 1, 0, 0, 0, 0, []), (37, .invokevirtual 191, 3, 203, 2, 0, 9, [(0, 225)]), (40, .iconst 0, 1, 0, 0, 0, 0, []), (41, .istore_n 3, 1, 0, 0, 0, 0, []), (42, .iconst 0, 1, 0, 0, 0, 0, []), (43, .istore 4, 2, 0, 0, 0, 0, []), (45, .iconst 0, 1, 0, 0, 0, 0, []), (46, .istore 5, 2, 0, 0, 0, 0, []), (48, .iload 5, 2, 0, 0, 0, 0, []), (50, .iconst 1, 1, 0, 0, 0, 0, []), (51, .aload_n 0, 1, 0, 0, 0, 0, []), (52, .iload_n 1, 1, 0, 0, 0, 0, []), (53, .invokevirtual 75, 3, 207, 2, 1, 9, [(0, 228)]), (56, .ishl, 1, 0, 0, 0, 0, []), (57, .if_icmp .ge 47, 3, 104, 0, 0, 0, []), (60, .iload_n 3, 1, 0, 0, 0, 0, []), (61, .aload_n 0, 1, 0, 0, 0, 0, []), (62, .getfield 36, 3, 9, 16, 2, 0, [(0, 88)])],
  [(65, .iload 5, 2, 0, 0, 0, 0, []), (67, .iaload, 1, 20, 0, 0, 0, []), (68, .ifCond .le 7, 3, 75, 0, 0, 0, []), (71, .iconst 1, 1, 0, 0, 0, 0, []), (72, .goto 4, 3, 76, 0, 0, 0, []), (75, .iconst 0, 1, 0, 0, 0, 0, []), (76, .iadd, 1, 0, 0, 0, 0, [(0, 3)]), (77, .istore_n 3, 1, 0, 0, 0, 0, []), (78, .iload 4, 2, 0, 0, 0, 0, []), (80, .aload_n 0, 1, 0, 0, 0, 0, []), (81, .iload_n 1, 1, 0, 0, 0, 0, []), (82, .iload 5, 2, 0, 0, 0, 0, []), (84, .invokevirtual 194, 3, 208, 3, 1, 9, [(0, 229)]), (87, .ifCond .eq 7, 3, 94, 0, 0, 0, []), (90, .iconst 1, 1, 0, 0, 0, 0, []), (91, .goto 4, 3, 95, 0, 0, 0, []), (94, .iconst 0, 1, 0, 0, 0, 0, []), (95, .iadd, 1, 0, 0, 0, 0, [(0, 4)])],
  [(96, .istore 4, 2, 0, 0, 0, 0, []), (98, .iinc 5 1, 3, 0, 0, 0, 0, []), (101, .goto (-53), 3, 48, 0, 0, 0, []), (104, .iload_n 2, 1, 0, 0, 0, 0, []), (105, .iconst 5, 1, 0, 0, 0, 0, []), (106, .if_icmp .ne 10, 3, 116, 0, 0, 0, []), (109, .aload_n 0, 1, 0, 0, 0, 0, []), (110, .getfield 188, 3, 9, 17, 0, 0, [(0, 106)]), (113, .goto 15, 3, 128, 0, 0, 0, []), (116, .iload_n 2, 1, 0, 0, 0, 0, []), (117, .bipush 6, 2, 0, 0, 0, 0, []), (119, .if_icmp .ne 7, 3, 126, 0, 0, 0, []), (122, .iload_n 3, 1, 0, 0, 0, 0, []), (123, .goto 5, 3, 128, 0, 0, 0, []), (126, .iload 4, 2, 0, 0, 0, 0, [])],
  [(128, .ireturn, 1, 0, 0, 0, 0, [(0, 0), (0, 1), (0, 2), (0, 3), (0, 4), (0, 5)])]]
noncomputable def pm_217 : MR := (14, ⟨"OneAtATimeModel", "look", "(II)I"⟩, prog_12_method_48_code, 6, (some (.int)), pgA_217)
set_option maxRecDepth 100000 in
noncomputable def pgA_218 : List (List (Nat × EN)) := [[(0, .aload_n 0, 1, 0, 0, 0, 0, []), (1, .iload_n 1, 1, 0, 0, 0, 0, []), (2, .invokevirtual 72, 3, 180, 2, 1, 9, [(0, 199)]), (5, .ifCond .eq 7, 3, 12, 0, 0, 0, []), (8, .iload_n 2, 1, 0, 0, 0, 0, []), (9, .ifCond .ge 6, 3, 15, 0, 0, 0, []), (12, .bipush (-2), 2, 0, 0, 0, 0, [(0, 0), (0, 1), (0, 2)]), (14, .ireturn, 1, 0, 0, 0, 0, []), (15, .aload_n 0, 1, 0, 0, 0, 0, []), (16, .iload_n 1, 1, 0, 0, 0, 0, []), (17, .invokevirtual 191, 3, 203, 2, 0, 9, [(0, 225)]), (20, .iload_n 2, 1, 0, 0, 0, 0, []), (21, .aload_n 0, 1, 0, 0, 0, 0, []), (22, .iload_n 1, 1, 0, 0, 0, 0, []), (23, .invokevirtual 101, 3, 204, 2, 1, 9, [(0, 226)]), (26, .if_icmp .gt 12, 3, 38, 0, 0, 0, []), (29, .aload_n 0, 1, 0, 0, 0, 0, []), (30, .getfield 33, 3, 9, 15, 2, 0, [(0, 87)])],
  [(33, .iload_n 2, 1, 0, 0, 0, 0, []), (34, .iaload, 1, 20, 0, 0, 0, []), (35, .goto 4, 3, 39, 0, 0, 0, []), (38, .iconst (-1), 1, 0, 0, 0, 0, []), (39, .ireturn, 1, 0, 0, 0, 0, [(0, 0), (0, 1), (0, 2)])]]
noncomputable def pm_218 : MR := (14, ⟨"OneAtATimeModel", "word", "(II)I"⟩, prog_12_method_49_code, 3, (some (.int)), pgA_218)
set_option maxRecDepth 100000 in
noncomputable def pgA_219 : List (List (Nat × EN)) := [[(0, .aload_n 0, 1, 0, 0, 0, 0, []), (1, .iload_n 1, 1, 0, 0, 0, 0, []), (2, .invokevirtual 72, 3, 180, 2, 1, 9, [(0, 199)]), (5, .ifCond .eq 7, 3, 12, 0, 0, 0, []), (8, .iload_n 2, 1, 0, 0, 0, 0, []), (9, .ifCond .ge 8, 3, 17, 0, 0, 0, []), (12, .bipush (-2), 2, 0, 0, 0, 0, [(0, 0), (0, 1), (0, 2)]), (14, .goto 22, 3, 36, 0, 0, 0, []), (17, .iload_n 2, 1, 0, 0, 0, 0, []), (18, .aload_n 0, 1, 0, 0, 0, 0, []), (19, .iload_n 1, 1, 0, 0, 0, 0, []), (20, .invokevirtual 101, 3, 204, 2, 1, 9, [(0, 226)]), (23, .if_icmp .ge 12, 3, 35, 0, 0, 0, []), (26, .aload_n 0, 1, 0, 0, 0, 0, []), (27, .iload_n 1, 1, 0, 0, 0, 0, []), (28, .iload_n 2, 1, 0, 0, 0, 0, []), (29, .invokevirtual 104, 3, 205, 3, 1, 9, [(0, 227)])],
  [(32, .goto 4, 3, 36, 0, 0, 0, []), (35, .iconst (-1), 1, 0, 0, 0, 0, []), (36, .ireturn, 1, 0, 0, 0, 0, [(0, 0), (0, 1), (0, 2)])]]
noncomputable def pm_219 : MR := (14, ⟨"OneAtATimeModel", "step", "(II)I"⟩, prog_12_method_50_code, 3, (some (.int)), pgA_219)
set_option maxRecDepth 100000 in
noncomputable def pgA_220 : List (List (Nat × EN)) := [[(0, .aload_n 0, 1, 0, 0, 0, 0, []), (1, .iload_n 1, 1, 0, 0, 0, 0, []), (2, .iload_n 2, 1, 0, 0, 0, 0, []), (3, .invokevirtual 231, 3, 221, 3, 1, 9, [(0, 235)]), (6, .ifCond .eq 7, 3, 13, 0, 0, 0, []), (9, .iload_n 3, 1, 0, 0, 0, 0, []), (10, .ifCond .ge 6, 3, 16, 0, 0, 0, []), (13, .bipush (-2), 2, 0, 0, 0, 0, [(0, 0), (0, 1), (0, 2), (0, 3), (0, 4), (0, 5)]), (15, .ireturn, 1, 0, 0, 0, 0, []), (16, .aload_n 0, 1, 0, 0, 0, 0, []), (17, .iload_n 1, 1, 0, 0, 0, 0, []), (18, .invokevirtual 191, 3, 203, 2, 0, 9, [(0, 225)]), (21, .iload_n 3, 1, 0, 0, 0, 0, []), (22, .istore 4, 2, 0, 0, 0, 0, []), (24, .iconst 0, 1, 0, 0, 0, 0, []), (25, .istore 5, 2, 0, 0, 0, 0, []), (27, .iload 5, 2, 0, 0, 0, 0, [(0, 1), (0, 3)]), (29, .aload_n 0, 1, 0, 0, 0, 0, []), (30, .getfield 188, 3, 9, 17, 0, 0, [(0, 106)])],
  [(33, .if_icmp .ge 31, 3, 64, 0, 0, 0, []), (36, .aload_n 0, 1, 0, 0, 0, 0, []), (37, .getfield 33, 3, 9, 15, 2, 0, [(0, 87)]), (40, .iload 5, 2, 0, 0, 0, 0, []), (42, .iaload, 1, 20, 0, 0, 0, []), (43, .iload_n 2, 1, 0, 0, 0, 0, []), (44, .if_icmp .ne 14, 3, 58, 0, 0, 0, []), (47, .iload 4, 2, 0, 0, 0, 0, []), (49, .ifCond .ne 6, 3, 55, 0, 0, 0, []), (52, .iload 5, 2, 0, 0, 0, 0, []), (54, .ireturn, 1, 0, 0, 0, 0, []), (55, .iinc 4 (-1), 3, 0, 0, 0, 0, []), (58, .iinc 5 1, 3, 0, 0, 0, 0, [(0, 1), (0, 3)]), (61, .goto (-34), 3, 27, 0, 0, 0, [])],
  [(64, .iconst (-1), 1, 0, 0, 0, 0, []), (65, .ireturn, 1, 0, 0, 0, 0, [])]]
noncomputable def pm_220 : MR := (14, ⟨"OneAtATimeModel", "where", "(III)I"⟩, prog_12_method_51_code, 6, (some (.int)), pgA_220)
set_option maxRecDepth 100000 in
noncomputable def pgA_221 : List (List (Nat × EN)) := [[(0, .aload_n 0, 1, 0, 0, 0, 0, []), (1, .iload_n 1, 1, 0, 0, 0, 0, []), (2, .invokevirtual 72, 3, 180, 2, 1, 9, [(0, 199)]), (5, .ifCond .eq 26, 3, 31, 0, 0, 0, []), (8, .iload_n 2, 1, 0, 0, 0, 0, []), (9, .i2l, 1, 0, 0, 0, 0, []), (10, .lconst 0, 1, 0, 0, 0, 0, []), (11, .iconst 1, 1, 0, 0, 0, 0, []), (12, .aload_n 0, 1, 0, 0, 0, 0, []), (13, .iload_n 1, 1, 0, 0, 0, 0, []), (14, .invokevirtual 75, 3, 207, 2, 1, 9, [(0, 228)]), (17, .ishl, 1, 0, 0, 0, 0, []), (18, .iconst 1, 1, 0, 0, 0, 0, []), (19, .isub, 1, 0, 0, 0, 0, []), (20, .i2l, 1, 0, 0, 0, 0, []), (21, .invokestatic 60, 3, 179, 3, 1, 0, [(0, 202)]), (24, .ifCond .eq 7, 3, 31, 0, 0, 0, []), (27, .iconst 1, 1, 0, 0, 0, 0, []), (28, .goto 4, 3, 32, 0, 0, 0, []), (31, .iconst 0, 1, 0, 0, 0, 0, [(0, 0), (0, 1), (0, 2)])],
  [(32, .ireturn, 1, 1, 0, 0, 0, [(0, 0), (0, 1), (0, 2)])]]
noncomputable def pm_221 : MR := (14, ⟨"OneAtATimeModel", "isWordOf", "(II)Z"⟩, prog_12_method_13_code, 3, (some (.boolean)), pgA_221)
set_option maxRecDepth 100000 in
noncomputable def pgA_222 : List (List (Nat × EN)) := [[(0, .aload_n 0, 1, 0, 0, 0, 0, []), (1, .iload_n 1, 1, 0, 0, 0, 0, []), (2, .invokevirtual 72, 3, 180, 2, 1, 9, [(0, 199)]), (5, .ifCond .eq 7, 3, 12, 0, 0, 0, []), (8, .iload_n 2, 1, 0, 0, 0, 0, []), (9, .ifCond .ge 6, 3, 15, 0, 0, 0, []), (12, .bipush (-2), 2, 0, 0, 0, 0, [(0, 0), (0, 1), (0, 2), (0, 3), (0, 4)]), (14, .ireturn, 1, 0, 0, 0, 0, []), (15, .aload_n 0, 1, 0, 0, 0, 0, []), (16, .iload_n 1, 1, 0, 0, 0, 0, []), (17, .invokevirtual 191, 3, 203, 2, 0, 9, [(0, 225)]), (20, .iload_n 2, 1, 0, 0, 0, 0, []), (21, .istore_n 3, 1, 0, 0, 0, 0, []), (22, .iconst 0, 1, 0, 0, 0, 0, []), (23, .istore 4, 2, 0, 0, 0, 0, []), (25, .iload 4, 2, 0, 0, 0, 0, [(0, 2)]), (27, .iconst 1, 1, 0, 0, 0, 0, []), (28, .aload_n 0, 1, 0, 0, 0, 0, []), (29, .iload_n 1, 1, 0, 0, 0, 0, []), (30, .invokevirtual 75, 3, 207, 2, 1, 9, [(0, 228)])],
  [(33, .ishl, 1, 0, 0, 0, 0, []), (34, .if_icmp .ge 39, 3, 73, 0, 0, 0, []), (37, .aload_n 0, 1, 0, 0, 0, 0, []), (38, .iload_n 1, 1, 0, 0, 0, 0, []), (39, .iload 4, 2, 0, 0, 0, 0, []), (41, .invokevirtual 194, 3, 208, 3, 1, 9, [(0, 229)]), (44, .ifCond .eq 23, 3, 67, 0, 0, 0, []), (47, .aload_n 0, 1, 0, 0, 0, 0, []), (48, .getfield 36, 3, 9, 16, 2, 0, [(0, 88)]), (51, .iload 4, 2, 0, 0, 0, 0, []), (53, .iaload, 1, 20, 0, 0, 0, []), (54, .ifCond .ne 13, 3, 67, 0, 0, 0, []), (57, .iload_n 3, 1, 0, 0, 0, 0, []), (58, .ifCond .ne 6, 3, 64, 0, 0, 0, []), (61, .iload 4, 2, 0, 0, 0, 0, []), (63, .ireturn, 1, 0, 0, 0, 0, [])],
  [(64, .iinc 3 (-1), 3, 0, 0, 0, 0, []), (67, .iinc 4 1, 3, 0, 0, 0, 0, [(0, 2)]), (70, .goto (-45), 3, 25, 0, 0, 0, []), (73, .iconst (-1), 1, 0, 0, 0, 0, []), (74, .ireturn, 1, 0, 0, 0, 0, [])]]
noncomputable def pm_222 : MR := (14, ⟨"OneAtATimeModel", "lacks", "(II)I"⟩, prog_12_method_52_code, 5, (some (.int)), pgA_222)
set_option maxRecDepth 100000 in
noncomputable def pgA_223 : List (List (Nat × EN)) := [[(0, .aload_n 0, 1, 0, 0, 0, 0, []), (1, .iload_n 1, 1, 0, 0, 0, 0, []), (2, .iload_n 2, 1, 0, 0, 0, 0, []), (3, .invokevirtual 234, 3, 224, 3, 1, 9, [(0, 236)]), (6, .ifCond .eq 12, 3, 18, 0, 0, 0, []), (9, .aload_n 0, 1, 0, 0, 0, 0, []), (10, .iload_n 1, 1, 0, 0, 0, 0, []), (11, .iload_n 2, 1, 0, 0, 0, 0, []), (12, .invokevirtual 237, 3, 225, 3, 1, 9, [(0, 237)]), (15, .goto 5, 3, 20, 0, 0, 0, []), (18, .bipush (-2), 2, 0, 0, 0, 0, []), (20, .ireturn, 1, 0, 0, 0, 0, [(0, 0), (0, 1), (0, 2)])]]
noncomputable def pm_223 : MR := (14, ⟨"OneAtATimeModel", "turned", "(II)I"⟩, prog_12_method_54_code, 3, (some (.int)), pgA_223)
set_option maxRecDepth 100000 in
noncomputable def pgA_224 : List (List (Nat × EN)) := [[(0, .aload_n 0, 1, 0, 0, 0, 0, []), (1, .iload_n 1, 1, 0, 0, 0, 0, []), (2, .invokevirtual 72, 3, 180, 2, 1, 9, [(0, 199)]), (5, .ifCond .eq 24, 3, 29, 0, 0, 0, []), (8, .iload_n 2, 1, 0, 0, 0, 0, []), (9, .i2l, 1, 0, 0, 0, 0, []), (10, .lconst 0, 1, 0, 0, 0, 0, []), (11, .aload_n 0, 1, 0, 0, 0, 0, []), (12, .iload_n 1, 1, 0, 0, 0, 0, []), (13, .invokevirtual 75, 3, 207, 2, 1, 9, [(0, 228)]), (16, .iconst 1, 1, 0, 0, 0, 0, []), (17, .isub, 1, 0, 0, 0, 0, []), (18, .i2l, 1, 0, 0, 0, 0, []), (19, .invokestatic 60, 3, 179, 3, 1, 0, [(0, 202)]), (22, .ifCond .eq 7, 3, 29, 0, 0, 0, []), (25, .iconst 1, 1, 0, 0, 0, 0, []), (26, .goto 4, 3, 30, 0, 0, 0, []), (29, .iconst 0, 1, 0, 0, 0, 0, [(0, 0), (0, 1), (0, 2)]), (30, .ireturn, 1, 1, 0, 0, 0, [(0, 0), (0, 1), (0, 2)])]]
noncomputable def pm_224 : MR := (14, ⟨"OneAtATimeModel", "isBit", "(II)Z"⟩, prog_12_method_12_code, 3, (some (.boolean)), pgA_224)
set_option maxRecDepth 100000 in
noncomputable def pgA_225 : List (List (Nat × EN)) := [[(0, .iconst 0, 1, 0, 0, 0, 0, []), (1, .istore_n 3, 1, 0, 0, 0, 0, []), (2, .iconst 0, 1, 0, 0, 0, 0, []), (3, .istore 4, 2, 0, 0, 0, 0, []), (5, .iload 4, 2, 0, 0, 0, 0, []), (7, .aload_n 0, 1, 0, 0, 0, 0, []), (8, .iload_n 1, 1, 0, 0, 0, 0, []), (9, .invokevirtual 101, 3, 204, 2, 1, 9, [(0, 226)]), (12, .if_icmp .ge 28, 3, 40, 0, 0, 0, []), (15, .iload_n 3, 1, 0, 0, 0, 0, []), (16, .aload_n 0, 1, 0, 0, 0, 0, []), (17, .iload_n 1, 1, 0, 0, 0, 0, []), (18, .iload 4, 2, 0, 0, 0, 0, []), (20, .invokevirtual 104, 3, 205, 3, 1, 9, [(0, 227)]), (23, .iload_n 2, 1, 0, 0, 0, 0, []), (24, .if_icmp .ne 7, 3, 31, 0, 0, 0, []), (27, .iconst 1, 1, 0, 0, 0, 0, []), (28, .goto 4, 3, 32, 0, 0, 0, []), (31, .iconst 0, 1, 0, 0, 0, 0, [])],
  [(32, .iadd, 1, 0, 0, 0, 0, [(0, 3)]), (33, .istore_n 3, 1, 0, 0, 0, 0, []), (34, .iinc 4 1, 3, 0, 0, 0, 0, []), (37, .goto (-32), 3, 5, 0, 0, 0, []), (40, .iload_n 3, 1, 0, 0, 0, 0, []), (41, .ireturn, 1, 0, 0, 0, 0, [])]]
noncomputable def pm_225 : MR := (14, ⟨"OneAtATimeModel", "turnedOf", "(II)I"⟩, prog_12_method_53_code, 5, (some (.int)), pgA_225)
set_option maxRecDepth 100000 in
noncomputable def pgA_226 : List (List (Nat × EN)) := [[(0, .aload_n 0, 1, 0, 0, 0, 0, []), (1, .iload_n 1, 1, 0, 0, 0, 0, []), (2, .iload_n 2, 1, 0, 0, 0, 0, []), (3, .invokevirtual 234, 3, 224, 3, 1, 9, [(0, 236)]), (6, .ifCond .ne 6, 3, 12, 0, 0, 0, []), (9, .bipush (-2), 2, 0, 0, 0, 0, []), (11, .ireturn, 1, 0, 0, 0, 0, []), (12, .iconst 0, 1, 0, 0, 0, 0, []), (13, .istore_n 3, 1, 0, 0, 0, 0, []), (14, .iload_n 3, 1, 0, 0, 0, 0, [(0, 4), (0, 5)]), (15, .aload_n 0, 1, 0, 0, 0, 0, []), (16, .iload_n 1, 1, 0, 0, 0, 0, []), (17, .invokevirtual 75, 3, 207, 2, 1, 9, [(0, 228)]), (20, .if_icmp .ge 87, 3, 107, 0, 0, 0, []), (23, .iconst 0, 1, 0, 0, 0, 0, []), (24, .istore 4, 2, 0, 0, 0, 0, []), (26, .iconst 0, 1, 0, 0, 0, 0, []), (27, .istore 5, 2, 0, 0, 0, 0, []), (29, .iload 5, 2, 0, 0, 0, 0, []), (31, .aload_n 0, 1, 0, 0, 0, 0, [])],
  [(32, .iload_n 1, 1, 0, 0, 0, 0, []), (33, .invokevirtual 75, 3, 207, 2, 1, 9, [(0, 228)]), (36, .if_icmp .ge 57, 3, 93, 0, 0, 0, []), (39, .iload 4, 2, 0, 0, 0, 0, []), (41, .aload_n 0, 1, 0, 0, 0, 0, []), (42, .iload_n 1, 1, 0, 0, 0, 0, []), (43, .iload 5, 2, 0, 0, 0, 0, []), (45, .invokevirtual 237, 3, 225, 3, 1, 9, [(0, 237)]), (48, .aload_n 0, 1, 0, 0, 0, 0, []), (49, .iload_n 1, 1, 0, 0, 0, 0, []), (50, .iload_n 3, 1, 0, 0, 0, 0, []), (51, .invokevirtual 237, 3, 225, 3, 1, 9, [(0, 237)]), (54, .if_icmp .gt 25, 3, 79, 0, 0, 0, []), (57, .aload_n 0, 1, 0, 0, 0, 0, []), (58, .iload_n 1, 1, 0, 0, 0, 0, []), (59, .iload 5, 2, 0, 0, 0, 0, []), (61, .invokevirtual 237, 3, 225, 3, 1, 9, [(0, 237)])],
  [(64, .aload_n 0, 1, 0, 0, 0, 0, []), (65, .iload_n 1, 1, 0, 0, 0, 0, []), (66, .iload_n 3, 1, 0, 0, 0, 0, []), (67, .invokevirtual 237, 3, 225, 3, 1, 9, [(0, 237)]), (70, .if_icmp .ne 13, 3, 83, 0, 0, 0, []), (73, .iload 5, 2, 0, 0, 0, 0, []), (75, .iload_n 3, 1, 0, 0, 0, 0, []), (76, .if_icmp .ge 7, 3, 83, 0, 0, 0, []), (79, .iconst 1, 1, 0, 0, 0, 0, [(0, 4)]), (80, .goto 4, 3, 84, 0, 0, 0, []), (83, .iconst 0, 1, 0, 0, 0, 0, [(0, 4)]), (84, .iadd, 1, 0, 0, 0, 0, [(0, 4)]), (85, .istore 4, 2, 0, 0, 0, 0, []), (87, .iinc 5 1, 3, 0, 0, 0, 0, []), (90, .goto (-61), 3, 29, 0, 0, 0, []), (93, .iload 4, 2, 0, 0, 0, 0, []), (95, .iload_n 2, 1, 0, 0, 0, 0, [])],
  [(96, .if_icmp .ne 5, 3, 101, 0, 0, 0, []), (99, .iload_n 3, 1, 0, 0, 0, 0, []), (100, .ireturn, 1, 0, 0, 0, 0, []), (101, .iinc 3 1, 3, 0, 0, 0, 0, []), (104, .goto (-90), 3, 14, 0, 0, 0, []), (107, .iconst (-1), 1, 0, 0, 0, 0, []), (108, .ireturn, 1, 0, 0, 0, 0, [])]]
noncomputable def pm_226 : MR := (14, ⟨"OneAtATimeModel", "order", "(II)I"⟩, prog_12_method_55_code, 6, (some (.int)), pgA_226)
set_option maxRecDepth 100000 in
noncomputable def pgA_227 : List (List (Nat × EN)) := [[(0, .aload_n 0, 1, 0, 0, 0, 0, []), (1, .iload_n 1, 1, 0, 0, 0, 0, []), (2, .invokevirtual 72, 3, 180, 2, 1, 9, [(0, 199)]), (5, .ifCond .ne 6, 3, 11, 0, 0, 0, []), (8, .bipush (-2), 2, 0, 0, 0, 0, []), (10, .ireturn, 1, 0, 0, 0, 0, []), (11, .aload_n 0, 1, 0, 0, 0, 0, []), (12, .iload_n 1, 1, 0, 0, 0, 0, []), (13, .aload_n 0, 1, 0, 0, 0, 0, []), (14, .iload_n 1, 1, 0, 0, 0, 0, []), (15, .iconst 0, 1, 0, 0, 0, 0, []), (16, .invokevirtual 240, 3, 226, 3, 1, 9, [(0, 238)]), (19, .invokevirtual 237, 3, 225, 3, 1, 9, [(0, 237)]), (22, .aload_n 0, 1, 0, 0, 0, 0, []), (23, .iload_n 1, 1, 0, 0, 0, 0, []), (24, .aload_n 0, 1, 0, 0, 0, 0, []), (25, .iload_n 1, 1, 0, 0, 0, 0, []), (26, .aload_n 0, 1, 0, 0, 0, 0, []), (27, .iload_n 1, 1, 0, 0, 0, 0, []), (28, .invokevirtual 75, 3, 207, 2, 1, 9, [(0, 228)]), (31, .iconst 1, 1, 0, 0, 0, 0, [])],
  [(32, .isub, 1, 0, 0, 0, 0, []), (33, .invokevirtual 240, 3, 226, 3, 1, 9, [(0, 238)]), (36, .invokevirtual 237, 3, 225, 3, 1, 9, [(0, 237)]), (39, .isub, 1, 0, 0, 0, 0, []), (40, .ireturn, 1, 0, 0, 0, 0, [])]]
noncomputable def pm_227 : MR := (14, ⟨"OneAtATimeModel", "uneven", "(I)I"⟩, prog_12_method_56_code, 2, (some (.int)), pgA_227)
set_option maxRecDepth 100000 in
noncomputable def pgA_228 : List (List (Nat × EN)) := [[(0, .aload_n 0, 1, 0, 0, 0, 0, []), (1, .iload_n 1, 1, 0, 0, 0, 0, []), (2, .invokevirtual 72, 3, 180, 2, 1, 9, [(0, 199)]), (5, .ifCond .eq 17, 3, 22, 0, 0, 0, []), (8, .iload_n 2, 1, 0, 0, 0, 0, []), (9, .iconst (-1), 1, 0, 0, 0, 0, []), (10, .if_icmp .eq 15, 3, 25, 0, 0, 0, []), (13, .aload_n 0, 1, 0, 0, 0, 0, []), (14, .iload_n 1, 1, 0, 0, 0, 0, []), (15, .iload_n 2, 1, 0, 0, 0, 0, []), (16, .invokevirtual 234, 3, 224, 3, 1, 9, [(0, 236)]), (19, .ifCond .ne 6, 3, 25, 0, 0, 0, []), (22, .bipush (-2), 2, 0, 0, 0, 0, [(0, 0), (0, 1), (0, 2), (0, 3), (0, 4), (0, 5)]), (24, .ireturn, 1, 0, 0, 0, 0, []), (25, .iload_n 2, 1, 0, 0, 0, 0, [(0, 3), (0, 4), (0, 5)]), (26, .iconst (-1), 1, 0, 0, 0, 0, []), (27, .if_icmp .eq 10, 3, 37, 0, 0, 0, []), (30, .aload_n 0, 1, 0, 0, 0, 0, []), (31, .iload_n 1, 1, 0, 0, 0, 0, [])],
  [(32, .iload_n 2, 1, 0, 0, 0, 0, []), (33, .invokevirtual 243, 3, 229, 3, 1, 9, [(0, 239)]), (36, .ireturn, 1, 0, 0, 0, 0, []), (37, .iconst (-1), 1, 0, 0, 0, 0, []), (38, .istore_n 3, 1, 0, 0, 0, 0, []), (39, .iconst 0, 1, 0, 0, 0, 0, []), (40, .istore 4, 2, 0, 0, 0, 0, []), (42, .iload 4, 2, 0, 0, 0, 0, [(0, 2), (0, 5)]), (44, .aload_n 0, 1, 0, 0, 0, 0, []), (45, .iload_n 1, 1, 0, 0, 0, 0, []), (46, .invokevirtual 75, 3, 207, 2, 1, 9, [(0, 228)]), (49, .if_icmp .ge 42, 3, 91, 0, 0, 0, []), (52, .aload_n 0, 1, 0, 0, 0, 0, []), (53, .iload_n 1, 1, 0, 0, 0, 0, []), (54, .iload 4, 2, 0, 0, 0, 0, []), (56, .invokevirtual 243, 3, 229, 3, 1, 9, [(0, 239)]), (59, .istore 5, 2, 0, 0, 0, 0, []), (61, .iload 5, 2, 0, 0, 0, 0, []), (63, .iconst (-1), 1, 0, 0, 0, 0, [])],
  [(64, .if_icmp .eq 19, 3, 83, 0, 0, 0, []), (67, .iload_n 3, 1, 0, 0, 0, 0, []), (68, .iconst (-1), 1, 0, 0, 0, 0, []), (69, .if_icmp .eq 9, 3, 78, 0, 0, 0, []), (72, .iload 5, 2, 0, 0, 0, 0, []), (74, .iload_n 3, 1, 0, 0, 0, 0, []), (75, .if_icmp .ge 8, 3, 83, 0, 0, 0, []), (78, .iload 5, 2, 0, 0, 0, 0, [(0, 2), (0, 3)]), (80, .goto 4, 3, 84, 0, 0, 0, []), (83, .iload_n 3, 1, 0, 0, 0, 0, [(0, 2), (0, 5)]), (84, .istore_n 3, 1, 0, 0, 0, 0, [(0, 2), (0, 3), (0, 5)]), (85, .iinc 4 1, 3, 0, 0, 0, 0, []), (88, .goto (-46), 3, 42, 0, 0, 0, []), (91, .iload_n 3, 1, 0, 0, 0, 0, []), (92, .ireturn, 1, 0, 0, 0, 0, [])]]
noncomputable def pm_228 : MR := (14, ⟨"OneAtATimeModel", "gap", "(II)I"⟩, prog_12_method_58_code, 6, (some (.int)), pgA_228)
set_option maxRecDepth 100000 in
noncomputable def pgA_229 : List (List (Nat × EN)) := [[(0, .iconst (-1), 1, 0, 0, 0, 0, []), (1, .istore_n 3, 1, 0, 0, 0, 0, []), (2, .iconst (-1), 1, 0, 0, 0, 0, []), (3, .istore 4, 2, 0, 0, 0, 0, []), (5, .iconst (-1), 1, 0, 0, 0, 0, []), (6, .istore 5, 2, 0, 0, 0, 0, []), (8, .iconst 0, 1, 0, 0, 0, 0, []), (9, .istore 6, 2, 0, 0, 0, 0, []), (11, .iload 6, 2, 0, 0, 0, 0, []), (13, .aload_n 0, 1, 0, 0, 0, 0, []), (14, .iload_n 1, 1, 0, 0, 0, 0, []), (15, .invokevirtual 101, 3, 204, 2, 1, 9, [(0, 226)]), (18, .if_icmp .ge 72, 3, 90, 0, 0, 0, []), (21, .aload_n 0, 1, 0, 0, 0, 0, []), (22, .iload_n 1, 1, 0, 0, 0, 0, []), (23, .iload 6, 2, 0, 0, 0, 0, []), (25, .invokevirtual 104, 3, 205, 3, 1, 9, [(0, 227)]), (28, .iload_n 2, 1, 0, 0, 0, 0, []), (29, .if_icmp .eq 6, 3, 35, 0, 0, 0, [])],
  [(32, .goto 52, 3, 84, 0, 0, 0, []), (35, .iload 4, 2, 0, 0, 0, 0, []), (37, .iconst (-1), 1, 0, 0, 0, 0, []), (38, .if_icmp .eq 25, 3, 63, 0, 0, 0, []), (41, .iload_n 3, 1, 0, 0, 0, 0, []), (42, .iconst (-1), 1, 0, 0, 0, 0, []), (43, .if_icmp .eq 12, 3, 55, 0, 0, 0, []), (46, .iload 6, 2, 0, 0, 0, 0, []), (48, .iload 4, 2, 0, 0, 0, 0, []), (50, .isub, 1, 0, 0, 0, 0, []), (51, .iload_n 3, 1, 0, 0, 0, 0, []), (52, .if_icmp .ge 11, 3, 63, 0, 0, 0, []), (55, .iload 6, 2, 0, 0, 0, 0, [(0, 3)]), (57, .iload 4, 2, 0, 0, 0, 0, []), (59, .isub, 1, 0, 0, 0, 0, []), (60, .goto 4, 3, 64, 0, 0, 0, []), (63, .iload_n 3, 1, 0, 0, 0, 0, [(0, 4)])],
  [(64, .istore_n 3, 1, 0, 0, 0, 0, [(0, 3), (0, 4)]), (65, .iload 5, 2, 0, 0, 0, 0, []), (67, .iconst (-1), 1, 0, 0, 0, 0, []), (68, .if_icmp .ne 8, 3, 76, 0, 0, 0, []), (71, .iload 6, 2, 0, 0, 0, 0, []), (73, .goto 5, 3, 78, 0, 0, 0, []), (76, .iload 5, 2, 0, 0, 0, 0, []), (78, .istore 5, 2, 0, 0, 0, 0, [(0, 4), (0, 5)]), (80, .iload 6, 2, 0, 0, 0, 0, []), (82, .istore 4, 2, 0, 0, 0, 0, []), (84, .iinc 6 1, 3, 0, 0, 0, 0, []), (87, .goto (-76), 3, 11, 0, 0, 0, []), (90, .aload_n 0, 1, 0, 0, 0, 0, []), (91, .iload_n 1, 1, 0, 0, 0, 0, []), (92, .invokevirtual 191, 3, 203, 2, 0, 9, [(0, 225)]), (95, .aload_n 0, 1, 0, 0, 0, 0, [])],
  [(96, .getfield 185, 3, 9, 18, 1, 0, [(0, 105)]), (99, .ifCond .eq 40, 3, 139, 0, 0, 0, []), (102, .iload 5, 2, 0, 0, 0, 0, []), (104, .iconst (-1), 1, 0, 0, 0, 0, []), (105, .if_icmp .eq 34, 3, 139, 0, 0, 0, []), (108, .iload 5, 2, 0, 0, 0, 0, []), (110, .aload_n 0, 1, 0, 0, 0, 0, []), (111, .iload_n 1, 1, 0, 0, 0, 0, []), (112, .invokevirtual 101, 3, 204, 2, 1, 9, [(0, 226)]), (115, .iadd, 1, 0, 0, 0, 0, []), (116, .iload 4, 2, 0, 0, 0, 0, []), (118, .isub, 1, 0, 0, 0, 0, []), (119, .istore 6, 2, 0, 0, 0, 0, []), (121, .iload_n 3, 1, 0, 0, 0, 0, []), (122, .iconst (-1), 1, 0, 0, 0, 0, []), (123, .if_icmp .eq 9, 3, 132, 0, 0, 0, []), (126, .iload 6, 2, 0, 0, 0, 0, [])],
  [(128, .iload_n 3, 1, 0, 0, 0, 0, []), (129, .if_icmp .ge 8, 3, 137, 0, 0, 0, []), (132, .iload 6, 2, 0, 0, 0, 0, [(0, 0), (0, 1), (0, 2), (0, 3), (0, 4), (0, 5)]), (134, .goto 4, 3, 138, 0, 0, 0, []), (137, .iload_n 3, 1, 0, 0, 0, 0, []), (138, .istore_n 3, 1, 0, 0, 0, 0, [(0, 0), (0, 1), (0, 2), (0, 3), (0, 4), (0, 5), (0, 6)]), (139, .iload_n 3, 1, 0, 0, 0, 0, [(0, 0), (0, 1), (0, 2), (0, 4), (0, 5), (0, 6)]), (140, .ireturn, 1, 0, 0, 0, 0, [])]]
noncomputable def pm_229 : MR := (14, ⟨"OneAtATimeModel", "gapOf", "(II)I"⟩, prog_12_method_57_code, 7, (some (.int)), pgA_229)
set_option maxRecDepth 100000 in
noncomputable def pgA_230 : List (List (Nat × EN)) := [[(0, .aload_n 0, 1, 0, 0, 0, 0, []), (1, .iload_n 1, 1, 0, 0, 0, 0, []), (2, .iload_n 2, 1, 0, 0, 0, 0, []), (3, .invokevirtual 234, 3, 224, 3, 1, 9, [(0, 236)]), (6, .ifCond .eq 13, 3, 19, 0, 0, 0, []), (9, .iload_n 3, 1, 0, 0, 0, 0, []), (10, .i2l, 1, 0, 0, 0, 0, []), (11, .lconst 0, 1, 0, 0, 0, 0, []), (12, .lconst 1, 1, 0, 0, 0, 0, []), (13, .invokestatic 60, 3, 179, 3, 1, 0, [(0, 202)]), (16, .ifCond .ne 6, 3, 22, 0, 0, 0, []), (19, .bipush (-2), 2, 0, 0, 0, 0, [(0, 0), (0, 1), (0, 2), (0, 3), (0, 4), (0, 5), (0, 6)]), (21, .ireturn, 1, 0, 0, 0, 0, []), (22, .aload_n 0, 1, 0, 0, 0, 0, []), (23, .iload_n 1, 1, 0, 0, 0, 0, []), (24, .invokevirtual 191, 3, 203, 2, 0, 9, [(0, 225)]), (27, .iconst 0, 1, 0, 0, 0, 0, []), (28, .istore 4, 2, 0, 0, 0, 0, []), (30, .iconst 0, 1, 0, 0, 0, 0, []), (31, .istore 5, 2, 0, 0, 0, 0, [])],
  [(33, .iconst 0, 1, 0, 0, 0, 0, []), (34, .istore 6, 2, 0, 0, 0, 0, []), (36, .iload 6, 2, 0, 0, 0, 0, [(0, 1)]), (38, .aload_n 0, 1, 0, 0, 0, 0, []), (39, .getfield 185, 3, 9, 18, 1, 0, [(0, 105)]), (42, .ifCond .eq 12, 3, 54, 0, 0, 0, []), (45, .iconst 2, 1, 0, 0, 0, 0, []), (46, .aload_n 0, 1, 0, 0, 0, 0, []), (47, .getfield 188, 3, 9, 17, 0, 0, [(0, 106)]), (50, .imul, 1, 0, 0, 0, 0, []), (51, .goto 7, 3, 58, 0, 0, 0, []), (54, .aload_n 0, 1, 0, 0, 0, 0, []), (55, .getfield 188, 3, 9, 17, 0, 0, [(0, 106)]), (58, .if_icmp .ge 51, 3, 109, 0, 0, 0, [(0, 1)]), (61, .aload_n 0, 1, 0, 0, 0, 0, []), (62, .iload 6, 2, 0, 0, 0, 0, [])],
  [(64, .aload_n 0, 1, 0, 0, 0, 0, []), (65, .getfield 188, 3, 9, 17, 0, 0, [(0, 106)]), (68, .irem, 1, 0, 0, 0, 0, []), (69, .iload_n 2, 1, 0, 0, 0, 0, []), (70, .iload_n 3, 1, 0, 0, 0, 0, []), (71, .invokevirtual 246, 3, 231, 4, 1, 9, [(0, 240)]), (74, .ifCond .eq 10, 3, 84, 0, 0, 0, []), (77, .iload 5, 2, 0, 0, 0, 0, []), (79, .iconst 1, 1, 0, 0, 0, 0, []), (80, .iadd, 1, 0, 0, 0, 0, []), (81, .goto 4, 3, 85, 0, 0, 0, []), (84, .iconst 0, 1, 0, 0, 0, 0, []), (85, .istore 5, 2, 0, 0, 0, 0, [(0, 1), (0, 5)]), (87, .iload 4, 2, 0, 0, 0, 0, []), (89, .iload 5, 2, 0, 0, 0, 0, []), (91, .aload_n 0, 1, 0, 0, 0, 0, []), (92, .getfield 188, 3, 9, 17, 0, 0, [(0, 106)]), (95, .invokestatic 129, 3, 1005, 2, 1, 0, [(0, 213)])],
  [(98, .invokestatic 197, 3, 1004, 2, 1, 0, [(0, 231)]), (101, .istore 4, 2, 0, 0, 0, 0, []), (103, .iinc 6 1, 3, 0, 0, 0, 0, []), (106, .goto (-70), 3, 36, 0, 0, 0, []), (109, .iload 4, 2, 0, 0, 0, 0, []), (111, .ireturn, 1, 0, 0, 0, 0, [])]]
noncomputable def pm_230 : MR := (14, ⟨"OneAtATimeModel", "run", "(III)I"⟩, prog_12_method_60_code, 7, (some (.int)), pgA_230)
set_option maxRecDepth 100000 in
noncomputable def pgA_231 : List (List (Nat × EN)) := [[(0, .aload_n 0, 1, 0, 0, 0, 0, []), (1, .getfield 33, 3, 9, 15, 2, 0, [(0, 87)]), (4, .iload_n 1, 1, 0, 0, 0, 0, []), (5, .iaload, 1, 20, 0, 0, 0, []), (6, .iload_n 2, 1, 0, 0, 0, 0, []), (7, .invokestatic 1, 3, 216, 2, 1, 0, [(0, 234)]), (10, .iload_n 3, 1, 0, 0, 0, 0, []), (11, .iconst 1, 1, 0, 0, 0, 0, []), (12, .if_icmp .ne 7, 3, 19, 0, 0, 0, []), (15, .iconst 1, 1, 0, 0, 0, 0, []), (16, .goto 4, 3, 20, 0, 0, 0, []), (19, .iconst 0, 1, 0, 0, 0, 0, []), (20, .if_icmp .ne 7, 3, 27, 0, 0, 0, [(0, 0), (0, 1), (0, 2), (0, 3)]), (23, .iconst 1, 1, 0, 0, 0, 0, []), (24, .goto 4, 3, 28, 0, 0, 0, []), (27, .iconst 0, 1, 0, 0, 0, 0, []), (28, .ireturn, 1, 1, 0, 0, 0, [(0, 0), (0, 1), (0, 2), (0, 3)])]]
noncomputable def pm_231 : MR := (14, ⟨"OneAtATimeModel", "isV", "(III)Z"⟩, prog_12_method_59_code, 4, (some (.boolean)), pgA_231)
set_option maxRecDepth 100000 in
noncomputable def pgA_232 : List (List (Nat × EN)) := [[(0, .aload_n 0, 1, 0, 0, 0, 0, []), (1, .iload_n 1, 1, 0, 0, 0, 0, []), (2, .iload_n 2, 1, 0, 0, 0, 0, []), (3, .invokevirtual 234, 3, 224, 3, 1, 9, [(0, 236)]), (6, .ifCond .eq 13, 3, 19, 0, 0, 0, []), (9, .iload_n 3, 1, 0, 0, 0, 0, []), (10, .i2l, 1, 0, 0, 0, 0, []), (11, .lconst 0, 1, 0, 0, 0, 0, []), (12, .lconst 1, 1, 0, 0, 0, 0, []), (13, .invokestatic 60, 3, 179, 3, 1, 0, [(0, 202)]), (16, .ifCond .ne 6, 3, 22, 0, 0, 0, []), (19, .bipush (-2), 2, 0, 0, 0, 0, [(0, 0), (0, 1), (0, 2), (0, 3), (0, 4), (0, 5), (0, 6), (0, 7)]), (21, .ireturn, 1, 0, 0, 0, 0, []), (22, .aload_n 0, 1, 0, 0, 0, 0, []), (23, .iload_n 1, 1, 0, 0, 0, 0, []), (24, .invokevirtual 191, 3, 203, 2, 0, 9, [(0, 225)]), (27, .iconst 0, 1, 0, 0, 0, 0, []), (28, .istore 4, 2, 0, 0, 0, 0, []), (30, .iconst 0, 1, 0, 0, 0, 0, []), (31, .istore 5, 2, 0, 0, 0, 0, [])],
  [(33, .iconst 0, 1, 0, 0, 0, 0, []), (34, .istore 6, 2, 0, 0, 0, 0, []), (36, .iload 6, 2, 0, 0, 0, 0, [(0, 1), (0, 7)]), (38, .aload_n 0, 1, 0, 0, 0, 0, []), (39, .getfield 188, 3, 9, 17, 0, 0, [(0, 106)]), (42, .if_icmp .ge 103, 3, 145, 0, 0, 0, []), (45, .iload 6, 2, 0, 0, 0, 0, []), (47, .ifCond .ne 33, 3, 80, 0, 0, 0, []), (50, .aload_n 0, 1, 0, 0, 0, 0, []), (51, .getfield 185, 3, 9, 18, 1, 0, [(0, 105)]), (54, .ifCond .eq 22, 3, 76, 0, 0, 0, []), (57, .aload_n 0, 1, 0, 0, 0, 0, []), (58, .aload_n 0, 1, 0, 0, 0, 0, []), (59, .getfield 188, 3, 9, 17, 0, 0, [(0, 106)]), (62, .iconst 1, 1, 0, 0, 0, 0, []), (63, .isub, 1, 0, 0, 0, 0, [])],
  [(64, .iload_n 2, 1, 0, 0, 0, 0, []), (65, .iload_n 3, 1, 0, 0, 0, 0, []), (66, .invokevirtual 246, 3, 231, 4, 1, 9, [(0, 240)]), (69, .ifCond .eq 7, 3, 76, 0, 0, 0, []), (72, .iconst 1, 1, 0, 0, 0, 0, []), (73, .goto 17, 3, 90, 0, 0, 0, []), (76, .iconst 0, 1, 0, 0, 0, 0, [(0, 1), (0, 7)]), (77, .goto 13, 3, 90, 0, 0, 0, []), (80, .aload_n 0, 1, 0, 0, 0, 0, []), (81, .iload 6, 2, 0, 0, 0, 0, []), (83, .iconst 1, 1, 0, 0, 0, 0, []), (84, .isub, 1, 0, 0, 0, 0, []), (85, .iload_n 2, 1, 0, 0, 0, 0, []), (86, .iload_n 3, 1, 0, 0, 0, 0, []), (87, .invokevirtual 246, 3, 231, 4, 1, 9, [(0, 240)]), (90, .istore 7, 2, 0, 0, 0, 0, [(0, 1), (0, 7)]), (92, .iload 4, 2, 0, 0, 0, 0, []), (94, .aload_n 0, 1, 0, 0, 0, 0, []), (95, .iload 6, 2, 0, 0, 0, 0, [])],
  [(97, .iload_n 2, 1, 0, 0, 0, 0, []), (98, .iload_n 3, 1, 0, 0, 0, 0, []), (99, .invokevirtual 246, 3, 231, 4, 1, 9, [(0, 240)]), (102, .ifCond .eq 12, 3, 114, 0, 0, 0, []), (105, .iload 7, 2, 0, 0, 0, 0, []), (107, .ifCond .ne 7, 3, 114, 0, 0, 0, []), (110, .iconst 1, 1, 0, 0, 0, 0, []), (111, .goto 4, 3, 115, 0, 0, 0, []), (114, .iconst 0, 1, 0, 0, 0, 0, [(0, 1), (0, 4), (0, 7)]), (115, .iadd, 1, 0, 0, 0, 0, [(0, 1), (0, 4), (0, 7)]), (116, .istore 4, 2, 0, 0, 0, 0, []), (118, .iload 5, 2, 0, 0, 0, 0, []), (120, .aload_n 0, 1, 0, 0, 0, 0, []), (121, .iload 6, 2, 0, 0, 0, 0, []), (123, .iload_n 2, 1, 0, 0, 0, 0, []), (124, .iload_n 3, 1, 0, 0, 0, 0, []), (125, .invokevirtual 246, 3, 231, 4, 1, 9, [(0, 240)])],
  [(128, .ifCond .eq 7, 3, 135, 0, 0, 0, []), (131, .iconst 1, 1, 0, 0, 0, 0, []), (132, .goto 4, 3, 136, 0, 0, 0, []), (135, .iconst 0, 1, 0, 0, 0, 0, []), (136, .iadd, 1, 0, 0, 0, 0, [(0, 1), (0, 5), (0, 7)]), (137, .istore 5, 2, 0, 0, 0, 0, []), (139, .iinc 6 1, 3, 0, 0, 0, 0, []), (142, .goto (-106), 3, 36, 0, 0, 0, []), (145, .iload 5, 2, 0, 0, 0, 0, []), (147, .ifCond .le 12, 3, 159, 0, 0, 0, []), (150, .iload 4, 2, 0, 0, 0, 0, []), (152, .ifCond .ne 7, 3, 159, 0, 0, 0, []), (155, .iconst 1, 1, 0, 0, 0, 0, []), (156, .goto 5, 3, 161, 0, 0, 0, []), (159, .iload 4, 2, 0, 0, 0, 0, [(0, 0), (0, 1), (0, 2), (0, 3), (0, 5), (0, 6), (0, 7)])],
  [(161, .ireturn, 1, 0, 0, 0, 0, [(0, 0), (0, 1), (0, 2), (0, 3), (0, 4), (0, 5), (0, 6), (0, 7)])]]
noncomputable def pm_232 : MR := (14, ⟨"OneAtATimeModel", "parts", "(III)I"⟩, prog_12_method_61_code, 8, (some (.int)), pgA_232)
set_option maxRecDepth 100000 in
noncomputable def pgA_233 : List (List (Nat × EN)) := [[(0, .aload_n 0, 1, 0, 0, 0, 0, []), (1, .iload_n 1, 1, 0, 0, 0, 0, []), (2, .invokevirtual 72, 3, 180, 2, 1, 9, [(0, 199)]), (5, .ifCond .eq 28, 3, 33, 0, 0, 0, []), (8, .iload_n 2, 1, 0, 0, 0, 0, []), (9, .i2l, 1, 0, 0, 0, 0, []), (10, .lconst 0, 1, 0, 0, 0, 0, []), (11, .aload_n 0, 1, 0, 0, 0, 0, []), (12, .iload_n 1, 1, 0, 0, 0, 0, []), (13, .invokevirtual 75, 3, 207, 2, 1, 9, [(0, 228)]), (16, .i2l, 1, 0, 0, 0, 0, []), (17, .invokestatic 60, 3, 179, 3, 1, 0, [(0, 202)]), (20, .ifCond .eq 13, 3, 33, 0, 0, 0, []), (23, .iload_n 3, 1, 0, 0, 0, 0, []), (24, .i2l, 1, 0, 0, 0, 0, []), (25, .lconst 0, 1, 0, 0, 0, 0, []), (26, .lconst 1, 1, 0, 0, 0, 0, []), (27, .invokestatic 60, 3, 179, 3, 1, 0, [(0, 202)]), (30, .ifCond .ne 6, 3, 36, 0, 0, 0, [])],
  [(33, .bipush (-2), 2, 0, 0, 0, 0, [(0, 0), (0, 1), (0, 2), (0, 3), (0, 4), (0, 5)]), (35, .ireturn, 1, 0, 0, 0, 0, []), (36, .aload_n 0, 1, 0, 0, 0, 0, []), (37, .iload_n 1, 1, 0, 0, 0, 0, []), (38, .invokevirtual 191, 3, 203, 2, 0, 9, [(0, 225)]), (41, .iconst (-1), 1, 0, 0, 0, 0, []), (42, .istore 4, 2, 0, 0, 0, 0, []), (44, .iconst 0, 1, 0, 0, 0, 0, []), (45, .istore 5, 2, 0, 0, 0, 0, []), (47, .iload 5, 2, 0, 0, 0, 0, [(0, 1)]), (49, .aload_n 0, 1, 0, 0, 0, 0, []), (50, .getfield 188, 3, 9, 17, 0, 0, [(0, 106)]), (53, .if_icmp .ge 43, 3, 96, 0, 0, 0, []), (56, .aload_n 0, 1, 0, 0, 0, 0, []), (57, .getfield 33, 3, 9, 15, 2, 0, [(0, 87)]), (60, .iload 5, 2, 0, 0, 0, 0, []), (62, .iaload, 1, 20, 0, 0, 0, []), (63, .invokestatic 79, 3, 209, 1, 1, 0, [(0, 230)])],
  [(66, .iload_n 2, 1, 0, 0, 0, 0, []), (67, .if_icmp .ne 19, 3, 86, 0, 0, 0, []), (70, .iload 4, 2, 0, 0, 0, 0, []), (72, .iconst (-1), 1, 0, 0, 0, 0, []), (73, .if_icmp .eq 8, 3, 81, 0, 0, 0, []), (76, .iload_n 3, 1, 0, 0, 0, 0, []), (77, .iconst 1, 1, 0, 0, 0, 0, []), (78, .if_icmp .ne 8, 3, 86, 0, 0, 0, []), (81, .iload 5, 2, 0, 0, 0, 0, [(0, 1), (0, 4)]), (83, .goto 5, 3, 88, 0, 0, 0, []), (86, .iload 4, 2, 0, 0, 0, 0, [(0, 1)]), (88, .istore 4, 2, 0, 0, 0, 0, [(0, 1), (0, 4)]), (90, .iinc 5 1, 3, 0, 0, 0, 0, []), (93, .goto (-46), 3, 47, 0, 0, 0, [])],
  [(96, .iload 4, 2, 0, 0, 0, 0, []), (98, .ireturn, 1, 0, 0, 0, 0, [])]]
noncomputable def pm_233 : MR := (14, ⟨"OneAtATimeModel", "level", "(III)I"⟩, prog_12_method_62_code, 6, (some (.int)), pgA_233)
set_option maxRecDepth 100000 in
noncomputable def pgA_234 : List (List (Nat × EN)) := [[(0, .aload_n 0, 1, 0, 0, 0, 0, []), (1, .iload_n 1, 1, 0, 0, 0, 0, []), (2, .invokevirtual 72, 3, 180, 2, 1, 9, [(0, 199)]), (5, .ifCond .eq 30, 3, 35, 0, 0, 0, []), (8, .iload_n 2, 1, 0, 0, 0, 0, []), (9, .i2l, 1, 0, 0, 0, 0, []), (10, .lconst 0, 1, 0, 0, 0, 0, []), (11, .aload_n 0, 1, 0, 0, 0, 0, []), (12, .iload_n 1, 1, 0, 0, 0, 0, []), (13, .invokevirtual 75, 3, 207, 2, 1, 9, [(0, 228)]), (16, .iconst 1, 1, 0, 0, 0, 0, []), (17, .isub, 1, 0, 0, 0, 0, []), (18, .i2l, 1, 0, 0, 0, 0, []), (19, .invokestatic 60, 3, 179, 3, 1, 0, [(0, 202)]), (22, .ifCond .eq 13, 3, 35, 0, 0, 0, []), (25, .iload_n 3, 1, 0, 0, 0, 0, []), (26, .i2l, 1, 0, 0, 0, 0, []), (27, .lconst 0, 1, 0, 0, 0, 0, []), (28, .lconst 1, 1, 0, 0, 0, 0, []), (29, .invokestatic 60, 3, 179, 3, 1, 0, [(0, 202)])],
  [(32, .ifCond .ne 6, 3, 38, 0, 0, 0, []), (35, .bipush (-2), 2, 0, 0, 0, 0, [(0, 0), (0, 1), (0, 2), (0, 3), (0, 4), (0, 5)]), (37, .ireturn, 1, 0, 0, 0, 0, []), (38, .aload_n 0, 1, 0, 0, 0, 0, []), (39, .iload_n 1, 1, 0, 0, 0, 0, []), (40, .invokevirtual 191, 3, 203, 2, 0, 9, [(0, 225)]), (43, .iconst 0, 1, 0, 0, 0, 0, []), (44, .istore 4, 2, 0, 0, 0, 0, []), (46, .iconst 0, 1, 0, 0, 0, 0, []), (47, .istore 5, 2, 0, 0, 0, 0, []), (49, .iload 5, 2, 0, 0, 0, 0, []), (51, .aload_n 0, 1, 0, 0, 0, 0, []), (52, .iload_n 1, 1, 0, 0, 0, 0, []), (53, .invokevirtual 101, 3, 204, 2, 1, 9, [(0, 226)]), (56, .if_icmp .ge 71, 3, 127, 0, 0, 0, []), (59, .iload 4, 2, 0, 0, 0, 0, []), (61, .aload_n 0, 1, 0, 0, 0, 0, []), (62, .getfield 33, 3, 9, 15, 2, 0, [(0, 87)])],
  [(65, .iload 5, 2, 0, 0, 0, 0, []), (67, .iaload, 1, 20, 0, 0, 0, []), (68, .invokestatic 79, 3, 209, 1, 1, 0, [(0, 230)]), (71, .iload_n 3, 1, 0, 0, 0, 0, []), (72, .iconst 1, 1, 0, 0, 0, 0, []), (73, .if_icmp .ne 7, 3, 80, 0, 0, 0, []), (76, .iload_n 2, 1, 0, 0, 0, 0, []), (77, .goto 6, 3, 83, 0, 0, 0, []), (80, .iload_n 2, 1, 0, 0, 0, 0, []), (81, .iconst 1, 1, 0, 0, 0, 0, []), (82, .iadd, 1, 0, 0, 0, 0, []), (83, .if_icmp .ne 34, 3, 117, 0, 0, 0, [(0, 4)]), (86, .aload_n 0, 1, 0, 0, 0, 0, []), (87, .getfield 33, 3, 9, 15, 2, 0, [(0, 87)]), (90, .iload 5, 2, 0, 0, 0, 0, []), (92, .iconst 1, 1, 0, 0, 0, 0, []), (93, .iadd, 1, 0, 0, 0, 0, []), (94, .iaload, 1, 20, 0, 0, 0, []), (95, .invokestatic 79, 3, 209, 1, 1, 0, [(0, 230)])],
  [(98, .iload_n 3, 1, 0, 0, 0, 0, []), (99, .iconst 1, 1, 0, 0, 0, 0, []), (100, .if_icmp .ne 9, 3, 109, 0, 0, 0, []), (103, .iload_n 2, 1, 0, 0, 0, 0, []), (104, .iconst 1, 1, 0, 0, 0, 0, []), (105, .iadd, 1, 0, 0, 0, 0, []), (106, .goto 4, 3, 110, 0, 0, 0, []), (109, .iload_n 2, 1, 0, 0, 0, 0, []), (110, .if_icmp .ne 7, 3, 117, 0, 0, 0, [(0, 4)]), (113, .iconst 1, 1, 0, 0, 0, 0, []), (114, .goto 4, 3, 118, 0, 0, 0, []), (117, .iconst 0, 1, 0, 0, 0, 0, [(0, 4)]), (118, .iadd, 1, 0, 0, 0, 0, [(0, 4)]), (119, .istore 4, 2, 0, 0, 0, 0, []), (121, .iinc 5 1, 3, 0, 0, 0, 0, []), (124, .goto (-75), 3, 49, 0, 0, 0, []), (127, .iload 4, 2, 0, 0, 0, 0, [])],
  [(129, .ireturn, 1, 0, 0, 0, 0, [])]]
noncomputable def pm_234 : MR := (14, ⟨"OneAtATimeModel", "climbs", "(III)I"⟩, prog_12_method_63_code, 6, (some (.int)), pgA_234)
set_option maxRecDepth 100000 in
noncomputable def pgA_235 : List (List (Nat × EN)) := [[(0, .aload_n 0, 1, 0, 0, 0, 0, []), (1, .iload_n 1, 1, 0, 0, 0, 0, []), (2, .iload_n 2, 1, 0, 0, 0, 0, []), (3, .invokevirtual 234, 3, 224, 3, 1, 9, [(0, 236)]), (6, .ifCond .ne 6, 3, 12, 0, 0, 0, []), (9, .bipush (-2), 2, 0, 0, 0, 0, []), (11, .ireturn, 1, 0, 0, 0, 0, []), (12, .aload_n 0, 1, 0, 0, 0, 0, []), (13, .iload_n 1, 1, 0, 0, 0, 0, []), (14, .invokevirtual 191, 3, 203, 2, 0, 9, [(0, 225)]), (17, .aload_n 0, 1, 0, 0, 0, 0, []), (18, .getfield 185, 3, 9, 18, 1, 0, [(0, 105)]), (21, .ifCond .eq 11, 3, 32, 0, 0, 0, []), (24, .aload_n 0, 1, 0, 0, 0, 0, []), (25, .iload_n 2, 1, 0, 0, 0, 0, []), (26, .invokevirtual 206, 3, 215, 2, 1, 9, [(0, 233)]), (29, .goto 4, 3, 33, 0, 0, 0, [])],
  [(32, .iconst (-1), 1, 0, 0, 0, 0, []), (33, .ireturn, 1, 0, 0, 0, 0, [(0, 0), (0, 1), (0, 2)])]]
noncomputable def pm_235 : MR := (14, ⟨"OneAtATimeModel", "shift", "(II)I"⟩, prog_12_method_64_code, 3, (some (.int)), pgA_235)
set_option maxRecDepth 100000 in
noncomputable def pgA_236 : List (List (Nat × EN)) := [[(0, .aload_n 0, 1, 0, 0, 0, 0, []), (1, .iload_n 1, 1, 0, 0, 0, 0, []), (2, .invokevirtual 72, 3, 180, 2, 1, 9, [(0, 199)]), (5, .ifCond .eq 33, 3, 38, 0, 0, 0, []), (8, .iload_n 2, 1, 0, 0, 0, 0, []), (9, .i2l, 1, 0, 0, 0, 0, []), (10, .lconst 0, 1, 0, 0, 0, 0, []), (11, .aload_n 0, 1, 0, 0, 0, 0, []), (12, .iload_n 1, 1, 0, 0, 0, 0, []), (13, .invokevirtual 101, 3, 204, 2, 1, 9, [(0, 226)]), (16, .i2l, 1, 0, 0, 0, 0, []), (17, .invokestatic 60, 3, 179, 3, 1, 0, [(0, 202)]), (20, .ifCond .eq 18, 3, 38, 0, 0, 0, []), (23, .iload_n 3, 1, 0, 0, 0, 0, []), (24, .i2l, 1, 0, 0, 0, 0, []), (25, .lconst 0, 1, 0, 0, 0, 0, []), (26, .aload_n 0, 1, 0, 0, 0, 0, []), (27, .iload_n 1, 1, 0, 0, 0, 0, []), (28, .invokevirtual 101, 3, 204, 2, 1, 9, [(0, 226)]), (31, .i2l, 1, 0, 0, 0, 0, [])],
  [(32, .invokestatic 60, 3, 179, 3, 1, 0, [(0, 202)]), (35, .ifCond .ne 6, 3, 41, 0, 0, 0, []), (38, .bipush (-2), 2, 0, 0, 0, 0, [(0, 0), (0, 1), (0, 2), (0, 3)]), (40, .ireturn, 1, 0, 0, 0, 0, []), (41, .aload_n 0, 1, 0, 0, 0, 0, []), (42, .iload_n 1, 1, 0, 0, 0, 0, []), (43, .invokevirtual 191, 3, 203, 2, 0, 9, [(0, 225)]), (46, .aload_n 0, 1, 0, 0, 0, 0, []), (47, .getfield 33, 3, 9, 15, 2, 0, [(0, 87)]), (50, .iload_n 2, 1, 0, 0, 0, 0, []), (51, .iaload, 1, 20, 0, 0, 0, []), (52, .aload_n 0, 1, 0, 0, 0, 0, []), (53, .getfield 33, 3, 9, 15, 2, 0, [(0, 87)]), (56, .iload_n 3, 1, 0, 0, 0, 0, []), (57, .iaload, 1, 20, 0, 0, 0, []), (58, .ixor, 1, 0, 0, 0, 0, []), (59, .invokestatic 79, 3, 209, 1, 1, 0, [(0, 230)]), (62, .ireturn, 1, 0, 0, 0, 0, [])]]
noncomputable def pm_236 : MR := (14, ⟨"OneAtATimeModel", "apart", "(III)I"⟩, prog_12_method_65_code, 4, (some (.int)), pgA_236)
set_option maxRecDepth 100000 in
noncomputable def pgA_237 : List (List (Nat × EN)) := [[(0, .aload_n 0, 1, 0, 0, 0, 0, []), (1, .iload_n 1, 1, 0, 0, 0, 0, []), (2, .invokevirtual 72, 3, 180, 2, 1, 9, [(0, 199)]), (5, .ifCond .ne 6, 3, 11, 0, 0, 0, []), (8, .bipush (-2), 2, 0, 0, 0, 0, []), (10, .ireturn, 1, 0, 0, 0, 0, []), (11, .aload_n 0, 1, 0, 0, 0, 0, []), (12, .iload_n 1, 1, 0, 0, 0, 0, []), (13, .invokevirtual 191, 3, 203, 2, 0, 9, [(0, 225)]), (16, .aload_n 0, 1, 0, 0, 0, 0, []), (17, .iconst 1, 1, 0, 0, 0, 0, []), (18, .invokevirtual 250, 3, 238, 2, 1, 9, [(0, 241)]), (21, .ifCond .ne 5, 3, 26, 0, 0, 0, []), (24, .iconst (-1), 1, 0, 0, 0, 0, []), (25, .ireturn, 1, 0, 0, 0, 0, []), (26, .aload_n 0, 1, 0, 0, 0, 0, []), (27, .iload_n 1, 1, 0, 0, 0, 0, []), (28, .invokevirtual 75, 3, 207, 2, 1, 9, [(0, 228)]), (31, .istore_n 2, 1, 0, 0, 0, 0, [])],
  [(32, .aload_n 0, 1, 0, 0, 0, 0, [(0, 1)]), (33, .iload_n 2, 1, 0, 0, 0, 0, []), (34, .invokevirtual 250, 3, 238, 2, 1, 9, [(0, 241)]), (37, .ifCond .ne 9, 3, 46, 0, 0, 0, []), (40, .iinc 2 (-1), 3, 0, 0, 0, 0, []), (43, .goto (-11), 3, 32, 0, 0, 0, []), (46, .iload_n 2, 1, 0, 0, 0, 0, []), (47, .ireturn, 1, 0, 0, 0, 0, [])]]
noncomputable def pm_237 : MR := (14, ⟨"OneAtATimeModel", "spread", "(I)I"⟩, prog_12_method_67_code, 3, (some (.int)), pgA_237)
set_option maxRecDepth 100000 in
noncomputable def pgA_238 : List (List (Nat × EN)) := [[(0, .iconst 0, 1, 0, 0, 0, 0, []), (1, .istore_n 2, 1, 0, 0, 0, 0, []), (2, .iload_n 2, 1, 0, 0, 0, 0, [(0, 3)]), (3, .aload_n 0, 1, 0, 0, 0, 0, []), (4, .getfield 188, 3, 9, 17, 0, 0, [(0, 106)]), (7, .if_icmp .ge 54, 3, 61, 0, 0, 0, []), (10, .iconst 0, 1, 0, 0, 0, 0, []), (11, .istore_n 3, 1, 0, 0, 0, 0, []), (12, .iload_n 3, 1, 0, 0, 0, 0, []), (13, .iload_n 2, 1, 0, 0, 0, 0, []), (14, .if_icmp .ge 41, 3, 55, 0, 0, 0, []), (17, .aload_n 0, 1, 0, 0, 0, 0, []), (18, .iload_n 2, 1, 0, 0, 0, 0, []), (19, .iload_n 3, 1, 0, 0, 0, 0, []), (20, .invokevirtual 203, 3, 212, 3, 1, 9, [(0, 232)]), (23, .iload_n 1, 1, 0, 0, 0, 0, []), (24, .if_icmp .lt 25, 3, 49, 0, 0, 0, []), (27, .aload_n 0, 1, 0, 0, 0, 0, []), (28, .getfield 33, 3, 9, 15, 2, 0, [(0, 87)]), (31, .iload_n 2, 1, 0, 0, 0, 0, [])],
  [(32, .iaload, 1, 20, 0, 0, 0, []), (33, .aload_n 0, 1, 0, 0, 0, 0, []), (34, .getfield 33, 3, 9, 15, 2, 0, [(0, 87)]), (37, .iload_n 3, 1, 0, 0, 0, 0, []), (38, .iaload, 1, 20, 0, 0, 0, []), (39, .ixor, 1, 0, 0, 0, 0, []), (40, .invokestatic 79, 3, 209, 1, 1, 0, [(0, 230)]), (43, .iload_n 1, 1, 0, 0, 0, 0, []), (44, .if_icmp .ge 5, 3, 49, 0, 0, 0, []), (47, .iconst 0, 1, 0, 0, 0, 0, []), (48, .ireturn, 1, 1, 0, 0, 0, []), (49, .iinc 3 1, 3, 0, 0, 0, 0, []), (52, .goto (-40), 3, 12, 0, 0, 0, []), (55, .iinc 2 1, 3, 0, 0, 0, 0, []), (58, .goto (-56), 3, 2, 0, 0, 0, []), (61, .iconst 1, 1, 0, 0, 0, 0, []), (62, .ireturn, 1, 1, 0, 0, 0, [])]]
noncomputable def pm_238 : MR := (14, ⟨"OneAtATimeModel", "isSpread", "(I)Z"⟩, prog_12_method_66_code, 4, (some (.boolean)), pgA_238)
set_option maxRecDepth 100000 in
noncomputable def pgA_239 : List (List (Nat × EN)) := [[(0, .aload_n 0, 1, 0, 0, 0, 0, []), (1, .iload_n 1, 1, 0, 0, 0, 0, []), (2, .invokevirtual 72, 3, 180, 2, 1, 9, [(0, 199)]), (5, .ifCond .eq 11, 3, 16, 0, 0, 0, []), (8, .aload_n 0, 1, 0, 0, 0, 0, []), (9, .iload_n 2, 1, 0, 0, 0, 0, []), (10, .invokevirtual 72, 3, 180, 2, 1, 9, [(0, 199)]), (13, .ifCond .ne 6, 3, 19, 0, 0, 0, []), (16, .bipush (-2), 2, 0, 0, 0, 0, [(0, 0), (0, 1), (0, 2), (0, 3), (0, 4), (0, 5), (0, 6)]), (18, .ireturn, 1, 0, 0, 0, 0, []), (19, .aload_n 0, 1, 0, 0, 0, 0, []), (20, .iload_n 1, 1, 0, 0, 0, 0, []), (21, .iconst 3, 1, 0, 0, 0, 0, []), (22, .invokevirtual 68, 3, 181, 3, 1, 9, [(0, 203)]), (25, .istore_n 3, 1, 0, 0, 0, 0, []), (26, .aload_n 0, 1, 0, 0, 0, 0, []), (27, .iload_n 2, 1, 0, 0, 0, 0, []), (28, .iconst 3, 1, 0, 0, 0, 0, []), (29, .invokevirtual 68, 3, 181, 3, 1, 9, [(0, 203)])],
  [(32, .istore 4, 2, 0, 0, 0, 0, []), (34, .iload_n 3, 1, 0, 0, 0, 0, []), (35, .iload 4, 2, 0, 0, 0, 0, []), (37, .if_icmp .ne 7, 3, 44, 0, 0, 0, []), (40, .iconst 1, 1, 0, 0, 0, 0, []), (41, .goto 4, 3, 45, 0, 0, 0, []), (44, .iconst 0, 1, 0, 0, 0, 0, []), (45, .istore 5, 2, 0, 0, 0, 0, [(0, 5), (0, 6)]), (47, .iconst 0, 1, 0, 0, 0, 0, []), (48, .istore 6, 2, 0, 0, 0, 0, []), (50, .iload 6, 2, 0, 0, 0, 0, []), (52, .aload_n 0, 1, 0, 0, 0, 0, []), (53, .iload_n 1, 1, 0, 0, 0, 0, []), (54, .invokevirtual 101, 3, 204, 2, 1, 9, [(0, 226)]), (57, .aload_n 0, 1, 0, 0, 0, 0, []), (58, .iload_n 2, 1, 0, 0, 0, 0, []), (59, .invokevirtual 101, 3, 204, 2, 1, 9, [(0, 226)]), (62, .invokestatic 129, 3, 1005, 2, 1, 0, [(0, 213)])],
  [(65, .if_icmp .ge 51, 3, 116, 0, 0, 0, []), (68, .iload_n 3, 1, 0, 0, 0, 0, []), (69, .iconst 1, 1, 0, 0, 0, 0, []), (70, .aload_n 0, 1, 0, 0, 0, 0, []), (71, .iload_n 1, 1, 0, 0, 0, 0, []), (72, .iload 6, 2, 0, 0, 0, 0, []), (74, .invokevirtual 104, 3, 205, 3, 1, 9, [(0, 227)]), (77, .ishl, 1, 0, 0, 0, 0, []), (78, .ixor, 1, 0, 0, 0, 0, []), (79, .istore_n 3, 1, 0, 0, 0, 0, []), (80, .iload 4, 2, 0, 0, 0, 0, []), (82, .iconst 1, 1, 0, 0, 0, 0, []), (83, .aload_n 0, 1, 0, 0, 0, 0, []), (84, .iload_n 2, 1, 0, 0, 0, 0, []), (85, .iload 6, 2, 0, 0, 0, 0, []), (87, .invokevirtual 104, 3, 205, 3, 1, 9, [(0, 227)]), (90, .ishl, 1, 0, 0, 0, 0, []), (91, .ixor, 1, 0, 0, 0, 0, []), (92, .istore 4, 2, 0, 0, 0, 0, []), (94, .iload 5, 2, 0, 0, 0, 0, [])],
  [(96, .iload_n 3, 1, 0, 0, 0, 0, []), (97, .iload 4, 2, 0, 0, 0, 0, []), (99, .if_icmp .ne 7, 3, 106, 0, 0, 0, []), (102, .iconst 1, 1, 0, 0, 0, 0, []), (103, .goto 4, 3, 107, 0, 0, 0, []), (106, .iconst 0, 1, 0, 0, 0, 0, []), (107, .iadd, 1, 0, 0, 0, 0, [(0, 5)]), (108, .istore 5, 2, 0, 0, 0, 0, []), (110, .iinc 6 1, 3, 0, 0, 0, 0, []), (113, .goto (-63), 3, 50, 0, 0, 0, []), (116, .iload 5, 2, 0, 0, 0, 0, []), (118, .ireturn, 1, 0, 0, 0, 0, [])]]
noncomputable def pm_239 : MR := (14, ⟨"OneAtATimeModel", "same", "(II)I"⟩, prog_12_method_68_code, 7, (some (.int)), pgA_239)
set_option maxRecDepth 100000 in
noncomputable def pgA_240 : List (List (Nat × EN)) := [[(0, .iload_n 1, 1, 0, 0, 0, 0, []), (1, .ifCond .ge 8, 3, 9, 0, 0, 0, []), (4, .bipush (-2), 2, 0, 0, 0, 0, []), (6, .goto 8, 3, 14, 0, 0, 0, []), (9, .iload_n 1, 1, 0, 0, 0, 0, []), (10, .iload_n 1, 1, 0, 0, 0, 0, []), (11, .iconst 1, 1, 0, 0, 0, 0, []), (12, .ishr, 1, 0, 0, 0, 0, []), (13, .ixor, 1, 0, 0, 0, 0, []), (14, .ireturn, 1, 0, 0, 0, 0, [(0, 0), (0, 1)])]]
noncomputable def pm_240 : MR := (14, ⟨"OneAtATimeModel", "code", "(I)I"⟩, prog_12_method_69_code, 2, (some (.int)), pgA_240)
set_option maxRecDepth 100000 in
noncomputable def pgA_241 : List (List (Nat × EN)) := [[(0, .iload_n 1, 1, 0, 0, 0, 0, []), (1, .ifCond .ge 6, 3, 7, 0, 0, 0, []), (4, .bipush (-2), 2, 0, 0, 0, 0, []), (6, .ireturn, 1, 0, 0, 0, 0, []), (7, .iconst 0, 1, 0, 0, 0, 0, []), (8, .istore_n 2, 1, 0, 0, 0, 0, []), (9, .iload_n 1, 1, 0, 0, 0, 0, []), (10, .istore_n 3, 1, 0, 0, 0, 0, []), (11, .iload_n 3, 1, 0, 0, 0, 0, [(0, 0), (0, 1)]), (12, .ifCond .eq 14, 3, 26, 0, 0, 0, []), (15, .iload_n 2, 1, 0, 0, 0, 0, []), (16, .iload_n 3, 1, 0, 0, 0, 0, []), (17, .ixor, 1, 0, 0, 0, 0, []), (18, .istore_n 2, 1, 0, 0, 0, 0, []), (19, .iload_n 3, 1, 0, 0, 0, 0, []), (20, .iconst 1, 1, 0, 0, 0, 0, []), (21, .ishr, 1, 0, 0, 0, 0, []), (22, .istore_n 3, 1, 0, 0, 0, 0, []), (23, .goto (-12), 3, 11, 0, 0, 0, []), (26, .iload_n 2, 1, 0, 0, 0, 0, []), (27, .ireturn, 1, 0, 0, 0, 0, [])]]
noncomputable def pm_241 : MR := (14, ⟨"OneAtATimeModel", "rank", "(I)I"⟩, prog_12_method_70_code, 4, (some (.int)), pgA_241)
set_option maxRecDepth 100000 in
noncomputable def pgA_242 : List (List (Nat × EN)) := [[(0, .iload_n 1, 1, 0, 0, 0, 0, []), (1, .iconst 1, 1, 0, 0, 0, 0, []), (2, .if_icmp .ge 8, 3, 10, 0, 0, 0, []), (5, .bipush (-2), 2, 0, 0, 0, 0, []), (7, .goto 7, 3, 14, 0, 0, 0, []), (10, .iload_n 1, 1, 0, 0, 0, 0, []), (11, .invokestatic 253, 3, 243, 1, 1, 0, [(0, 242)]), (14, .ireturn, 1, 0, 0, 0, 0, [(0, 0), (0, 1)])]]
noncomputable def pm_242 : MR := (14, ⟨"OneAtATimeModel", "ruler", "(I)I"⟩, prog_12_method_71_code, 2, (some (.int)), pgA_242)
end
section
set_option maxRecDepth 100000 in
noncomputable def pgA_243 : List (List (Nat × EN)) := [[(0, .iconst 0, 1, 0, 0, 0, 0, []), (1, .istore_n 1, 1, 0, 0, 0, 0, []), (2, .iload_n 0, 1, 0, 0, 0, 0, []), (3, .iload_n 1, 1, 0, 0, 0, 0, []), (4, .invokestatic 1, 3, 216, 2, 1, 0, [(0, 234)]), (7, .ifCond .ne 9, 3, 16, 0, 0, 0, []), (10, .iinc 1 1, 3, 0, 0, 0, 0, []), (13, .goto (-11), 3, 2, 0, 0, 0, []), (16, .iload_n 1, 1, 0, 0, 0, 0, []), (17, .ireturn, 1, 0, 0, 0, 0, [])]]
noncomputable def pm_243 : MR := (14, ⟨"OneAtATimeModel", "lowest", "(I)I"⟩, prog_12_method_4_code, 2, (some (.int)), pgA_243)
set_option maxRecDepth 100000 in
noncomputable def pgA_244 : List (List (Nat × EN)) := [[(0, .aload_n 0, 1, 0, 0, 0, 0, []), (1, .iload_n 1, 1, 0, 0, 0, 0, []), (2, .invokevirtual 72, 3, 180, 2, 1, 9, [(0, 199)]), (5, .ifCond .eq 33, 3, 38, 0, 0, 0, []), (8, .iload_n 2, 1, 0, 0, 0, 0, []), (9, .i2l, 1, 0, 0, 0, 0, []), (10, .lconst 0, 1, 0, 0, 0, 0, []), (11, .ldc2_w 58, 3, 2, 0, 0, 0, [(0, 6)]), (14, .invokestatic 60, 3, 179, 3, 1, 0, [(0, 202)]), (17, .ifCond .eq 21, 3, 38, 0, 0, 0, []), (20, .iload_n 2, 1, 0, 0, 0, 0, []), (21, .iconst 2, 1, 0, 0, 0, 0, []), (22, .if_icmp .ne 19, 3, 41, 0, 0, 0, []), (25, .iconst 2, 1, 0, 0, 0, 0, []), (26, .aload_n 0, 1, 0, 0, 0, 0, []), (27, .iload_n 1, 1, 0, 0, 0, 0, []), (28, .invokevirtual 101, 3, 204, 2, 1, 9, [(0, 226)]), (31, .imul, 1, 0, 0, 0, 0, [])],
  [(32, .sipush 256, 3, 0, 0, 0, 0, []), (35, .if_icmp .le 6, 3, 41, 0, 0, 0, []), (38, .bipush (-2), 2, 0, 0, 0, 0, [(0, 0), (0, 1), (0, 2), (0, 3), (0, 4)]), (40, .ireturn, 1, 0, 0, 0, 0, []), (41, .aload_n 0, 1, 0, 0, 0, 0, [(0, 3), (0, 4)]), (42, .iload_n 1, 1, 0, 0, 0, 0, []), (43, .invokevirtual 75, 3, 207, 2, 1, 9, [(0, 228)]), (46, .istore_n 3, 1, 0, 0, 0, 0, []), (47, .aload_n 0, 1, 0, 0, 0, 0, []), (48, .iconst 0, 1, 0, 0, 0, 0, []), (49, .putfield 88, 3, 9, 5, 0, 0, [(0, 96)]), (52, .iload_n 2, 1, 0, 0, 0, 0, []), (53, .ifCond .ne 39, 3, 92, 0, 0, 0, []), (56, .iconst 1, 1, 0, 0, 0, 0, []), (57, .istore 4, 2, 0, 0, 0, 0, []), (59, .iload 4, 2, 0, 0, 0, 0, [(0, 2)]), (61, .iconst 1, 1, 0, 0, 0, 0, []), (62, .iload_n 3, 1, 0, 0, 0, 0, []), (63, .ishl, 1, 0, 0, 0, 0, [])],
  [(64, .if_icmp .ge 18, 3, 82, 0, 0, 0, []), (67, .aload_n 0, 1, 0, 0, 0, 0, []), (68, .iload 4, 2, 0, 0, 0, 0, []), (70, .invokestatic 253, 3, 243, 1, 1, 0, [(0, 242)]), (73, .invokevirtual 107, 3, 196, 2, 0, 9, [(0, 217)]), (76, .iinc 4 1, 3, 0, 0, 0, 0, []), (79, .goto (-20), 3, 59, 0, 0, 0, []), (82, .aload_n 0, 1, 0, 0, 0, 0, []), (83, .iload_n 3, 1, 0, 0, 0, 0, []), (84, .iconst 1, 1, 0, 0, 0, 0, []), (85, .isub, 1, 0, 0, 0, 0, []), (86, .invokevirtual 107, 3, 196, 2, 0, 9, [(0, 217)]), (89, .goto 74, 3, 163, 0, 0, 0, []), (92, .iload_n 2, 1, 0, 0, 0, 0, []), (93, .iconst 1, 1, 0, 0, 0, 0, []), (94, .if_icmp .ne 31, 3, 125, 0, 0, 0, [])],
  [(97, .iconst 0, 1, 0, 0, 0, 0, []), (98, .istore 4, 2, 0, 0, 0, 0, []), (100, .iload 4, 2, 0, 0, 0, 0, [(0, 2)]), (102, .iconst 2, 1, 0, 0, 0, 0, []), (103, .iload_n 3, 1, 0, 0, 0, 0, []), (104, .imul, 1, 0, 0, 0, 0, []), (105, .if_icmp .ge 17, 3, 122, 0, 0, 0, []), (108, .aload_n 0, 1, 0, 0, 0, 0, []), (109, .iload 4, 2, 0, 0, 0, 0, []), (111, .iload_n 3, 1, 0, 0, 0, 0, []), (112, .irem, 1, 0, 0, 0, 0, []), (113, .invokevirtual 107, 3, 196, 2, 0, 9, [(0, 217)]), (116, .iinc 4 1, 3, 0, 0, 0, 0, []), (119, .goto (-19), 3, 100, 0, 0, 0, []), (122, .goto 41, 3, 163, 0, 0, 0, []), (125, .iconst 0, 1, 0, 0, 0, 0, []), (126, .istore 4, 2, 0, 0, 0, 0, [])],
  [(128, .iload 4, 2, 0, 0, 0, 0, [(0, 2), (0, 3)]), (130, .iconst 2, 1, 0, 0, 0, 0, []), (131, .aload_n 0, 1, 0, 0, 0, 0, []), (132, .iload_n 1, 1, 0, 0, 0, 0, []), (133, .invokevirtual 101, 3, 204, 2, 1, 9, [(0, 226)]), (136, .imul, 1, 0, 0, 0, 0, []), (137, .if_icmp .ge 26, 3, 163, 0, 0, 0, []), (140, .aload_n 0, 1, 0, 0, 0, 0, []), (141, .aload_n 0, 1, 0, 0, 0, 0, []), (142, .iload_n 1, 1, 0, 0, 0, 0, []), (143, .iload 4, 2, 0, 0, 0, 0, []), (145, .aload_n 0, 1, 0, 0, 0, 0, []), (146, .iload_n 1, 1, 0, 0, 0, 0, []), (147, .invokevirtual 101, 3, 204, 2, 1, 9, [(0, 226)]), (150, .irem, 1, 0, 0, 0, 0, []), (151, .invokevirtual 104, 3, 205, 3, 1, 9, [(0, 227)]), (154, .invokevirtual 107, 3, 196, 2, 0, 9, [(0, 217)]), (157, .iinc 4 1, 3, 0, 0, 0, 0, [])],
  [(160, .goto (-32), 3, 128, 0, 0, 0, []), (163, .aload_n 0, 1, 0, 0, 0, 0, [(0, 2), (0, 3), (0, 4)]), (164, .iload_n 1, 1, 0, 0, 0, 0, []), (165, .aload_n 0, 1, 0, 0, 0, 0, []), (166, .iload_n 1, 1, 0, 0, 0, 0, []), (167, .iconst 3, 1, 0, 0, 0, 0, []), (168, .invokevirtual 68, 3, 181, 3, 1, 9, [(0, 203)]), (171, .aload_n 0, 1, 0, 0, 0, 0, []), (172, .getfield 88, 3, 9, 5, 0, 0, [(0, 96)]), (175, .invokevirtual 256, 3, 245, 4, 1, 9, [(0, 243)]), (178, .ireturn, 1, 0, 0, 0, 0, [])]]
noncomputable def pm_244 : MR := (14, ⟨"OneAtATimeModel", "makes", "(II)I"⟩, prog_12_method_72_code, 5, (some (.int)), pgA_244)
set_option maxRecDepth 100000 in
noncomputable def pgA_245 : List (List (Nat × EN)) := [[(0, .aload_n 0, 1, 0, 0, 0, 0, []), (1, .iload_n 1, 1, 0, 0, 0, 0, []), (2, .aload_n 0, 1, 0, 0, 0, 0, []), (3, .iload_n 1, 1, 0, 0, 0, 0, []), (4, .invokevirtual 75, 3, 207, 2, 1, 9, [(0, 228)]), (7, .aload_n 0, 1, 0, 0, 0, 0, []), (8, .iload_n 1, 1, 0, 0, 0, 0, []), (9, .iconst 1, 1, 0, 0, 0, 0, []), (10, .invokevirtual 68, 3, 181, 3, 1, 9, [(0, 203)]), (13, .aload_n 0, 1, 0, 0, 0, 0, []), (14, .iload_n 1, 1, 0, 0, 0, 0, []), (15, .iconst 2, 1, 0, 0, 0, 0, []), (16, .invokevirtual 68, 3, 181, 3, 1, 9, [(0, 203)]), (19, .iload_n 2, 1, 0, 0, 0, 0, []), (20, .invokevirtual 94, 3, 182, 6, 0, 9, [(0, 200)]), (23, .aload_n 0, 1, 0, 0, 0, 0, []), (24, .iload_n 3, 1, 0, 0, 0, 0, []), (25, .invokevirtual 98, 3, 197, 2, 1, 9, [(0, 211)]), (28, .ireturn, 1, 0, 0, 0, 0, [])]]
noncomputable def pm_245 : MR := (14, ⟨"OneAtATimeModel", "changes", "(III)I"⟩, prog_12_method_21_code, 4, (some (.int)), pgA_245)
set_option maxRecDepth 100000 in
noncomputable def pgA_246 : List (List (Nat × EN)) := [[(0, .aload_n 0, 1, 0, 0, 0, 0, []), (1, .iload_n 1, 1, 0, 0, 0, 0, []), (2, .invokevirtual 72, 3, 180, 2, 1, 9, [(0, 199)]), (5, .ifCond .eq 27, 3, 32, 0, 0, 0, []), (8, .iload_n 2, 1, 0, 0, 0, 0, []), (9, .i2l, 1, 0, 0, 0, 0, []), (10, .lconst 0, 1, 0, 0, 0, 0, []), (11, .ldc2_w 276, 3, 3, 0, 0, 0, [(0, 9)]), (14, .invokestatic 60, 3, 179, 3, 1, 0, [(0, 202)]), (17, .ifCond .eq 15, 3, 32, 0, 0, 0, []), (20, .iload_n 3, 1, 0, 0, 0, 0, []), (21, .i2l, 1, 0, 0, 0, 0, []), (22, .lconst 1, 1, 0, 0, 0, 0, []), (23, .ldc2_w 278, 3, 50000, 0, 0, 0, [(0, 10)]), (26, .invokestatic 60, 3, 179, 3, 1, 0, [(0, 202)]), (29, .ifCond .ne 6, 3, 35, 0, 0, 0, [])],
  [(32, .bipush (-2), 2, 0, 0, 0, 0, [(0, 0), (0, 1), (0, 2), (0, 3), (0, 4), (0, 5)]), (34, .ireturn, 1, 0, 0, 0, 0, []), (35, .aload_n 0, 1, 0, 0, 0, 0, []), (36, .iload_n 1, 1, 0, 0, 0, 0, []), (37, .iconst 3, 1, 0, 0, 0, 0, []), (38, .invokevirtual 68, 3, 181, 3, 1, 9, [(0, 203)]), (41, .istore 4, 2, 0, 0, 0, 0, []), (43, .aload_n 0, 1, 0, 0, 0, 0, []), (44, .iload_n 1, 1, 0, 0, 0, 0, []), (45, .iload 4, 2, 0, 0, 0, 0, []), (47, .invokevirtual 194, 3, 208, 3, 1, 9, [(0, 229)]), (50, .ifCond .ne 5, 3, 55, 0, 0, 0, []), (53, .iconst (-1), 1, 0, 0, 0, 0, []), (54, .ireturn, 1, 0, 0, 0, 0, []), (55, .aload_n 0, 1, 0, 0, 0, 0, []), (56, .iload_n 2, 1, 0, 0, 0, 0, []), (57, .putfield 260, 3, 9, 23, 0, 0, [(0, 107)]), (60, .aload_n 0, 1, 0, 0, 0, 0, []), (61, .iconst 0, 1, 0, 0, 0, 0, []), (62, .putfield 263, 3, 9, 22, 0, 0, [(0, 108)])],
  [(65, .iconst 0, 1, 0, 0, 0, 0, []), (66, .istore 5, 2, 0, 0, 0, 0, []), (68, .iload 5, 2, 0, 0, 0, 0, [(0, 2)]), (70, .iconst 1, 1, 0, 0, 0, 0, []), (71, .aload_n 0, 1, 0, 0, 0, 0, []), (72, .iload_n 1, 1, 0, 0, 0, 0, []), (73, .invokevirtual 75, 3, 207, 2, 1, 9, [(0, 228)]), (76, .ishl, 1, 0, 0, 0, 0, []), (77, .if_icmp .ge 33, 3, 110, 0, 0, 0, []), (80, .aload_n 0, 1, 0, 0, 0, 0, []), (81, .dup, 1, 0, 0, 0, 0, []), (82, .getfield 263, 3, 9, 22, 0, 0, [(0, 108)]), (85, .aload_n 0, 1, 0, 0, 0, 0, []), (86, .iload_n 1, 1, 0, 0, 0, 0, []), (87, .iload 5, 2, 0, 0, 0, 0, []), (89, .invokevirtual 194, 3, 208, 3, 1, 9, [(0, 229)]), (92, .ifCond .eq 7, 3, 99, 0, 0, 0, []), (95, .iconst 1, 1, 0, 0, 0, 0, [])],
  [(96, .goto 4, 3, 100, 0, 0, 0, []), (99, .iconst 0, 1, 0, 0, 0, 0, []), (100, .iadd, 1, 0, 0, 0, 0, [(0, 2)]), (101, .putfield 263, 3, 9, 22, 0, 0, [(0, 108)]), (104, .iinc 5 1, 3, 0, 0, 0, 0, []), (107, .goto (-39), 3, 68, 0, 0, 0, []), (110, .aload_n 0, 1, 0, 0, 0, 0, []), (111, .invokevirtual 280, 3, 247, 1, 0, 9, [(0, 244)]), (114, .aload_n 0, 1, 0, 0, 0, 0, []), (115, .getfield 39, 3, 9, 19, 2, 0, [(0, 89)]), (118, .iload 4, 2, 0, 0, 0, 0, []), (120, .iconst 1, 1, 0, 0, 0, 0, []), (121, .bastore, 1, 22, 0, 0, 0, []), (122, .aload_n 0, 1, 0, 0, 0, 0, []), (123, .getfield 43, 3, 9, 20, 2, 0, [(0, 90)]), (126, .iconst 0, 1, 0, 0, 0, 0, []), (127, .iload 4, 2, 0, 0, 0, 0, [])],
  [(129, .iastore, 1, 20, 0, 0, 0, []), (130, .aload_n 0, 1, 0, 0, 0, 0, []), (131, .iconst 0, 1, 0, 0, 0, 0, []), (132, .putfield 269, 3, 9, 21, 0, 0, [(0, 109)]), (135, .aload_n 0, 1, 0, 0, 0, 0, []), (136, .iload_n 1, 1, 0, 0, 0, 0, []), (137, .iconst 0, 1, 0, 0, 0, 0, []), (138, .iconst 0, 1, 0, 0, 0, 0, []), (139, .iload_n 3, 1, 0, 0, 0, 0, []), (140, .invokevirtual 272, 3, 248, 5, 1, 9, [(0, 245)]), (143, .istore 5, 2, 0, 0, 0, 0, []), (145, .iload 5, 2, 0, 0, 0, 0, []), (147, .iconst 1, 1, 0, 0, 0, 0, []), (148, .if_icmp .ne 17, 3, 165, 0, 0, 0, []), (151, .aload_n 0, 1, 0, 0, 0, 0, []), (152, .iload_n 1, 1, 0, 0, 0, 0, []), (153, .iload 4, 2, 0, 0, 0, 0, []), (155, .aload_n 0, 1, 0, 0, 0, 0, []), (156, .getfield 88, 3, 9, 5, 0, 0, [(0, 96)]), (159, .invokevirtual 256, 3, 245, 4, 1, 9, [(0, 243)])],
  [(162, .goto 14, 3, 176, 0, 0, 0, []), (165, .iload 5, 2, 0, 0, 0, 0, []), (167, .ifCond .ne 7, 3, 174, 0, 0, 0, []), (170, .iconst (-1), 1, 0, 0, 0, 0, []), (171, .goto 5, 3, 176, 0, 0, 0, []), (174, .bipush (-3), 2, 0, 0, 0, 0, []), (176, .ireturn, 1, 0, 0, 0, 0, [(0, 0), (0, 1), (0, 2), (0, 3), (0, 4), (0, 5)])]]
noncomputable def pm_246 : MR := (14, ⟨"OneAtATimeModel", "finds", "(III)I"⟩, prog_12_method_76_code, 6, (some (.int)), pgA_246)
set_option maxRecDepth 100000 in
noncomputable def pgA_247 : List (List (Nat × EN)) := [[(0, .iconst 0, 1, 0, 0, 0, 0, []), (1, .istore_n 1, 1, 0, 0, 0, 0, []), (2, .iload_n 1, 1, 0, 0, 0, 0, []), (3, .sipush 256, 3, 0, 0, 0, 0, []), (6, .if_icmp .ge 16, 3, 22, 0, 0, 0, []), (9, .aload_n 0, 1, 0, 0, 0, 0, []), (10, .getfield 39, 3, 9, 19, 2, 0, [(0, 89)]), (13, .iload_n 1, 1, 0, 0, 0, 0, []), (14, .iconst 0, 1, 0, 0, 0, 0, []), (15, .bastore, 1, 22, 0, 0, 0, []), (16, .iinc 1 1, 3, 0, 0, 0, 0, []), (19, .goto (-17), 3, 2, 0, 0, 0, []), (22, .return_, 1, 0, 0, 0, 0, [])]]
noncomputable def pm_247 : MR := (14, ⟨"OneAtATimeModel", "forgetsGone", "()V"⟩, prog_12_method_73_code, 2, none, pgA_247)
set_option maxRecDepth 100000 in
noncomputable def pgA_248 : List (List (Nat × EN)) := [[(0, .iload_n 2, 1, 0, 0, 0, 0, []), (1, .aload_n 0, 1, 0, 0, 0, 0, []), (2, .getfield 263, 3, 9, 22, 0, 0, [(0, 108)]), (5, .iconst 1, 1, 0, 0, 0, 0, []), (6, .isub, 1, 0, 0, 0, 0, []), (7, .if_icmp .ne 23, 3, 30, 0, 0, 0, []), (10, .aload_n 0, 1, 0, 0, 0, 0, []), (11, .iload_n 2, 1, 0, 0, 0, 0, []), (12, .putfield 88, 3, 9, 5, 0, 0, [(0, 96)]), (15, .aload_n 0, 1, 0, 0, 0, 0, []), (16, .iload_n 1, 1, 0, 0, 0, 0, []), (17, .iload_n 2, 1, 0, 0, 0, 0, []), (18, .invokevirtual 266, 3, 249, 3, 1, 9, [(0, 246)]), (21, .ifCond .eq 7, 3, 28, 0, 0, 0, []), (24, .iconst 1, 1, 0, 0, 0, 0, []), (25, .goto 4, 3, 29, 0, 0, 0, []), (28, .iconst 0, 1, 0, 0, 0, 0, []), (29, .ireturn, 1, 0, 0, 0, 0, [(0, 0), (0, 1), (0, 2), (0, 3), (0, 4), (0, 5), (0, 6), (0, 7), (0, 8)]), (30, .iconst 0, 1, 0, 0, 0, 0, []), (31, .istore 5, 2, 0, 0, 0, 0, [])],
  [(33, .iload 5, 2, 0, 0, 0, 0, [(0, 6), (0, 7), (0, 8)]), (35, .aload_n 0, 1, 0, 0, 0, 0, []), (36, .iload_n 1, 1, 0, 0, 0, 0, []), (37, .invokevirtual 75, 3, 207, 2, 1, 9, [(0, 228)]), (40, .if_icmp .ge 162, 3, 202, 0, 0, 0, []), (43, .aload_n 0, 1, 0, 0, 0, 0, []), (44, .getfield 43, 3, 9, 20, 2, 0, [(0, 90)]), (47, .iload_n 2, 1, 0, 0, 0, 0, []), (48, .iaload, 1, 20, 0, 0, 0, []), (49, .iconst 1, 1, 0, 0, 0, 0, []), (50, .iload 5, 2, 0, 0, 0, 0, []), (52, .ishl, 1, 0, 0, 0, 0, []), (53, .ixor, 1, 0, 0, 0, 0, []), (54, .istore 6, 2, 0, 0, 0, 0, []), (56, .iload 6, 2, 0, 0, 0, 0, []), (58, .invokestatic 79, 3, 209, 1, 1, 0, [(0, 230)]), (61, .aload_n 0, 1, 0, 0, 0, 0, []), (62, .getfield 43, 3, 9, 20, 2, 0, [(0, 90)])],
  [(65, .iload_n 2, 1, 0, 0, 0, 0, []), (66, .iaload, 1, 20, 0, 0, 0, []), (67, .invokestatic 79, 3, 209, 1, 1, 0, [(0, 230)]), (70, .invokestatic 129, 3, 1005, 2, 1, 0, [(0, 213)]), (73, .istore 7, 2, 0, 0, 0, 0, []), (75, .aload_n 0, 1, 0, 0, 0, 0, []), (76, .getfield 39, 3, 9, 19, 2, 0, [(0, 89)]), (79, .iload 6, 2, 0, 0, 0, 0, []), (81, .baload, 1, 22, 0, 0, 0, []), (82, .ifCond .ne 114, 3, 196, 0, 0, 0, []), (85, .aload_n 0, 1, 0, 0, 0, 0, []), (86, .iload_n 1, 1, 0, 0, 0, 0, []), (87, .iload 6, 2, 0, 0, 0, 0, []), (89, .invokevirtual 194, 3, 208, 3, 1, 9, [(0, 229)]), (92, .ifCond .eq 104, 3, 196, 0, 0, 0, []), (95, .aload_n 0, 1, 0, 0, 0, 0, [])],
  [(96, .getfield 260, 3, 9, 23, 0, 0, [(0, 107)]), (99, .iconst 2, 1, 0, 0, 0, 0, []), (100, .if_icmp .ne 14, 3, 114, 0, 0, 0, []), (103, .iload_n 3, 1, 0, 0, 0, 0, []), (104, .iload 7, 2, 0, 0, 0, 0, []), (106, .iconst 2, 1, 0, 0, 0, 0, []), (107, .iadd, 1, 0, 0, 0, 0, []), (108, .if_icmp .lt 6, 3, 114, 0, 0, 0, []), (111, .goto 85, 3, 196, 0, 0, 0, []), (114, .aload_n 0, 1, 0, 0, 0, 0, [(0, 8)]), (115, .getfield 269, 3, 9, 21, 0, 0, [(0, 109)]), (118, .iload 4, 2, 0, 0, 0, 0, []), (120, .if_icmp .ne 6, 3, 126, 0, 0, 0, []), (123, .bipush (-3), 2, 0, 0, 0, 0, []), (125, .ireturn, 1, 0, 0, 0, 0, []), (126, .aload_n 0, 1, 0, 0, 0, 0, []), (127, .dup, 1, 0, 0, 0, 0, [])],
  [(128, .getfield 269, 3, 9, 21, 0, 0, [(0, 109)]), (131, .iconst 1, 1, 0, 0, 0, 0, []), (132, .iadd, 1, 0, 0, 0, 0, []), (133, .putfield 269, 3, 9, 21, 0, 0, [(0, 109)]), (136, .aload_n 0, 1, 0, 0, 0, 0, []), (137, .getfield 39, 3, 9, 19, 2, 0, [(0, 89)]), (140, .iload 6, 2, 0, 0, 0, 0, []), (142, .iconst 1, 1, 0, 0, 0, 0, []), (143, .bastore, 1, 22, 0, 0, 0, []), (144, .aload_n 0, 1, 0, 0, 0, 0, []), (145, .getfield 23, 3, 9, 4, 2, 0, [(0, 84)]), (148, .iload_n 2, 1, 0, 0, 0, 0, []), (149, .iload 5, 2, 0, 0, 0, 0, []), (151, .iastore, 1, 20, 0, 0, 0, []), (152, .aload_n 0, 1, 0, 0, 0, 0, []), (153, .getfield 43, 3, 9, 20, 2, 0, [(0, 90)]), (156, .iload_n 2, 1, 0, 0, 0, 0, []), (157, .iconst 1, 1, 0, 0, 0, 0, []), (158, .iadd, 1, 0, 0, 0, 0, []), (159, .iload 6, 2, 0, 0, 0, 0, [])],
  [(161, .iastore, 1, 20, 0, 0, 0, []), (162, .aload_n 0, 1, 0, 0, 0, 0, []), (163, .iload_n 1, 1, 0, 0, 0, 0, []), (164, .iload_n 2, 1, 0, 0, 0, 0, []), (165, .iconst 1, 1, 0, 0, 0, 0, []), (166, .iadd, 1, 0, 0, 0, 0, []), (167, .iload_n 3, 1, 0, 0, 0, 0, []), (168, .iload 7, 2, 0, 0, 0, 0, []), (170, .invokestatic 197, 3, 1004, 2, 1, 0, [(0, 231)]), (173, .iload 4, 2, 0, 0, 0, 0, []), (175, .invokevirtual 272, 3, 248, 5, 1, 9, [(0, 245)]), (178, .istore 8, 2, 0, 0, 0, 0, []), (180, .iload 8, 2, 0, 0, 0, 0, []), (182, .ifCond .eq 6, 3, 188, 0, 0, 0, []), (185, .iload 8, 2, 0, 0, 0, 0, []), (187, .ireturn, 1, 0, 0, 0, 0, []), (188, .aload_n 0, 1, 0, 0, 0, 0, []), (189, .getfield 39, 3, 9, 19, 2, 0, [(0, 89)])],
  [(192, .iload 6, 2, 0, 0, 0, 0, []), (194, .iconst 0, 1, 0, 0, 0, 0, []), (195, .bastore, 1, 22, 0, 0, 0, []), (196, .iinc 5 1, 3, 0, 0, 0, 0, [(0, 6), (0, 7), (0, 8)]), (199, .goto (-166), 3, 33, 0, 0, 0, []), (202, .iconst 0, 1, 0, 0, 0, 0, []), (203, .ireturn, 1, 0, 0, 0, 0, [])]]
noncomputable def pm_248 : MR := (14, ⟨"OneAtATimeModel", "searches", "(IIII)I"⟩, prog_12_method_75_code, 9, (some (.int)), pgA_248)
set_option maxRecDepth 100000 in
noncomputable def pgA_249 : List (List (Nat × EN)) := [[(0, .aload_n 0, 1, 0, 0, 0, 0, []), (1, .getfield 260, 3, 9, 23, 0, 0, [(0, 107)]), (4, .ifCond .eq 11, 3, 15, 0, 0, 0, []), (7, .aload_n 0, 1, 0, 0, 0, 0, []), (8, .getfield 260, 3, 9, 23, 0, 0, [(0, 107)]), (11, .iconst 2, 1, 0, 0, 0, 0, []), (12, .if_icmp .ne 5, 3, 17, 0, 0, 0, []), (15, .iconst 1, 1, 0, 0, 0, 0, [(0, 0), (0, 1), (0, 2), (0, 3), (0, 4), (0, 5)]), (16, .ireturn, 1, 1, 0, 0, 0, []), (17, .aload_n 0, 1, 0, 0, 0, 0, []), (18, .getfield 43, 3, 9, 20, 2, 0, [(0, 90)]), (21, .iload_n 2, 1, 0, 0, 0, 0, []), (22, .iaload, 1, 20, 0, 0, 0, []), (23, .aload_n 0, 1, 0, 0, 0, 0, []), (24, .getfield 43, 3, 9, 20, 2, 0, [(0, 90)]), (27, .iconst 0, 1, 0, 0, 0, 0, []), (28, .iaload, 1, 20, 0, 0, 0, []), (29, .ixor, 1, 0, 0, 0, 0, []), (30, .istore_n 3, 1, 0, 0, 0, 0, []), (31, .iload_n 3, 1, 0, 0, 0, 0, [])],
  [(32, .invokestatic 79, 3, 209, 1, 1, 0, [(0, 230)]), (35, .iconst 1, 1, 0, 0, 0, 0, []), (36, .if_icmp .eq 5, 3, 41, 0, 0, 0, []), (39, .iconst 0, 1, 0, 0, 0, 0, []), (40, .ireturn, 1, 1, 0, 0, 0, []), (41, .aload_n 0, 1, 0, 0, 0, 0, []), (42, .getfield 23, 3, 9, 4, 2, 0, [(0, 84)]), (45, .iload_n 2, 1, 0, 0, 0, 0, []), (46, .iload_n 3, 1, 0, 0, 0, 0, []), (47, .invokestatic 253, 3, 243, 1, 1, 0, [(0, 242)]), (50, .iastore, 1, 20, 0, 0, 0, []), (51, .aload_n 0, 1, 0, 0, 0, 0, []), (52, .iload_n 2, 1, 0, 0, 0, 0, []), (53, .iconst 1, 1, 0, 0, 0, 0, []), (54, .iadd, 1, 0, 0, 0, 0, []), (55, .putfield 88, 3, 9, 5, 0, 0, [(0, 96)]), (58, .aload_n 0, 1, 0, 0, 0, 0, []), (59, .getfield 260, 3, 9, 23, 0, 0, [(0, 107)]), (62, .iconst 1, 1, 0, 0, 0, 0, []), (63, .if_icmp .ne 5, 3, 68, 0, 0, 0, [])],
  [(66, .iconst 1, 1, 0, 0, 0, 0, []), (67, .ireturn, 1, 1, 0, 0, 0, []), (68, .aload_n 0, 1, 0, 0, 0, 0, []), (69, .getfield 88, 3, 9, 5, 0, 0, [(0, 96)]), (72, .iconst 2, 1, 0, 0, 0, 0, []), (73, .irem, 1, 0, 0, 0, 0, []), (74, .ifCond .ne 7, 3, 81, 0, 0, 0, []), (77, .iconst 1, 1, 0, 0, 0, 0, []), (78, .goto 4, 3, 82, 0, 0, 0, []), (81, .iconst 0, 1, 0, 0, 0, 0, []), (82, .istore 4, 2, 0, 0, 0, 0, [(0, 2), (0, 3), (0, 4), (0, 5)]), (84, .iconst 0, 1, 0, 0, 0, 0, []), (85, .istore 5, 2, 0, 0, 0, 0, []), (87, .iload 5, 2, 0, 0, 0, 0, [(0, 2), (0, 3)]), (89, .aload_n 0, 1, 0, 0, 0, 0, []), (90, .getfield 88, 3, 9, 5, 0, 0, [(0, 96)]), (93, .iconst 2, 1, 0, 0, 0, 0, []), (94, .idiv, 1, 0, 0, 0, 0, []), (95, .if_icmp .ge 55, 3, 150, 0, 0, 0, [])],
  [(98, .iload 4, 2, 0, 0, 0, 0, []), (100, .ifCond .eq 50, 3, 150, 0, 0, 0, []), (103, .aload_n 0, 1, 0, 0, 0, 0, []), (104, .getfield 43, 3, 9, 20, 2, 0, [(0, 90)]), (107, .iload 5, 2, 0, 0, 0, 0, []), (109, .iaload, 1, 20, 0, 0, 0, []), (110, .aload_n 0, 1, 0, 0, 0, 0, []), (111, .getfield 43, 3, 9, 20, 2, 0, [(0, 90)]), (114, .iload 5, 2, 0, 0, 0, 0, []), (116, .aload_n 0, 1, 0, 0, 0, 0, []), (117, .getfield 88, 3, 9, 5, 0, 0, [(0, 96)]), (120, .iconst 2, 1, 0, 0, 0, 0, []), (121, .idiv, 1, 0, 0, 0, 0, []), (122, .iadd, 1, 0, 0, 0, 0, []), (123, .iaload, 1, 20, 0, 0, 0, []), (124, .ixor, 1, 0, 0, 0, 0, []), (125, .iconst 1, 1, 0, 0, 0, 0, []), (126, .aload_n 0, 1, 0, 0, 0, 0, []), (127, .iload_n 1, 1, 0, 0, 0, 0, [])],
  [(128, .invokevirtual 75, 3, 207, 2, 1, 9, [(0, 228)]), (131, .ishl, 1, 0, 0, 0, 0, []), (132, .iconst 1, 1, 0, 0, 0, 0, []), (133, .isub, 1, 0, 0, 0, 0, []), (134, .if_icmp .ne 7, 3, 141, 0, 0, 0, []), (137, .iconst 1, 1, 0, 0, 0, 0, []), (138, .goto 4, 3, 142, 0, 0, 0, []), (141, .iconst 0, 1, 0, 0, 0, 0, []), (142, .istore 4, 2, 0, 0, 0, 0, [(0, 2), (0, 3), (0, 4)]), (144, .iinc 5 1, 3, 0, 0, 0, 0, []), (147, .goto (-60), 3, 87, 0, 0, 0, []), (150, .iload 4, 2, 0, 0, 0, 0, [(0, 0), (0, 1), (0, 2), (0, 3), (0, 5)]), (152, .ireturn, 1, 1, 0, 0, 0, [])]]
noncomputable def pm_249 : MR := (14, ⟨"OneAtATimeModel", "ends", "(II)Z"⟩, prog_12_method_74_code, 6, (some (.boolean)), pgA_249)
set_option maxRecDepth 100000 in
noncomputable def pgA_250 : List (List (Nat × EN)) := [[(0, .aload_n 0, 1, 0, 0, 0, 0, []), (1, .iload_n 1, 1, 0, 0, 0, 0, []), (2, .invokevirtual 72, 3, 180, 2, 1, 9, [(0, 199)]), (5, .ifCond .ne 6, 3, 11, 0, 0, 0, []), (8, .bipush (-2), 2, 0, 0, 0, 0, []), (10, .ireturn, 1, 0, 0, 0, 0, []), (11, .iconst 0, 1, 0, 0, 0, 0, []), (12, .aload_n 0, 1, 0, 0, 0, 0, []), (13, .iload_n 1, 1, 0, 0, 0, 0, []), (14, .invokevirtual 101, 3, 204, 2, 1, 9, [(0, 226)]), (17, .iconst 1, 1, 0, 0, 0, 0, []), (18, .isub, 1, 0, 0, 0, 0, []), (19, .invokestatic 197, 3, 1004, 2, 1, 0, [(0, 231)]), (22, .istore 4, 2, 0, 0, 0, 0, []), (24, .iload 4, 2, 0, 0, 0, 0, []), (26, .bipush 64, 2, 0, 0, 0, 0, []), (28, .if_icmp .ge 12, 3, 40, 0, 0, 0, []), (31, .lload_n 2, 1, 0, 0, 0, 0, [])],
  [(32, .iload 4, 2, 0, 0, 0, 0, []), (34, .lushr, 1, 0, 0, 0, 0, []), (35, .lconst 0, 1, 0, 0, 0, 0, []), (36, .lcmp, 1, 0, 0, 0, 0, []), (37, .ifCond .ne 13, 3, 50, 0, 0, 0, []), (40, .lload_n 2, 1, 0, 0, 0, 0, [(0, 3), (0, 4), (0, 5)]), (41, .invokestatic 290, 3, 251, 1, 1, 0, [(0, 247)]), (44, .iconst 2, 1, 0, 0, 0, 0, []), (45, .irem, 1, 0, 0, 0, 0, []), (46, .iconst 1, 1, 0, 0, 0, 0, []), (47, .if_icmp .ne 6, 3, 53, 0, 0, 0, []), (50, .bipush (-2), 2, 0, 0, 0, 0, [(0, 0), (0, 1), (0, 2), (0, 3), (0, 4), (0, 5)]), (52, .ireturn, 1, 0, 0, 0, 0, []), (53, .aload_n 0, 1, 0, 0, 0, 0, []), (54, .iload_n 1, 1, 0, 0, 0, 0, []), (55, .invokevirtual 75, 3, 207, 2, 1, 9, [(0, 228)]), (58, .istore 5, 2, 0, 0, 0, 0, []), (60, .iload 5, 2, 0, 0, 0, 0, []), (62, .bipush 6, 2, 0, 0, 0, 0, [])],
  [(64, .if_icmp .le 6, 3, 70, 0, 0, 0, []), (67, .bipush (-5), 2, 0, 0, 0, 0, []), (69, .ireturn, 1, 0, 0, 0, 0, []), (70, .aload_n 0, 1, 0, 0, 0, 0, []), (71, .iload_n 1, 1, 0, 0, 0, 0, []), (72, .invokevirtual 294, 3, 252, 2, 1, 9, [(0, 248)]), (75, .ifCond .ne 6, 3, 81, 0, 0, 0, []), (78, .bipush (-6), 2, 0, 0, 0, 0, []), (80, .ireturn, 1, 0, 0, 0, 0, []), (81, .aload_n 0, 1, 0, 0, 0, 0, []), (82, .iload_n 1, 1, 0, 0, 0, 0, []), (83, .lload_n 2, 1, 0, 0, 0, 0, []), (84, .invokevirtual 297, 3, 253, 3, 0, 9, [(0, 249)]), (87, .aload_n 0, 1, 0, 0, 0, 0, []), (88, .iload_n 1, 1, 0, 0, 0, 0, []), (89, .iload 5, 2, 0, 0, 0, 0, []), (91, .iconst 2, 1, 0, 0, 0, 0, []), (92, .iadd, 1, 0, 0, 0, 0, []), (93, .iconst 0, 1, 0, 0, 0, 0, []), (94, .iload 5, 2, 0, 0, 0, 0, [])],
  [(96, .iconst 2, 1, 0, 0, 0, 0, []), (97, .iadd, 1, 0, 0, 0, 0, []), (98, .aload_n 0, 1, 0, 0, 0, 0, []), (99, .iload_n 1, 1, 0, 0, 0, 0, []), (100, .iconst 3, 1, 0, 0, 0, 0, []), (101, .invokevirtual 68, 3, 181, 3, 1, 9, [(0, 203)]), (104, .invokevirtual 94, 3, 182, 6, 0, 9, [(0, 200)]), (107, .aload_n 0, 1, 0, 0, 0, 0, []), (108, .iload 5, 2, 0, 0, 0, 0, []), (110, .iconst 2, 1, 0, 0, 0, 0, []), (111, .iadd, 1, 0, 0, 0, 0, []), (112, .invokevirtual 85, 3, 184, 2, 1, 9, [(0, 201)]), (115, .ireturn, 1, 0, 0, 0, 0, [])]]
noncomputable def pm_250 : MR := (14, ⟨"OneAtATimeModel", "extend", "(IJ)I"⟩, prog_12_method_82_code, 6, (some (.int)), pgA_250)
set_option maxRecDepth 100000 in
noncomputable def pgA_251 : List (List (Nat × EN)) := [[(0, .iconst 0, 1, 0, 0, 0, 0, []), (1, .istore_n 2, 1, 0, 0, 0, 0, []), (2, .lload_n 0, 1, 0, 0, 0, 0, []), (3, .lstore_n 3, 1, 0, 0, 0, 0, []), (4, .lload_n 3, 1, 0, 0, 0, 0, [(0, 0), (0, 1), (0, 4)]), (5, .lconst 0, 1, 0, 0, 0, 0, []), (6, .lcmp, 1, 0, 0, 0, 0, []), (7, .ifCond .eq 15, 3, 22, 0, 0, 0, []), (10, .iinc 2 1, 3, 0, 0, 0, 0, []), (13, .lload_n 3, 1, 0, 0, 0, 0, []), (14, .lload_n 3, 1, 0, 0, 0, 0, []), (15, .lconst 1, 1, 0, 0, 0, 0, []), (16, .lsub, 1, 0, 0, 0, 0, []), (17, .land, 1, 0, 0, 0, 0, []), (18, .lstore_n 3, 1, 0, 0, 0, 0, []), (19, .goto (-15), 3, 4, 0, 0, 0, []), (22, .iload_n 2, 1, 0, 0, 0, 0, []), (23, .ireturn, 1, 0, 0, 0, 0, [])]]
noncomputable def pm_251 : MR := (14, ⟨"OneAtATimeModel", "onesOf", "(J)I"⟩, prog_12_method_81_code, 5, (some (.int)), pgA_251)
set_option maxRecDepth 100000 in
noncomputable def pgA_252 : List (List (Nat × EN)) := [[(0, .aload_n 0, 1, 0, 0, 0, 0, []), (1, .iload_n 1, 1, 0, 0, 0, 0, []), (2, .invokevirtual 209, 3, 206, 2, 1, 9, [(0, 220)]), (5, .ifCond .eq 37, 3, 42, 0, 0, 0, []), (8, .aload_n 0, 1, 0, 0, 0, 0, []), (9, .getfield 185, 3, 9, 18, 1, 0, [(0, 105)]), (12, .ifCond .eq 30, 3, 42, 0, 0, 0, []), (15, .aload_n 0, 1, 0, 0, 0, 0, []), (16, .iload_n 1, 1, 0, 0, 0, 0, []), (17, .iconst 1, 1, 0, 0, 0, 0, []), (18, .invokevirtual 68, 3, 181, 3, 1, 9, [(0, 203)]), (21, .ifCond .ne 21, 3, 42, 0, 0, 0, []), (24, .aload_n 0, 1, 0, 0, 0, 0, []), (25, .iload_n 1, 1, 0, 0, 0, 0, []), (26, .iconst 2, 1, 0, 0, 0, 0, []), (27, .invokevirtual 68, 3, 181, 3, 1, 9, [(0, 203)]), (30, .aload_n 0, 1, 0, 0, 0, 0, []), (31, .iload_n 1, 1, 0, 0, 0, 0, [])],
  [(32, .invokevirtual 75, 3, 207, 2, 1, 9, [(0, 228)]), (35, .if_icmp .ne 7, 3, 42, 0, 0, 0, []), (38, .iconst 1, 1, 0, 0, 0, 0, []), (39, .goto 4, 3, 43, 0, 0, 0, []), (42, .iconst 0, 1, 0, 0, 0, 0, [(0, 0), (0, 1)]), (43, .ireturn, 1, 1, 0, 0, 0, [(0, 0), (0, 1)])]]
noncomputable def pm_252 : MR := (14, ⟨"OneAtATimeModel", "isCutable", "(I)Z"⟩, prog_12_method_77_code, 2, (some (.boolean)), pgA_252)
set_option maxRecDepth 100000 in
noncomputable def pgA_253 : List (List (Nat × EN)) := [[(0, .aload_n 0, 1, 0, 0, 0, 0, []), (1, .iload_n 1, 1, 0, 0, 0, 0, []), (2, .invokevirtual 75, 3, 207, 2, 1, 9, [(0, 228)]), (5, .istore 4, 2, 0, 0, 0, 0, []), (7, .aload_n 0, 1, 0, 0, 0, 0, []), (8, .iload_n 1, 1, 0, 0, 0, 0, []), (9, .invokevirtual 101, 3, 204, 2, 1, 9, [(0, 226)]), (12, .iconst 1, 1, 0, 0, 0, 0, []), (13, .isub, 1, 0, 0, 0, 0, []), (14, .istore 5, 2, 0, 0, 0, 0, []), (16, .iconst 0, 1, 0, 0, 0, 0, []), (17, .istore 6, 2, 0, 0, 0, 0, []), (19, .iconst 0, 1, 0, 0, 0, 0, []), (20, .istore 7, 2, 0, 0, 0, 0, []), (22, .aload_n 0, 1, 0, 0, 0, 0, []), (23, .iconst 0, 1, 0, 0, 0, 0, []), (24, .putfield 88, 3, 9, 5, 0, 0, [(0, 96)]), (27, .iconst 0, 1, 0, 0, 0, 0, []), (28, .istore 8, 2, 0, 0, 0, 0, []), (30, .iload 8, 2, 0, 0, 0, 0, [(0, 3), (0, 9)])],
  [(32, .iload 5, 2, 0, 0, 0, 0, []), (34, .if_icmp .gt 143, 3, 177, 0, 0, 0, []), (37, .iload 8, 2, 0, 0, 0, 0, []), (39, .iload 5, 2, 0, 0, 0, 0, []), (41, .if_icmp .ge 18, 3, 59, 0, 0, 0, []), (44, .lload_n 2, 1, 0, 0, 0, 0, []), (45, .iload 8, 2, 0, 0, 0, 0, []), (47, .lshr, 1, 0, 0, 0, 0, []), (48, .lconst 1, 1, 0, 0, 0, 0, []), (49, .land, 1, 0, 0, 0, 0, []), (50, .lconst 1, 1, 0, 0, 0, 0, []), (51, .lcmp, 1, 0, 0, 0, 0, []), (52, .ifCond .ne 7, 3, 59, 0, 0, 0, []), (55, .iconst 1, 1, 0, 0, 0, 0, []), (56, .goto 4, 3, 60, 0, 0, 0, []), (59, .iconst 0, 1, 0, 0, 0, 0, [(0, 3), (0, 9)]), (60, .istore 9, 2, 0, 0, 0, 0, [(0, 3), (0, 9)]), (62, .iload 9, 2, 0, 0, 0, 0, [])],
  [(64, .ifCond .ne 13, 3, 77, 0, 0, 0, []), (67, .iload 8, 2, 0, 0, 0, 0, []), (69, .iload 5, 2, 0, 0, 0, 0, []), (71, .if_icmp .ge 6, 3, 77, 0, 0, 0, []), (74, .goto 97, 3, 171, 0, 0, 0, []), (77, .aload_n 0, 1, 0, 0, 0, 0, [(0, 3), (0, 9)]), (78, .iload_n 1, 1, 0, 0, 0, 0, []), (79, .iload 6, 2, 0, 0, 0, 0, []), (81, .iload 8, 2, 0, 0, 0, 0, []), (83, .invokevirtual 283, 3, 254, 4, 0, 9, [(0, 250)]), (86, .aload_n 0, 1, 0, 0, 0, 0, []), (87, .iload 7, 2, 0, 0, 0, 0, []), (89, .iconst 2, 1, 0, 0, 0, 0, []), (90, .irem, 1, 0, 0, 0, 0, []), (91, .ifCond .ne 8, 3, 99, 0, 0, 0, []), (94, .iload 4, 2, 0, 0, 0, 0, [])],
  [(96, .goto 7, 3, 103, 0, 0, 0, []), (99, .iload 4, 2, 0, 0, 0, 0, []), (101, .iconst 1, 1, 0, 0, 0, 0, []), (102, .iadd, 1, 0, 0, 0, 0, []), (103, .invokevirtual 107, 3, 196, 2, 0, 9, [(0, 217)]), (106, .aload_n 0, 1, 0, 0, 0, 0, []), (107, .iload_n 1, 1, 0, 0, 0, 0, []), (108, .iload 6, 2, 0, 0, 0, 0, []), (110, .iload 8, 2, 0, 0, 0, 0, []), (112, .invokevirtual 287, 3, 255, 4, 0, 9, [(0, 251)]), (115, .aload_n 0, 1, 0, 0, 0, 0, []), (116, .iload 7, 2, 0, 0, 0, 0, []), (118, .iconst 2, 1, 0, 0, 0, 0, []), (119, .irem, 1, 0, 0, 0, 0, []), (120, .ifCond .ne 10, 3, 130, 0, 0, 0, []), (123, .iload 4, 2, 0, 0, 0, 0, []), (125, .iconst 1, 1, 0, 0, 0, 0, []), (126, .iadd, 1, 0, 0, 0, 0, []), (127, .goto 5, 3, 132, 0, 0, 0, [])],
  [(130, .iload 4, 2, 0, 0, 0, 0, []), (132, .invokevirtual 107, 3, 196, 2, 0, 9, [(0, 217)]), (135, .aload_n 0, 1, 0, 0, 0, 0, []), (136, .iload_n 1, 1, 0, 0, 0, 0, []), (137, .iload 6, 2, 0, 0, 0, 0, []), (139, .iload 8, 2, 0, 0, 0, 0, []), (141, .invokevirtual 283, 3, 254, 4, 0, 9, [(0, 250)]), (144, .iload 8, 2, 0, 0, 0, 0, []), (146, .iload 5, 2, 0, 0, 0, 0, []), (148, .if_icmp .ge 14, 3, 162, 0, 0, 0, []), (151, .aload_n 0, 1, 0, 0, 0, 0, []), (152, .aload_n 0, 1, 0, 0, 0, 0, []), (153, .iload_n 1, 1, 0, 0, 0, 0, []), (154, .iload 8, 2, 0, 0, 0, 0, []), (156, .invokevirtual 104, 3, 205, 3, 1, 9, [(0, 227)]), (159, .invokevirtual 107, 3, 196, 2, 0, 9, [(0, 217)])],
  [(162, .iload 8, 2, 0, 0, 0, 0, [(0, 3), (0, 6), (0, 9)]), (164, .iconst 1, 1, 0, 0, 0, 0, []), (165, .iadd, 1, 0, 0, 0, 0, []), (166, .istore 6, 2, 0, 0, 0, 0, []), (168, .iinc 7 1, 3, 0, 0, 0, 0, []), (171, .iinc 8 1, 3, 0, 0, 0, 0, [(0, 3), (0, 9)]), (174, .goto (-144), 3, 30, 0, 0, 0, []), (177, .aload_n 0, 1, 0, 0, 0, 0, []), (178, .iload 4, 2, 0, 0, 0, 0, []), (180, .invokevirtual 107, 3, 196, 2, 0, 9, [(0, 217)]), (183, .aload_n 0, 1, 0, 0, 0, 0, []), (184, .iload_n 1, 1, 0, 0, 0, 0, []), (185, .iconst 0, 1, 0, 0, 0, 0, []), (186, .iload 5, 2, 0, 0, 0, 0, []), (188, .invokevirtual 287, 3, 255, 4, 0, 9, [(0, 251)]), (191, .aload_n 0, 1, 0, 0, 0, 0, [])],
  [(192, .iload 4, 2, 0, 0, 0, 0, []), (194, .iconst 1, 1, 0, 0, 0, 0, []), (195, .iadd, 1, 0, 0, 0, 0, []), (196, .invokevirtual 107, 3, 196, 2, 0, 9, [(0, 217)]), (199, .return_, 1, 0, 0, 0, 0, [])]]
noncomputable def pm_253 : MR := (14, ⟨"OneAtATimeModel", "makesExtended", "(IJ)V"⟩, prog_12_method_80_code, 10, none, pgA_253)
set_option maxRecDepth 100000 in
noncomputable def pgA_254 : List (List (Nat × EN)) := [[(0, .iload_n 2, 1, 0, 0, 0, 0, []), (1, .istore 4, 2, 0, 0, 0, 0, []), (3, .iload 4, 2, 0, 0, 0, 0, [(0, 2)]), (5, .iload_n 3, 1, 0, 0, 0, 0, []), (6, .if_icmp .ge 20, 3, 26, 0, 0, 0, []), (9, .aload_n 0, 1, 0, 0, 0, 0, []), (10, .aload_n 0, 1, 0, 0, 0, 0, []), (11, .iload_n 1, 1, 0, 0, 0, 0, []), (12, .iload 4, 2, 0, 0, 0, 0, []), (14, .invokevirtual 104, 3, 205, 3, 1, 9, [(0, 227)]), (17, .invokevirtual 107, 3, 196, 2, 0, 9, [(0, 217)]), (20, .iinc 4 1, 3, 0, 0, 0, 0, []), (23, .goto (-20), 3, 3, 0, 0, 0, []), (26, .return_, 1, 0, 0, 0, 0, [])]]
noncomputable def pm_254 : MR := (14, ⟨"OneAtATimeModel", "addsOn", "(III)V"⟩, prog_12_method_78_code, 5, none, pgA_254)
set_option maxRecDepth 100000 in
noncomputable def pgA_255 : List (List (Nat × EN)) := [[(0, .iload_n 3, 1, 0, 0, 0, 0, []), (1, .iconst 1, 1, 0, 0, 0, 0, []), (2, .isub, 1, 0, 0, 0, 0, []), (3, .istore 4, 2, 0, 0, 0, 0, []), (5, .iload 4, 2, 0, 0, 0, 0, [(0, 3)]), (7, .iload_n 2, 1, 0, 0, 0, 0, []), (8, .if_icmp .lt 20, 3, 28, 0, 0, 0, []), (11, .aload_n 0, 1, 0, 0, 0, 0, []), (12, .aload_n 0, 1, 0, 0, 0, 0, []), (13, .iload_n 1, 1, 0, 0, 0, 0, []), (14, .iload 4, 2, 0, 0, 0, 0, []), (16, .invokevirtual 104, 3, 205, 3, 1, 9, [(0, 227)]), (19, .invokevirtual 107, 3, 196, 2, 0, 9, [(0, 217)]), (22, .iinc 4 (-1), 3, 0, 0, 0, 0, []), (25, .goto (-20), 3, 5, 0, 0, 0, []), (28, .return_, 1, 0, 0, 0, 0, [])]]
noncomputable def pm_255 : MR := (14, ⟨"OneAtATimeModel", "addsBack", "(III)V"⟩, prog_12_method_79_code, 5, none, pgA_255)
set_option maxRecDepth 100000 in
noncomputable def pgA_256 : List (List (Nat × EN)) := [[(0, .aload_n 0, 1, 0, 0, 0, 0, []), (1, .iload_n 1, 1, 0, 0, 0, 0, []), (2, .invokevirtual 72, 3, 180, 2, 1, 9, [(0, 199)]), (5, .ifCond .eq 13, 3, 18, 0, 0, 0, []), (8, .iload_n 2, 1, 0, 0, 0, 0, []), (9, .i2l, 1, 0, 0, 0, 0, []), (10, .lconst 0, 1, 0, 0, 0, 0, []), (11, .lconst 1, 1, 0, 0, 0, 0, []), (12, .invokestatic 60, 3, 179, 3, 1, 0, [(0, 202)]), (15, .ifCond .ne 7, 3, 22, 0, 0, 0, []), (18, .ldc2_w 301, 3, 2, 1, 0, 0, [(0, 11)]), (21, .lreturn, 1, 0, 0, 0, 0, []), (22, .aload_n 0, 1, 0, 0, 0, 0, []), (23, .iload_n 1, 1, 0, 0, 0, 0, []), (24, .invokevirtual 101, 3, 204, 2, 1, 9, [(0, 226)]), (27, .bipush 16, 2, 0, 0, 0, 0, []), (29, .if_icmp .le 7, 3, 36, 0, 0, 0, [])],
  [(32, .ldc2_w 303, 3, 5, 1, 0, 0, [(0, 12)]), (35, .lreturn, 1, 0, 0, 0, 0, []), (36, .aload_n 0, 1, 0, 0, 0, 0, []), (37, .iload_n 1, 1, 0, 0, 0, 0, []), (38, .invokevirtual 294, 3, 252, 2, 1, 9, [(0, 248)]), (41, .ifCond .ne 7, 3, 48, 0, 0, 0, []), (44, .ldc2_w 305, 3, 6, 1, 0, 0, [(0, 13)]), (47, .lreturn, 1, 0, 0, 0, 0, []), (48, .iconst 0, 1, 0, 0, 0, 0, []), (49, .istore_n 3, 1, 0, 0, 0, 0, []), (50, .sipush 1000, 3, 0, 0, 0, 0, []), (53, .istore 4, 2, 0, 0, 0, 0, []), (55, .iconst 0, 1, 0, 0, 0, 0, []), (56, .istore 5, 2, 0, 0, 0, 0, []), (58, .iload 5, 2, 0, 0, 0, 0, [(0, 6)]), (60, .iconst 1, 1, 0, 0, 0, 0, []), (61, .aload_n 0, 1, 0, 0, 0, 0, []), (62, .iload_n 1, 1, 0, 0, 0, 0, []), (63, .invokevirtual 101, 3, 204, 2, 1, 9, [(0, 226)])],
  [(66, .iconst 1, 1, 0, 0, 0, 0, []), (67, .isub, 1, 0, 0, 0, 0, []), (68, .ishl, 1, 0, 0, 0, 0, []), (69, .if_icmp .ge 58, 3, 127, 0, 0, 0, []), (72, .iload 5, 2, 0, 0, 0, 0, []), (74, .invokestatic 79, 3, 209, 1, 1, 0, [(0, 230)]), (77, .iconst 2, 1, 0, 0, 0, 0, []), (78, .irem, 1, 0, 0, 0, 0, []), (79, .iconst 1, 1, 0, 0, 0, 0, []), (80, .if_icmp .ne 6, 3, 86, 0, 0, 0, []), (83, .goto 38, 3, 121, 0, 0, 0, []), (86, .aload_n 0, 1, 0, 0, 0, 0, []), (87, .iload_n 1, 1, 0, 0, 0, 0, []), (88, .iload 5, 2, 0, 0, 0, 0, []), (90, .i2l, 1, 0, 0, 0, 0, []), (91, .invokevirtual 297, 3, 253, 3, 0, 9, [(0, 249)]), (94, .aload_n 0, 1, 0, 0, 0, 0, []), (95, .aload_n 0, 1, 0, 0, 0, 0, [])],
  [(96, .iload_n 1, 1, 0, 0, 0, 0, []), (97, .invokevirtual 75, 3, 207, 2, 1, 9, [(0, 228)]), (100, .iconst 2, 1, 0, 0, 0, 0, []), (101, .iadd, 1, 0, 0, 0, 0, []), (102, .invokevirtual 307, 3, 257, 2, 1, 9, [(0, 252)]), (105, .istore 6, 2, 0, 0, 0, 0, []), (107, .iload 6, 2, 0, 0, 0, 0, []), (109, .iload 4, 2, 0, 0, 0, 0, []), (111, .if_icmp .ge 10, 3, 121, 0, 0, 0, []), (114, .iload 6, 2, 0, 0, 0, 0, []), (116, .istore 4, 2, 0, 0, 0, 0, []), (118, .iload 5, 2, 0, 0, 0, 0, []), (120, .istore_n 3, 1, 0, 0, 0, 0, []), (121, .iinc 5 1, 3, 0, 0, 0, 0, [(0, 6)]), (124, .goto (-66), 3, 58, 0, 0, 0, []), (127, .iload_n 2, 1, 0, 0, 0, 0, [])],
  [(128, .ifCond .ne 9, 3, 137, 0, 0, 0, []), (131, .iload 4, 2, 0, 0, 0, 0, []), (133, .i2l, 1, 0, 0, 0, 0, []), (134, .goto 5, 3, 139, 0, 0, 0, []), (137, .iload_n 3, 1, 0, 0, 0, 0, []), (138, .i2l, 1, 0, 0, 0, 0, []), (139, .lreturn, 1, 0, 0, 0, 0, [(0, 0), (0, 1), (0, 2), (0, 3), (0, 4), (0, 5), (0, 6)])]]
noncomputable def pm_256 : MR := (14, ⟨"OneAtATimeModel", "evenest", "(II)J"⟩, prog_12_method_84_code, 7, (some (.long)), pgA_256)
set_option maxRecDepth 100000 in
noncomputable def pgA_257 : List (List (Nat × EN)) := [[(0, .iconst 0, 1, 0, 0, 0, 0, []), (1, .istore_n 2, 1, 0, 0, 0, 0, []), (2, .sipush 1000, 3, 0, 0, 0, 0, []), (5, .istore_n 3, 1, 0, 0, 0, 0, []), (6, .iconst 0, 1, 0, 0, 0, 0, []), (7, .istore 4, 2, 0, 0, 0, 0, []), (9, .iload 4, 2, 0, 0, 0, 0, [(0, 5), (0, 6)]), (11, .iload_n 1, 1, 0, 0, 0, 0, []), (12, .if_icmp .ge 66, 3, 78, 0, 0, 0, []), (15, .iconst 0, 1, 0, 0, 0, 0, []), (16, .istore 5, 2, 0, 0, 0, 0, []), (18, .iconst 0, 1, 0, 0, 0, 0, []), (19, .istore 6, 2, 0, 0, 0, 0, []), (21, .iload 6, 2, 0, 0, 0, 0, []), (23, .aload_n 0, 1, 0, 0, 0, 0, []), (24, .getfield 88, 3, 9, 5, 0, 0, [(0, 96)]), (27, .if_icmp .ge 31, 3, 58, 0, 0, 0, []), (30, .iload 5, 2, 0, 0, 0, 0, [])],
  [(32, .aload_n 0, 1, 0, 0, 0, 0, []), (33, .getfield 23, 3, 9, 4, 2, 0, [(0, 84)]), (36, .iload 6, 2, 0, 0, 0, 0, []), (38, .iaload, 1, 20, 0, 0, 0, []), (39, .iload 4, 2, 0, 0, 0, 0, []), (41, .if_icmp .ne 7, 3, 48, 0, 0, 0, []), (44, .iconst 1, 1, 0, 0, 0, 0, []), (45, .goto 4, 3, 49, 0, 0, 0, []), (48, .iconst 0, 1, 0, 0, 0, 0, []), (49, .iadd, 1, 0, 0, 0, 0, [(0, 5)]), (50, .istore 5, 2, 0, 0, 0, 0, []), (52, .iinc 6 1, 3, 0, 0, 0, 0, []), (55, .goto (-34), 3, 21, 0, 0, 0, []), (58, .iload_n 2, 1, 0, 0, 0, 0, []), (59, .iload 5, 2, 0, 0, 0, 0, []), (61, .invokestatic 197, 3, 1004, 2, 1, 0, [(0, 231)])],
  [(64, .istore_n 2, 1, 0, 0, 0, 0, []), (65, .iload_n 3, 1, 0, 0, 0, 0, []), (66, .iload 5, 2, 0, 0, 0, 0, []), (68, .invokestatic 129, 3, 1005, 2, 1, 0, [(0, 213)]), (71, .istore_n 3, 1, 0, 0, 0, 0, []), (72, .iinc 4 1, 3, 0, 0, 0, 0, []), (75, .goto (-66), 3, 9, 0, 0, 0, []), (78, .iload_n 2, 1, 0, 0, 0, 0, []), (79, .iload_n 3, 1, 0, 0, 0, 0, []), (80, .isub, 1, 0, 0, 0, 0, []), (81, .ireturn, 1, 0, 0, 0, 0, [])]]
noncomputable def pm_257 : MR := (14, ⟨"OneAtATimeModel", "unevenMade", "(I)I"⟩, prog_12_method_83_code, 7, (some (.int)), pgA_257)
set_option maxRecDepth 100000 in
noncomputable def pgA_258 : List (List (Nat × EN)) := [[(0, .aload_n 0, 1, 0, 0, 0, 0, []), (1, .iload_n 1, 1, 0, 0, 0, 0, []), (2, .invokevirtual 72, 3, 180, 2, 1, 9, [(0, 199)]), (5, .ifCond .ne 6, 3, 11, 0, 0, 0, []), (8, .bipush (-2), 2, 0, 0, 0, 0, []), (10, .ireturn, 1, 0, 0, 0, 0, []), (11, .aload_n 0, 1, 0, 0, 0, 0, []), (12, .iload_n 1, 1, 0, 0, 0, 0, []), (13, .invokevirtual 191, 3, 203, 2, 0, 9, [(0, 225)]), (16, .iconst 0, 1, 0, 0, 0, 0, []), (17, .istore_n 2, 1, 0, 0, 0, 0, []), (18, .iconst 0, 1, 0, 0, 0, 0, []), (19, .istore_n 3, 1, 0, 0, 0, 0, []), (20, .iload_n 3, 1, 0, 0, 0, 0, [(0, 4)]), (21, .aload_n 0, 1, 0, 0, 0, 0, []), (22, .iload_n 1, 1, 0, 0, 0, 0, []), (23, .invokevirtual 75, 3, 207, 2, 1, 9, [(0, 228)]), (26, .if_icmp .ge 55, 3, 81, 0, 0, 0, []), (29, .aload_n 0, 1, 0, 0, 0, 0, []), (30, .getfield 33, 3, 9, 15, 2, 0, [(0, 87)])],
  [(33, .aload_n 0, 1, 0, 0, 0, 0, []), (34, .iload_n 1, 1, 0, 0, 0, 0, []), (35, .invokevirtual 101, 3, 204, 2, 1, 9, [(0, 226)]), (38, .iaload, 1, 20, 0, 0, 0, []), (39, .iconst 1, 1, 0, 0, 0, 0, []), (40, .iload_n 3, 1, 0, 0, 0, 0, []), (41, .ishl, 1, 0, 0, 0, 0, []), (42, .ixor, 1, 0, 0, 0, 0, []), (43, .istore 4, 2, 0, 0, 0, 0, []), (45, .iload_n 2, 1, 0, 0, 0, 0, []), (46, .aload_n 0, 1, 0, 0, 0, 0, []), (47, .iload_n 1, 1, 0, 0, 0, 0, []), (48, .iload 4, 2, 0, 0, 0, 0, []), (50, .invokevirtual 194, 3, 208, 3, 1, 9, [(0, 229)]), (53, .ifCond .eq 19, 3, 72, 0, 0, 0, []), (56, .aload_n 0, 1, 0, 0, 0, 0, []), (57, .getfield 36, 3, 9, 16, 2, 0, [(0, 88)]), (60, .iload 4, 2, 0, 0, 0, 0, []), (62, .iaload, 1, 20, 0, 0, 0, []), (63, .ifCond .ne 9, 3, 72, 0, 0, 0, [])],
  [(66, .iconst 1, 1, 0, 0, 0, 0, []), (67, .iload_n 3, 1, 0, 0, 0, 0, []), (68, .ishl, 1, 0, 0, 0, 0, []), (69, .goto 4, 3, 73, 0, 0, 0, []), (72, .iconst 0, 1, 0, 0, 0, 0, [(0, 2), (0, 4)]), (73, .ior, 1, 0, 0, 0, 0, [(0, 2), (0, 4)]), (74, .istore_n 2, 1, 0, 0, 0, 0, []), (75, .iinc 3 1, 3, 0, 0, 0, 0, []), (78, .goto (-58), 3, 20, 0, 0, 0, []), (81, .iload_n 2, 1, 0, 0, 0, 0, []), (82, .ireturn, 1, 0, 0, 0, 0, [])]]
noncomputable def pm_258 : MR := (14, ⟨"OneAtATimeModel", "open", "(I)I"⟩, prog_12_method_85_code, 5, (some (.int)), pgA_258)
set_option maxRecDepth 100000 in
noncomputable def pgA_259 : List (List (Nat × EN)) := [[(0, .aload_n 0, 1, 0, 0, 0, 0, []), (1, .iload_n 1, 1, 0, 0, 0, 0, []), (2, .iload_n 2, 1, 0, 0, 0, 0, []), (3, .invokevirtual 231, 3, 221, 3, 1, 9, [(0, 235)]), (6, .ifCond .eq 12, 3, 18, 0, 0, 0, []), (9, .aload_n 0, 1, 0, 0, 0, 0, []), (10, .iload_n 1, 1, 0, 0, 0, 0, []), (11, .iload_n 3, 1, 0, 0, 0, 0, []), (12, .invokevirtual 231, 3, 221, 3, 1, 9, [(0, 235)]), (15, .ifCond .ne 6, 3, 21, 0, 0, 0, []), (18, .bipush (-2), 2, 0, 0, 0, 0, [(0, 0), (0, 1), (0, 2), (0, 3), (0, 4), (0, 5), (0, 6), (0, 7)]), (20, .ireturn, 1, 0, 0, 0, 0, []), (21, .aload_n 0, 1, 0, 0, 0, 0, []), (22, .iload_n 1, 1, 0, 0, 0, 0, []), (23, .invokevirtual 191, 3, 203, 2, 0, 9, [(0, 225)]), (26, .iconst 0, 1, 0, 0, 0, 0, []), (27, .istore 4, 2, 0, 0, 0, 0, []), (29, .iload 4, 2, 0, 0, 0, 0, [(0, 5), (0, 6), (0, 7)]), (31, .sipush 256, 3, 0, 0, 0, 0, [])],
  [(34, .if_icmp .ge 17, 3, 51, 0, 0, 0, []), (37, .aload_n 0, 1, 0, 0, 0, 0, []), (38, .getfield 46, 3, 9, 24, 2, 0, [(0, 91)]), (41, .iload 4, 2, 0, 0, 0, 0, []), (43, .iconst (-1), 1, 0, 0, 0, 0, []), (44, .iastore, 1, 20, 0, 0, 0, []), (45, .iinc 4 1, 3, 0, 0, 0, 0, []), (48, .goto (-19), 3, 29, 0, 0, 0, []), (51, .aload_n 0, 1, 0, 0, 0, 0, []), (52, .getfield 46, 3, 9, 24, 2, 0, [(0, 91)]), (55, .iload_n 2, 1, 0, 0, 0, 0, []), (56, .iconst 0, 1, 0, 0, 0, 0, []), (57, .iastore, 1, 20, 0, 0, 0, []), (58, .iconst 0, 1, 0, 0, 0, 0, []), (59, .istore 4, 2, 0, 0, 0, 0, []), (61, .iload 4, 2, 0, 0, 0, 0, [(0, 2), (0, 5), (0, 6), (0, 7)]), (63, .sipush 256, 3, 0, 0, 0, 0, [])],
  [(66, .if_icmp .ge 131, 3, 197, 0, 0, 0, []), (69, .aload_n 0, 1, 0, 0, 0, 0, []), (70, .getfield 46, 3, 9, 24, 2, 0, [(0, 91)]), (73, .iload_n 3, 1, 0, 0, 0, 0, []), (74, .iaload, 1, 20, 0, 0, 0, []), (75, .iconst (-1), 1, 0, 0, 0, 0, []), (76, .if_icmp .ne 121, 3, 197, 0, 0, 0, []), (79, .iconst 0, 1, 0, 0, 0, 0, []), (80, .istore 5, 2, 0, 0, 0, 0, []), (82, .iload 5, 2, 0, 0, 0, 0, [(0, 2), (0, 6), (0, 7)]), (84, .iconst 1, 1, 0, 0, 0, 0, []), (85, .aload_n 0, 1, 0, 0, 0, 0, []), (86, .iload_n 1, 1, 0, 0, 0, 0, []), (87, .invokevirtual 75, 3, 207, 2, 1, 9, [(0, 228)]), (90, .ishl, 1, 0, 0, 0, 0, []), (91, .if_icmp .ge 100, 3, 191, 0, 0, 0, []), (94, .aload_n 0, 1, 0, 0, 0, 0, []), (95, .getfield 46, 3, 9, 24, 2, 0, [(0, 91)])],
  [(98, .iload 5, 2, 0, 0, 0, 0, []), (100, .iaload, 1, 20, 0, 0, 0, []), (101, .iload 4, 2, 0, 0, 0, 0, []), (103, .if_icmp .eq 6, 3, 109, 0, 0, 0, []), (106, .goto 79, 3, 185, 0, 0, 0, []), (109, .iconst 0, 1, 0, 0, 0, 0, []), (110, .istore 6, 2, 0, 0, 0, 0, []), (112, .iload 6, 2, 0, 0, 0, 0, [(0, 2), (0, 7)]), (114, .aload_n 0, 1, 0, 0, 0, 0, []), (115, .iload_n 1, 1, 0, 0, 0, 0, []), (116, .invokevirtual 75, 3, 207, 2, 1, 9, [(0, 228)]), (119, .if_icmp .ge 66, 3, 185, 0, 0, 0, []), (122, .iload 5, 2, 0, 0, 0, 0, []), (124, .iconst 1, 1, 0, 0, 0, 0, []), (125, .iload 6, 2, 0, 0, 0, 0, []), (127, .ishl, 1, 0, 0, 0, 0, [])],
  [(128, .ixor, 1, 0, 0, 0, 0, []), (129, .istore 7, 2, 0, 0, 0, 0, []), (131, .aload_n 0, 1, 0, 0, 0, 0, []), (132, .getfield 46, 3, 9, 24, 2, 0, [(0, 91)]), (135, .iload 7, 2, 0, 0, 0, 0, []), (137, .iaload, 1, 20, 0, 0, 0, []), (138, .iconst (-1), 1, 0, 0, 0, 0, []), (139, .if_icmp .ne 40, 3, 179, 0, 0, 0, []), (142, .iload 7, 2, 0, 0, 0, 0, []), (144, .iload_n 3, 1, 0, 0, 0, 0, []), (145, .if_icmp .eq 23, 3, 168, 0, 0, 0, []), (148, .aload_n 0, 1, 0, 0, 0, 0, []), (149, .iload_n 1, 1, 0, 0, 0, 0, []), (150, .iload 7, 2, 0, 0, 0, 0, []), (152, .invokevirtual 194, 3, 208, 3, 1, 9, [(0, 229)]), (155, .ifCond .eq 24, 3, 179, 0, 0, 0, []), (158, .aload_n 0, 1, 0, 0, 0, 0, []), (159, .getfield 36, 3, 9, 16, 2, 0, [(0, 88)])],
  [(162, .iload 7, 2, 0, 0, 0, 0, []), (164, .iaload, 1, 20, 0, 0, 0, []), (165, .ifCond .ne 14, 3, 179, 0, 0, 0, []), (168, .aload_n 0, 1, 0, 0, 0, 0, [(0, 2)]), (169, .getfield 46, 3, 9, 24, 2, 0, [(0, 91)]), (172, .iload 7, 2, 0, 0, 0, 0, []), (174, .iload 4, 2, 0, 0, 0, 0, []), (176, .iconst 1, 1, 0, 0, 0, 0, []), (177, .iadd, 1, 0, 0, 0, 0, []), (178, .iastore, 1, 20, 0, 0, 0, []), (179, .iinc 6 1, 3, 0, 0, 0, 0, [(0, 2), (0, 7)]), (182, .goto (-70), 3, 112, 0, 0, 0, []), (185, .iinc 5 1, 3, 0, 0, 0, 0, [(0, 2), (0, 6), (0, 7)]), (188, .goto (-106), 3, 82, 0, 0, 0, []), (191, .iinc 4 1, 3, 0, 0, 0, 0, [])],
  [(194, .goto (-133), 3, 61, 0, 0, 0, []), (197, .aload_n 0, 1, 0, 0, 0, 0, [(0, 1), (0, 2), (0, 4), (0, 5), (0, 6), (0, 7)]), (198, .getfield 46, 3, 9, 24, 2, 0, [(0, 91)]), (201, .iload_n 3, 1, 0, 0, 0, 0, []), (202, .iaload, 1, 20, 0, 0, 0, []), (203, .ireturn, 1, 0, 0, 0, 0, [])]]
noncomputable def pm_259 : MR := (14, ⟨"OneAtATimeModel", "way", "(III)I"⟩, prog_12_method_86_code, 8, (some (.int)), pgA_259)
set_option maxRecDepth 100000 in
noncomputable def pgA_260 : List (List (Nat × EN)) := [[(0, .aload_n 0, 1, 0, 0, 0, 0, []), (1, .iload_n 1, 1, 0, 0, 0, 0, []), (2, .invokevirtual 72, 3, 180, 2, 1, 9, [(0, 199)]), (5, .ifCond .eq 60, 3, 65, 0, 0, 0, []), (8, .aload_n 0, 1, 0, 0, 0, 0, []), (9, .iload_n 1, 1, 0, 0, 0, 0, []), (10, .invokevirtual 75, 3, 207, 2, 1, 9, [(0, 228)]), (13, .iconst 2, 1, 0, 0, 0, 0, []), (14, .if_icmp .lt 51, 3, 65, 0, 0, 0, []), (17, .iload_n 2, 1, 0, 0, 0, 0, []), (18, .iconst 1, 1, 0, 0, 0, 0, []), (19, .if_icmp .lt 46, 3, 65, 0, 0, 0, []), (22, .iload 4, 2, 0, 0, 0, 0, []), (24, .i2l, 1, 0, 0, 0, 0, []), (25, .lconst 1, 1, 0, 0, 0, 0, []), (26, .ldc2_w 278, 3, 50000, 0, 0, 0, [(0, 10)]), (29, .invokestatic 60, 3, 179, 3, 1, 0, [(0, 202)])],
  [(32, .ifCond .eq 33, 3, 65, 0, 0, 0, []), (35, .iload_n 3, 1, 0, 0, 0, 0, []), (36, .i2l, 1, 0, 0, 0, 0, []), (37, .lconst 1, 1, 0, 0, 0, 0, []), (38, .aload_n 0, 1, 0, 0, 0, 0, []), (39, .iload_n 1, 1, 0, 0, 0, 0, []), (40, .invokevirtual 75, 3, 207, 2, 1, 9, [(0, 228)]), (43, .iconst 1, 1, 0, 0, 0, 0, []), (44, .isub, 1, 0, 0, 0, 0, []), (45, .i2l, 1, 0, 0, 0, 0, []), (46, .invokestatic 60, 3, 179, 3, 1, 0, [(0, 202)]), (49, .ifCond .eq 16, 3, 65, 0, 0, 0, []), (52, .aload_n 0, 1, 0, 0, 0, 0, []), (53, .iload_n 1, 1, 0, 0, 0, 0, []), (54, .invokevirtual 75, 3, 207, 2, 1, 9, [(0, 228)]), (57, .iload_n 3, 1, 0, 0, 0, 0, []), (58, .invokestatic 324, 3, 261, 2, 1, 0, [(0, 253)]), (61, .iconst 1, 1, 0, 0, 0, 0, []), (62, .if_icmp .eq 6, 3, 68, 0, 0, 0, [])],
  [(65, .bipush (-2), 2, 0, 0, 0, 0, [(0, 0), (0, 1), (0, 2), (0, 3), (0, 4), (0, 5), (0, 6), (0, 7), (0, 8)]), (67, .ireturn, 1, 0, 0, 0, 0, []), (68, .aload_n 0, 1, 0, 0, 0, 0, []), (69, .iload_n 1, 1, 0, 0, 0, 0, []), (70, .invokevirtual 75, 3, 207, 2, 1, 9, [(0, 228)]), (73, .istore 5, 2, 0, 0, 0, 0, []), (75, .iload_n 2, 1, 0, 0, 0, 0, []), (76, .sipush 256, 3, 0, 0, 0, 0, []), (79, .iload 5, 2, 0, 0, 0, 0, []), (81, .idiv, 1, 0, 0, 0, 0, []), (82, .if_icmp .le 6, 3, 88, 0, 0, 0, []), (85, .bipush (-5), 2, 0, 0, 0, 0, []), (87, .ireturn, 1, 0, 0, 0, 0, []), (88, .aload_n 0, 1, 0, 0, 0, 0, []), (89, .iload_n 1, 1, 0, 0, 0, 0, []), (90, .iconst 3, 1, 0, 0, 0, 0, []), (91, .invokevirtual 68, 3, 181, 3, 1, 9, [(0, 203)]), (94, .istore 6, 2, 0, 0, 0, 0, [])],
  [(96, .aload_n 0, 1, 0, 0, 0, 0, []), (97, .iload 5, 2, 0, 0, 0, 0, []), (99, .iload 6, 2, 0, 0, 0, 0, []), (101, .invokevirtual 313, 3, 262, 3, 1, 9, [(0, 254)]), (104, .ifCond .eq 5, 3, 109, 0, 0, 0, []), (107, .iconst (-1), 1, 0, 0, 0, 0, []), (108, .ireturn, 1, 0, 0, 0, 0, []), (109, .aload_n 0, 1, 0, 0, 0, 0, []), (110, .invokevirtual 280, 3, 247, 1, 0, 9, [(0, 244)]), (113, .aload_n 0, 1, 0, 0, 0, 0, []), (114, .iload 5, 2, 0, 0, 0, 0, []), (116, .iload 6, 2, 0, 0, 0, 0, []), (118, .iconst 1, 1, 0, 0, 0, 0, []), (119, .invokevirtual 316, 3, 264, 4, 0, 9, [(0, 255)]), (122, .aload_n 0, 1, 0, 0, 0, 0, []), (123, .getfield 43, 3, 9, 20, 2, 0, [(0, 90)]), (126, .iconst 0, 1, 0, 0, 0, 0, []), (127, .iload 6, 2, 0, 0, 0, 0, [])],
  [(129, .iastore, 1, 20, 0, 0, 0, []), (130, .aload_n 0, 1, 0, 0, 0, 0, []), (131, .iconst 0, 1, 0, 0, 0, 0, []), (132, .putfield 269, 3, 9, 21, 0, 0, [(0, 109)]), (135, .aload_n 0, 1, 0, 0, 0, 0, []), (136, .iload 5, 2, 0, 0, 0, 0, []), (138, .iconst 0, 1, 0, 0, 0, 0, []), (139, .iload_n 2, 1, 0, 0, 0, 0, []), (140, .aload_n 0, 1, 0, 0, 0, 0, []), (141, .iload 5, 2, 0, 0, 0, 0, []), (143, .iload 6, 2, 0, 0, 0, 0, []), (145, .iload_n 3, 1, 0, 0, 0, 0, []), (146, .invokevirtual 310, 3, 263, 4, 1, 9, [(0, 256)]), (149, .iload 4, 2, 0, 0, 0, 0, []), (151, .invokevirtual 320, 3, 265, 6, 1, 9, [(0, 257)]), (154, .istore 7, 2, 0, 0, 0, 0, []), (156, .iload 7, 2, 0, 0, 0, 0, []), (158, .iconst 1, 1, 0, 0, 0, 0, []), (159, .if_icmp .eq 15, 3, 174, 0, 0, 0, [])],
  [(162, .iload 7, 2, 0, 0, 0, 0, []), (164, .ifCond .ne 7, 3, 171, 0, 0, 0, []), (167, .iconst (-1), 1, 0, 0, 0, 0, []), (168, .goto 5, 3, 173, 0, 0, 0, []), (171, .bipush (-3), 2, 0, 0, 0, 0, []), (173, .ireturn, 1, 0, 0, 0, 0, [(0, 0), (0, 1), (0, 2), (0, 3), (0, 4), (0, 5), (0, 6), (0, 7), (0, 8)]), (174, .iload_n 2, 1, 0, 0, 0, 0, []), (175, .istore 8, 2, 0, 0, 0, 0, []), (177, .iload 8, 2, 0, 0, 0, 0, [(0, 4), (0, 7)]), (179, .iload 5, 2, 0, 0, 0, 0, []), (181, .iload_n 2, 1, 0, 0, 0, 0, []), (182, .imul, 1, 0, 0, 0, 0, []), (183, .if_icmp .ge 30, 3, 213, 0, 0, 0, []), (186, .aload_n 0, 1, 0, 0, 0, 0, []), (187, .getfield 23, 3, 9, 4, 2, 0, [(0, 84)]), (190, .iload 8, 2, 0, 0, 0, 0, [])],
  [(192, .aload_n 0, 1, 0, 0, 0, 0, []), (193, .getfield 23, 3, 9, 4, 2, 0, [(0, 84)]), (196, .iload 8, 2, 0, 0, 0, 0, []), (198, .iload_n 2, 1, 0, 0, 0, 0, []), (199, .isub, 1, 0, 0, 0, 0, []), (200, .iaload, 1, 20, 0, 0, 0, []), (201, .iload_n 3, 1, 0, 0, 0, 0, []), (202, .iadd, 1, 0, 0, 0, 0, []), (203, .iload 5, 2, 0, 0, 0, 0, []), (205, .irem, 1, 0, 0, 0, 0, []), (206, .iastore, 1, 20, 0, 0, 0, []), (207, .iinc 8 1, 3, 0, 0, 0, 0, []), (210, .goto (-33), 3, 177, 0, 0, 0, []), (213, .aload_n 0, 1, 0, 0, 0, 0, []), (214, .iload 5, 2, 0, 0, 0, 0, []), (216, .iload_n 2, 1, 0, 0, 0, 0, []), (217, .imul, 1, 0, 0, 0, 0, []), (218, .putfield 88, 3, 9, 5, 0, 0, [(0, 96)]), (221, .aload_n 0, 1, 0, 0, 0, 0, []), (222, .iload_n 1, 1, 0, 0, 0, 0, []), (223, .iload 6, 2, 0, 0, 0, 0, [])],
  [(225, .aload_n 0, 1, 0, 0, 0, 0, []), (226, .getfield 88, 3, 9, 5, 0, 0, [(0, 96)]), (229, .invokevirtual 256, 3, 245, 4, 1, 9, [(0, 243)]), (232, .ireturn, 1, 0, 0, 0, 0, [])]]
noncomputable def pm_260 : MR := (14, ⟨"OneAtATimeModel", "tracks", "(IIII)I"⟩, prog_12_method_92_code, 9, (some (.int)), pgA_260)
set_option maxRecDepth 100000 in
noncomputable def pgA_261 : List (List (Nat × EN)) := [[(0, .iload_n 1, 1, 0, 0, 0, 0, []), (1, .ifCond .ne 7, 3, 8, 0, 0, 0, []), (4, .iload_n 0, 1, 0, 0, 0, 0, []), (5, .goto 10, 3, 15, 0, 0, 0, []), (8, .iload_n 1, 1, 0, 0, 0, 0, []), (9, .iload_n 0, 1, 0, 0, 0, 0, []), (10, .iload_n 1, 1, 0, 0, 0, 0, []), (11, .irem, 1, 0, 0, 0, 0, []), (12, .invokestatic 324, 3, 261, 2, 1, 0, [(0, 253)]), (15, .ireturn, 1, 0, 0, 0, 0, [(0, 0), (0, 1)])]]
noncomputable def pm_261 : MR := (14, ⟨"OneAtATimeModel", "common", "(II)I"⟩, prog_12_method_91_code, 2, (some (.int)), pgA_261)
set_option maxRecDepth 100000 in
noncomputable def pgA_262 : List (List (Nat × EN)) := [[(0, .iconst 1, 1, 0, 0, 0, 0, []), (1, .istore_n 3, 1, 0, 0, 0, 0, []), (2, .iload_n 3, 1, 0, 0, 0, 0, []), (3, .iload_n 1, 1, 0, 0, 0, 0, []), (4, .if_icmp .ge 22, 3, 26, 0, 0, 0, []), (7, .aload_n 0, 1, 0, 0, 0, 0, []), (8, .iload_n 1, 1, 0, 0, 0, 0, []), (9, .iload_n 2, 1, 0, 0, 0, 0, []), (10, .iload_n 3, 1, 0, 0, 0, 0, []), (11, .invokevirtual 310, 3, 263, 4, 1, 9, [(0, 256)]), (14, .iload_n 2, 1, 0, 0, 0, 0, []), (15, .if_icmp .ne 5, 3, 20, 0, 0, 0, []), (18, .iconst 1, 1, 0, 0, 0, 0, []), (19, .ireturn, 1, 1, 0, 0, 0, []), (20, .iinc 3 1, 3, 0, 0, 0, 0, []), (23, .goto (-21), 3, 2, 0, 0, 0, []), (26, .iconst 0, 1, 0, 0, 0, 0, []), (27, .ireturn, 1, 1, 0, 0, 0, [])]]
noncomputable def pm_262 : MR := (14, ⟨"OneAtATimeModel", "isRound", "(II)Z"⟩, prog_12_method_88_code, 4, (some (.boolean)), pgA_262)
set_option maxRecDepth 100000 in
noncomputable def pgA_263 : List (List (Nat × EN)) := [[(0, .iload_n 2, 1, 0, 0, 0, 0, []), (1, .iload_n 3, 1, 0, 0, 0, 0, []), (2, .ishl, 1, 0, 0, 0, 0, []), (3, .istore 4, 2, 0, 0, 0, 0, []), (5, .iload 4, 2, 0, 0, 0, 0, []), (7, .iload 4, 2, 0, 0, 0, 0, []), (9, .iload_n 1, 1, 0, 0, 0, 0, []), (10, .ishr, 1, 0, 0, 0, 0, []), (11, .ior, 1, 0, 0, 0, 0, []), (12, .iconst 1, 1, 0, 0, 0, 0, []), (13, .iload_n 1, 1, 0, 0, 0, 0, []), (14, .ishl, 1, 0, 0, 0, 0, []), (15, .iconst 1, 1, 0, 0, 0, 0, []), (16, .isub, 1, 0, 0, 0, 0, []), (17, .iand, 1, 0, 0, 0, 0, []), (18, .ireturn, 1, 0, 0, 0, 0, [])]]
noncomputable def pm_263 : MR := (14, ⟨"OneAtATimeModel", "rolledBy", "(III)I"⟩, prog_12_method_87_code, 5, (some (.int)), pgA_263)
set_option maxRecDepth 100000 in
noncomputable def pgA_264 : List (List (Nat × EN)) := [[(0, .iconst 0, 1, 0, 0, 0, 0, []), (1, .istore 4, 2, 0, 0, 0, 0, []), (3, .iload 4, 2, 0, 0, 0, 0, []), (5, .iload_n 1, 1, 0, 0, 0, 0, []), (6, .if_icmp .ge 23, 3, 29, 0, 0, 0, []), (9, .aload_n 0, 1, 0, 0, 0, 0, []), (10, .getfield 39, 3, 9, 19, 2, 0, [(0, 89)]), (13, .aload_n 0, 1, 0, 0, 0, 0, []), (14, .iload_n 1, 1, 0, 0, 0, 0, []), (15, .iload_n 2, 1, 0, 0, 0, 0, []), (16, .iload 4, 2, 0, 0, 0, 0, []), (18, .invokevirtual 310, 3, 263, 4, 1, 9, [(0, 256)]), (21, .iload_n 3, 1, 0, 0, 0, 0, []), (22, .bastore, 1, 22, 0, 0, 0, []), (23, .iinc 4 1, 3, 0, 0, 0, 0, []), (26, .goto (-23), 3, 3, 0, 0, 0, []), (29, .return_, 1, 0, 0, 0, 0, [])]]
noncomputable def pm_264 : MR := (14, ⟨"OneAtATimeModel", "goes", "(IIZ)V"⟩, prog_12_method_89_code, 5, none, pgA_264)
set_option maxRecDepth 100000 in
noncomputable def pgA_265 : List (List (Nat × EN)) := [[(0, .iload_n 2, 1, 0, 0, 0, 0, []), (1, .iload_n 3, 1, 0, 0, 0, 0, []), (2, .if_icmp .ne 5, 3, 7, 0, 0, 0, []), (5, .iconst 1, 1, 0, 0, 0, 0, []), (6, .ireturn, 1, 0, 0, 0, 0, []), (7, .iconst 0, 1, 0, 0, 0, 0, []), (8, .istore 6, 2, 0, 0, 0, 0, []), (10, .iload 6, 2, 0, 0, 0, 0, [(0, 7), (0, 8), (0, 9)]), (12, .iload_n 1, 1, 0, 0, 0, 0, []), (13, .if_icmp .ge 163, 3, 176, 0, 0, 0, []), (16, .aload_n 0, 1, 0, 0, 0, 0, []), (17, .getfield 43, 3, 9, 20, 2, 0, [(0, 90)]), (20, .iload_n 2, 1, 0, 0, 0, 0, []), (21, .iaload, 1, 20, 0, 0, 0, []), (22, .iconst 1, 1, 0, 0, 0, 0, []), (23, .iload 6, 2, 0, 0, 0, 0, []), (25, .ishl, 1, 0, 0, 0, 0, []), (26, .ixor, 1, 0, 0, 0, 0, []), (27, .istore 7, 2, 0, 0, 0, 0, []), (29, .iload_n 2, 1, 0, 0, 0, 0, []), (30, .iload_n 3, 1, 0, 0, 0, 0, []), (31, .iconst 1, 1, 0, 0, 0, 0, [])],
  [(32, .isub, 1, 0, 0, 0, 0, []), (33, .if_icmp .ne 7, 3, 40, 0, 0, 0, []), (36, .iconst 1, 1, 0, 0, 0, 0, []), (37, .goto 4, 3, 41, 0, 0, 0, []), (40, .iconst 0, 1, 0, 0, 0, 0, []), (41, .istore 8, 2, 0, 0, 0, 0, [(0, 8), (0, 9)]), (43, .iload 8, 2, 0, 0, 0, 0, []), (45, .ifCond .eq 13, 3, 58, 0, 0, 0, []), (48, .iload 7, 2, 0, 0, 0, 0, []), (50, .iload 4, 2, 0, 0, 0, 0, []), (52, .if_icmp .eq 29, 3, 81, 0, 0, 0, []), (55, .goto 115, 3, 170, 0, 0, 0, []), (58, .aload_n 0, 1, 0, 0, 0, 0, []), (59, .getfield 39, 3, 9, 19, 2, 0, [(0, 89)]), (62, .iload 7, 2, 0, 0, 0, 0, [])],
  [(64, .baload, 1, 22, 0, 0, 0, []), (65, .ifCond .ne 105, 3, 170, 0, 0, 0, []), (68, .aload_n 0, 1, 0, 0, 0, 0, []), (69, .iload_n 1, 1, 0, 0, 0, 0, []), (70, .iload 7, 2, 0, 0, 0, 0, []), (72, .invokevirtual 313, 3, 262, 3, 1, 9, [(0, 254)]), (75, .ifCond .eq 6, 3, 81, 0, 0, 0, []), (78, .goto 92, 3, 170, 0, 0, 0, []), (81, .aload_n 0, 1, 0, 0, 0, 0, [(0, 9)]), (82, .getfield 269, 3, 9, 21, 0, 0, [(0, 109)]), (85, .iload 5, 2, 0, 0, 0, 0, []), (87, .if_icmp .ne 6, 3, 93, 0, 0, 0, []), (90, .bipush (-3), 2, 0, 0, 0, 0, []), (92, .ireturn, 1, 0, 0, 0, 0, []), (93, .aload_n 0, 1, 0, 0, 0, 0, []), (94, .dup, 1, 0, 0, 0, 0, []), (95, .getfield 269, 3, 9, 21, 0, 0, [(0, 109)])],
  [(98, .iconst 1, 1, 0, 0, 0, 0, []), (99, .iadd, 1, 0, 0, 0, 0, []), (100, .putfield 269, 3, 9, 21, 0, 0, [(0, 109)]), (103, .aload_n 0, 1, 0, 0, 0, 0, []), (104, .getfield 23, 3, 9, 4, 2, 0, [(0, 84)]), (107, .iload_n 2, 1, 0, 0, 0, 0, []), (108, .iload 6, 2, 0, 0, 0, 0, []), (110, .iastore, 1, 20, 0, 0, 0, []), (111, .aload_n 0, 1, 0, 0, 0, 0, []), (112, .getfield 43, 3, 9, 20, 2, 0, [(0, 90)]), (115, .iload_n 2, 1, 0, 0, 0, 0, []), (116, .iconst 1, 1, 0, 0, 0, 0, []), (117, .iadd, 1, 0, 0, 0, 0, []), (118, .iload 7, 2, 0, 0, 0, 0, []), (120, .iastore, 1, 20, 0, 0, 0, []), (121, .iload 8, 2, 0, 0, 0, 0, []), (123, .ifCond .ne 11, 3, 134, 0, 0, 0, []), (126, .aload_n 0, 1, 0, 0, 0, 0, []), (127, .iload_n 1, 1, 0, 0, 0, 0, [])],
  [(128, .iload 7, 2, 0, 0, 0, 0, []), (130, .iconst 1, 1, 0, 0, 0, 0, []), (131, .invokevirtual 316, 3, 264, 4, 0, 9, [(0, 255)]), (134, .aload_n 0, 1, 0, 0, 0, 0, [(0, 9)]), (135, .iload_n 1, 1, 0, 0, 0, 0, []), (136, .iload_n 2, 1, 0, 0, 0, 0, []), (137, .iconst 1, 1, 0, 0, 0, 0, []), (138, .iadd, 1, 0, 0, 0, 0, []), (139, .iload_n 3, 1, 0, 0, 0, 0, []), (140, .iload 4, 2, 0, 0, 0, 0, []), (142, .iload 5, 2, 0, 0, 0, 0, []), (144, .invokevirtual 320, 3, 265, 6, 1, 9, [(0, 257)]), (147, .istore 9, 2, 0, 0, 0, 0, []), (149, .iload 9, 2, 0, 0, 0, 0, []), (151, .ifCond .eq 6, 3, 157, 0, 0, 0, []), (154, .iload 9, 2, 0, 0, 0, 0, []), (156, .ireturn, 1, 0, 0, 0, 0, []), (157, .iload 8, 2, 0, 0, 0, 0, []), (159, .ifCond .ne 11, 3, 170, 0, 0, 0, [])],
  [(162, .aload_n 0, 1, 0, 0, 0, 0, []), (163, .iload_n 1, 1, 0, 0, 0, 0, []), (164, .iload 7, 2, 0, 0, 0, 0, []), (166, .iconst 0, 1, 0, 0, 0, 0, []), (167, .invokevirtual 316, 3, 264, 4, 0, 9, [(0, 255)]), (170, .iinc 6 1, 3, 0, 0, 0, 0, [(0, 7), (0, 8), (0, 9)]), (173, .goto (-163), 3, 10, 0, 0, 0, []), (176, .iconst 0, 1, 0, 0, 0, 0, []), (177, .ireturn, 1, 0, 0, 0, 0, [])]]
noncomputable def pm_265 : MR := (14, ⟨"OneAtATimeModel", "tracksOn", "(IIIII)I"⟩, prog_12_method_90_code, 10, (some (.int)), pgA_265)
set_option maxRecDepth 100000 in
noncomputable def pgA_266 : List (List (Nat × EN)) := [[(0, .aload_n 0, 1, 0, 0, 0, 0, []), (1, .iload_n 1, 1, 0, 0, 0, 0, []), (2, .invokevirtual 72, 3, 180, 2, 1, 9, [(0, 199)]), (5, .ifCond .eq 18, 3, 23, 0, 0, 0, []), (8, .aload_n 0, 1, 0, 0, 0, 0, []), (9, .iload_n 2, 1, 0, 0, 0, 0, []), (10, .invokevirtual 72, 3, 180, 2, 1, 9, [(0, 199)]), (13, .ifCond .eq 10, 3, 23, 0, 0, 0, []), (16, .iload_n 3, 1, 0, 0, 0, 0, []), (17, .invokestatic 64, 3, 178, 1, 1, 0, [(0, 198)]), (20, .ifCond .ne 6, 3, 26, 0, 0, 0, []), (23, .bipush (-2), 2, 0, 0, 0, 0, [(0, 0), (0, 1), (0, 2), (0, 3), (0, 4), (0, 5), (0, 6), (0, 7)]), (25, .ireturn, 1, 0, 0, 0, 0, []), (26, .aload_n 0, 1, 0, 0, 0, 0, []), (27, .iload_n 1, 1, 0, 0, 0, 0, []), (28, .invokevirtual 75, 3, 207, 2, 1, 9, [(0, 228)]), (31, .istore 4, 2, 0, 0, 0, 0, [])],
  [(33, .aload_n 0, 1, 0, 0, 0, 0, []), (34, .iload_n 1, 1, 0, 0, 0, 0, []), (35, .invokevirtual 101, 3, 204, 2, 1, 9, [(0, 226)]), (38, .istore 5, 2, 0, 0, 0, 0, []), (40, .aload_n 0, 1, 0, 0, 0, 0, []), (41, .iload_n 2, 1, 0, 0, 0, 0, []), (42, .invokevirtual 101, 3, 204, 2, 1, 9, [(0, 226)]), (45, .istore 6, 2, 0, 0, 0, 0, []), (47, .iload 4, 2, 0, 0, 0, 0, []), (49, .aload_n 0, 1, 0, 0, 0, 0, []), (50, .iload_n 2, 1, 0, 0, 0, 0, []), (51, .invokevirtual 75, 3, 207, 2, 1, 9, [(0, 228)]), (54, .iadd, 1, 0, 0, 0, 0, []), (55, .bipush 8, 2, 0, 0, 0, 0, []), (57, .if_icmp .gt 19, 3, 76, 0, 0, 0, []), (60, .iload 5, 2, 0, 0, 0, 0, []), (62, .iload 6, 2, 0, 0, 0, 0, [])],
  [(64, .iconst 1, 1, 0, 0, 0, 0, []), (65, .iadd, 1, 0, 0, 0, 0, []), (66, .imul, 1, 0, 0, 0, 0, []), (67, .iload 6, 2, 0, 0, 0, 0, []), (69, .iadd, 1, 0, 0, 0, 0, []), (70, .sipush 256, 3, 0, 0, 0, 0, []), (73, .if_icmp .le 6, 3, 79, 0, 0, 0, []), (76, .bipush (-5), 2, 0, 0, 0, 0, [(0, 0), (0, 1), (0, 2), (0, 3), (0, 4), (0, 5), (0, 6), (0, 7)]), (78, .ireturn, 1, 0, 0, 0, 0, []), (79, .aload_n 0, 1, 0, 0, 0, 0, []), (80, .iconst 0, 1, 0, 0, 0, 0, []), (81, .putfield 88, 3, 9, 5, 0, 0, [(0, 96)]), (84, .iconst 0, 1, 0, 0, 0, 0, []), (85, .istore 7, 2, 0, 0, 0, 0, []), (87, .iload 7, 2, 0, 0, 0, 0, []), (89, .iload 6, 2, 0, 0, 0, 0, []), (91, .if_icmp .gt 56, 3, 147, 0, 0, 0, []), (94, .iload 7, 2, 0, 0, 0, 0, [])],
  [(96, .iconst 2, 1, 0, 0, 0, 0, []), (97, .irem, 1, 0, 0, 0, 0, []), (98, .ifCond .ne 14, 3, 112, 0, 0, 0, []), (101, .aload_n 0, 1, 0, 0, 0, 0, []), (102, .iload_n 1, 1, 0, 0, 0, 0, []), (103, .iconst 0, 1, 0, 0, 0, 0, []), (104, .iload 5, 2, 0, 0, 0, 0, []), (106, .invokevirtual 283, 3, 254, 4, 0, 9, [(0, 250)]), (109, .goto 11, 3, 120, 0, 0, 0, []), (112, .aload_n 0, 1, 0, 0, 0, 0, []), (113, .iload_n 1, 1, 0, 0, 0, 0, []), (114, .iconst 0, 1, 0, 0, 0, 0, []), (115, .iload 5, 2, 0, 0, 0, 0, []), (117, .invokevirtual 287, 3, 255, 4, 0, 9, [(0, 251)]), (120, .iload 7, 2, 0, 0, 0, 0, []), (122, .iload 6, 2, 0, 0, 0, 0, []), (124, .if_icmp .ge 17, 3, 141, 0, 0, 0, []), (127, .aload_n 0, 1, 0, 0, 0, 0, [])],
  [(128, .iload 4, 2, 0, 0, 0, 0, []), (130, .aload_n 0, 1, 0, 0, 0, 0, []), (131, .iload_n 2, 1, 0, 0, 0, 0, []), (132, .iload 7, 2, 0, 0, 0, 0, []), (134, .invokevirtual 104, 3, 205, 3, 1, 9, [(0, 227)]), (137, .iadd, 1, 0, 0, 0, 0, []), (138, .invokevirtual 107, 3, 196, 2, 0, 9, [(0, 217)]), (141, .iinc 7 1, 3, 0, 0, 0, 0, []), (144, .goto (-57), 3, 87, 0, 0, 0, []), (147, .iload 4, 2, 0, 0, 0, 0, []), (149, .aload_n 0, 1, 0, 0, 0, 0, []), (150, .iload_n 2, 1, 0, 0, 0, 0, []), (151, .invokevirtual 75, 3, 207, 2, 1, 9, [(0, 228)]), (154, .iadd, 1, 0, 0, 0, 0, []), (155, .istore 7, 2, 0, 0, 0, 0, []), (157, .aload_n 0, 1, 0, 0, 0, 0, []), (158, .iload_n 3, 1, 0, 0, 0, 0, []), (159, .iload 7, 2, 0, 0, 0, 0, [])],
  [(161, .iconst 0, 1, 0, 0, 0, 0, []), (162, .iload 7, 2, 0, 0, 0, 0, []), (164, .aload_n 0, 1, 0, 0, 0, 0, []), (165, .iload_n 1, 1, 0, 0, 0, 0, []), (166, .iconst 3, 1, 0, 0, 0, 0, []), (167, .invokevirtual 68, 3, 181, 3, 1, 9, [(0, 203)]), (170, .aload_n 0, 1, 0, 0, 0, 0, []), (171, .iload_n 2, 1, 0, 0, 0, 0, []), (172, .iconst 3, 1, 0, 0, 0, 0, []), (173, .invokevirtual 68, 3, 181, 3, 1, 9, [(0, 203)]), (176, .iload 4, 2, 0, 0, 0, 0, []), (178, .ishl, 1, 0, 0, 0, 0, []), (179, .ior, 1, 0, 0, 0, 0, []), (180, .invokevirtual 94, 3, 182, 6, 0, 9, [(0, 200)]), (183, .aload_n 0, 1, 0, 0, 0, 0, []), (184, .aload_n 0, 1, 0, 0, 0, 0, []), (185, .getfield 88, 3, 9, 5, 0, 0, [(0, 96)]), (188, .invokevirtual 98, 3, 197, 2, 1, 9, [(0, 211)]), (191, .ireturn, 1, 0, 0, 0, 0, [])]]
noncomputable def pm_266 : MR := (14, ⟨"OneAtATimeModel", "product", "(III)I"⟩, prog_12_method_93_code, 8, (some (.int)), pgA_266)
set_option maxRecDepth 100000 in
noncomputable def pgA_267 : List (List (Nat × EN)) := [[(0, .aload_n 0, 1, 0, 0, 0, 0, []), (1, .iload_n 1, 1, 0, 0, 0, 0, []), (2, .invokevirtual 72, 3, 180, 2, 1, 9, [(0, 199)]), (5, .ifCond .eq 21, 3, 26, 0, 0, 0, []), (8, .iload_n 2, 1, 0, 0, 0, 0, []), (9, .ifCond .lt 17, 3, 26, 0, 0, 0, []), (12, .iload_n 2, 1, 0, 0, 0, 0, []), (13, .iload_n 3, 1, 0, 0, 0, 0, []), (14, .if_icmp .ge 12, 3, 26, 0, 0, 0, []), (17, .iload_n 3, 1, 0, 0, 0, 0, []), (18, .aload_n 0, 1, 0, 0, 0, 0, []), (19, .iload_n 1, 1, 0, 0, 0, 0, []), (20, .invokevirtual 101, 3, 204, 2, 1, 9, [(0, 226)]), (23, .if_icmp .lt 6, 3, 29, 0, 0, 0, []), (26, .bipush (-2), 2, 0, 0, 0, 0, [(0, 0), (0, 1), (0, 2), (0, 3)]), (28, .ireturn, 1, 0, 0, 0, 0, []), (29, .aload_n 0, 1, 0, 0, 0, 0, []), (30, .iload_n 1, 1, 0, 0, 0, 0, []), (31, .invokevirtual 191, 3, 203, 2, 0, 9, [(0, 225)])],
  [(34, .aload_n 0, 1, 0, 0, 0, 0, []), (35, .iload_n 2, 1, 0, 0, 0, 0, []), (36, .iload_n 3, 1, 0, 0, 0, 0, []), (37, .invokevirtual 327, 3, 268, 3, 1, 9, [(0, 258)]), (40, .ifCond .ne 6, 3, 46, 0, 0, 0, []), (43, .bipush (-6), 2, 0, 0, 0, 0, []), (45, .ireturn, 1, 0, 0, 0, 0, []), (46, .aload_n 0, 1, 0, 0, 0, 0, []), (47, .iconst 0, 1, 0, 0, 0, 0, []), (48, .putfield 88, 3, 9, 5, 0, 0, [(0, 96)]), (51, .aload_n 0, 1, 0, 0, 0, 0, []), (52, .iload_n 1, 1, 0, 0, 0, 0, []), (53, .iconst 0, 1, 0, 0, 0, 0, []), (54, .iload_n 2, 1, 0, 0, 0, 0, []), (55, .invokevirtual 283, 3, 254, 4, 0, 9, [(0, 250)]), (58, .aload_n 0, 1, 0, 0, 0, 0, []), (59, .aload_n 0, 1, 0, 0, 0, 0, []), (60, .getfield 33, 3, 9, 15, 2, 0, [(0, 87)]), (63, .iload_n 2, 1, 0, 0, 0, 0, [])],
  [(64, .iaload, 1, 20, 0, 0, 0, []), (65, .aload_n 0, 1, 0, 0, 0, 0, []), (66, .getfield 33, 3, 9, 15, 2, 0, [(0, 87)]), (69, .iload_n 3, 1, 0, 0, 0, 0, []), (70, .iaload, 1, 20, 0, 0, 0, []), (71, .ixor, 1, 0, 0, 0, 0, []), (72, .invokestatic 253, 3, 243, 1, 1, 0, [(0, 242)]), (75, .invokevirtual 107, 3, 196, 2, 0, 9, [(0, 217)]), (78, .aload_n 0, 1, 0, 0, 0, 0, []), (79, .iload_n 1, 1, 0, 0, 0, 0, []), (80, .iload_n 2, 1, 0, 0, 0, 0, []), (81, .iconst 1, 1, 0, 0, 0, 0, []), (82, .iadd, 1, 0, 0, 0, 0, []), (83, .iload_n 3, 1, 0, 0, 0, 0, []), (84, .invokevirtual 287, 3, 255, 4, 0, 9, [(0, 251)]), (87, .aload_n 0, 1, 0, 0, 0, 0, []), (88, .aload_n 0, 1, 0, 0, 0, 0, []), (89, .getfield 33, 3, 9, 15, 2, 0, [(0, 87)]), (92, .iload_n 2, 1, 0, 0, 0, 0, []), (93, .iconst 1, 1, 0, 0, 0, 0, []), (94, .iadd, 1, 0, 0, 0, 0, []), (95, .iaload, 1, 20, 0, 0, 0, [])],
  [(96, .aload_n 0, 1, 0, 0, 0, 0, []), (97, .getfield 33, 3, 9, 15, 2, 0, [(0, 87)]), (100, .iload_n 3, 1, 0, 0, 0, 0, []), (101, .iconst 1, 1, 0, 0, 0, 0, []), (102, .iadd, 1, 0, 0, 0, 0, []), (103, .iaload, 1, 20, 0, 0, 0, []), (104, .ixor, 1, 0, 0, 0, 0, []), (105, .invokestatic 253, 3, 243, 1, 1, 0, [(0, 242)]), (108, .invokevirtual 107, 3, 196, 2, 0, 9, [(0, 217)]), (111, .aload_n 0, 1, 0, 0, 0, 0, []), (112, .iload_n 1, 1, 0, 0, 0, 0, []), (113, .iload_n 3, 1, 0, 0, 0, 0, []), (114, .iconst 1, 1, 0, 0, 0, 0, []), (115, .iadd, 1, 0, 0, 0, 0, []), (116, .aload_n 0, 1, 0, 0, 0, 0, []), (117, .iload_n 1, 1, 0, 0, 0, 0, []), (118, .invokevirtual 101, 3, 204, 2, 1, 9, [(0, 226)]), (121, .invokevirtual 283, 3, 254, 4, 0, 9, [(0, 250)]), (124, .aload_n 0, 1, 0, 0, 0, 0, []), (125, .iload_n 1, 1, 0, 0, 0, 0, []), (126, .aload_n 0, 1, 0, 0, 0, 0, []), (127, .iload_n 1, 1, 0, 0, 0, 0, [])],
  [(128, .iconst 3, 1, 0, 0, 0, 0, []), (129, .invokevirtual 68, 3, 181, 3, 1, 9, [(0, 203)]), (132, .aload_n 0, 1, 0, 0, 0, 0, []), (133, .getfield 88, 3, 9, 5, 0, 0, [(0, 96)]), (136, .invokevirtual 256, 3, 245, 4, 1, 9, [(0, 243)]), (139, .ireturn, 1, 0, 0, 0, 0, [])]]
noncomputable def pm_267 : MR := (14, ⟨"OneAtATimeModel", "twists", "(III)I"⟩, prog_12_method_95_code, 4, (some (.int)), pgA_267)
set_option maxRecDepth 100000 in
noncomputable def pgA_268 : List (List (Nat × EN)) := [[(0, .aload_n 0, 1, 0, 0, 0, 0, []), (1, .getfield 33, 3, 9, 15, 2, 0, [(0, 87)]), (4, .iload_n 1, 1, 0, 0, 0, 0, []), (5, .iaload, 1, 20, 0, 0, 0, []), (6, .aload_n 0, 1, 0, 0, 0, 0, []), (7, .getfield 33, 3, 9, 15, 2, 0, [(0, 87)]), (10, .iload_n 2, 1, 0, 0, 0, 0, []), (11, .iaload, 1, 20, 0, 0, 0, []), (12, .ixor, 1, 0, 0, 0, 0, []), (13, .invokestatic 79, 3, 209, 1, 1, 0, [(0, 230)]), (16, .iconst 1, 1, 0, 0, 0, 0, []), (17, .if_icmp .ne 31, 3, 48, 0, 0, 0, []), (20, .aload_n 0, 1, 0, 0, 0, 0, []), (21, .getfield 33, 3, 9, 15, 2, 0, [(0, 87)]), (24, .iload_n 1, 1, 0, 0, 0, 0, []), (25, .iconst 1, 1, 0, 0, 0, 0, []), (26, .iadd, 1, 0, 0, 0, 0, []), (27, .iaload, 1, 20, 0, 0, 0, []), (28, .aload_n 0, 1, 0, 0, 0, 0, []), (29, .getfield 33, 3, 9, 15, 2, 0, [(0, 87)])],
  [(32, .iload_n 2, 1, 0, 0, 0, 0, []), (33, .iconst 1, 1, 0, 0, 0, 0, []), (34, .iadd, 1, 0, 0, 0, 0, []), (35, .iaload, 1, 20, 0, 0, 0, []), (36, .ixor, 1, 0, 0, 0, 0, []), (37, .invokestatic 79, 3, 209, 1, 1, 0, [(0, 230)]), (40, .iconst 1, 1, 0, 0, 0, 0, []), (41, .if_icmp .ne 7, 3, 48, 0, 0, 0, []), (44, .iconst 1, 1, 0, 0, 0, 0, []), (45, .goto 4, 3, 49, 0, 0, 0, []), (48, .iconst 0, 1, 0, 0, 0, 0, [(0, 0), (0, 1), (0, 2)]), (49, .ireturn, 1, 1, 0, 0, 0, [(0, 0), (0, 1), (0, 2)])]]
noncomputable def pm_268 : MR := (14, ⟨"OneAtATimeModel", "canTwist", "(II)Z"⟩, prog_12_method_94_code, 3, (some (.boolean)), pgA_268)
end
section
set_option maxRecDepth 100000 in
noncomputable def pgA_269 : List (List (Nat × EN)) := [[(0, .aload_n 0, 1, 0, 0, 0, 0, []), (1, .iload_n 1, 1, 0, 0, 0, 0, []), (2, .invokevirtual 72, 3, 180, 2, 1, 9, [(0, 199)]), (5, .ifCond .ne 6, 3, 11, 0, 0, 0, []), (8, .bipush (-2), 2, 0, 0, 0, 0, []), (10, .ireturn, 1, 0, 0, 0, 0, []), (11, .aload_n 0, 1, 0, 0, 0, 0, []), (12, .iload_n 1, 1, 0, 0, 0, 0, []), (13, .invokevirtual 191, 3, 203, 2, 0, 9, [(0, 225)]), (16, .iconst 0, 1, 0, 0, 0, 0, []), (17, .istore_n 2, 1, 0, 0, 0, 0, []), (18, .iconst 0, 1, 0, 0, 0, 0, []), (19, .istore_n 3, 1, 0, 0, 0, 0, []), (20, .iload_n 3, 1, 0, 0, 0, 0, [(0, 4)]), (21, .aload_n 0, 1, 0, 0, 0, 0, []), (22, .iload_n 1, 1, 0, 0, 0, 0, []), (23, .invokevirtual 101, 3, 204, 2, 1, 9, [(0, 226)]), (26, .if_icmp .ge 48, 3, 74, 0, 0, 0, []), (29, .iload_n 3, 1, 0, 0, 0, 0, []), (30, .iconst 2, 1, 0, 0, 0, 0, []), (31, .iadd, 1, 0, 0, 0, 0, [])],
  [(32, .istore 4, 2, 0, 0, 0, 0, []), (34, .iload 4, 2, 0, 0, 0, 0, []), (36, .aload_n 0, 1, 0, 0, 0, 0, []), (37, .iload_n 1, 1, 0, 0, 0, 0, []), (38, .invokevirtual 101, 3, 204, 2, 1, 9, [(0, 226)]), (41, .if_icmp .ge 27, 3, 68, 0, 0, 0, []), (44, .iload_n 2, 1, 0, 0, 0, 0, []), (45, .aload_n 0, 1, 0, 0, 0, 0, []), (46, .iload_n 3, 1, 0, 0, 0, 0, []), (47, .iload 4, 2, 0, 0, 0, 0, []), (49, .invokevirtual 327, 3, 268, 3, 1, 9, [(0, 258)]), (52, .ifCond .eq 7, 3, 59, 0, 0, 0, []), (55, .iconst 1, 1, 0, 0, 0, 0, []), (56, .goto 4, 3, 60, 0, 0, 0, []), (59, .iconst 0, 1, 0, 0, 0, 0, []), (60, .iadd, 1, 0, 0, 0, 0, [(0, 2)]), (61, .istore_n 2, 1, 0, 0, 0, 0, []), (62, .iinc 4 1, 3, 0, 0, 0, 0, [])],
  [(65, .goto (-31), 3, 34, 0, 0, 0, []), (68, .iinc 3 1, 3, 0, 0, 0, 0, []), (71, .goto (-51), 3, 20, 0, 0, 0, []), (74, .iload_n 2, 1, 0, 0, 0, 0, []), (75, .ireturn, 1, 0, 0, 0, 0, [])]]
noncomputable def pm_269 : MR := (14, ⟨"OneAtATimeModel", "twistable", "(I)I"⟩, prog_12_method_96_code, 5, (some (.int)), pgA_269)
set_option maxRecDepth 100000 in
noncomputable def pgA_270 : List (List (Nat × EN)) := [[(0, .aload_n 0, 1, 0, 0, 0, 0, []), (1, .iload_n 1, 1, 0, 0, 0, 0, []), (2, .iload_n 3, 1, 0, 0, 0, 0, []), (3, .invokevirtual 234, 3, 224, 3, 1, 9, [(0, 236)]), (6, .ifCond .eq 20, 3, 26, 0, 0, 0, []), (9, .iload_n 2, 1, 0, 0, 0, 0, []), (10, .i2l, 1, 0, 0, 0, 0, []), (11, .lconst 0, 1, 0, 0, 0, 0, []), (12, .aload_n 0, 1, 0, 0, 0, 0, []), (13, .iload_n 1, 1, 0, 0, 0, 0, []), (14, .invokevirtual 101, 3, 204, 2, 1, 9, [(0, 226)]), (17, .iconst 1, 1, 0, 0, 0, 0, []), (18, .isub, 1, 0, 0, 0, 0, []), (19, .i2l, 1, 0, 0, 0, 0, []), (20, .invokestatic 60, 3, 179, 3, 1, 0, [(0, 202)]), (23, .ifCond .ne 6, 3, 29, 0, 0, 0, []), (26, .bipush (-2), 2, 0, 0, 0, 0, [(0, 0), (0, 1), (0, 2), (0, 3)]), (28, .ireturn, 1, 0, 0, 0, 0, []), (29, .aload_n 0, 1, 0, 0, 0, 0, []), (30, .iload_n 1, 1, 0, 0, 0, 0, []), (31, .invokevirtual 101, 3, 204, 2, 1, 9, [(0, 226)])],
  [(34, .iconst 2, 1, 0, 0, 0, 0, []), (35, .iadd, 1, 0, 0, 0, 0, []), (36, .sipush 256, 3, 0, 0, 0, 0, []), (39, .if_icmp .le 6, 3, 45, 0, 0, 0, []), (42, .bipush (-5), 2, 0, 0, 0, 0, []), (44, .ireturn, 1, 0, 0, 0, 0, []), (45, .aload_n 0, 1, 0, 0, 0, 0, []), (46, .iconst 0, 1, 0, 0, 0, 0, []), (47, .putfield 88, 3, 9, 5, 0, 0, [(0, 96)]), (50, .aload_n 0, 1, 0, 0, 0, 0, []), (51, .iload_n 1, 1, 0, 0, 0, 0, []), (52, .iconst 0, 1, 0, 0, 0, 0, []), (53, .iload_n 2, 1, 0, 0, 0, 0, []), (54, .invokevirtual 283, 3, 254, 4, 0, 9, [(0, 250)]), (57, .aload_n 0, 1, 0, 0, 0, 0, []), (58, .iload_n 3, 1, 0, 0, 0, 0, []), (59, .invokevirtual 107, 3, 196, 2, 0, 9, [(0, 217)]), (62, .aload_n 0, 1, 0, 0, 0, 0, []), (63, .aload_n 0, 1, 0, 0, 0, 0, [])],
  [(64, .iload_n 1, 1, 0, 0, 0, 0, []), (65, .iload_n 2, 1, 0, 0, 0, 0, []), (66, .invokevirtual 104, 3, 205, 3, 1, 9, [(0, 227)]), (69, .invokevirtual 107, 3, 196, 2, 0, 9, [(0, 217)]), (72, .aload_n 0, 1, 0, 0, 0, 0, []), (73, .iload_n 3, 1, 0, 0, 0, 0, []), (74, .invokevirtual 107, 3, 196, 2, 0, 9, [(0, 217)]), (77, .aload_n 0, 1, 0, 0, 0, 0, []), (78, .iload_n 1, 1, 0, 0, 0, 0, []), (79, .iload_n 2, 1, 0, 0, 0, 0, []), (80, .iconst 1, 1, 0, 0, 0, 0, []), (81, .iadd, 1, 0, 0, 0, 0, []), (82, .aload_n 0, 1, 0, 0, 0, 0, []), (83, .iload_n 1, 1, 0, 0, 0, 0, []), (84, .invokevirtual 101, 3, 204, 2, 1, 9, [(0, 226)]), (87, .invokevirtual 283, 3, 254, 4, 0, 9, [(0, 250)]), (90, .aload_n 0, 1, 0, 0, 0, 0, []), (91, .iload_n 1, 1, 0, 0, 0, 0, []), (92, .aload_n 0, 1, 0, 0, 0, 0, []), (93, .iload_n 1, 1, 0, 0, 0, 0, []), (94, .iconst 3, 1, 0, 0, 0, 0, []), (95, .invokevirtual 68, 3, 181, 3, 1, 9, [(0, 203)])],
  [(98, .aload_n 0, 1, 0, 0, 0, 0, []), (99, .getfield 88, 3, 9, 5, 0, 0, [(0, 96)]), (102, .invokevirtual 256, 3, 245, 4, 1, 9, [(0, 243)]), (105, .ireturn, 1, 0, 0, 0, 0, [])]]
noncomputable def pm_270 : MR := (14, ⟨"OneAtATimeModel", "detour", "(III)I"⟩, prog_12_method_97_code, 4, (some (.int)), pgA_270)
set_option maxRecDepth 100000 in
noncomputable def pgA_271 : List (List (Nat × EN)) := [[(0, .aload_n 0, 1, 0, 0, 0, 0, []), (1, .iload_n 1, 1, 0, 0, 0, 0, []), (2, .invokevirtual 72, 3, 180, 2, 1, 9, [(0, 199)]), (5, .ifCond .ne 6, 3, 11, 0, 0, 0, []), (8, .bipush (-2), 2, 0, 0, 0, 0, []), (10, .ireturn, 1, 0, 0, 0, 0, []), (11, .aload_n 0, 1, 0, 0, 0, 0, []), (12, .iload_n 1, 1, 0, 0, 0, 0, []), (13, .invokevirtual 75, 3, 207, 2, 1, 9, [(0, 228)]), (16, .istore_n 2, 1, 0, 0, 0, 0, []), (17, .iconst 0, 1, 0, 0, 0, 0, []), (18, .istore_n 3, 1, 0, 0, 0, 0, []), (19, .iconst 0, 1, 0, 0, 0, 0, []), (20, .istore 4, 2, 0, 0, 0, 0, []), (22, .iload 4, 2, 0, 0, 0, 0, []), (24, .iload_n 2, 1, 0, 0, 0, 0, []), (25, .if_icmp .ge 38, 3, 63, 0, 0, 0, []), (28, .iload_n 3, 1, 0, 0, 0, 0, []), (29, .aload_n 0, 1, 0, 0, 0, 0, []), (30, .iload_n 1, 1, 0, 0, 0, 0, []), (31, .iconst 3, 1, 0, 0, 0, 0, [])],
  [(32, .invokevirtual 68, 3, 181, 3, 1, 9, [(0, 203)]), (35, .iload 4, 2, 0, 0, 0, 0, []), (37, .invokestatic 1, 3, 216, 2, 1, 0, [(0, 234)]), (40, .ifCond .eq 14, 3, 54, 0, 0, 0, []), (43, .iconst 1, 1, 0, 0, 0, 0, []), (44, .iload_n 2, 1, 0, 0, 0, 0, []), (45, .iconst 1, 1, 0, 0, 0, 0, []), (46, .isub, 1, 0, 0, 0, 0, []), (47, .iload 4, 2, 0, 0, 0, 0, []), (49, .isub, 1, 0, 0, 0, 0, []), (50, .ishl, 1, 0, 0, 0, 0, []), (51, .goto 4, 3, 55, 0, 0, 0, []), (54, .iconst 0, 1, 0, 0, 0, 0, []), (55, .ior, 1, 0, 0, 0, 0, [(0, 3)]), (56, .istore_n 3, 1, 0, 0, 0, 0, []), (57, .iinc 4 1, 3, 0, 0, 0, 0, []), (60, .goto (-38), 3, 22, 0, 0, 0, []), (63, .aload_n 0, 1, 0, 0, 0, 0, [])],
  [(64, .iconst 0, 1, 0, 0, 0, 0, []), (65, .putfield 88, 3, 9, 5, 0, 0, [(0, 96)]), (68, .iconst 0, 1, 0, 0, 0, 0, []), (69, .istore 4, 2, 0, 0, 0, 0, []), (71, .iload 4, 2, 0, 0, 0, 0, []), (73, .aload_n 0, 1, 0, 0, 0, 0, []), (74, .iload_n 1, 1, 0, 0, 0, 0, []), (75, .invokevirtual 101, 3, 204, 2, 1, 9, [(0, 226)]), (78, .if_icmp .ge 24, 3, 102, 0, 0, 0, []), (81, .aload_n 0, 1, 0, 0, 0, 0, []), (82, .iload_n 2, 1, 0, 0, 0, 0, []), (83, .iconst 1, 1, 0, 0, 0, 0, []), (84, .isub, 1, 0, 0, 0, 0, []), (85, .aload_n 0, 1, 0, 0, 0, 0, []), (86, .iload_n 1, 1, 0, 0, 0, 0, []), (87, .iload 4, 2, 0, 0, 0, 0, []), (89, .invokevirtual 104, 3, 205, 3, 1, 9, [(0, 227)]), (92, .isub, 1, 0, 0, 0, 0, []), (93, .invokevirtual 107, 3, 196, 2, 0, 9, [(0, 217)])],
  [(96, .iinc 4 1, 3, 0, 0, 0, 0, []), (99, .goto (-28), 3, 71, 0, 0, 0, []), (102, .aload_n 0, 1, 0, 0, 0, 0, []), (103, .iload_n 1, 1, 0, 0, 0, 0, []), (104, .iload_n 3, 1, 0, 0, 0, 0, []), (105, .iload_n 3, 1, 0, 0, 0, 0, []), (106, .invokevirtual 256, 3, 245, 4, 1, 9, [(0, 243)]), (109, .ireturn, 1, 0, 0, 0, 0, [])]]
noncomputable def pm_271 : MR := (14, ⟨"OneAtATimeModel", "mirror", "(I)I"⟩, prog_12_method_98_code, 5, (some (.int)), pgA_271)
set_option maxRecDepth 100000 in
noncomputable def pgA_272 : List (List (Nat × EN)) := [[(0, .aload_n 0, 1, 0, 0, 0, 0, []), (1, .iload_n 1, 1, 0, 0, 0, 0, []), (2, .iload_n 2, 1, 0, 0, 0, 0, []), (3, .invokevirtual 231, 3, 221, 3, 1, 9, [(0, 235)]), (6, .ifCond .ne 6, 3, 12, 0, 0, 0, []), (9, .bipush (-2), 2, 0, 0, 0, 0, []), (11, .ireturn, 1, 0, 0, 0, 0, []), (12, .aload_n 0, 1, 0, 0, 0, 0, []), (13, .iload_n 1, 1, 0, 0, 0, 0, []), (14, .iconst 3, 1, 0, 0, 0, 0, []), (15, .invokevirtual 68, 3, 181, 3, 1, 9, [(0, 203)]), (18, .istore_n 3, 1, 0, 0, 0, 0, []), (19, .aload_n 0, 1, 0, 0, 0, 0, []), (20, .iload_n 1, 1, 0, 0, 0, 0, []), (21, .invokevirtual 330, 3, 273, 2, 0, 9, [(0, 259)]), (24, .aload_n 0, 1, 0, 0, 0, 0, []), (25, .iload_n 1, 1, 0, 0, 0, 0, []), (26, .iload_n 2, 1, 0, 0, 0, 0, []), (27, .iload_n 3, 1, 0, 0, 0, 0, []), (28, .invokevirtual 256, 3, 245, 4, 1, 9, [(0, 243)]), (31, .ireturn, 1, 0, 0, 0, 0, [])]]
noncomputable def pm_272 : MR := (14, ⟨"OneAtATimeModel", "starts", "(II)I"⟩, prog_12_method_99_code, 4, (some (.int)), pgA_272)
set_option maxRecDepth 100000 in
noncomputable def pgA_273 : List (List (Nat × EN)) := [[(0, .aload_n 0, 1, 0, 0, 0, 0, []), (1, .iconst 0, 1, 0, 0, 0, 0, []), (2, .putfield 88, 3, 9, 5, 0, 0, [(0, 96)]), (5, .iconst 0, 1, 0, 0, 0, 0, []), (6, .istore_n 2, 1, 0, 0, 0, 0, []), (7, .iload_n 2, 1, 0, 0, 0, 0, []), (8, .aload_n 0, 1, 0, 0, 0, 0, []), (9, .iload_n 1, 1, 0, 0, 0, 0, []), (10, .invokevirtual 101, 3, 204, 2, 1, 9, [(0, 226)]), (13, .if_icmp .ge 19, 3, 32, 0, 0, 0, []), (16, .aload_n 0, 1, 0, 0, 0, 0, []), (17, .aload_n 0, 1, 0, 0, 0, 0, []), (18, .iload_n 1, 1, 0, 0, 0, 0, []), (19, .iload_n 2, 1, 0, 0, 0, 0, []), (20, .invokevirtual 104, 3, 205, 3, 1, 9, [(0, 227)]), (23, .invokevirtual 107, 3, 196, 2, 0, 9, [(0, 217)]), (26, .iinc 2 1, 3, 0, 0, 0, 0, []), (29, .goto (-22), 3, 7, 0, 0, 0, [])],
  [(32, .return_, 1, 0, 0, 0, 0, [])]]
noncomputable def pm_273 : MR := (14, ⟨"OneAtATimeModel", "laysMade", "(I)V"⟩, prog_12_method_22_code, 3, none, pgA_273)
set_option maxRecDepth 100000 in
noncomputable def pgA_274 : List (List (Nat × EN)) := [[(0, .aload_n 0, 1, 0, 0, 0, 0, []), (1, .iload_n 1, 1, 0, 0, 0, 0, []), (2, .iload_n 2, 1, 0, 0, 0, 0, []), (3, .invokevirtual 234, 3, 224, 3, 1, 9, [(0, 236)]), (6, .ifCond .eq 12, 3, 18, 0, 0, 0, []), (9, .aload_n 0, 1, 0, 0, 0, 0, []), (10, .iload_n 1, 1, 0, 0, 0, 0, []), (11, .iload_n 3, 1, 0, 0, 0, 0, []), (12, .invokevirtual 234, 3, 224, 3, 1, 9, [(0, 236)]), (15, .ifCond .ne 6, 3, 21, 0, 0, 0, []), (18, .bipush (-2), 2, 0, 0, 0, 0, [(0, 0), (0, 1), (0, 2), (0, 3), (0, 4), (0, 5), (0, 6)]), (20, .ireturn, 1, 0, 0, 0, 0, []), (21, .iconst 0, 1, 0, 0, 0, 0, []), (22, .istore 4, 2, 0, 0, 0, 0, []), (24, .aload_n 0, 1, 0, 0, 0, 0, []), (25, .iload_n 1, 1, 0, 0, 0, 0, []), (26, .invokevirtual 330, 3, 273, 2, 0, 9, [(0, 259)]), (29, .iconst 0, 1, 0, 0, 0, 0, []), (30, .istore 5, 2, 0, 0, 0, 0, [])],
  [(32, .iload 5, 2, 0, 0, 0, 0, [(0, 6)]), (34, .aload_n 0, 1, 0, 0, 0, 0, []), (35, .getfield 88, 3, 9, 5, 0, 0, [(0, 96)]), (38, .if_icmp .ge 69, 3, 107, 0, 0, 0, []), (41, .aload_n 0, 1, 0, 0, 0, 0, []), (42, .getfield 23, 3, 9, 4, 2, 0, [(0, 84)]), (45, .iload 5, 2, 0, 0, 0, 0, []), (47, .iaload, 1, 20, 0, 0, 0, []), (48, .istore 6, 2, 0, 0, 0, 0, []), (50, .aload_n 0, 1, 0, 0, 0, 0, []), (51, .getfield 23, 3, 9, 4, 2, 0, [(0, 84)]), (54, .iload 5, 2, 0, 0, 0, 0, []), (56, .iload 6, 2, 0, 0, 0, 0, []), (58, .iload_n 2, 1, 0, 0, 0, 0, []), (59, .if_icmp .ne 7, 3, 66, 0, 0, 0, []), (62, .iload_n 3, 1, 0, 0, 0, 0, []), (63, .goto 15, 3, 78, 0, 0, 0, [])],
  [(66, .iload 6, 2, 0, 0, 0, 0, []), (68, .iload_n 3, 1, 0, 0, 0, 0, []), (69, .if_icmp .ne 7, 3, 76, 0, 0, 0, []), (72, .iload_n 2, 1, 0, 0, 0, 0, []), (73, .goto 5, 3, 78, 0, 0, 0, []), (76, .iload 6, 2, 0, 0, 0, 0, []), (78, .iastore, 1, 20, 0, 0, 0, []), (79, .iload 4, 2, 0, 0, 0, 0, []), (81, .aload_n 0, 1, 0, 0, 0, 0, []), (82, .getfield 23, 3, 9, 4, 2, 0, [(0, 84)]), (85, .iload 5, 2, 0, 0, 0, 0, []), (87, .iaload, 1, 20, 0, 0, 0, []), (88, .iload 6, 2, 0, 0, 0, 0, []), (90, .if_icmp .ne 7, 3, 97, 0, 0, 0, []), (93, .iconst 0, 1, 0, 0, 0, 0, []), (94, .goto 4, 3, 98, 0, 0, 0, [])],
  [(97, .iconst 1, 1, 0, 0, 0, 0, []), (98, .iadd, 1, 0, 0, 0, 0, [(0, 4), (0, 6)]), (99, .istore 4, 2, 0, 0, 0, 0, []), (101, .iinc 5 1, 3, 0, 0, 0, 0, []), (104, .goto (-72), 3, 32, 0, 0, 0, []), (107, .aload_n 0, 1, 0, 0, 0, 0, []), (108, .iload_n 1, 1, 0, 0, 0, 0, []), (109, .iconst 3, 1, 0, 0, 0, 0, []), (110, .invokevirtual 68, 3, 181, 3, 1, 9, [(0, 203)]), (113, .istore 5, 2, 0, 0, 0, 0, []), (115, .iload 5, 2, 0, 0, 0, 0, []), (117, .iconst 1, 1, 0, 0, 0, 0, []), (118, .iload_n 2, 1, 0, 0, 0, 0, []), (119, .ishl, 1, 0, 0, 0, 0, []), (120, .iconst 1, 1, 0, 0, 0, 0, []), (121, .iload_n 3, 1, 0, 0, 0, 0, []), (122, .ishl, 1, 0, 0, 0, 0, []), (123, .ior, 1, 0, 0, 0, 0, []), (124, .iconst (-1), 1, 0, 0, 0, 0, []), (125, .ixor, 1, 0, 0, 0, 0, []), (126, .iand, 1, 0, 0, 0, 0, []), (127, .istore 6, 2, 0, 0, 0, 0, [])],
  [(129, .iload 6, 2, 0, 0, 0, 0, []), (131, .iload 5, 2, 0, 0, 0, 0, []), (133, .iload_n 2, 1, 0, 0, 0, 0, []), (134, .invokestatic 1, 3, 216, 2, 1, 0, [(0, 234)]), (137, .ifCond .eq 9, 3, 146, 0, 0, 0, []), (140, .iconst 1, 1, 0, 0, 0, 0, []), (141, .iload_n 3, 1, 0, 0, 0, 0, []), (142, .ishl, 1, 0, 0, 0, 0, []), (143, .goto 4, 3, 147, 0, 0, 0, []), (146, .iconst 0, 1, 0, 0, 0, 0, []), (147, .ior, 1, 0, 0, 0, 0, [(0, 6)]), (148, .istore 6, 2, 0, 0, 0, 0, []), (150, .iload 6, 2, 0, 0, 0, 0, []), (152, .iload 5, 2, 0, 0, 0, 0, []), (154, .iload_n 3, 1, 0, 0, 0, 0, []), (155, .invokestatic 1, 3, 216, 2, 1, 0, [(0, 234)]), (158, .ifCond .eq 9, 3, 167, 0, 0, 0, [])],
  [(161, .iconst 1, 1, 0, 0, 0, 0, []), (162, .iload_n 2, 1, 0, 0, 0, 0, []), (163, .ishl, 1, 0, 0, 0, 0, []), (164, .goto 4, 3, 168, 0, 0, 0, []), (167, .iconst 0, 1, 0, 0, 0, 0, []), (168, .ior, 1, 0, 0, 0, 0, [(0, 2), (0, 3), (0, 5), (0, 6)]), (169, .istore 6, 2, 0, 0, 0, 0, []), (171, .aload_n 0, 1, 0, 0, 0, 0, []), (172, .iload_n 1, 1, 0, 0, 0, 0, []), (173, .iload 6, 2, 0, 0, 0, 0, []), (175, .iload 4, 2, 0, 0, 0, 0, []), (177, .invokevirtual 256, 3, 245, 4, 1, 9, [(0, 243)]), (180, .ireturn, 1, 0, 0, 0, 0, [])]]
noncomputable def pm_274 : MR := (14, ⟨"OneAtATimeModel", "swaps", "(III)I"⟩, prog_12_method_100_code, 7, (some (.int)), pgA_274)
set_option maxRecDepth 100000 in
noncomputable def pgA_275 : List (List (Nat × EN)) := [[(0, .aload_n 0, 1, 0, 0, 0, 0, []), (1, .iload_n 1, 1, 0, 0, 0, 0, []), (2, .invokevirtual 72, 3, 180, 2, 1, 9, [(0, 199)]), (5, .ifCond .ne 6, 3, 11, 0, 0, 0, []), (8, .bipush (-2), 2, 0, 0, 0, 0, []), (10, .ireturn, 1, 0, 0, 0, 0, []), (11, .aload_n 0, 1, 0, 0, 0, 0, []), (12, .iload_n 1, 1, 0, 0, 0, 0, []), (13, .invokevirtual 191, 3, 203, 2, 0, 9, [(0, 225)]), (16, .aload_n 0, 1, 0, 0, 0, 0, []), (17, .getfield 33, 3, 9, 15, 2, 0, [(0, 87)]), (20, .aload_n 0, 1, 0, 0, 0, 0, []), (21, .iload_n 1, 1, 0, 0, 0, 0, []), (22, .invokevirtual 101, 3, 204, 2, 1, 9, [(0, 226)]), (25, .iaload, 1, 20, 0, 0, 0, []), (26, .istore_n 2, 1, 0, 0, 0, 0, []), (27, .aload_n 0, 1, 0, 0, 0, 0, []), (28, .iconst 0, 1, 0, 0, 0, 0, []), (29, .putfield 88, 3, 9, 5, 0, 0, [(0, 96)])],
  [(32, .aload_n 0, 1, 0, 0, 0, 0, []), (33, .iload_n 1, 1, 0, 0, 0, 0, []), (34, .iconst 0, 1, 0, 0, 0, 0, []), (35, .aload_n 0, 1, 0, 0, 0, 0, []), (36, .iload_n 1, 1, 0, 0, 0, 0, []), (37, .invokevirtual 101, 3, 204, 2, 1, 9, [(0, 226)]), (40, .invokevirtual 287, 3, 255, 4, 0, 9, [(0, 251)]), (43, .aload_n 0, 1, 0, 0, 0, 0, []), (44, .iload_n 1, 1, 0, 0, 0, 0, []), (45, .iload_n 2, 1, 0, 0, 0, 0, []), (46, .iload_n 2, 1, 0, 0, 0, 0, []), (47, .invokevirtual 256, 3, 245, 4, 1, 9, [(0, 243)]), (50, .ireturn, 1, 0, 0, 0, 0, [])]]
noncomputable def pm_275 : MR := (14, ⟨"OneAtATimeModel", "reverse", "(I)I"⟩, prog_12_method_101_code, 3, (some (.int)), pgA_275)
set_option maxRecDepth 100000 in
noncomputable def pgA_276 : List (List (Nat × EN)) := [[(0, .aload_n 0, 1, 0, 0, 0, 0, []), (1, .iload_n 1, 1, 0, 0, 0, 0, []), (2, .invokevirtual 72, 3, 180, 2, 1, 9, [(0, 199)]), (5, .ifCond .eq 20, 3, 25, 0, 0, 0, []), (8, .iload_n 2, 1, 0, 0, 0, 0, []), (9, .i2l, 1, 0, 0, 0, 0, []), (10, .lconst 0, 1, 0, 0, 0, 0, []), (11, .aload_n 0, 1, 0, 0, 0, 0, []), (12, .iload_n 1, 1, 0, 0, 0, 0, []), (13, .invokevirtual 101, 3, 204, 2, 1, 9, [(0, 226)]), (16, .iconst 1, 1, 0, 0, 0, 0, []), (17, .isub, 1, 0, 0, 0, 0, []), (18, .i2l, 1, 0, 0, 0, 0, []), (19, .invokestatic 60, 3, 179, 3, 1, 0, [(0, 202)]), (22, .ifCond .ne 6, 3, 28, 0, 0, 0, []), (25, .bipush (-2), 2, 0, 0, 0, 0, [(0, 0), (0, 1), (0, 2), (0, 3)]), (27, .ireturn, 1, 0, 0, 0, 0, []), (28, .aload_n 0, 1, 0, 0, 0, 0, []), (29, .iload_n 1, 1, 0, 0, 0, 0, []), (30, .invokevirtual 191, 3, 203, 2, 0, 9, [(0, 225)])],
  [(33, .aload_n 0, 1, 0, 0, 0, 0, []), (34, .getfield 185, 3, 9, 18, 1, 0, [(0, 105)]), (37, .ifCond .ne 6, 3, 43, 0, 0, 0, []), (40, .bipush (-6), 2, 0, 0, 0, 0, []), (42, .ireturn, 1, 0, 0, 0, 0, []), (43, .aload_n 0, 1, 0, 0, 0, 0, []), (44, .getfield 33, 3, 9, 15, 2, 0, [(0, 87)]), (47, .iload_n 2, 1, 0, 0, 0, 0, []), (48, .iaload, 1, 20, 0, 0, 0, []), (49, .istore_n 3, 1, 0, 0, 0, 0, []), (50, .aload_n 0, 1, 0, 0, 0, 0, []), (51, .iconst 0, 1, 0, 0, 0, 0, []), (52, .putfield 88, 3, 9, 5, 0, 0, [(0, 96)]), (55, .aload_n 0, 1, 0, 0, 0, 0, []), (56, .iload_n 1, 1, 0, 0, 0, 0, []), (57, .iload_n 2, 1, 0, 0, 0, 0, []), (58, .aload_n 0, 1, 0, 0, 0, 0, []), (59, .iload_n 1, 1, 0, 0, 0, 0, []), (60, .invokevirtual 101, 3, 204, 2, 1, 9, [(0, 226)]), (63, .invokevirtual 283, 3, 254, 4, 0, 9, [(0, 250)])],
  [(66, .aload_n 0, 1, 0, 0, 0, 0, []), (67, .iload_n 1, 1, 0, 0, 0, 0, []), (68, .iconst 0, 1, 0, 0, 0, 0, []), (69, .iload_n 2, 1, 0, 0, 0, 0, []), (70, .invokevirtual 283, 3, 254, 4, 0, 9, [(0, 250)]), (73, .aload_n 0, 1, 0, 0, 0, 0, []), (74, .iload_n 1, 1, 0, 0, 0, 0, []), (75, .iload_n 3, 1, 0, 0, 0, 0, []), (76, .iload_n 3, 1, 0, 0, 0, 0, []), (77, .invokevirtual 256, 3, 245, 4, 1, 9, [(0, 243)]), (80, .ireturn, 1, 0, 0, 0, 0, [])]]
noncomputable def pm_276 : MR := (14, ⟨"OneAtATimeModel", "rolls", "(II)I"⟩, prog_12_method_102_code, 4, (some (.int)), pgA_276)
set_option maxRecDepth 100000 in
noncomputable def pgA_277 : List (List (Nat × EN)) := [[(0, .aload_n 0, 1, 0, 0, 0, 0, []), (1, .iload_n 1, 1, 0, 0, 0, 0, []), (2, .iload_n 2, 1, 0, 0, 0, 0, []), (3, .invokevirtual 234, 3, 224, 3, 1, 9, [(0, 236)]), (6, .ifCond .ne 6, 3, 12, 0, 0, 0, []), (9, .bipush (-2), 2, 0, 0, 0, 0, []), (11, .ireturn, 1, 0, 0, 0, 0, []), (12, .aload_n 0, 1, 0, 0, 0, 0, []), (13, .iload_n 1, 1, 0, 0, 0, 0, []), (14, .invokevirtual 101, 3, 204, 2, 1, 9, [(0, 226)]), (17, .sipush 256, 3, 0, 0, 0, 0, []), (20, .if_icmp .ne 6, 3, 26, 0, 0, 0, []), (23, .bipush (-5), 2, 0, 0, 0, 0, []), (25, .ireturn, 1, 0, 0, 0, 0, []), (26, .aload_n 0, 1, 0, 0, 0, 0, []), (27, .iload_n 1, 1, 0, 0, 0, 0, []), (28, .invokevirtual 330, 3, 273, 2, 0, 9, [(0, 259)]), (31, .aload_n 0, 1, 0, 0, 0, 0, [])],
  [(32, .iload_n 2, 1, 0, 0, 0, 0, []), (33, .invokevirtual 107, 3, 196, 2, 0, 9, [(0, 217)]), (36, .aload_n 0, 1, 0, 0, 0, 0, []), (37, .iload_n 1, 1, 0, 0, 0, 0, []), (38, .aload_n 0, 1, 0, 0, 0, 0, []), (39, .iload_n 1, 1, 0, 0, 0, 0, []), (40, .invokevirtual 75, 3, 207, 2, 1, 9, [(0, 228)]), (43, .aload_n 0, 1, 0, 0, 0, 0, []), (44, .iload_n 1, 1, 0, 0, 0, 0, []), (45, .iconst 1, 1, 0, 0, 0, 0, []), (46, .invokevirtual 68, 3, 181, 3, 1, 9, [(0, 203)]), (49, .aload_n 0, 1, 0, 0, 0, 0, []), (50, .iload_n 1, 1, 0, 0, 0, 0, []), (51, .iconst 2, 1, 0, 0, 0, 0, []), (52, .invokevirtual 68, 3, 181, 3, 1, 9, [(0, 203)]), (55, .aload_n 0, 1, 0, 0, 0, 0, []), (56, .iload_n 1, 1, 0, 0, 0, 0, []), (57, .iconst 3, 1, 0, 0, 0, 0, []), (58, .invokevirtual 68, 3, 181, 3, 1, 9, [(0, 203)]), (61, .invokevirtual 94, 3, 182, 6, 0, 9, [(0, 200)])],
  [(64, .aload_n 0, 1, 0, 0, 0, 0, []), (65, .iload_n 1, 1, 0, 0, 0, 0, []), (66, .invokevirtual 191, 3, 203, 2, 0, 9, [(0, 225)]), (69, .aload_n 0, 1, 0, 0, 0, 0, []), (70, .aload_n 0, 1, 0, 0, 0, 0, []), (71, .getfield 33, 3, 9, 15, 2, 0, [(0, 87)]), (74, .aload_n 0, 1, 0, 0, 0, 0, []), (75, .iload_n 1, 1, 0, 0, 0, 0, []), (76, .invokevirtual 101, 3, 204, 2, 1, 9, [(0, 226)]), (79, .iaload, 1, 20, 0, 0, 0, []), (80, .invokevirtual 85, 3, 184, 2, 1, 9, [(0, 201)]), (83, .ireturn, 1, 0, 0, 0, 0, [])]]
noncomputable def pm_277 : MR := (14, ⟨"OneAtATimeModel", "adds", "(II)I"⟩, prog_12_method_103_code, 3, (some (.int)), pgA_277)
set_option maxRecDepth 100000 in
noncomputable def pgA_278 : List (List (Nat × EN)) := [[(0, .aload_n 0, 1, 0, 0, 0, 0, []), (1, .iload_n 1, 1, 0, 0, 0, 0, []), (2, .invokevirtual 72, 3, 180, 2, 1, 9, [(0, 199)]), (5, .ifCond .eq 18, 3, 23, 0, 0, 0, []), (8, .iload_n 2, 1, 0, 0, 0, 0, []), (9, .i2l, 1, 0, 0, 0, 0, []), (10, .lconst 1, 1, 0, 0, 0, 0, []), (11, .aload_n 0, 1, 0, 0, 0, 0, []), (12, .iload_n 1, 1, 0, 0, 0, 0, []), (13, .invokevirtual 101, 3, 204, 2, 1, 9, [(0, 226)]), (16, .i2l, 1, 0, 0, 0, 0, []), (17, .invokestatic 60, 3, 179, 3, 1, 0, [(0, 202)]), (20, .ifCond .ne 6, 3, 26, 0, 0, 0, []), (23, .bipush (-2), 2, 0, 0, 0, 0, [(0, 0), (0, 1), (0, 2)]), (25, .ireturn, 1, 0, 0, 0, 0, []), (26, .aload_n 0, 1, 0, 0, 0, 0, []), (27, .iload_n 1, 1, 0, 0, 0, 0, []), (28, .invokevirtual 330, 3, 273, 2, 0, 9, [(0, 259)]), (31, .aload_n 0, 1, 0, 0, 0, 0, [])],
  [(32, .dup, 1, 0, 0, 0, 0, []), (33, .getfield 88, 3, 9, 5, 0, 0, [(0, 96)]), (36, .iload_n 2, 1, 0, 0, 0, 0, []), (37, .isub, 1, 0, 0, 0, 0, []), (38, .putfield 88, 3, 9, 5, 0, 0, [(0, 96)]), (41, .aload_n 0, 1, 0, 0, 0, 0, []), (42, .iload_n 1, 1, 0, 0, 0, 0, []), (43, .aload_n 0, 1, 0, 0, 0, 0, []), (44, .iload_n 1, 1, 0, 0, 0, 0, []), (45, .invokevirtual 75, 3, 207, 2, 1, 9, [(0, 228)]), (48, .aload_n 0, 1, 0, 0, 0, 0, []), (49, .iload_n 1, 1, 0, 0, 0, 0, []), (50, .iconst 1, 1, 0, 0, 0, 0, []), (51, .invokevirtual 68, 3, 181, 3, 1, 9, [(0, 203)]), (54, .aload_n 0, 1, 0, 0, 0, 0, []), (55, .iload_n 1, 1, 0, 0, 0, 0, []), (56, .iconst 2, 1, 0, 0, 0, 0, []), (57, .invokevirtual 68, 3, 181, 3, 1, 9, [(0, 203)]), (60, .aload_n 0, 1, 0, 0, 0, 0, []), (61, .iload_n 1, 1, 0, 0, 0, 0, []), (62, .iconst 3, 1, 0, 0, 0, 0, []), (63, .invokevirtual 68, 3, 181, 3, 1, 9, [(0, 203)])],
  [(66, .invokevirtual 94, 3, 182, 6, 0, 9, [(0, 200)]), (69, .aload_n 0, 1, 0, 0, 0, 0, []), (70, .aload_n 0, 1, 0, 0, 0, 0, []), (71, .getfield 88, 3, 9, 5, 0, 0, [(0, 96)]), (74, .invokevirtual 85, 3, 184, 2, 1, 9, [(0, 201)]), (77, .ireturn, 1, 0, 0, 0, 0, [])]]
noncomputable def pm_278 : MR := (14, ⟨"OneAtATimeModel", "cuts", "(II)I"⟩, prog_12_method_104_code, 3, (some (.int)), pgA_278)
set_option maxRecDepth 100000 in
noncomputable def pgA_279 : List (List (Nat × EN)) := [[(0, .aload_n 0, 1, 0, 0, 0, 0, []), (1, .iload_n 1, 1, 0, 0, 0, 0, []), (2, .invokevirtual 72, 3, 180, 2, 1, 9, [(0, 199)]), (5, .ifCond .eq 11, 3, 16, 0, 0, 0, []), (8, .aload_n 0, 1, 0, 0, 0, 0, []), (9, .iload_n 2, 1, 0, 0, 0, 0, []), (10, .invokevirtual 72, 3, 180, 2, 1, 9, [(0, 199)]), (13, .ifCond .ne 6, 3, 19, 0, 0, 0, []), (16, .bipush (-2), 2, 0, 0, 0, 0, [(0, 0), (0, 1), (0, 2), (0, 3), (0, 4)]), (18, .ireturn, 1, 0, 0, 0, 0, []), (19, .aload_n 0, 1, 0, 0, 0, 0, []), (20, .iload_n 1, 1, 0, 0, 0, 0, []), (21, .invokevirtual 333, 3, 280, 2, 1, 9, [(0, 260)]), (24, .istore_n 3, 1, 0, 0, 0, 0, []), (25, .aload_n 0, 1, 0, 0, 0, 0, []), (26, .iload_n 1, 1, 0, 0, 0, 0, []), (27, .invokevirtual 101, 3, 204, 2, 1, 9, [(0, 226)]), (30, .aload_n 0, 1, 0, 0, 0, 0, []), (31, .iload_n 2, 1, 0, 0, 0, 0, [])],
  [(32, .invokevirtual 101, 3, 204, 2, 1, 9, [(0, 226)]), (35, .if_icmp .ne 12, 3, 47, 0, 0, 0, []), (38, .iload_n 3, 1, 0, 0, 0, 0, []), (39, .aload_n 0, 1, 0, 0, 0, 0, []), (40, .iload_n 2, 1, 0, 0, 0, 0, []), (41, .invokevirtual 333, 3, 280, 2, 1, 9, [(0, 260)]), (44, .if_icmp .eq 5, 3, 49, 0, 0, 0, []), (47, .iconst 0, 1, 0, 0, 0, 0, [(0, 0), (0, 1), (0, 2), (0, 3), (0, 4)]), (48, .ireturn, 1, 0, 0, 0, 0, []), (49, .iload_n 3, 1, 0, 0, 0, 0, []), (50, .ifCond .ne 20, 3, 70, 0, 0, 0, []), (53, .aload_n 0, 1, 0, 0, 0, 0, []), (54, .iload_n 1, 1, 0, 0, 0, 0, []), (55, .iload_n 2, 1, 0, 0, 0, 0, []), (56, .iconst 0, 1, 0, 0, 0, 0, []), (57, .iconst 1, 1, 0, 0, 0, 0, []), (58, .invokevirtual 336, 3, 281, 5, 1, 9, [(0, 261)]), (61, .ifCond .eq 7, 3, 68, 0, 0, 0, [])],
  [(64, .iconst 1, 1, 0, 0, 0, 0, []), (65, .goto 4, 3, 69, 0, 0, 0, []), (68, .iconst 0, 1, 0, 0, 0, 0, []), (69, .ireturn, 1, 0, 0, 0, 0, [(0, 0), (0, 1), (0, 2), (0, 3), (0, 4)]), (70, .iconst 0, 1, 0, 0, 0, 0, []), (71, .istore 4, 2, 0, 0, 0, 0, []), (73, .iload 4, 2, 0, 0, 0, 0, [(0, 3)]), (75, .aload_n 0, 1, 0, 0, 0, 0, []), (76, .iload_n 1, 1, 0, 0, 0, 0, []), (77, .invokevirtual 101, 3, 204, 2, 1, 9, [(0, 226)]), (80, .if_icmp .ge 35, 3, 115, 0, 0, 0, []), (83, .aload_n 0, 1, 0, 0, 0, 0, []), (84, .iload_n 1, 1, 0, 0, 0, 0, []), (85, .iload_n 2, 1, 0, 0, 0, 0, []), (86, .iload 4, 2, 0, 0, 0, 0, []), (88, .iconst 1, 1, 0, 0, 0, 0, []), (89, .invokevirtual 336, 3, 281, 5, 1, 9, [(0, 261)]), (92, .ifCond .ne 15, 3, 107, 0, 0, 0, []), (95, .aload_n 0, 1, 0, 0, 0, 0, [])],
  [(96, .iload_n 1, 1, 0, 0, 0, 0, []), (97, .iload_n 2, 1, 0, 0, 0, 0, []), (98, .iload 4, 2, 0, 0, 0, 0, []), (100, .iconst 0, 1, 0, 0, 0, 0, []), (101, .invokevirtual 336, 3, 281, 5, 1, 9, [(0, 261)]), (104, .ifCond .eq 5, 3, 109, 0, 0, 0, []), (107, .iconst 1, 1, 0, 0, 0, 0, [(0, 0), (0, 1), (0, 2), (0, 3), (0, 4)]), (108, .ireturn, 1, 0, 0, 0, 0, []), (109, .iinc 4 1, 3, 0, 0, 0, 0, []), (112, .goto (-39), 3, 73, 0, 0, 0, []), (115, .iconst 0, 1, 0, 0, 0, 0, []), (116, .ireturn, 1, 0, 0, 0, 0, [])]]
noncomputable def pm_279 : MR := (14, ⟨"OneAtATimeModel", "alike", "(II)I"⟩, prog_12_method_107_code, 5, (some (.int)), pgA_279)
set_option maxRecDepth 100000 in
noncomputable def pgA_280 : List (List (Nat × EN)) := [[(0, .aload_n 0, 1, 0, 0, 0, 0, []), (1, .iload_n 1, 1, 0, 0, 0, 0, []), (2, .invokevirtual 191, 3, 203, 2, 0, 9, [(0, 225)]), (5, .aload_n 0, 1, 0, 0, 0, 0, []), (6, .getfield 185, 3, 9, 18, 1, 0, [(0, 105)]), (9, .ireturn, 1, 1, 0, 0, 0, [])]]
noncomputable def pm_280 : MR := (14, ⟨"OneAtATimeModel", "isLoopAt", "(I)Z"⟩, prog_12_method_106_code, 2, (some (.boolean)), pgA_280)
set_option maxRecDepth 100000 in
noncomputable def pgA_281 : List (List (Nat × EN)) := [[(0, .aload_n 0, 1, 0, 0, 0, 0, []), (1, .iload_n 1, 1, 0, 0, 0, 0, []), (2, .invokevirtual 101, 3, 204, 2, 1, 9, [(0, 226)]), (5, .istore 5, 2, 0, 0, 0, 0, []), (7, .iconst 0, 1, 0, 0, 0, 0, []), (8, .istore 6, 2, 0, 0, 0, 0, []), (10, .iload 6, 2, 0, 0, 0, 0, [(0, 7), (0, 8)]), (12, .bipush 8, 2, 0, 0, 0, 0, []), (14, .if_icmp .ge 25, 3, 39, 0, 0, 0, []), (17, .aload_n 0, 1, 0, 0, 0, 0, []), (18, .getfield 49, 3, 9, 25, 2, 0, [(0, 92)]), (21, .iload 6, 2, 0, 0, 0, 0, []), (23, .iconst (-1), 1, 0, 0, 0, 0, []), (24, .iastore, 1, 20, 0, 0, 0, []), (25, .aload_n 0, 1, 0, 0, 0, 0, []), (26, .getfield 52, 3, 9, 26, 2, 0, [(0, 93)]), (29, .iload 6, 2, 0, 0, 0, 0, []), (31, .iconst (-1), 1, 0, 0, 0, 0, [])],
  [(32, .iastore, 1, 20, 0, 0, 0, []), (33, .iinc 6 1, 3, 0, 0, 0, 0, []), (36, .goto (-26), 3, 10, 0, 0, 0, []), (39, .iconst 0, 1, 0, 0, 0, 0, []), (40, .istore 6, 2, 0, 0, 0, 0, []), (42, .iload 6, 2, 0, 0, 0, 0, [(0, 7), (0, 8)]), (44, .iload 5, 2, 0, 0, 0, 0, []), (46, .if_icmp .ge 116, 3, 162, 0, 0, 0, []), (49, .aload_n 0, 1, 0, 0, 0, 0, []), (50, .iload_n 1, 1, 0, 0, 0, 0, []), (51, .iload 6, 2, 0, 0, 0, 0, []), (53, .invokevirtual 104, 3, 205, 3, 1, 9, [(0, 227)]), (56, .istore 7, 2, 0, 0, 0, 0, []), (58, .aload_n 0, 1, 0, 0, 0, 0, []), (59, .iload_n 2, 1, 0, 0, 0, 0, []), (60, .iload 4, 2, 0, 0, 0, 0, []), (62, .ifCond .eq 13, 3, 75, 0, 0, 0, [])],
  [(65, .iload_n 3, 1, 0, 0, 0, 0, []), (66, .iload 6, 2, 0, 0, 0, 0, []), (68, .iadd, 1, 0, 0, 0, 0, []), (69, .iload 5, 2, 0, 0, 0, 0, []), (71, .irem, 1, 0, 0, 0, 0, []), (72, .goto 13, 3, 85, 0, 0, 0, []), (75, .iload_n 3, 1, 0, 0, 0, 0, []), (76, .iload 5, 2, 0, 0, 0, 0, []), (78, .iadd, 1, 0, 0, 0, 0, []), (79, .iload 6, 2, 0, 0, 0, 0, []), (81, .isub, 1, 0, 0, 0, 0, []), (82, .iload 5, 2, 0, 0, 0, 0, []), (84, .irem, 1, 0, 0, 0, 0, []), (85, .invokevirtual 104, 3, 205, 3, 1, 9, [(0, 227)]), (88, .istore 8, 2, 0, 0, 0, 0, []), (90, .aload_n 0, 1, 0, 0, 0, 0, []), (91, .getfield 49, 3, 9, 25, 2, 0, [(0, 92)]), (94, .iload 7, 2, 0, 0, 0, 0, [])],
  [(96, .iaload, 1, 20, 0, 0, 0, []), (97, .iconst (-1), 1, 0, 0, 0, 0, []), (98, .if_icmp .ne 32, 3, 130, 0, 0, 0, []), (101, .aload_n 0, 1, 0, 0, 0, 0, []), (102, .getfield 52, 3, 9, 26, 2, 0, [(0, 93)]), (105, .iload 8, 2, 0, 0, 0, 0, []), (107, .iaload, 1, 20, 0, 0, 0, []), (108, .iconst (-1), 1, 0, 0, 0, 0, []), (109, .if_icmp .ne 21, 3, 130, 0, 0, 0, []), (112, .aload_n 0, 1, 0, 0, 0, 0, []), (113, .getfield 49, 3, 9, 25, 2, 0, [(0, 92)]), (116, .iload 7, 2, 0, 0, 0, 0, []), (118, .iload 8, 2, 0, 0, 0, 0, []), (120, .iastore, 1, 20, 0, 0, 0, []), (121, .aload_n 0, 1, 0, 0, 0, 0, []), (122, .getfield 52, 3, 9, 26, 2, 0, [(0, 93)]), (125, .iload 8, 2, 0, 0, 0, 0, []), (127, .iload 7, 2, 0, 0, 0, 0, [])],
  [(129, .iastore, 1, 20, 0, 0, 0, []), (130, .aload_n 0, 1, 0, 0, 0, 0, []), (131, .getfield 49, 3, 9, 25, 2, 0, [(0, 92)]), (134, .iload 7, 2, 0, 0, 0, 0, []), (136, .iaload, 1, 20, 0, 0, 0, []), (137, .iload 8, 2, 0, 0, 0, 0, []), (139, .if_icmp .ne 15, 3, 154, 0, 0, 0, []), (142, .aload_n 0, 1, 0, 0, 0, 0, []), (143, .getfield 52, 3, 9, 26, 2, 0, [(0, 93)]), (146, .iload 8, 2, 0, 0, 0, 0, []), (148, .iaload, 1, 20, 0, 0, 0, []), (149, .iload 7, 2, 0, 0, 0, 0, []), (151, .if_icmp .eq 5, 3, 156, 0, 0, 0, []), (154, .iconst 0, 1, 0, 0, 0, 0, [(0, 0), (0, 1), (0, 2), (0, 3), (0, 4), (0, 5), (0, 6), (0, 7), (0, 8)]), (155, .ireturn, 1, 1, 0, 0, 0, []), (156, .iinc 6 1, 3, 0, 0, 0, 0, []), (159, .goto (-117), 3, 42, 0, 0, 0, [])],
  [(162, .iconst 1, 1, 0, 0, 0, 0, []), (163, .ireturn, 1, 1, 0, 0, 0, [])]]
noncomputable def pm_281 : MR := (14, ⟨"OneAtATimeModel", "areNamed", "(IIIZ)Z"⟩, prog_12_method_105_code, 9, (some (.boolean)), pgA_281)
set_option maxRecDepth 100000 in
noncomputable def pgA_282 : List (List (Nat × EN)) := [[(0, .aload_n 0, 1, 0, 0, 0, 0, []), (1, .iload_n 1, 1, 0, 0, 0, 0, []), (2, .invokevirtual 72, 3, 180, 2, 1, 9, [(0, 199)]), (5, .ifCond .eq 13, 3, 18, 0, 0, 0, []), (8, .iload_n 2, 1, 0, 0, 0, 0, []), (9, .i2l, 1, 0, 0, 0, 0, []), (10, .lconst 0, 1, 0, 0, 0, 0, []), (11, .lconst 1, 1, 0, 0, 0, 0, []), (12, .invokestatic 60, 3, 179, 3, 1, 0, [(0, 202)]), (15, .ifCond .ne 6, 3, 21, 0, 0, 0, []), (18, .bipush (-2), 2, 0, 0, 0, 0, [(0, 0), (0, 1), (0, 2), (0, 3), (0, 4)]), (20, .ireturn, 1, 0, 0, 0, 0, []), (21, .aload_n 0, 1, 0, 0, 0, 0, []), (22, .iconst 0, 1, 0, 0, 0, 0, []), (23, .putfield 182, 3, 9, 28, 0, 0, [(0, 104)]), (26, .iload_n 2, 1, 0, 0, 0, 0, []), (27, .ifCond .ne 116, 3, 143, 0, 0, 0, []), (30, .aload_n 0, 1, 0, 0, 0, 0, []), (31, .ldc_w 343, 3, 8, 2, 0, 0, [(2, 12)])],
  [(34, .invokevirtual 345, 3, 283, 2, 0, 9, [(0, 262)]), (37, .aload_n 0, 1, 0, 0, 0, 0, []), (38, .aload_n 0, 1, 0, 0, 0, 0, []), (39, .iload_n 1, 1, 0, 0, 0, 0, []), (40, .invokevirtual 75, 3, 207, 2, 1, 9, [(0, 228)]), (43, .invokevirtual 340, 3, 284, 2, 0, 9, [(0, 263)]), (46, .aload_n 0, 1, 0, 0, 0, 0, []), (47, .ldc_w 349, 3, 2, 2, 0, 0, [(2, 13)]), (50, .invokevirtual 345, 3, 283, 2, 0, 9, [(0, 262)]), (53, .aload_n 0, 1, 0, 0, 0, 0, []), (54, .aload_n 0, 1, 0, 0, 0, 0, []), (55, .iload_n 1, 1, 0, 0, 0, 0, []), (56, .iconst 1, 1, 0, 0, 0, 0, []), (57, .invokevirtual 68, 3, 181, 3, 1, 9, [(0, 203)]), (60, .invokevirtual 340, 3, 284, 2, 0, 9, [(0, 263)]), (63, .aload_n 0, 1, 0, 0, 0, 0, [])],
  [(64, .ldc_w 351, 3, 4, 2, 0, 0, [(2, 14)]), (67, .invokevirtual 345, 3, 283, 2, 0, 9, [(0, 262)]), (70, .aload_n 0, 1, 0, 0, 0, 0, []), (71, .aload_n 0, 1, 0, 0, 0, 0, []), (72, .iload_n 1, 1, 0, 0, 0, 0, []), (73, .iconst 2, 1, 0, 0, 0, 0, []), (74, .invokevirtual 68, 3, 181, 3, 1, 9, [(0, 203)]), (77, .invokevirtual 340, 3, 284, 2, 0, 9, [(0, 263)]), (80, .aload_n 0, 1, 0, 0, 0, 0, []), (81, .ldc_w 353, 3, 3, 2, 0, 0, [(2, 15)]), (84, .invokevirtual 345, 3, 283, 2, 0, 9, [(0, 262)]), (87, .aload_n 0, 1, 0, 0, 0, 0, []), (88, .aload_n 0, 1, 0, 0, 0, 0, []), (89, .iload_n 1, 1, 0, 0, 0, 0, []), (90, .iconst 3, 1, 0, 0, 0, 0, []), (91, .invokevirtual 68, 3, 181, 3, 1, 9, [(0, 203)]), (94, .invokevirtual 340, 3, 284, 2, 0, 9, [(0, 263)])],
  [(97, .aload_n 0, 1, 0, 0, 0, 0, []), (98, .ldc_w 355, 3, 5, 2, 0, 0, [(2, 16)]), (101, .invokevirtual 345, 3, 283, 2, 0, 9, [(0, 262)]), (104, .iconst 0, 1, 0, 0, 0, 0, []), (105, .istore_n 3, 1, 0, 0, 0, 0, []), (106, .iload_n 3, 1, 0, 0, 0, 0, [(0, 2), (0, 4)]), (107, .aload_n 0, 1, 0, 0, 0, 0, []), (108, .iload_n 1, 1, 0, 0, 0, 0, []), (109, .invokevirtual 101, 3, 204, 2, 1, 9, [(0, 226)]), (112, .if_icmp .ge 19, 3, 131, 0, 0, 0, []), (115, .aload_n 0, 1, 0, 0, 0, 0, []), (116, .aload_n 0, 1, 0, 0, 0, 0, []), (117, .iload_n 1, 1, 0, 0, 0, 0, []), (118, .iload_n 3, 1, 0, 0, 0, 0, []), (119, .invokevirtual 104, 3, 205, 3, 1, 9, [(0, 227)]), (122, .invokevirtual 340, 3, 284, 2, 0, 9, [(0, 263)]), (125, .iinc 3 1, 3, 0, 0, 0, 0, [])],
  [(128, .goto (-22), 3, 106, 0, 0, 0, []), (131, .aload_n 0, 1, 0, 0, 0, 0, []), (132, .ldc_w 357, 3, 6, 2, 0, 0, [(2, 17)]), (135, .invokevirtual 345, 3, 283, 2, 0, 9, [(0, 262)]), (138, .aload_n 0, 1, 0, 0, 0, 0, []), (139, .getfield 182, 3, 9, 28, 0, 0, [(0, 104)]), (142, .ireturn, 1, 0, 0, 0, 0, []), (143, .aload_n 0, 1, 0, 0, 0, 0, []), (144, .iload_n 1, 1, 0, 0, 0, 0, []), (145, .invokevirtual 191, 3, 203, 2, 0, 9, [(0, 225)]), (148, .iconst 0, 1, 0, 0, 0, 0, []), (149, .istore_n 3, 1, 0, 0, 0, 0, []), (150, .iload_n 3, 1, 0, 0, 0, 0, [(0, 2), (0, 4)]), (151, .aload_n 0, 1, 0, 0, 0, 0, []), (152, .getfield 188, 3, 9, 17, 0, 0, [(0, 106)]), (155, .if_icmp .ge 73, 3, 228, 0, 0, 0, []), (158, .aload_n 0, 1, 0, 0, 0, 0, []), (159, .iload_n 1, 1, 0, 0, 0, 0, [])],
  [(160, .invokevirtual 75, 3, 207, 2, 1, 9, [(0, 228)]), (163, .iconst 1, 1, 0, 0, 0, 0, []), (164, .isub, 1, 0, 0, 0, 0, []), (165, .istore 4, 2, 0, 0, 0, 0, []), (167, .iload 4, 2, 0, 0, 0, 0, [(0, 2)]), (169, .ifCond .lt 32, 3, 201, 0, 0, 0, []), (172, .aload_n 0, 1, 0, 0, 0, 0, []), (173, .aload_n 0, 1, 0, 0, 0, 0, []), (174, .getfield 33, 3, 9, 15, 2, 0, [(0, 87)]), (177, .iload_n 3, 1, 0, 0, 0, 0, []), (178, .iaload, 1, 20, 0, 0, 0, []), (179, .iload 4, 2, 0, 0, 0, 0, []), (181, .invokestatic 1, 3, 216, 2, 1, 0, [(0, 234)]), (184, .ifCond .eq 7, 3, 191, 0, 0, 0, []), (187, .iconst 1, 1, 0, 0, 0, 0, []), (188, .goto 4, 3, 192, 0, 0, 0, []), (191, .iconst 0, 1, 0, 0, 0, 0, [])],
  [(192, .invokevirtual 340, 3, 284, 2, 0, 9, [(0, 263)]), (195, .iinc 4 (-1), 3, 0, 0, 0, 0, []), (198, .goto (-31), 3, 167, 0, 0, 0, []), (201, .aload_n 0, 1, 0, 0, 0, 0, []), (202, .getfield 55, 3, 9, 27, 2, 0, [(0, 94)]), (205, .aload_n 0, 1, 0, 0, 0, 0, []), (206, .getfield 182, 3, 9, 28, 0, 0, [(0, 104)]), (209, .bipush 10, 2, 0, 0, 0, 0, []), (211, .iastore, 1, 20, 0, 0, 0, []), (212, .aload_n 0, 1, 0, 0, 0, 0, []), (213, .dup, 1, 0, 0, 0, 0, []), (214, .getfield 182, 3, 9, 28, 0, 0, [(0, 104)]), (217, .iconst 1, 1, 0, 0, 0, 0, []), (218, .iadd, 1, 0, 0, 0, 0, []), (219, .putfield 182, 3, 9, 28, 0, 0, [(0, 104)]), (222, .iinc 3 1, 3, 0, 0, 0, 0, [])],
  [(225, .goto (-75), 3, 150, 0, 0, 0, []), (228, .aload_n 0, 1, 0, 0, 0, 0, []), (229, .getfield 182, 3, 9, 28, 0, 0, [(0, 104)]), (232, .ireturn, 1, 0, 0, 0, 0, [])]]
noncomputable def pm_282 : MR := (14, ⟨"OneAtATimeModel", "tell", "(II)I"⟩, prog_12_method_110_code, 5, (some (.int)), pgA_282)
set_option maxRecDepth 100000 in
noncomputable def pgA_283 : List (List (Nat × EN)) := [[(0, .iconst 0, 1, 0, 0, 0, 0, []), (1, .istore_n 2, 1, 0, 0, 0, 0, []), (2, .iload_n 2, 1, 0, 0, 0, 0, []), (3, .aload_n 1, 1, 0, 0, 0, 0, []), (4, .invokevirtual 148, 3, 1000, 1, 1, 30, [(0, 214)]), (7, .if_icmp .ge 33, 3, 40, 0, 0, 0, []), (10, .aload_n 0, 1, 0, 0, 0, 0, []), (11, .getfield 55, 3, 9, 27, 2, 0, [(0, 94)]), (14, .aload_n 0, 1, 0, 0, 0, 0, []), (15, .getfield 182, 3, 9, 28, 0, 0, [(0, 104)]), (18, .aload_n 1, 1, 0, 0, 0, 0, []), (19, .iload_n 2, 1, 0, 0, 0, 0, []), (20, .invokevirtual 154, 3, 1001, 2, 1, 30, [(0, 215)]), (23, .iastore, 1, 20, 0, 0, 0, []), (24, .aload_n 0, 1, 0, 0, 0, 0, []), (25, .dup, 1, 0, 0, 0, 0, []), (26, .getfield 182, 3, 9, 28, 0, 0, [(0, 104)]), (29, .iconst 1, 1, 0, 0, 0, 0, []), (30, .iadd, 1, 0, 0, 0, 0, []), (31, .putfield 182, 3, 9, 28, 0, 0, [(0, 104)])],
  [(34, .iinc 2 1, 3, 0, 0, 0, 0, []), (37, .goto (-35), 3, 2, 0, 0, 0, []), (40, .return_, 1, 0, 0, 0, 0, [])]]
noncomputable def pm_283 : MR := (14, ⟨"OneAtATimeModel", "says", "(Ljava/lang/String;)V"⟩, prog_12_method_108_code, 3, none, pgA_283)
set_option maxRecDepth 100000 in
noncomputable def pgA_284 : List (List (Nat × EN)) := [[(0, .iload_n 1, 1, 0, 0, 0, 0, []), (1, .bipush 9, 2, 0, 0, 0, 0, []), (3, .if_icmp .le 11, 3, 14, 0, 0, 0, []), (6, .aload_n 0, 1, 0, 0, 0, 0, []), (7, .iload_n 1, 1, 0, 0, 0, 0, []), (8, .bipush 10, 2, 0, 0, 0, 0, []), (10, .idiv, 1, 0, 0, 0, 0, []), (11, .invokevirtual 340, 3, 284, 2, 0, 9, [(0, 263)]), (14, .aload_n 0, 1, 0, 0, 0, 0, []), (15, .getfield 55, 3, 9, 27, 2, 0, [(0, 94)]), (18, .aload_n 0, 1, 0, 0, 0, 0, []), (19, .getfield 182, 3, 9, 28, 0, 0, [(0, 104)]), (22, .bipush 48, 2, 0, 0, 0, 0, []), (24, .iload_n 1, 1, 0, 0, 0, 0, []), (25, .bipush 10, 2, 0, 0, 0, 0, []), (27, .irem, 1, 0, 0, 0, 0, []), (28, .iadd, 1, 0, 0, 0, 0, []), (29, .iastore, 1, 20, 0, 0, 0, []), (30, .aload_n 0, 1, 0, 0, 0, 0, []), (31, .dup, 1, 0, 0, 0, 0, [])],
  [(32, .getfield 182, 3, 9, 28, 0, 0, [(0, 104)]), (35, .iconst 1, 1, 0, 0, 0, 0, []), (36, .iadd, 1, 0, 0, 0, 0, []), (37, .putfield 182, 3, 9, 28, 0, 0, [(0, 104)]), (40, .return_, 1, 0, 0, 0, 0, [])]]
noncomputable def pm_284 : MR := (14, ⟨"OneAtATimeModel", "saysNumber", "(I)V"⟩, prog_12_method_109_code, 2, none, pgA_284)
set_option maxRecDepth 100000 in
noncomputable def pgA_285 : List (List (Nat × EN)) := [[(0, .iload_n 1, 1, 0, 0, 0, 0, []), (1, .i2l, 1, 0, 0, 0, 0, []), (2, .lconst 0, 1, 0, 0, 0, 0, []), (3, .aload_n 0, 1, 0, 0, 0, 0, []), (4, .getfield 182, 3, 9, 28, 0, 0, [(0, 104)]), (7, .iconst 1, 1, 0, 0, 0, 0, []), (8, .isub, 1, 0, 0, 0, 0, []), (9, .i2l, 1, 0, 0, 0, 0, []), (10, .invokestatic 60, 3, 179, 3, 1, 0, [(0, 202)]), (13, .ifCond .eq 12, 3, 25, 0, 0, 0, []), (16, .aload_n 0, 1, 0, 0, 0, 0, []), (17, .getfield 55, 3, 9, 27, 2, 0, [(0, 94)]), (20, .iload_n 1, 1, 0, 0, 0, 0, []), (21, .iaload, 1, 20, 0, 0, 0, []), (22, .goto 4, 3, 26, 0, 0, 0, []), (25, .iconst (-1), 1, 0, 0, 0, 0, []), (26, .ireturn, 1, 0, 0, 0, 0, [(0, 0), (0, 1)])]]
noncomputable def pm_285 : MR := (14, ⟨"OneAtATimeModel", "octet", "(I)I"⟩, prog_12_method_111_code, 2, (some (.int)), pgA_285)
noncomputable def pgC_0 : List (Nat × EN) := [(0, .new 7, 3, 8, 9, 0, 0, [(0, 12)]), (3, .dup, 1, 0, 0, 0, 0, []), (4, .invokespecial 9, 3, 0, 1, 0, 0, [(0, 264)]), (7, .astore_n 1, 1, 0, 0, 0, 0, []), (8, .new 10, 3, 9, 29, 0, 0, [(0, 13)]), (11, .dup, 1, 0, 0, 0, 0, []), (12, .invokespecial 12, 3, 175, 1, 0, 0, [(0, 265)]), (15, .astore_n 2, 1, 0, 0, 0, 0, []), (16, .iconst 0, 1, 0, 0, 0, 0, []), (17, .istore_n 3, 1, 0, 0, 0, 0, []), (18, .iload_n 3, 1, 0, 0, 0, 0, []), (19, .aload_n 0, 1, 0, 0, 0, 0, []), (20, .arraylength, 1, 40, 0, 0, 0, []), (21, .bipush 6, 2, 0, 0, 0, 0, []), (23, .isub, 1, 0, 0, 0, 0, []), (24, .if_icmp .gt 1874, 3, 1898, 0, 0, 0, []), (27, .aload_n 0, 1, 0, 0, 0, 0, []), (28, .iload_n 3, 1, 0, 0, 0, 0, []), (29, .iaload, 1, 40, 0, 0, 0, []), (30, .bipush 63, 2, 0, 0, 0, 0, [])]
noncomputable def pgC_1 : List (Nat × EN) := [(32, .iand, 1, 0, 0, 0, 0, []), (33, .tableswitch 1859 0 48 #[211, 274, 297, 320, 343, 366, 399, 432, 465, 498, 541, 574, 607, 640, 663, 696, 739, 782, 825, 858, 891, 934, 957, 1000, 1023, 1046, 1069, 1102, 1145, 1208, 1231, 1274, 1308, 1361, 1404, 1447, 1470, 1513, 1536, 1569, 1612, 1635, 1668, 1701, 1734, 1767, 1790, 1803, 1836], 211, 1892, 0, 0, 0, [(0, 244), (1, 307), (2, 330), (3, 353), (4, 376), (5, 399), (6, 432), (7, 465), (8, 498), (9, 531), (10, 574), (11, 607), (12, 640), (13, 673), (14, 696), (15, 729), (16, 772), (17, 815), (18, 858), (19, 891), (20, 924), (21, 967), (22, 990), (23, 1033), (24, 1056), (25, 1079), (26, 1102), (27, 1135), (28, 1178), (29, 1241), (30, 1264), (31, 1307), (32, 1341), (33, 1394), (34, 1437), (35, 1480), (36, 1503), (37, 1546), (38, 1569), (39, 1602), (40, 1645), (41, 1668), (42, 1701), (43, 1734), (44, 1767), (45, 1800), (46, 1823), (47, 1836), (48, 1869)])]
noncomputable def pgC_2 : List (Nat × EN) := []
noncomputable def pgC_3 : List (Nat × EN) := []
noncomputable def pgC_4 : List (Nat × EN) := []
noncomputable def pgC_5 : List (Nat × EN) := []
noncomputable def pgC_6 : List (Nat × EN) := []
noncomputable def pgC_7 : List (Nat × EN) := [(244, .aload_n 1, 1, 0, 0, 0, 0, []), (245, .aload_n 0, 1, 0, 0, 0, 0, []), (246, .iload_n 3, 1, 0, 0, 0, 0, []), (247, .iconst 1, 1, 0, 0, 0, 0, []), (248, .iadd, 1, 0, 0, 0, 0, []), (249, .iaload, 1, 40, 0, 0, 0, []), (250, .aload_n 0, 1, 0, 0, 0, 0, []), (251, .iload_n 3, 1, 0, 0, 0, 0, []), (252, .iconst 2, 1, 0, 0, 0, 0, []), (253, .iadd, 1, 0, 0, 0, 0, []), (254, .iaload, 1, 40, 0, 0, 0, []), (255, .aload_n 0, 1, 0, 0, 0, 0, [])]
noncomputable def pgC_8 : List (Nat × EN) := [(256, .iload_n 3, 1, 0, 0, 0, 0, []), (257, .iconst 3, 1, 0, 0, 0, 0, []), (258, .iadd, 1, 0, 0, 0, 0, []), (259, .iaload, 1, 40, 0, 0, 0, []), (260, .aload_n 0, 1, 0, 0, 0, 0, []), (261, .iload_n 3, 1, 0, 0, 0, 0, []), (262, .iconst 4, 1, 0, 0, 0, 0, []), (263, .iadd, 1, 0, 0, 0, 0, []), (264, .iaload, 1, 40, 0, 0, 0, []), (265, .aload_n 0, 1, 0, 0, 0, 0, []), (266, .iload_n 3, 1, 0, 0, 0, 0, []), (267, .iconst 5, 1, 0, 0, 0, 0, []), (268, .iadd, 1, 0, 0, 0, 0, []), (269, .iaload, 1, 40, 0, 0, 0, []), (270, .invokevirtual 13, 3, 10, 6, 1, 8, [(0, 266)]), (273, .aload_n 2, 1, 0, 0, 0, 0, []), (274, .aload_n 0, 1, 0, 0, 0, 0, []), (275, .iload_n 3, 1, 0, 0, 0, 0, []), (276, .iconst 1, 1, 0, 0, 0, 0, []), (277, .iadd, 1, 0, 0, 0, 0, []), (278, .iaload, 1, 40, 0, 0, 0, []), (279, .aload_n 0, 1, 0, 0, 0, 0, []), (280, .iload_n 3, 1, 0, 0, 0, 0, []), (281, .iconst 2, 1, 0, 0, 0, 0, []), (282, .iadd, 1, 0, 0, 0, 0, []), (283, .iaload, 1, 40, 0, 0, 0, []), (284, .aload_n 0, 1, 0, 0, 0, 0, []), (285, .iload_n 3, 1, 0, 0, 0, 0, []), (286, .iconst 3, 1, 0, 0, 0, 0, []), (287, .iadd, 1, 0, 0, 0, 0, [])]
noncomputable def pgC_9 : List (Nat × EN) := [(288, .iaload, 1, 40, 0, 0, 0, []), (289, .aload_n 0, 1, 0, 0, 0, 0, []), (290, .iload_n 3, 1, 0, 0, 0, 0, []), (291, .iconst 4, 1, 0, 0, 0, 0, []), (292, .iadd, 1, 0, 0, 0, 0, []), (293, .iaload, 1, 40, 0, 0, 0, []), (294, .aload_n 0, 1, 0, 0, 0, 0, []), (295, .iload_n 3, 1, 0, 0, 0, 0, []), (296, .iconst 5, 1, 0, 0, 0, 0, []), (297, .iadd, 1, 0, 0, 0, 0, []), (298, .iaload, 1, 40, 0, 0, 0, []), (299, .invokevirtual 17, 3, 185, 6, 1, 9, [(0, 267)]), (302, .if_icmp .eq 1590, 3, 1892, 0, 0, 0, []), (305, .iconst 0, 1, 0, 0, 0, 0, []), (306, .ireturn, 1, 1, 0, 0, 0, []), (307, .aload_n 1, 1, 0, 0, 0, 0, []), (308, .aload_n 0, 1, 0, 0, 0, 0, []), (309, .iload_n 3, 1, 0, 0, 0, 0, []), (310, .iconst 1, 1, 0, 0, 0, 0, []), (311, .iadd, 1, 0, 0, 0, 0, []), (312, .iaload, 1, 40, 0, 0, 0, []), (313, .invokevirtual 18, 3, 14, 2, 1, 8, [(0, 268)]), (316, .aload_n 2, 1, 0, 0, 0, 0, []), (317, .aload_n 0, 1, 0, 0, 0, 0, []), (318, .iload_n 3, 1, 0, 0, 0, 0, []), (319, .iconst 1, 1, 0, 0, 0, 0, [])]
noncomputable def pgC_10 : List (Nat × EN) := [(320, .iadd, 1, 0, 0, 0, 0, []), (321, .iaload, 1, 40, 0, 0, 0, []), (322, .invokevirtual 22, 3, 186, 2, 1, 9, [(0, 269)]), (325, .if_icmp .eq 1567, 3, 1892, 0, 0, 0, []), (328, .iconst 0, 1, 0, 0, 0, 0, []), (329, .ireturn, 1, 1, 0, 0, 0, []), (330, .aload_n 1, 1, 0, 0, 0, 0, []), (331, .aload_n 0, 1, 0, 0, 0, 0, []), (332, .iload_n 3, 1, 0, 0, 0, 0, []), (333, .iconst 1, 1, 0, 0, 0, 0, []), (334, .iadd, 1, 0, 0, 0, 0, []), (335, .iaload, 1, 40, 0, 0, 0, []), (336, .invokevirtual 23, 3, 15, 2, 1, 8, [(0, 270)]), (339, .aload_n 2, 1, 0, 0, 0, 0, []), (340, .aload_n 0, 1, 0, 0, 0, 0, []), (341, .iload_n 3, 1, 0, 0, 0, 0, []), (342, .iconst 1, 1, 0, 0, 0, 0, []), (343, .iadd, 1, 0, 0, 0, 0, []), (344, .iaload, 1, 40, 0, 0, 0, []), (345, .invokevirtual 26, 3, 187, 2, 1, 9, [(0, 271)]), (348, .if_icmp .eq 1544, 3, 1892, 0, 0, 0, []), (351, .iconst 0, 1, 0, 0, 0, 0, [])]
noncomputable def pgC_11 : List (Nat × EN) := [(352, .ireturn, 1, 1, 0, 0, 0, []), (353, .aload_n 1, 1, 0, 0, 0, 0, []), (354, .aload_n 0, 1, 0, 0, 0, 0, []), (355, .iload_n 3, 1, 0, 0, 0, 0, []), (356, .iconst 1, 1, 0, 0, 0, 0, []), (357, .iadd, 1, 0, 0, 0, 0, []), (358, .iaload, 1, 40, 0, 0, 0, []), (359, .invokevirtual 27, 3, 37, 2, 1, 8, [(0, 272)]), (362, .aload_n 2, 1, 0, 0, 0, 0, []), (363, .aload_n 0, 1, 0, 0, 0, 0, []), (364, .iload_n 3, 1, 0, 0, 0, 0, []), (365, .iconst 1, 1, 0, 0, 0, 0, []), (366, .iadd, 1, 0, 0, 0, 0, []), (367, .iaload, 1, 40, 0, 0, 0, []), (368, .invokevirtual 30, 3, 198, 2, 1, 9, [(0, 273)]), (371, .if_icmp .eq 1521, 3, 1892, 0, 0, 0, []), (374, .iconst 0, 1, 0, 0, 0, 0, []), (375, .ireturn, 1, 1, 0, 0, 0, []), (376, .aload_n 1, 1, 0, 0, 0, 0, []), (377, .aload_n 0, 1, 0, 0, 0, 0, []), (378, .iload_n 3, 1, 0, 0, 0, 0, []), (379, .iconst 1, 1, 0, 0, 0, 0, []), (380, .iadd, 1, 0, 0, 0, 0, []), (381, .iaload, 1, 40, 0, 0, 0, []), (382, .invokevirtual 31, 3, 38, 2, 1, 8, [(0, 274)])]
noncomputable def pgC_12 : List (Nat × EN) := [(385, .aload_n 2, 1, 0, 0, 0, 0, []), (386, .aload_n 0, 1, 0, 0, 0, 0, []), (387, .iload_n 3, 1, 0, 0, 0, 0, []), (388, .iconst 1, 1, 0, 0, 0, 0, []), (389, .iadd, 1, 0, 0, 0, 0, []), (390, .iaload, 1, 40, 0, 0, 0, []), (391, .invokevirtual 34, 3, 199, 2, 1, 9, [(0, 275)]), (394, .if_icmp .eq 1498, 3, 1892, 0, 0, 0, []), (397, .iconst 0, 1, 0, 0, 0, 0, []), (398, .ireturn, 1, 1, 0, 0, 0, []), (399, .aload_n 1, 1, 0, 0, 0, 0, []), (400, .aload_n 0, 1, 0, 0, 0, 0, []), (401, .iload_n 3, 1, 0, 0, 0, 0, []), (402, .iconst 1, 1, 0, 0, 0, 0, []), (403, .iadd, 1, 0, 0, 0, 0, []), (404, .iaload, 1, 40, 0, 0, 0, []), (405, .aload_n 0, 1, 0, 0, 0, 0, []), (406, .iload_n 3, 1, 0, 0, 0, 0, []), (407, .iconst 2, 1, 0, 0, 0, 0, []), (408, .iadd, 1, 0, 0, 0, 0, []), (409, .iaload, 1, 40, 0, 0, 0, []), (410, .invokevirtual 35, 3, 40, 3, 1, 8, [(0, 276)]), (413, .aload_n 2, 1, 0, 0, 0, 0, []), (414, .aload_n 0, 1, 0, 0, 0, 0, []), (415, .iload_n 3, 1, 0, 0, 0, 0, [])]
noncomputable def pgC_13 : List (Nat × EN) := [(416, .iconst 1, 1, 0, 0, 0, 0, []), (417, .iadd, 1, 0, 0, 0, 0, []), (418, .iaload, 1, 40, 0, 0, 0, []), (419, .aload_n 0, 1, 0, 0, 0, 0, []), (420, .iload_n 3, 1, 0, 0, 0, 0, []), (421, .iconst 2, 1, 0, 0, 0, 0, []), (422, .iadd, 1, 0, 0, 0, 0, []), (423, .iaload, 1, 40, 0, 0, 0, []), (424, .invokevirtual 39, 3, 217, 3, 1, 9, [(0, 277)]), (427, .if_icmp .eq 1465, 3, 1892, 0, 0, 0, []), (430, .iconst 0, 1, 0, 0, 0, 0, []), (431, .ireturn, 1, 1, 0, 0, 0, []), (432, .aload_n 1, 1, 0, 0, 0, 0, []), (433, .aload_n 0, 1, 0, 0, 0, 0, []), (434, .iload_n 3, 1, 0, 0, 0, 0, []), (435, .iconst 1, 1, 0, 0, 0, 0, []), (436, .iadd, 1, 0, 0, 0, 0, []), (437, .iaload, 1, 40, 0, 0, 0, []), (438, .aload_n 0, 1, 0, 0, 0, 0, []), (439, .iload_n 3, 1, 0, 0, 0, 0, []), (440, .iconst 2, 1, 0, 0, 0, 0, []), (441, .iadd, 1, 0, 0, 0, 0, []), (442, .iaload, 1, 40, 0, 0, 0, []), (443, .invokevirtual 40, 3, 51, 3, 1, 8, [(0, 278)]), (446, .aload_n 2, 1, 0, 0, 0, 0, []), (447, .aload_n 0, 1, 0, 0, 0, 0, [])]
noncomputable def pgC_14 : List (Nat × EN) := [(448, .iload_n 3, 1, 0, 0, 0, 0, []), (449, .iconst 1, 1, 0, 0, 0, 0, []), (450, .iadd, 1, 0, 0, 0, 0, []), (451, .iaload, 1, 40, 0, 0, 0, []), (452, .aload_n 0, 1, 0, 0, 0, 0, []), (453, .iload_n 3, 1, 0, 0, 0, 0, []), (454, .iconst 2, 1, 0, 0, 0, 0, []), (455, .iadd, 1, 0, 0, 0, 0, []), (456, .iaload, 1, 40, 0, 0, 0, []), (457, .invokevirtual 43, 3, 200, 3, 1, 9, [(0, 279)]), (460, .if_icmp .eq 1432, 3, 1892, 0, 0, 0, []), (463, .iconst 0, 1, 0, 0, 0, 0, []), (464, .ireturn, 1, 1, 0, 0, 0, []), (465, .aload_n 1, 1, 0, 0, 0, 0, []), (466, .aload_n 0, 1, 0, 0, 0, 0, []), (467, .iload_n 3, 1, 0, 0, 0, 0, []), (468, .iconst 1, 1, 0, 0, 0, 0, []), (469, .iadd, 1, 0, 0, 0, 0, []), (470, .iaload, 1, 40, 0, 0, 0, []), (471, .aload_n 0, 1, 0, 0, 0, 0, []), (472, .iload_n 3, 1, 0, 0, 0, 0, []), (473, .iconst 2, 1, 0, 0, 0, 0, []), (474, .iadd, 1, 0, 0, 0, 0, []), (475, .iaload, 1, 40, 0, 0, 0, []), (476, .invokevirtual 44, 3, 65, 3, 1, 8, [(0, 280)]), (479, .aload_n 2, 1, 0, 0, 0, 0, [])]
noncomputable def pgC_15 : List (Nat × EN) := [(480, .aload_n 0, 1, 0, 0, 0, 0, []), (481, .iload_n 3, 1, 0, 0, 0, 0, []), (482, .iconst 1, 1, 0, 0, 0, 0, []), (483, .iadd, 1, 0, 0, 0, 0, []), (484, .iaload, 1, 40, 0, 0, 0, []), (485, .aload_n 0, 1, 0, 0, 0, 0, []), (486, .iload_n 3, 1, 0, 0, 0, 0, []), (487, .iconst 2, 1, 0, 0, 0, 0, []), (488, .iadd, 1, 0, 0, 0, 0, []), (489, .iaload, 1, 40, 0, 0, 0, []), (490, .invokevirtual 47, 3, 218, 3, 1, 9, [(0, 281)]), (493, .if_icmp .eq 1399, 3, 1892, 0, 0, 0, []), (496, .iconst 0, 1, 0, 0, 0, 0, []), (497, .ireturn, 1, 1, 0, 0, 0, []), (498, .aload_n 1, 1, 0, 0, 0, 0, []), (499, .aload_n 0, 1, 0, 0, 0, 0, []), (500, .iload_n 3, 1, 0, 0, 0, 0, []), (501, .iconst 1, 1, 0, 0, 0, 0, []), (502, .iadd, 1, 0, 0, 0, 0, []), (503, .iaload, 1, 40, 0, 0, 0, []), (504, .aload_n 0, 1, 0, 0, 0, 0, []), (505, .iload_n 3, 1, 0, 0, 0, 0, []), (506, .iconst 2, 1, 0, 0, 0, 0, []), (507, .iadd, 1, 0, 0, 0, 0, []), (508, .iaload, 1, 40, 0, 0, 0, []), (509, .invokevirtual 48, 3, 66, 3, 1, 8, [(0, 282)])]
noncomputable def pgC_16 : List (Nat × EN) := [(512, .aload_n 2, 1, 0, 0, 0, 0, []), (513, .aload_n 0, 1, 0, 0, 0, 0, []), (514, .iload_n 3, 1, 0, 0, 0, 0, []), (515, .iconst 1, 1, 0, 0, 0, 0, []), (516, .iadd, 1, 0, 0, 0, 0, []), (517, .iaload, 1, 40, 0, 0, 0, []), (518, .aload_n 0, 1, 0, 0, 0, 0, []), (519, .iload_n 3, 1, 0, 0, 0, 0, []), (520, .iconst 2, 1, 0, 0, 0, 0, []), (521, .iadd, 1, 0, 0, 0, 0, []), (522, .iaload, 1, 40, 0, 0, 0, []), (523, .invokevirtual 51, 3, 219, 3, 1, 9, [(0, 283)]), (526, .if_icmp .eq 1366, 3, 1892, 0, 0, 0, []), (529, .iconst 0, 1, 0, 0, 0, 0, []), (530, .ireturn, 1, 1, 0, 0, 0, []), (531, .aload_n 1, 1, 0, 0, 0, 0, []), (532, .aload_n 0, 1, 0, 0, 0, 0, []), (533, .iload_n 3, 1, 0, 0, 0, 0, []), (534, .iconst 1, 1, 0, 0, 0, 0, []), (535, .iadd, 1, 0, 0, 0, 0, []), (536, .iaload, 1, 40, 0, 0, 0, []), (537, .aload_n 0, 1, 0, 0, 0, 0, []), (538, .iload_n 3, 1, 0, 0, 0, 0, []), (539, .iconst 2, 1, 0, 0, 0, 0, []), (540, .iadd, 1, 0, 0, 0, 0, []), (541, .iaload, 1, 40, 0, 0, 0, []), (542, .aload_n 0, 1, 0, 0, 0, 0, []), (543, .iload_n 3, 1, 0, 0, 0, 0, [])]
noncomputable def pgC_17 : List (Nat × EN) := [(544, .iconst 3, 1, 0, 0, 0, 0, []), (545, .iadd, 1, 0, 0, 0, 0, []), (546, .iaload, 1, 40, 0, 0, 0, []), (547, .invokevirtual 52, 3, 67, 4, 1, 8, [(0, 284)]), (550, .aload_n 2, 1, 0, 0, 0, 0, []), (551, .aload_n 0, 1, 0, 0, 0, 0, []), (552, .iload_n 3, 1, 0, 0, 0, 0, []), (553, .iconst 1, 1, 0, 0, 0, 0, []), (554, .iadd, 1, 0, 0, 0, 0, []), (555, .iaload, 1, 40, 0, 0, 0, []), (556, .aload_n 0, 1, 0, 0, 0, 0, []), (557, .iload_n 3, 1, 0, 0, 0, 0, []), (558, .iconst 2, 1, 0, 0, 0, 0, []), (559, .iadd, 1, 0, 0, 0, 0, []), (560, .iaload, 1, 40, 0, 0, 0, []), (561, .aload_n 0, 1, 0, 0, 0, 0, []), (562, .iload_n 3, 1, 0, 0, 0, 0, []), (563, .iconst 3, 1, 0, 0, 0, 0, []), (564, .iadd, 1, 0, 0, 0, 0, []), (565, .iaload, 1, 40, 0, 0, 0, []), (566, .invokevirtual 56, 3, 220, 4, 1, 9, [(0, 285)]), (569, .if_icmp .eq 1323, 3, 1892, 0, 0, 0, []), (572, .iconst 0, 1, 0, 0, 0, 0, []), (573, .ireturn, 1, 1, 0, 0, 0, []), (574, .aload_n 1, 1, 0, 0, 0, 0, []), (575, .aload_n 0, 1, 0, 0, 0, 0, [])]
noncomputable def pgC_18 : List (Nat × EN) := [(576, .iload_n 3, 1, 0, 0, 0, 0, []), (577, .iconst 1, 1, 0, 0, 0, 0, []), (578, .iadd, 1, 0, 0, 0, 0, []), (579, .iaload, 1, 40, 0, 0, 0, []), (580, .aload_n 0, 1, 0, 0, 0, 0, []), (581, .iload_n 3, 1, 0, 0, 0, 0, []), (582, .iconst 2, 1, 0, 0, 0, 0, []), (583, .iadd, 1, 0, 0, 0, 0, []), (584, .iaload, 1, 40, 0, 0, 0, []), (585, .invokevirtual 57, 3, 69, 3, 1, 8, [(0, 286)]), (588, .aload_n 2, 1, 0, 0, 0, 0, []), (589, .aload_n 0, 1, 0, 0, 0, 0, []), (590, .iload_n 3, 1, 0, 0, 0, 0, []), (591, .iconst 1, 1, 0, 0, 0, 0, []), (592, .iadd, 1, 0, 0, 0, 0, []), (593, .iaload, 1, 40, 0, 0, 0, []), (594, .aload_n 0, 1, 0, 0, 0, 0, []), (595, .iload_n 3, 1, 0, 0, 0, 0, []), (596, .iconst 2, 1, 0, 0, 0, 0, []), (597, .iadd, 1, 0, 0, 0, 0, []), (598, .iaload, 1, 40, 0, 0, 0, []), (599, .invokevirtual 60, 3, 222, 3, 1, 9, [(0, 287)]), (602, .if_icmp .eq 1290, 3, 1892, 0, 0, 0, []), (605, .iconst 0, 1, 0, 0, 0, 0, []), (606, .ireturn, 1, 1, 0, 0, 0, []), (607, .aload_n 1, 1, 0, 0, 0, 0, [])]
noncomputable def pgC_19 : List (Nat × EN) := [(608, .aload_n 0, 1, 0, 0, 0, 0, []), (609, .iload_n 3, 1, 0, 0, 0, 0, []), (610, .iconst 1, 1, 0, 0, 0, 0, []), (611, .iadd, 1, 0, 0, 0, 0, []), (612, .iaload, 1, 40, 0, 0, 0, []), (613, .aload_n 0, 1, 0, 0, 0, 0, []), (614, .iload_n 3, 1, 0, 0, 0, 0, []), (615, .iconst 2, 1, 0, 0, 0, 0, []), (616, .iadd, 1, 0, 0, 0, 0, []), (617, .iaload, 1, 40, 0, 0, 0, []), (618, .invokevirtual 61, 3, 71, 3, 1, 8, [(0, 288)]), (621, .aload_n 2, 1, 0, 0, 0, 0, []), (622, .aload_n 0, 1, 0, 0, 0, 0, []), (623, .iload_n 3, 1, 0, 0, 0, 0, []), (624, .iconst 1, 1, 0, 0, 0, 0, []), (625, .iadd, 1, 0, 0, 0, 0, []), (626, .iaload, 1, 40, 0, 0, 0, []), (627, .aload_n 0, 1, 0, 0, 0, 0, []), (628, .iload_n 3, 1, 0, 0, 0, 0, []), (629, .iconst 2, 1, 0, 0, 0, 0, []), (630, .iadd, 1, 0, 0, 0, 0, []), (631, .iaload, 1, 40, 0, 0, 0, []), (632, .invokevirtual 64, 3, 223, 3, 1, 9, [(0, 289)]), (635, .if_icmp .eq 1257, 3, 1892, 0, 0, 0, []), (638, .iconst 0, 1, 0, 0, 0, 0, []), (639, .ireturn, 1, 1, 0, 0, 0, [])]
noncomputable def pgC_20 : List (Nat × EN) := [(640, .aload_n 1, 1, 0, 0, 0, 0, []), (641, .aload_n 0, 1, 0, 0, 0, 0, []), (642, .iload_n 3, 1, 0, 0, 0, 0, []), (643, .iconst 1, 1, 0, 0, 0, 0, []), (644, .iadd, 1, 0, 0, 0, 0, []), (645, .iaload, 1, 40, 0, 0, 0, []), (646, .aload_n 0, 1, 0, 0, 0, 0, []), (647, .iload_n 3, 1, 0, 0, 0, 0, []), (648, .iconst 2, 1, 0, 0, 0, 0, []), (649, .iadd, 1, 0, 0, 0, 0, []), (650, .iaload, 1, 40, 0, 0, 0, []), (651, .invokevirtual 65, 3, 73, 3, 1, 8, [(0, 290)]), (654, .aload_n 2, 1, 0, 0, 0, 0, []), (655, .aload_n 0, 1, 0, 0, 0, 0, []), (656, .iload_n 3, 1, 0, 0, 0, 0, []), (657, .iconst 1, 1, 0, 0, 0, 0, []), (658, .iadd, 1, 0, 0, 0, 0, []), (659, .iaload, 1, 40, 0, 0, 0, []), (660, .aload_n 0, 1, 0, 0, 0, 0, []), (661, .iload_n 3, 1, 0, 0, 0, 0, []), (662, .iconst 2, 1, 0, 0, 0, 0, []), (663, .iadd, 1, 0, 0, 0, 0, []), (664, .iaload, 1, 40, 0, 0, 0, []), (665, .invokevirtual 68, 3, 226, 3, 1, 9, [(0, 291)]), (668, .if_icmp .eq 1224, 3, 1892, 0, 0, 0, []), (671, .iconst 0, 1, 0, 0, 0, 0, [])]
noncomputable def pgC_21 : List (Nat × EN) := [(672, .ireturn, 1, 1, 0, 0, 0, []), (673, .aload_n 1, 1, 0, 0, 0, 0, []), (674, .aload_n 0, 1, 0, 0, 0, 0, []), (675, .iload_n 3, 1, 0, 0, 0, 0, []), (676, .iconst 1, 1, 0, 0, 0, 0, []), (677, .iadd, 1, 0, 0, 0, 0, []), (678, .iaload, 1, 40, 0, 0, 0, []), (679, .invokevirtual 69, 3, 75, 2, 1, 8, [(0, 292)]), (682, .aload_n 2, 1, 0, 0, 0, 0, []), (683, .aload_n 0, 1, 0, 0, 0, 0, []), (684, .iload_n 3, 1, 0, 0, 0, 0, []), (685, .iconst 1, 1, 0, 0, 0, 0, []), (686, .iadd, 1, 0, 0, 0, 0, []), (687, .iaload, 1, 40, 0, 0, 0, []), (688, .invokevirtual 72, 3, 227, 2, 1, 9, [(0, 293)]), (691, .if_icmp .eq 1201, 3, 1892, 0, 0, 0, []), (694, .iconst 0, 1, 0, 0, 0, 0, []), (695, .ireturn, 1, 1, 0, 0, 0, []), (696, .aload_n 1, 1, 0, 0, 0, 0, []), (697, .aload_n 0, 1, 0, 0, 0, 0, []), (698, .iload_n 3, 1, 0, 0, 0, 0, []), (699, .iconst 1, 1, 0, 0, 0, 0, []), (700, .iadd, 1, 0, 0, 0, 0, []), (701, .iaload, 1, 40, 0, 0, 0, []), (702, .aload_n 0, 1, 0, 0, 0, 0, []), (703, .iload_n 3, 1, 0, 0, 0, 0, [])]
noncomputable def pgC_22 : List (Nat × EN) := [(704, .iconst 2, 1, 0, 0, 0, 0, []), (705, .iadd, 1, 0, 0, 0, 0, []), (706, .iaload, 1, 40, 0, 0, 0, []), (707, .invokevirtual 73, 3, 77, 3, 1, 8, [(0, 294)]), (710, .aload_n 2, 1, 0, 0, 0, 0, []), (711, .aload_n 0, 1, 0, 0, 0, 0, []), (712, .iload_n 3, 1, 0, 0, 0, 0, []), (713, .iconst 1, 1, 0, 0, 0, 0, []), (714, .iadd, 1, 0, 0, 0, 0, []), (715, .iaload, 1, 40, 0, 0, 0, []), (716, .aload_n 0, 1, 0, 0, 0, 0, []), (717, .iload_n 3, 1, 0, 0, 0, 0, []), (718, .iconst 2, 1, 0, 0, 0, 0, []), (719, .iadd, 1, 0, 0, 0, 0, []), (720, .iaload, 1, 40, 0, 0, 0, []), (721, .invokevirtual 76, 3, 228, 3, 1, 9, [(0, 295)]), (724, .if_icmp .eq 1168, 3, 1892, 0, 0, 0, []), (727, .iconst 0, 1, 0, 0, 0, 0, []), (728, .ireturn, 1, 1, 0, 0, 0, []), (729, .aload_n 1, 1, 0, 0, 0, 0, []), (730, .aload_n 0, 1, 0, 0, 0, 0, []), (731, .iload_n 3, 1, 0, 0, 0, 0, []), (732, .iconst 1, 1, 0, 0, 0, 0, []), (733, .iadd, 1, 0, 0, 0, 0, []), (734, .iaload, 1, 40, 0, 0, 0, []), (735, .aload_n 0, 1, 0, 0, 0, 0, [])]
noncomputable def pgC_23 : List (Nat × EN) := [(736, .iload_n 3, 1, 0, 0, 0, 0, []), (737, .iconst 2, 1, 0, 0, 0, 0, []), (738, .iadd, 1, 0, 0, 0, 0, []), (739, .iaload, 1, 40, 0, 0, 0, []), (740, .aload_n 0, 1, 0, 0, 0, 0, []), (741, .iload_n 3, 1, 0, 0, 0, 0, []), (742, .iconst 3, 1, 0, 0, 0, 0, []), (743, .iadd, 1, 0, 0, 0, 0, []), (744, .iaload, 1, 40, 0, 0, 0, []), (745, .invokevirtual 77, 3, 81, 4, 1, 8, [(0, 296)]), (748, .aload_n 2, 1, 0, 0, 0, 0, []), (749, .aload_n 0, 1, 0, 0, 0, 0, []), (750, .iload_n 3, 1, 0, 0, 0, 0, []), (751, .iconst 1, 1, 0, 0, 0, 0, []), (752, .iadd, 1, 0, 0, 0, 0, []), (753, .iaload, 1, 40, 0, 0, 0, []), (754, .aload_n 0, 1, 0, 0, 0, 0, []), (755, .iload_n 3, 1, 0, 0, 0, 0, []), (756, .iconst 2, 1, 0, 0, 0, 0, []), (757, .iadd, 1, 0, 0, 0, 0, []), (758, .iaload, 1, 40, 0, 0, 0, []), (759, .aload_n 0, 1, 0, 0, 0, 0, []), (760, .iload_n 3, 1, 0, 0, 0, 0, []), (761, .iconst 3, 1, 0, 0, 0, 0, []), (762, .iadd, 1, 0, 0, 0, 0, []), (763, .iaload, 1, 40, 0, 0, 0, []), (764, .invokevirtual 80, 3, 230, 4, 1, 9, [(0, 297)]), (767, .if_icmp .eq 1125, 3, 1892, 0, 0, 0, [])]
noncomputable def pgC_24 : List (Nat × EN) := [(770, .iconst 0, 1, 0, 0, 0, 0, []), (771, .ireturn, 1, 1, 0, 0, 0, []), (772, .aload_n 1, 1, 0, 0, 0, 0, []), (773, .aload_n 0, 1, 0, 0, 0, 0, []), (774, .iload_n 3, 1, 0, 0, 0, 0, []), (775, .iconst 1, 1, 0, 0, 0, 0, []), (776, .iadd, 1, 0, 0, 0, 0, []), (777, .iaload, 1, 40, 0, 0, 0, []), (778, .aload_n 0, 1, 0, 0, 0, 0, []), (779, .iload_n 3, 1, 0, 0, 0, 0, []), (780, .iconst 2, 1, 0, 0, 0, 0, []), (781, .iadd, 1, 0, 0, 0, 0, []), (782, .iaload, 1, 40, 0, 0, 0, []), (783, .aload_n 0, 1, 0, 0, 0, 0, []), (784, .iload_n 3, 1, 0, 0, 0, 0, []), (785, .iconst 3, 1, 0, 0, 0, 0, []), (786, .iadd, 1, 0, 0, 0, 0, []), (787, .iaload, 1, 40, 0, 0, 0, []), (788, .invokevirtual 81, 3, 84, 4, 1, 8, [(0, 298)]), (791, .aload_n 2, 1, 0, 0, 0, 0, []), (792, .aload_n 0, 1, 0, 0, 0, 0, []), (793, .iload_n 3, 1, 0, 0, 0, 0, []), (794, .iconst 1, 1, 0, 0, 0, 0, []), (795, .iadd, 1, 0, 0, 0, 0, []), (796, .iaload, 1, 40, 0, 0, 0, []), (797, .aload_n 0, 1, 0, 0, 0, 0, []), (798, .iload_n 3, 1, 0, 0, 0, 0, []), (799, .iconst 2, 1, 0, 0, 0, 0, [])]
noncomputable def pgC_25 : List (Nat × EN) := [(800, .iadd, 1, 0, 0, 0, 0, []), (801, .iaload, 1, 40, 0, 0, 0, []), (802, .aload_n 0, 1, 0, 0, 0, 0, []), (803, .iload_n 3, 1, 0, 0, 0, 0, []), (804, .iconst 3, 1, 0, 0, 0, 0, []), (805, .iadd, 1, 0, 0, 0, 0, []), (806, .iaload, 1, 40, 0, 0, 0, []), (807, .invokevirtual 84, 3, 232, 4, 1, 9, [(0, 299)]), (810, .if_icmp .eq 1082, 3, 1892, 0, 0, 0, []), (813, .iconst 0, 1, 0, 0, 0, 0, []), (814, .ireturn, 1, 1, 0, 0, 0, []), (815, .aload_n 1, 1, 0, 0, 0, 0, []), (816, .aload_n 0, 1, 0, 0, 0, 0, []), (817, .iload_n 3, 1, 0, 0, 0, 0, []), (818, .iconst 1, 1, 0, 0, 0, 0, []), (819, .iadd, 1, 0, 0, 0, 0, []), (820, .iaload, 1, 40, 0, 0, 0, []), (821, .aload_n 0, 1, 0, 0, 0, 0, []), (822, .iload_n 3, 1, 0, 0, 0, 0, []), (823, .iconst 2, 1, 0, 0, 0, 0, []), (824, .iadd, 1, 0, 0, 0, 0, []), (825, .iaload, 1, 40, 0, 0, 0, []), (826, .aload_n 0, 1, 0, 0, 0, 0, []), (827, .iload_n 3, 1, 0, 0, 0, 0, []), (828, .iconst 3, 1, 0, 0, 0, 0, []), (829, .iadd, 1, 0, 0, 0, 0, []), (830, .iaload, 1, 40, 0, 0, 0, []), (831, .invokevirtual 85, 3, 86, 4, 1, 8, [(0, 300)])]
noncomputable def pgC_26 : List (Nat × EN) := [(834, .aload_n 2, 1, 0, 0, 0, 0, []), (835, .aload_n 0, 1, 0, 0, 0, 0, []), (836, .iload_n 3, 1, 0, 0, 0, 0, []), (837, .iconst 1, 1, 0, 0, 0, 0, []), (838, .iadd, 1, 0, 0, 0, 0, []), (839, .iaload, 1, 40, 0, 0, 0, []), (840, .aload_n 0, 1, 0, 0, 0, 0, []), (841, .iload_n 3, 1, 0, 0, 0, 0, []), (842, .iconst 2, 1, 0, 0, 0, 0, []), (843, .iadd, 1, 0, 0, 0, 0, []), (844, .iaload, 1, 40, 0, 0, 0, []), (845, .aload_n 0, 1, 0, 0, 0, 0, []), (846, .iload_n 3, 1, 0, 0, 0, 0, []), (847, .iconst 3, 1, 0, 0, 0, 0, []), (848, .iadd, 1, 0, 0, 0, 0, []), (849, .iaload, 1, 40, 0, 0, 0, []), (850, .invokevirtual 88, 3, 233, 4, 1, 9, [(0, 301)]), (853, .if_icmp .eq 1039, 3, 1892, 0, 0, 0, []), (856, .iconst 0, 1, 0, 0, 0, 0, []), (857, .ireturn, 1, 1, 0, 0, 0, []), (858, .aload_n 1, 1, 0, 0, 0, 0, []), (859, .aload_n 0, 1, 0, 0, 0, 0, []), (860, .iload_n 3, 1, 0, 0, 0, 0, []), (861, .iconst 1, 1, 0, 0, 0, 0, []), (862, .iadd, 1, 0, 0, 0, 0, []), (863, .iaload, 1, 40, 0, 0, 0, [])]
noncomputable def pgC_27 : List (Nat × EN) := [(864, .aload_n 0, 1, 0, 0, 0, 0, []), (865, .iload_n 3, 1, 0, 0, 0, 0, []), (866, .iconst 2, 1, 0, 0, 0, 0, []), (867, .iadd, 1, 0, 0, 0, 0, []), (868, .iaload, 1, 40, 0, 0, 0, []), (869, .invokevirtual 89, 3, 88, 3, 1, 8, [(0, 302)]), (872, .aload_n 2, 1, 0, 0, 0, 0, []), (873, .aload_n 0, 1, 0, 0, 0, 0, []), (874, .iload_n 3, 1, 0, 0, 0, 0, []), (875, .iconst 1, 1, 0, 0, 0, 0, []), (876, .iadd, 1, 0, 0, 0, 0, []), (877, .iaload, 1, 40, 0, 0, 0, []), (878, .aload_n 0, 1, 0, 0, 0, 0, []), (879, .iload_n 3, 1, 0, 0, 0, 0, []), (880, .iconst 2, 1, 0, 0, 0, 0, []), (881, .iadd, 1, 0, 0, 0, 0, []), (882, .iaload, 1, 40, 0, 0, 0, []), (883, .invokevirtual 92, 3, 239, 3, 1, 9, [(0, 303)]), (886, .if_icmp .eq 1006, 3, 1892, 0, 0, 0, []), (889, .iconst 0, 1, 0, 0, 0, 0, []), (890, .ireturn, 1, 1, 0, 0, 0, []), (891, .aload_n 1, 1, 0, 0, 0, 0, []), (892, .aload_n 0, 1, 0, 0, 0, 0, []), (893, .iload_n 3, 1, 0, 0, 0, 0, []), (894, .iconst 1, 1, 0, 0, 0, 0, []), (895, .iadd, 1, 0, 0, 0, 0, [])]
noncomputable def pgC_28 : List (Nat × EN) := [(896, .iaload, 1, 40, 0, 0, 0, []), (897, .aload_n 0, 1, 0, 0, 0, 0, []), (898, .iload_n 3, 1, 0, 0, 0, 0, []), (899, .iconst 2, 1, 0, 0, 0, 0, []), (900, .iadd, 1, 0, 0, 0, 0, []), (901, .iaload, 1, 40, 0, 0, 0, []), (902, .invokevirtual 93, 3, 89, 3, 1, 8, [(0, 304)]), (905, .aload_n 2, 1, 0, 0, 0, 0, []), (906, .aload_n 0, 1, 0, 0, 0, 0, []), (907, .iload_n 3, 1, 0, 0, 0, 0, []), (908, .iconst 1, 1, 0, 0, 0, 0, []), (909, .iadd, 1, 0, 0, 0, 0, []), (910, .iaload, 1, 40, 0, 0, 0, []), (911, .aload_n 0, 1, 0, 0, 0, 0, []), (912, .iload_n 3, 1, 0, 0, 0, 0, []), (913, .iconst 2, 1, 0, 0, 0, 0, []), (914, .iadd, 1, 0, 0, 0, 0, []), (915, .iaload, 1, 40, 0, 0, 0, []), (916, .invokevirtual 96, 3, 235, 3, 1, 9, [(0, 305)]), (919, .if_icmp .eq 973, 3, 1892, 0, 0, 0, []), (922, .iconst 0, 1, 0, 0, 0, 0, []), (923, .ireturn, 1, 1, 0, 0, 0, []), (924, .aload_n 1, 1, 0, 0, 0, 0, []), (925, .aload_n 0, 1, 0, 0, 0, 0, []), (926, .iload_n 3, 1, 0, 0, 0, 0, []), (927, .iconst 1, 1, 0, 0, 0, 0, [])]
noncomputable def pgC_29 : List (Nat × EN) := [(928, .iadd, 1, 0, 0, 0, 0, []), (929, .iaload, 1, 40, 0, 0, 0, []), (930, .aload_n 0, 1, 0, 0, 0, 0, []), (931, .iload_n 3, 1, 0, 0, 0, 0, []), (932, .iconst 2, 1, 0, 0, 0, 0, []), (933, .iadd, 1, 0, 0, 0, 0, []), (934, .iaload, 1, 40, 0, 0, 0, []), (935, .aload_n 0, 1, 0, 0, 0, 0, []), (936, .iload_n 3, 1, 0, 0, 0, 0, []), (937, .iconst 3, 1, 0, 0, 0, 0, []), (938, .iadd, 1, 0, 0, 0, 0, []), (939, .iaload, 1, 40, 0, 0, 0, []), (940, .invokevirtual 97, 3, 90, 4, 1, 8, [(0, 306)]), (943, .aload_n 2, 1, 0, 0, 0, 0, []), (944, .aload_n 0, 1, 0, 0, 0, 0, []), (945, .iload_n 3, 1, 0, 0, 0, 0, []), (946, .iconst 1, 1, 0, 0, 0, 0, []), (947, .iadd, 1, 0, 0, 0, 0, []), (948, .iaload, 1, 40, 0, 0, 0, []), (949, .aload_n 0, 1, 0, 0, 0, 0, []), (950, .iload_n 3, 1, 0, 0, 0, 0, []), (951, .iconst 2, 1, 0, 0, 0, 0, []), (952, .iadd, 1, 0, 0, 0, 0, []), (953, .iaload, 1, 40, 0, 0, 0, []), (954, .aload_n 0, 1, 0, 0, 0, 0, []), (955, .iload_n 3, 1, 0, 0, 0, 0, []), (956, .iconst 3, 1, 0, 0, 0, 0, []), (957, .iadd, 1, 0, 0, 0, 0, []), (958, .iaload, 1, 40, 0, 0, 0, []), (959, .invokevirtual 100, 3, 236, 4, 1, 9, [(0, 307)])]
noncomputable def pgC_30 : List (Nat × EN) := [(962, .if_icmp .eq 930, 3, 1892, 0, 0, 0, []), (965, .iconst 0, 1, 0, 0, 0, 0, []), (966, .ireturn, 1, 1, 0, 0, 0, []), (967, .aload_n 1, 1, 0, 0, 0, 0, []), (968, .aload_n 0, 1, 0, 0, 0, 0, []), (969, .iload_n 3, 1, 0, 0, 0, 0, []), (970, .iconst 1, 1, 0, 0, 0, 0, []), (971, .iadd, 1, 0, 0, 0, 0, []), (972, .iaload, 1, 40, 0, 0, 0, []), (973, .invokevirtual 101, 3, 92, 2, 1, 8, [(0, 308)]), (976, .aload_n 2, 1, 0, 0, 0, 0, []), (977, .aload_n 0, 1, 0, 0, 0, 0, []), (978, .iload_n 3, 1, 0, 0, 0, 0, []), (979, .iconst 1, 1, 0, 0, 0, 0, []), (980, .iadd, 1, 0, 0, 0, 0, []), (981, .iaload, 1, 40, 0, 0, 0, []), (982, .invokevirtual 104, 3, 237, 2, 1, 9, [(0, 309)]), (985, .if_icmp .eq 907, 3, 1892, 0, 0, 0, []), (988, .iconst 0, 1, 0, 0, 0, 0, []), (989, .ireturn, 1, 1, 0, 0, 0, []), (990, .aload_n 1, 1, 0, 0, 0, 0, []), (991, .aload_n 0, 1, 0, 0, 0, 0, [])]
noncomputable def pgC_31 : List (Nat × EN) := [(992, .iload_n 3, 1, 0, 0, 0, 0, []), (993, .iconst 1, 1, 0, 0, 0, 0, []), (994, .iadd, 1, 0, 0, 0, 0, []), (995, .iaload, 1, 40, 0, 0, 0, []), (996, .aload_n 0, 1, 0, 0, 0, 0, []), (997, .iload_n 3, 1, 0, 0, 0, 0, []), (998, .iconst 2, 1, 0, 0, 0, 0, []), (999, .iadd, 1, 0, 0, 0, 0, []), (1000, .iaload, 1, 40, 0, 0, 0, []), (1001, .aload_n 0, 1, 0, 0, 0, 0, []), (1002, .iload_n 3, 1, 0, 0, 0, 0, []), (1003, .iconst 3, 1, 0, 0, 0, 0, []), (1004, .iadd, 1, 0, 0, 0, 0, []), (1005, .iaload, 1, 40, 0, 0, 0, []), (1006, .invokevirtual 105, 3, 96, 4, 1, 8, [(0, 310)]), (1009, .aload_n 2, 1, 0, 0, 0, 0, []), (1010, .aload_n 0, 1, 0, 0, 0, 0, []), (1011, .iload_n 3, 1, 0, 0, 0, 0, []), (1012, .iconst 1, 1, 0, 0, 0, 0, []), (1013, .iadd, 1, 0, 0, 0, 0, []), (1014, .iaload, 1, 40, 0, 0, 0, []), (1015, .aload_n 0, 1, 0, 0, 0, 0, []), (1016, .iload_n 3, 1, 0, 0, 0, 0, []), (1017, .iconst 2, 1, 0, 0, 0, 0, []), (1018, .iadd, 1, 0, 0, 0, 0, []), (1019, .iaload, 1, 40, 0, 0, 0, []), (1020, .aload_n 0, 1, 0, 0, 0, 0, []), (1021, .iload_n 3, 1, 0, 0, 0, 0, []), (1022, .iconst 3, 1, 0, 0, 0, 0, []), (1023, .iadd, 1, 0, 0, 0, 0, [])]
noncomputable def pgC_32 : List (Nat × EN) := [(1024, .iaload, 1, 40, 0, 0, 0, []), (1025, .invokevirtual 108, 3, 234, 4, 1, 9, [(0, 311)]), (1028, .if_icmp .eq 864, 3, 1892, 0, 0, 0, []), (1031, .iconst 0, 1, 0, 0, 0, 0, []), (1032, .ireturn, 1, 1, 0, 0, 0, []), (1033, .aload_n 1, 1, 0, 0, 0, 0, []), (1034, .aload_n 0, 1, 0, 0, 0, 0, []), (1035, .iload_n 3, 1, 0, 0, 0, 0, []), (1036, .iconst 1, 1, 0, 0, 0, 0, []), (1037, .iadd, 1, 0, 0, 0, 0, []), (1038, .iaload, 1, 40, 0, 0, 0, []), (1039, .invokevirtual 109, 3, 98, 2, 1, 8, [(0, 312)]), (1042, .aload_n 2, 1, 0, 0, 0, 0, []), (1043, .aload_n 0, 1, 0, 0, 0, 0, []), (1044, .iload_n 3, 1, 0, 0, 0, 0, []), (1045, .iconst 1, 1, 0, 0, 0, 0, []), (1046, .iadd, 1, 0, 0, 0, 0, []), (1047, .iaload, 1, 40, 0, 0, 0, []), (1048, .invokevirtual 112, 3, 240, 2, 1, 9, [(0, 313)]), (1051, .if_icmp .eq 841, 3, 1892, 0, 0, 0, []), (1054, .iconst 0, 1, 0, 0, 0, 0, []), (1055, .ireturn, 1, 1, 0, 0, 0, [])]
noncomputable def pgC_33 : List (Nat × EN) := [(1056, .aload_n 1, 1, 0, 0, 0, 0, []), (1057, .aload_n 0, 1, 0, 0, 0, 0, []), (1058, .iload_n 3, 1, 0, 0, 0, 0, []), (1059, .iconst 1, 1, 0, 0, 0, 0, []), (1060, .iadd, 1, 0, 0, 0, 0, []), (1061, .iaload, 1, 40, 0, 0, 0, []), (1062, .invokevirtual 113, 3, 99, 2, 1, 8, [(0, 314)]), (1065, .aload_n 2, 1, 0, 0, 0, 0, []), (1066, .aload_n 0, 1, 0, 0, 0, 0, []), (1067, .iload_n 3, 1, 0, 0, 0, 0, []), (1068, .iconst 1, 1, 0, 0, 0, 0, []), (1069, .iadd, 1, 0, 0, 0, 0, []), (1070, .iaload, 1, 40, 0, 0, 0, []), (1071, .invokevirtual 116, 3, 241, 2, 1, 9, [(0, 315)]), (1074, .if_icmp .eq 818, 3, 1892, 0, 0, 0, []), (1077, .iconst 0, 1, 0, 0, 0, 0, []), (1078, .ireturn, 1, 1, 0, 0, 0, []), (1079, .aload_n 1, 1, 0, 0, 0, 0, []), (1080, .aload_n 0, 1, 0, 0, 0, 0, []), (1081, .iload_n 3, 1, 0, 0, 0, 0, []), (1082, .iconst 1, 1, 0, 0, 0, 0, []), (1083, .iadd, 1, 0, 0, 0, 0, []), (1084, .iaload, 1, 40, 0, 0, 0, []), (1085, .invokevirtual 117, 3, 100, 2, 1, 8, [(0, 316)])]
noncomputable def pgC_34 : List (Nat × EN) := [(1088, .aload_n 2, 1, 0, 0, 0, 0, []), (1089, .aload_n 0, 1, 0, 0, 0, 0, []), (1090, .iload_n 3, 1, 0, 0, 0, 0, []), (1091, .iconst 1, 1, 0, 0, 0, 0, []), (1092, .iadd, 1, 0, 0, 0, 0, []), (1093, .iaload, 1, 40, 0, 0, 0, []), (1094, .invokevirtual 120, 3, 242, 2, 1, 9, [(0, 317)]), (1097, .if_icmp .eq 795, 3, 1892, 0, 0, 0, []), (1100, .iconst 0, 1, 0, 0, 0, 0, []), (1101, .ireturn, 1, 1, 0, 0, 0, []), (1102, .aload_n 1, 1, 0, 0, 0, 0, []), (1103, .aload_n 0, 1, 0, 0, 0, 0, []), (1104, .iload_n 3, 1, 0, 0, 0, 0, []), (1105, .iconst 1, 1, 0, 0, 0, 0, []), (1106, .iadd, 1, 0, 0, 0, 0, []), (1107, .iaload, 1, 40, 0, 0, 0, []), (1108, .aload_n 0, 1, 0, 0, 0, 0, []), (1109, .iload_n 3, 1, 0, 0, 0, 0, []), (1110, .iconst 2, 1, 0, 0, 0, 0, []), (1111, .iadd, 1, 0, 0, 0, 0, []), (1112, .iaload, 1, 40, 0, 0, 0, []), (1113, .invokevirtual 121, 3, 102, 3, 1, 8, [(0, 318)]), (1116, .aload_n 2, 1, 0, 0, 0, 0, []), (1117, .aload_n 0, 1, 0, 0, 0, 0, []), (1118, .iload_n 3, 1, 0, 0, 0, 0, []), (1119, .iconst 1, 1, 0, 0, 0, 0, [])]
noncomputable def pgC_35 : List (Nat × EN) := [(1120, .iadd, 1, 0, 0, 0, 0, []), (1121, .iaload, 1, 40, 0, 0, 0, []), (1122, .aload_n 0, 1, 0, 0, 0, 0, []), (1123, .iload_n 3, 1, 0, 0, 0, 0, []), (1124, .iconst 2, 1, 0, 0, 0, 0, []), (1125, .iadd, 1, 0, 0, 0, 0, []), (1126, .iaload, 1, 40, 0, 0, 0, []), (1127, .invokevirtual 124, 3, 244, 3, 1, 9, [(0, 319)]), (1130, .if_icmp .eq 762, 3, 1892, 0, 0, 0, []), (1133, .iconst 0, 1, 0, 0, 0, 0, []), (1134, .ireturn, 1, 1, 0, 0, 0, []), (1135, .aload_n 1, 1, 0, 0, 0, 0, []), (1136, .aload_n 0, 1, 0, 0, 0, 0, []), (1137, .iload_n 3, 1, 0, 0, 0, 0, []), (1138, .iconst 1, 1, 0, 0, 0, 0, []), (1139, .iadd, 1, 0, 0, 0, 0, []), (1140, .iaload, 1, 40, 0, 0, 0, []), (1141, .aload_n 0, 1, 0, 0, 0, 0, []), (1142, .iload_n 3, 1, 0, 0, 0, 0, []), (1143, .iconst 2, 1, 0, 0, 0, 0, []), (1144, .iadd, 1, 0, 0, 0, 0, []), (1145, .iaload, 1, 40, 0, 0, 0, []), (1146, .aload_n 0, 1, 0, 0, 0, 0, []), (1147, .iload_n 3, 1, 0, 0, 0, 0, []), (1148, .iconst 3, 1, 0, 0, 0, 0, []), (1149, .iadd, 1, 0, 0, 0, 0, []), (1150, .iaload, 1, 40, 0, 0, 0, []), (1151, .invokevirtual 125, 3, 108, 4, 1, 8, [(0, 320)])]
noncomputable def pgC_36 : List (Nat × EN) := [(1154, .aload_n 2, 1, 0, 0, 0, 0, []), (1155, .aload_n 0, 1, 0, 0, 0, 0, []), (1156, .iload_n 3, 1, 0, 0, 0, 0, []), (1157, .iconst 1, 1, 0, 0, 0, 0, []), (1158, .iadd, 1, 0, 0, 0, 0, []), (1159, .iaload, 1, 40, 0, 0, 0, []), (1160, .aload_n 0, 1, 0, 0, 0, 0, []), (1161, .iload_n 3, 1, 0, 0, 0, 0, []), (1162, .iconst 2, 1, 0, 0, 0, 0, []), (1163, .iadd, 1, 0, 0, 0, 0, []), (1164, .iaload, 1, 40, 0, 0, 0, []), (1165, .aload_n 0, 1, 0, 0, 0, 0, []), (1166, .iload_n 3, 1, 0, 0, 0, 0, []), (1167, .iconst 3, 1, 0, 0, 0, 0, []), (1168, .iadd, 1, 0, 0, 0, 0, []), (1169, .iaload, 1, 40, 0, 0, 0, []), (1170, .invokevirtual 128, 3, 246, 4, 1, 9, [(0, 321)]), (1173, .if_icmp .eq 719, 3, 1892, 0, 0, 0, []), (1176, .iconst 0, 1, 0, 0, 0, 0, []), (1177, .ireturn, 1, 1, 0, 0, 0, []), (1178, .aload_n 1, 1, 0, 0, 0, 0, []), (1179, .aload_n 0, 1, 0, 0, 0, 0, []), (1180, .iload_n 3, 1, 0, 0, 0, 0, []), (1181, .iconst 1, 1, 0, 0, 0, 0, []), (1182, .iadd, 1, 0, 0, 0, 0, []), (1183, .iaload, 1, 40, 0, 0, 0, [])]
noncomputable def pgC_37 : List (Nat × EN) := [(1184, .aload_n 0, 1, 0, 0, 0, 0, []), (1185, .iload_n 3, 1, 0, 0, 0, 0, []), (1186, .iconst 2, 1, 0, 0, 0, 0, []), (1187, .iadd, 1, 0, 0, 0, 0, []), (1188, .iaload, 1, 40, 0, 0, 0, []), (1189, .i2l, 1, 0, 0, 0, 0, []), (1190, .bipush 32, 2, 0, 0, 0, 0, []), (1192, .lshl, 1, 0, 0, 0, 0, []), (1193, .aload_n 0, 1, 0, 0, 0, 0, []), (1194, .iload_n 3, 1, 0, 0, 0, 0, []), (1195, .iconst 3, 1, 0, 0, 0, 0, []), (1196, .iadd, 1, 0, 0, 0, 0, []), (1197, .iaload, 1, 40, 0, 0, 0, []), (1198, .i2l, 1, 0, 0, 0, 0, []), (1199, .ldc2_w 129, 3, 4294967295, 0, 0, 0, [(0, 14)]), (1202, .land, 1, 0, 0, 0, 0, []), (1203, .lor, 1, 0, 0, 0, 0, []), (1204, .invokevirtual 131, 3, 117, 3, 1, 8, [(0, 322)]), (1207, .aload_n 2, 1, 0, 0, 0, 0, []), (1208, .aload_n 0, 1, 0, 0, 0, 0, []), (1209, .iload_n 3, 1, 0, 0, 0, 0, []), (1210, .iconst 1, 1, 0, 0, 0, 0, []), (1211, .iadd, 1, 0, 0, 0, 0, []), (1212, .iaload, 1, 40, 0, 0, 0, []), (1213, .aload_n 0, 1, 0, 0, 0, 0, []), (1214, .iload_n 3, 1, 0, 0, 0, 0, []), (1215, .iconst 2, 1, 0, 0, 0, 0, [])]
noncomputable def pgC_38 : List (Nat × EN) := [(1216, .iadd, 1, 0, 0, 0, 0, []), (1217, .iaload, 1, 40, 0, 0, 0, []), (1218, .i2l, 1, 0, 0, 0, 0, []), (1219, .bipush 32, 2, 0, 0, 0, 0, []), (1221, .lshl, 1, 0, 0, 0, 0, []), (1222, .aload_n 0, 1, 0, 0, 0, 0, []), (1223, .iload_n 3, 1, 0, 0, 0, 0, []), (1224, .iconst 3, 1, 0, 0, 0, 0, []), (1225, .iadd, 1, 0, 0, 0, 0, []), (1226, .iaload, 1, 40, 0, 0, 0, []), (1227, .i2l, 1, 0, 0, 0, 0, []), (1228, .ldc2_w 129, 3, 4294967295, 0, 0, 0, [(0, 14)]), (1231, .land, 1, 0, 0, 0, 0, []), (1232, .lor, 1, 0, 0, 0, 0, []), (1233, .invokevirtual 135, 3, 250, 3, 1, 9, [(0, 323)]), (1236, .if_icmp .eq 656, 3, 1892, 0, 0, 0, []), (1239, .iconst 0, 1, 0, 0, 0, 0, []), (1240, .ireturn, 1, 1, 0, 0, 0, []), (1241, .aload_n 1, 1, 0, 0, 0, 0, []), (1242, .aload_n 0, 1, 0, 0, 0, 0, []), (1243, .iload_n 3, 1, 0, 0, 0, 0, []), (1244, .iconst 1, 1, 0, 0, 0, 0, []), (1245, .iadd, 1, 0, 0, 0, 0, []), (1246, .iaload, 1, 40, 0, 0, 0, []), (1247, .invokevirtual 136, 3, 124, 2, 1, 8, [(0, 324)])]
noncomputable def pgC_39 : List (Nat × EN) := [(1250, .aload_n 2, 1, 0, 0, 0, 0, []), (1251, .aload_n 0, 1, 0, 0, 0, 0, []), (1252, .iload_n 3, 1, 0, 0, 0, 0, []), (1253, .iconst 1, 1, 0, 0, 0, 0, []), (1254, .iadd, 1, 0, 0, 0, 0, []), (1255, .iaload, 1, 40, 0, 0, 0, []), (1256, .invokevirtual 139, 3, 258, 2, 1, 9, [(0, 325)]), (1259, .if_icmp .eq 633, 3, 1892, 0, 0, 0, []), (1262, .iconst 0, 1, 0, 0, 0, 0, []), (1263, .ireturn, 1, 1, 0, 0, 0, []), (1264, .aload_n 1, 1, 0, 0, 0, 0, []), (1265, .aload_n 0, 1, 0, 0, 0, 0, []), (1266, .iload_n 3, 1, 0, 0, 0, 0, []), (1267, .iconst 1, 1, 0, 0, 0, 0, []), (1268, .iadd, 1, 0, 0, 0, 0, []), (1269, .iaload, 1, 40, 0, 0, 0, []), (1270, .aload_n 0, 1, 0, 0, 0, 0, []), (1271, .iload_n 3, 1, 0, 0, 0, 0, []), (1272, .iconst 2, 1, 0, 0, 0, 0, []), (1273, .iadd, 1, 0, 0, 0, 0, []), (1274, .iaload, 1, 40, 0, 0, 0, []), (1275, .aload_n 0, 1, 0, 0, 0, 0, []), (1276, .iload_n 3, 1, 0, 0, 0, 0, []), (1277, .iconst 3, 1, 0, 0, 0, 0, []), (1278, .iadd, 1, 0, 0, 0, 0, []), (1279, .iaload, 1, 40, 0, 0, 0, [])]
noncomputable def pgC_40 : List (Nat × EN) := [(1280, .invokevirtual 140, 3, 126, 4, 1, 8, [(0, 326)]), (1283, .aload_n 2, 1, 0, 0, 0, 0, []), (1284, .aload_n 0, 1, 0, 0, 0, 0, []), (1285, .iload_n 3, 1, 0, 0, 0, 0, []), (1286, .iconst 1, 1, 0, 0, 0, 0, []), (1287, .iadd, 1, 0, 0, 0, 0, []), (1288, .iaload, 1, 40, 0, 0, 0, []), (1289, .aload_n 0, 1, 0, 0, 0, 0, []), (1290, .iload_n 3, 1, 0, 0, 0, 0, []), (1291, .iconst 2, 1, 0, 0, 0, 0, []), (1292, .iadd, 1, 0, 0, 0, 0, []), (1293, .iaload, 1, 40, 0, 0, 0, []), (1294, .aload_n 0, 1, 0, 0, 0, 0, []), (1295, .iload_n 3, 1, 0, 0, 0, 0, []), (1296, .iconst 3, 1, 0, 0, 0, 0, []), (1297, .iadd, 1, 0, 0, 0, 0, []), (1298, .iaload, 1, 40, 0, 0, 0, []), (1299, .invokevirtual 143, 3, 259, 4, 1, 9, [(0, 327)]), (1302, .if_icmp .eq 590, 3, 1892, 0, 0, 0, []), (1305, .iconst 0, 1, 0, 0, 0, 0, []), (1306, .ireturn, 1, 1, 0, 0, 0, []), (1307, .aload_n 1, 1, 0, 0, 0, 0, []), (1308, .aload_n 0, 1, 0, 0, 0, 0, []), (1309, .iload_n 3, 1, 0, 0, 0, 0, []), (1310, .iconst 1, 1, 0, 0, 0, 0, []), (1311, .iadd, 1, 0, 0, 0, 0, [])]
noncomputable def pgC_41 : List (Nat × EN) := [(1312, .iaload, 1, 40, 0, 0, 0, []), (1313, .aload_n 0, 1, 0, 0, 0, 0, []), (1314, .iload_n 3, 1, 0, 0, 0, 0, []), (1315, .iconst 2, 1, 0, 0, 0, 0, []), (1316, .iadd, 1, 0, 0, 0, 0, []), (1317, .iaload, 1, 40, 0, 0, 0, []), (1318, .invokevirtual 144, 3, 128, 3, 3, 8, [(0, 328)]), (1321, .aload_n 2, 1, 0, 0, 0, 0, []), (1322, .aload_n 0, 1, 0, 0, 0, 0, []), (1323, .iload_n 3, 1, 0, 0, 0, 0, []), (1324, .iconst 1, 1, 0, 0, 0, 0, []), (1325, .iadd, 1, 0, 0, 0, 0, []), (1326, .iaload, 1, 40, 0, 0, 0, []), (1327, .aload_n 0, 1, 0, 0, 0, 0, []), (1328, .iload_n 3, 1, 0, 0, 0, 0, []), (1329, .iconst 2, 1, 0, 0, 0, 0, []), (1330, .iadd, 1, 0, 0, 0, 0, []), (1331, .iaload, 1, 40, 0, 0, 0, []), (1332, .invokevirtual 148, 3, 256, 3, 3, 9, [(0, 329)]), (1335, .lcmp, 1, 0, 0, 0, 0, []), (1336, .ifCond .eq 556, 3, 1892, 0, 0, 0, []), (1339, .iconst 0, 1, 0, 0, 0, 0, []), (1340, .ireturn, 1, 1, 0, 0, 0, []), (1341, .aload_n 1, 1, 0, 0, 0, 0, []), (1342, .aload_n 0, 1, 0, 0, 0, 0, []), (1343, .iload_n 3, 1, 0, 0, 0, 0, [])]
noncomputable def pgC_42 : List (Nat × EN) := [(1344, .iconst 1, 1, 0, 0, 0, 0, []), (1345, .iadd, 1, 0, 0, 0, 0, []), (1346, .iaload, 1, 40, 0, 0, 0, []), (1347, .aload_n 0, 1, 0, 0, 0, 0, []), (1348, .iload_n 3, 1, 0, 0, 0, 0, []), (1349, .iconst 2, 1, 0, 0, 0, 0, []), (1350, .iadd, 1, 0, 0, 0, 0, []), (1351, .iaload, 1, 40, 0, 0, 0, []), (1352, .aload_n 0, 1, 0, 0, 0, 0, []), (1353, .iload_n 3, 1, 0, 0, 0, 0, []), (1354, .iconst 3, 1, 0, 0, 0, 0, []), (1355, .iadd, 1, 0, 0, 0, 0, []), (1356, .iaload, 1, 40, 0, 0, 0, []), (1357, .aload_n 0, 1, 0, 0, 0, 0, []), (1358, .iload_n 3, 1, 0, 0, 0, 0, []), (1359, .iconst 4, 1, 0, 0, 0, 0, []), (1360, .iadd, 1, 0, 0, 0, 0, []), (1361, .iaload, 1, 40, 0, 0, 0, []), (1362, .invokevirtual 149, 3, 135, 5, 1, 8, [(0, 330)]), (1365, .aload_n 2, 1, 0, 0, 0, 0, []), (1366, .aload_n 0, 1, 0, 0, 0, 0, []), (1367, .iload_n 3, 1, 0, 0, 0, 0, []), (1368, .iconst 1, 1, 0, 0, 0, 0, []), (1369, .iadd, 1, 0, 0, 0, 0, []), (1370, .iaload, 1, 40, 0, 0, 0, []), (1371, .aload_n 0, 1, 0, 0, 0, 0, []), (1372, .iload_n 3, 1, 0, 0, 0, 0, []), (1373, .iconst 2, 1, 0, 0, 0, 0, []), (1374, .iadd, 1, 0, 0, 0, 0, []), (1375, .iaload, 1, 40, 0, 0, 0, [])]
noncomputable def pgC_43 : List (Nat × EN) := [(1376, .aload_n 0, 1, 0, 0, 0, 0, []), (1377, .iload_n 3, 1, 0, 0, 0, 0, []), (1378, .iconst 3, 1, 0, 0, 0, 0, []), (1379, .iadd, 1, 0, 0, 0, 0, []), (1380, .iaload, 1, 40, 0, 0, 0, []), (1381, .aload_n 0, 1, 0, 0, 0, 0, []), (1382, .iload_n 3, 1, 0, 0, 0, 0, []), (1383, .iconst 4, 1, 0, 0, 0, 0, []), (1384, .iadd, 1, 0, 0, 0, 0, []), (1385, .iaload, 1, 40, 0, 0, 0, []), (1386, .invokevirtual 153, 3, 260, 5, 1, 9, [(0, 331)]), (1389, .if_icmp .eq 503, 3, 1892, 0, 0, 0, []), (1392, .iconst 0, 1, 0, 0, 0, 0, []), (1393, .ireturn, 1, 1, 0, 0, 0, []), (1394, .aload_n 1, 1, 0, 0, 0, 0, []), (1395, .aload_n 0, 1, 0, 0, 0, 0, []), (1396, .iload_n 3, 1, 0, 0, 0, 0, []), (1397, .iconst 1, 1, 0, 0, 0, 0, []), (1398, .iadd, 1, 0, 0, 0, 0, []), (1399, .iaload, 1, 40, 0, 0, 0, []), (1400, .aload_n 0, 1, 0, 0, 0, 0, []), (1401, .iload_n 3, 1, 0, 0, 0, 0, []), (1402, .iconst 2, 1, 0, 0, 0, 0, []), (1403, .iadd, 1, 0, 0, 0, 0, []), (1404, .iaload, 1, 40, 0, 0, 0, []), (1405, .aload_n 0, 1, 0, 0, 0, 0, []), (1406, .iload_n 3, 1, 0, 0, 0, 0, []), (1407, .iconst 3, 1, 0, 0, 0, 0, [])]
noncomputable def pgC_44 : List (Nat × EN) := [(1408, .iadd, 1, 0, 0, 0, 0, []), (1409, .iaload, 1, 40, 0, 0, 0, []), (1410, .invokevirtual 154, 3, 143, 4, 1, 8, [(0, 332)]), (1413, .aload_n 2, 1, 0, 0, 0, 0, []), (1414, .aload_n 0, 1, 0, 0, 0, 0, []), (1415, .iload_n 3, 1, 0, 0, 0, 0, []), (1416, .iconst 1, 1, 0, 0, 0, 0, []), (1417, .iadd, 1, 0, 0, 0, 0, []), (1418, .iaload, 1, 40, 0, 0, 0, []), (1419, .aload_n 0, 1, 0, 0, 0, 0, []), (1420, .iload_n 3, 1, 0, 0, 0, 0, []), (1421, .iconst 2, 1, 0, 0, 0, 0, []), (1422, .iadd, 1, 0, 0, 0, 0, []), (1423, .iaload, 1, 40, 0, 0, 0, []), (1424, .aload_n 0, 1, 0, 0, 0, 0, []), (1425, .iload_n 3, 1, 0, 0, 0, 0, []), (1426, .iconst 3, 1, 0, 0, 0, 0, []), (1427, .iadd, 1, 0, 0, 0, 0, []), (1428, .iaload, 1, 40, 0, 0, 0, []), (1429, .invokevirtual 157, 3, 266, 4, 1, 9, [(0, 333)]), (1432, .if_icmp .eq 460, 3, 1892, 0, 0, 0, []), (1435, .iconst 0, 1, 0, 0, 0, 0, []), (1436, .ireturn, 1, 1, 0, 0, 0, []), (1437, .aload_n 1, 1, 0, 0, 0, 0, []), (1438, .aload_n 0, 1, 0, 0, 0, 0, []), (1439, .iload_n 3, 1, 0, 0, 0, 0, [])]
noncomputable def pgC_45 : List (Nat × EN) := [(1440, .iconst 1, 1, 0, 0, 0, 0, []), (1441, .iadd, 1, 0, 0, 0, 0, []), (1442, .iaload, 1, 40, 0, 0, 0, []), (1443, .aload_n 0, 1, 0, 0, 0, 0, []), (1444, .iload_n 3, 1, 0, 0, 0, 0, []), (1445, .iconst 2, 1, 0, 0, 0, 0, []), (1446, .iadd, 1, 0, 0, 0, 0, []), (1447, .iaload, 1, 40, 0, 0, 0, []), (1448, .aload_n 0, 1, 0, 0, 0, 0, []), (1449, .iload_n 3, 1, 0, 0, 0, 0, []), (1450, .iconst 3, 1, 0, 0, 0, 0, []), (1451, .iadd, 1, 0, 0, 0, 0, []), (1452, .iaload, 1, 40, 0, 0, 0, []), (1453, .invokevirtual 158, 3, 145, 4, 1, 8, [(0, 334)]), (1456, .aload_n 2, 1, 0, 0, 0, 0, []), (1457, .aload_n 0, 1, 0, 0, 0, 0, []), (1458, .iload_n 3, 1, 0, 0, 0, 0, []), (1459, .iconst 1, 1, 0, 0, 0, 0, []), (1460, .iadd, 1, 0, 0, 0, 0, []), (1461, .iaload, 1, 40, 0, 0, 0, []), (1462, .aload_n 0, 1, 0, 0, 0, 0, []), (1463, .iload_n 3, 1, 0, 0, 0, 0, []), (1464, .iconst 2, 1, 0, 0, 0, 0, []), (1465, .iadd, 1, 0, 0, 0, 0, []), (1466, .iaload, 1, 40, 0, 0, 0, []), (1467, .aload_n 0, 1, 0, 0, 0, 0, []), (1468, .iload_n 3, 1, 0, 0, 0, 0, []), (1469, .iconst 3, 1, 0, 0, 0, 0, []), (1470, .iadd, 1, 0, 0, 0, 0, []), (1471, .iaload, 1, 40, 0, 0, 0, [])]
noncomputable def pgC_46 : List (Nat × EN) := [(1472, .invokevirtual 161, 3, 267, 4, 1, 9, [(0, 335)]), (1475, .if_icmp .eq 417, 3, 1892, 0, 0, 0, []), (1478, .iconst 0, 1, 0, 0, 0, 0, []), (1479, .ireturn, 1, 1, 0, 0, 0, []), (1480, .aload_n 1, 1, 0, 0, 0, 0, []), (1481, .aload_n 0, 1, 0, 0, 0, 0, []), (1482, .iload_n 3, 1, 0, 0, 0, 0, []), (1483, .iconst 1, 1, 0, 0, 0, 0, []), (1484, .iadd, 1, 0, 0, 0, 0, []), (1485, .iaload, 1, 40, 0, 0, 0, []), (1486, .invokevirtual 162, 3, 148, 2, 1, 8, [(0, 336)]), (1489, .aload_n 2, 1, 0, 0, 0, 0, []), (1490, .aload_n 0, 1, 0, 0, 0, 0, []), (1491, .iload_n 3, 1, 0, 0, 0, 0, []), (1492, .iconst 1, 1, 0, 0, 0, 0, []), (1493, .iadd, 1, 0, 0, 0, 0, []), (1494, .iaload, 1, 40, 0, 0, 0, []), (1495, .invokevirtual 165, 3, 269, 2, 1, 9, [(0, 337)]), (1498, .if_icmp .eq 394, 3, 1892, 0, 0, 0, []), (1501, .iconst 0, 1, 0, 0, 0, 0, []), (1502, .ireturn, 1, 1, 0, 0, 0, []), (1503, .aload_n 1, 1, 0, 0, 0, 0, [])]
noncomputable def pgC_47 : List (Nat × EN) := [(1504, .aload_n 0, 1, 0, 0, 0, 0, []), (1505, .iload_n 3, 1, 0, 0, 0, 0, []), (1506, .iconst 1, 1, 0, 0, 0, 0, []), (1507, .iadd, 1, 0, 0, 0, 0, []), (1508, .iaload, 1, 40, 0, 0, 0, []), (1509, .aload_n 0, 1, 0, 0, 0, 0, []), (1510, .iload_n 3, 1, 0, 0, 0, 0, []), (1511, .iconst 2, 1, 0, 0, 0, 0, []), (1512, .iadd, 1, 0, 0, 0, 0, []), (1513, .iaload, 1, 40, 0, 0, 0, []), (1514, .aload_n 0, 1, 0, 0, 0, 0, []), (1515, .iload_n 3, 1, 0, 0, 0, 0, []), (1516, .iconst 3, 1, 0, 0, 0, 0, []), (1517, .iadd, 1, 0, 0, 0, 0, []), (1518, .iaload, 1, 40, 0, 0, 0, []), (1519, .invokevirtual 166, 3, 150, 4, 1, 8, [(0, 338)]), (1522, .aload_n 2, 1, 0, 0, 0, 0, []), (1523, .aload_n 0, 1, 0, 0, 0, 0, []), (1524, .iload_n 3, 1, 0, 0, 0, 0, []), (1525, .iconst 1, 1, 0, 0, 0, 0, []), (1526, .iadd, 1, 0, 0, 0, 0, []), (1527, .iaload, 1, 40, 0, 0, 0, []), (1528, .aload_n 0, 1, 0, 0, 0, 0, []), (1529, .iload_n 3, 1, 0, 0, 0, 0, []), (1530, .iconst 2, 1, 0, 0, 0, 0, []), (1531, .iadd, 1, 0, 0, 0, 0, []), (1532, .iaload, 1, 40, 0, 0, 0, []), (1533, .aload_n 0, 1, 0, 0, 0, 0, []), (1534, .iload_n 3, 1, 0, 0, 0, 0, []), (1535, .iconst 3, 1, 0, 0, 0, 0, [])]
noncomputable def pgC_48 : List (Nat × EN) := [(1536, .iadd, 1, 0, 0, 0, 0, []), (1537, .iaload, 1, 40, 0, 0, 0, []), (1538, .invokevirtual 169, 3, 270, 4, 1, 9, [(0, 339)]), (1541, .if_icmp .eq 351, 3, 1892, 0, 0, 0, []), (1544, .iconst 0, 1, 0, 0, 0, 0, []), (1545, .ireturn, 1, 1, 0, 0, 0, []), (1546, .aload_n 1, 1, 0, 0, 0, 0, []), (1547, .aload_n 0, 1, 0, 0, 0, 0, []), (1548, .iload_n 3, 1, 0, 0, 0, 0, []), (1549, .iconst 1, 1, 0, 0, 0, 0, []), (1550, .iadd, 1, 0, 0, 0, 0, []), (1551, .iaload, 1, 40, 0, 0, 0, []), (1552, .invokevirtual 170, 3, 152, 2, 1, 8, [(0, 340)]), (1555, .aload_n 2, 1, 0, 0, 0, 0, []), (1556, .aload_n 0, 1, 0, 0, 0, 0, []), (1557, .iload_n 3, 1, 0, 0, 0, 0, []), (1558, .iconst 1, 1, 0, 0, 0, 0, []), (1559, .iadd, 1, 0, 0, 0, 0, []), (1560, .iaload, 1, 40, 0, 0, 0, []), (1561, .invokevirtual 173, 3, 271, 2, 1, 9, [(0, 341)]), (1564, .if_icmp .eq 328, 3, 1892, 0, 0, 0, []), (1567, .iconst 0, 1, 0, 0, 0, 0, [])]
noncomputable def pgC_49 : List (Nat × EN) := [(1568, .ireturn, 1, 1, 0, 0, 0, []), (1569, .aload_n 1, 1, 0, 0, 0, 0, []), (1570, .aload_n 0, 1, 0, 0, 0, 0, []), (1571, .iload_n 3, 1, 0, 0, 0, 0, []), (1572, .iconst 1, 1, 0, 0, 0, 0, []), (1573, .iadd, 1, 0, 0, 0, 0, []), (1574, .iaload, 1, 40, 0, 0, 0, []), (1575, .aload_n 0, 1, 0, 0, 0, 0, []), (1576, .iload_n 3, 1, 0, 0, 0, 0, []), (1577, .iconst 2, 1, 0, 0, 0, 0, []), (1578, .iadd, 1, 0, 0, 0, 0, []), (1579, .iaload, 1, 40, 0, 0, 0, []), (1580, .invokevirtual 174, 3, 154, 3, 1, 8, [(0, 342)]), (1583, .aload_n 2, 1, 0, 0, 0, 0, []), (1584, .aload_n 0, 1, 0, 0, 0, 0, []), (1585, .iload_n 3, 1, 0, 0, 0, 0, []), (1586, .iconst 1, 1, 0, 0, 0, 0, []), (1587, .iadd, 1, 0, 0, 0, 0, []), (1588, .iaload, 1, 40, 0, 0, 0, []), (1589, .aload_n 0, 1, 0, 0, 0, 0, []), (1590, .iload_n 3, 1, 0, 0, 0, 0, []), (1591, .iconst 2, 1, 0, 0, 0, 0, []), (1592, .iadd, 1, 0, 0, 0, 0, []), (1593, .iaload, 1, 40, 0, 0, 0, []), (1594, .invokevirtual 177, 3, 272, 3, 1, 9, [(0, 343)]), (1597, .if_icmp .eq 295, 3, 1892, 0, 0, 0, [])]
noncomputable def pgC_50 : List (Nat × EN) := [(1600, .iconst 0, 1, 0, 0, 0, 0, []), (1601, .ireturn, 1, 1, 0, 0, 0, []), (1602, .aload_n 1, 1, 0, 0, 0, 0, []), (1603, .aload_n 0, 1, 0, 0, 0, 0, []), (1604, .iload_n 3, 1, 0, 0, 0, 0, []), (1605, .iconst 1, 1, 0, 0, 0, 0, []), (1606, .iadd, 1, 0, 0, 0, 0, []), (1607, .iaload, 1, 40, 0, 0, 0, []), (1608, .aload_n 0, 1, 0, 0, 0, 0, []), (1609, .iload_n 3, 1, 0, 0, 0, 0, []), (1610, .iconst 2, 1, 0, 0, 0, 0, []), (1611, .iadd, 1, 0, 0, 0, 0, []), (1612, .iaload, 1, 40, 0, 0, 0, []), (1613, .aload_n 0, 1, 0, 0, 0, 0, []), (1614, .iload_n 3, 1, 0, 0, 0, 0, []), (1615, .iconst 3, 1, 0, 0, 0, 0, []), (1616, .iadd, 1, 0, 0, 0, 0, []), (1617, .iaload, 1, 40, 0, 0, 0, []), (1618, .invokevirtual 178, 3, 155, 4, 1, 8, [(0, 344)]), (1621, .aload_n 2, 1, 0, 0, 0, 0, []), (1622, .aload_n 0, 1, 0, 0, 0, 0, []), (1623, .iload_n 3, 1, 0, 0, 0, 0, []), (1624, .iconst 1, 1, 0, 0, 0, 0, []), (1625, .iadd, 1, 0, 0, 0, 0, []), (1626, .iaload, 1, 40, 0, 0, 0, []), (1627, .aload_n 0, 1, 0, 0, 0, 0, []), (1628, .iload_n 3, 1, 0, 0, 0, 0, []), (1629, .iconst 2, 1, 0, 0, 0, 0, []), (1630, .iadd, 1, 0, 0, 0, 0, []), (1631, .iaload, 1, 40, 0, 0, 0, [])]
noncomputable def pgC_51 : List (Nat × EN) := [(1632, .aload_n 0, 1, 0, 0, 0, 0, []), (1633, .iload_n 3, 1, 0, 0, 0, 0, []), (1634, .iconst 3, 1, 0, 0, 0, 0, []), (1635, .iadd, 1, 0, 0, 0, 0, []), (1636, .iaload, 1, 40, 0, 0, 0, []), (1637, .invokevirtual 181, 3, 274, 4, 1, 9, [(0, 345)]), (1640, .if_icmp .eq 252, 3, 1892, 0, 0, 0, []), (1643, .iconst 0, 1, 0, 0, 0, 0, []), (1644, .ireturn, 1, 1, 0, 0, 0, []), (1645, .aload_n 1, 1, 0, 0, 0, 0, []), (1646, .aload_n 0, 1, 0, 0, 0, 0, []), (1647, .iload_n 3, 1, 0, 0, 0, 0, []), (1648, .iconst 1, 1, 0, 0, 0, 0, []), (1649, .iadd, 1, 0, 0, 0, 0, []), (1650, .iaload, 1, 40, 0, 0, 0, []), (1651, .invokevirtual 182, 3, 157, 2, 1, 8, [(0, 346)]), (1654, .aload_n 2, 1, 0, 0, 0, 0, []), (1655, .aload_n 0, 1, 0, 0, 0, 0, []), (1656, .iload_n 3, 1, 0, 0, 0, 0, []), (1657, .iconst 1, 1, 0, 0, 0, 0, []), (1658, .iadd, 1, 0, 0, 0, 0, []), (1659, .iaload, 1, 40, 0, 0, 0, []), (1660, .invokevirtual 185, 3, 275, 2, 1, 9, [(0, 347)]), (1663, .if_icmp .eq 229, 3, 1892, 0, 0, 0, [])]
noncomputable def pgC_52 : List (Nat × EN) := [(1666, .iconst 0, 1, 0, 0, 0, 0, []), (1667, .ireturn, 1, 1, 0, 0, 0, []), (1668, .aload_n 1, 1, 0, 0, 0, 0, []), (1669, .aload_n 0, 1, 0, 0, 0, 0, []), (1670, .iload_n 3, 1, 0, 0, 0, 0, []), (1671, .iconst 1, 1, 0, 0, 0, 0, []), (1672, .iadd, 1, 0, 0, 0, 0, []), (1673, .iaload, 1, 40, 0, 0, 0, []), (1674, .aload_n 0, 1, 0, 0, 0, 0, []), (1675, .iload_n 3, 1, 0, 0, 0, 0, []), (1676, .iconst 2, 1, 0, 0, 0, 0, []), (1677, .iadd, 1, 0, 0, 0, 0, []), (1678, .iaload, 1, 40, 0, 0, 0, []), (1679, .invokevirtual 186, 3, 158, 3, 1, 8, [(0, 348)]), (1682, .aload_n 2, 1, 0, 0, 0, 0, []), (1683, .aload_n 0, 1, 0, 0, 0, 0, []), (1684, .iload_n 3, 1, 0, 0, 0, 0, []), (1685, .iconst 1, 1, 0, 0, 0, 0, []), (1686, .iadd, 1, 0, 0, 0, 0, []), (1687, .iaload, 1, 40, 0, 0, 0, []), (1688, .aload_n 0, 1, 0, 0, 0, 0, []), (1689, .iload_n 3, 1, 0, 0, 0, 0, []), (1690, .iconst 2, 1, 0, 0, 0, 0, []), (1691, .iadd, 1, 0, 0, 0, 0, []), (1692, .iaload, 1, 40, 0, 0, 0, []), (1693, .invokevirtual 189, 3, 276, 3, 1, 9, [(0, 349)])]
noncomputable def pgC_53 : List (Nat × EN) := [(1696, .if_icmp .eq 196, 3, 1892, 0, 0, 0, []), (1699, .iconst 0, 1, 0, 0, 0, 0, []), (1700, .ireturn, 1, 1, 0, 0, 0, []), (1701, .aload_n 1, 1, 0, 0, 0, 0, []), (1702, .aload_n 0, 1, 0, 0, 0, 0, []), (1703, .iload_n 3, 1, 0, 0, 0, 0, []), (1704, .iconst 1, 1, 0, 0, 0, 0, []), (1705, .iadd, 1, 0, 0, 0, 0, []), (1706, .iaload, 1, 40, 0, 0, 0, []), (1707, .aload_n 0, 1, 0, 0, 0, 0, []), (1708, .iload_n 3, 1, 0, 0, 0, 0, []), (1709, .iconst 2, 1, 0, 0, 0, 0, []), (1710, .iadd, 1, 0, 0, 0, 0, []), (1711, .iaload, 1, 40, 0, 0, 0, []), (1712, .invokevirtual 190, 3, 159, 3, 1, 8, [(0, 350)]), (1715, .aload_n 2, 1, 0, 0, 0, 0, []), (1716, .aload_n 0, 1, 0, 0, 0, 0, []), (1717, .iload_n 3, 1, 0, 0, 0, 0, []), (1718, .iconst 1, 1, 0, 0, 0, 0, []), (1719, .iadd, 1, 0, 0, 0, 0, []), (1720, .iaload, 1, 40, 0, 0, 0, []), (1721, .aload_n 0, 1, 0, 0, 0, 0, []), (1722, .iload_n 3, 1, 0, 0, 0, 0, []), (1723, .iconst 2, 1, 0, 0, 0, 0, []), (1724, .iadd, 1, 0, 0, 0, 0, []), (1725, .iaload, 1, 40, 0, 0, 0, []), (1726, .invokevirtual 193, 3, 277, 3, 1, 9, [(0, 351)])]
noncomputable def pgC_54 : List (Nat × EN) := [(1729, .if_icmp .eq 163, 3, 1892, 0, 0, 0, []), (1732, .iconst 0, 1, 0, 0, 0, 0, []), (1733, .ireturn, 1, 1, 0, 0, 0, []), (1734, .aload_n 1, 1, 0, 0, 0, 0, []), (1735, .aload_n 0, 1, 0, 0, 0, 0, []), (1736, .iload_n 3, 1, 0, 0, 0, 0, []), (1737, .iconst 1, 1, 0, 0, 0, 0, []), (1738, .iadd, 1, 0, 0, 0, 0, []), (1739, .iaload, 1, 40, 0, 0, 0, []), (1740, .aload_n 0, 1, 0, 0, 0, 0, []), (1741, .iload_n 3, 1, 0, 0, 0, 0, []), (1742, .iconst 2, 1, 0, 0, 0, 0, []), (1743, .iadd, 1, 0, 0, 0, 0, []), (1744, .iaload, 1, 40, 0, 0, 0, []), (1745, .invokevirtual 194, 3, 160, 3, 1, 8, [(0, 352)]), (1748, .aload_n 2, 1, 0, 0, 0, 0, []), (1749, .aload_n 0, 1, 0, 0, 0, 0, []), (1750, .iload_n 3, 1, 0, 0, 0, 0, []), (1751, .iconst 1, 1, 0, 0, 0, 0, []), (1752, .iadd, 1, 0, 0, 0, 0, []), (1753, .iaload, 1, 40, 0, 0, 0, []), (1754, .aload_n 0, 1, 0, 0, 0, 0, []), (1755, .iload_n 3, 1, 0, 0, 0, 0, []), (1756, .iconst 2, 1, 0, 0, 0, 0, []), (1757, .iadd, 1, 0, 0, 0, 0, []), (1758, .iaload, 1, 40, 0, 0, 0, []), (1759, .invokevirtual 197, 3, 278, 3, 1, 9, [(0, 353)])]
noncomputable def pgC_55 : List (Nat × EN) := [(1762, .if_icmp .eq 130, 3, 1892, 0, 0, 0, []), (1765, .iconst 0, 1, 0, 0, 0, 0, []), (1766, .ireturn, 1, 1, 0, 0, 0, []), (1767, .aload_n 1, 1, 0, 0, 0, 0, []), (1768, .aload_n 0, 1, 0, 0, 0, 0, []), (1769, .iload_n 3, 1, 0, 0, 0, 0, []), (1770, .iconst 1, 1, 0, 0, 0, 0, []), (1771, .iadd, 1, 0, 0, 0, 0, []), (1772, .iaload, 1, 40, 0, 0, 0, []), (1773, .aload_n 0, 1, 0, 0, 0, 0, []), (1774, .iload_n 3, 1, 0, 0, 0, 0, []), (1775, .iconst 2, 1, 0, 0, 0, 0, []), (1776, .iadd, 1, 0, 0, 0, 0, []), (1777, .iaload, 1, 40, 0, 0, 0, []), (1778, .invokevirtual 198, 3, 161, 3, 1, 8, [(0, 354)]), (1781, .aload_n 2, 1, 0, 0, 0, 0, []), (1782, .aload_n 0, 1, 0, 0, 0, 0, []), (1783, .iload_n 3, 1, 0, 0, 0, 0, []), (1784, .iconst 1, 1, 0, 0, 0, 0, []), (1785, .iadd, 1, 0, 0, 0, 0, []), (1786, .iaload, 1, 40, 0, 0, 0, []), (1787, .aload_n 0, 1, 0, 0, 0, 0, []), (1788, .iload_n 3, 1, 0, 0, 0, 0, []), (1789, .iconst 2, 1, 0, 0, 0, 0, []), (1790, .iadd, 1, 0, 0, 0, 0, []), (1791, .iaload, 1, 40, 0, 0, 0, [])]
noncomputable def pgC_56 : List (Nat × EN) := [(1792, .invokevirtual 201, 3, 279, 3, 1, 9, [(0, 355)]), (1795, .if_icmp .eq 97, 3, 1892, 0, 0, 0, []), (1798, .iconst 0, 1, 0, 0, 0, 0, []), (1799, .ireturn, 1, 1, 0, 0, 0, []), (1800, .aload_n 1, 1, 0, 0, 0, 0, []), (1801, .aload_n 0, 1, 0, 0, 0, 0, []), (1802, .iload_n 3, 1, 0, 0, 0, 0, []), (1803, .iconst 1, 1, 0, 0, 0, 0, []), (1804, .iadd, 1, 0, 0, 0, 0, []), (1805, .iaload, 1, 40, 0, 0, 0, []), (1806, .invokevirtual 202, 3, 164, 2, 1, 8, [(0, 356)]), (1809, .aload_n 2, 1, 0, 0, 0, 0, []), (1810, .aload_n 0, 1, 0, 0, 0, 0, []), (1811, .iload_n 3, 1, 0, 0, 0, 0, []), (1812, .iconst 1, 1, 0, 0, 0, 0, []), (1813, .iadd, 1, 0, 0, 0, 0, []), (1814, .iaload, 1, 40, 0, 0, 0, []), (1815, .invokevirtual 205, 3, 177, 2, 1, 9, [(0, 357)]), (1818, .if_icmp .eq 74, 3, 1892, 0, 0, 0, []), (1821, .iconst 0, 1, 0, 0, 0, 0, []), (1822, .ireturn, 1, 1, 0, 0, 0, []), (1823, .aload_n 1, 1, 0, 0, 0, 0, [])]
noncomputable def pgC_57 : List (Nat × EN) := [(1824, .invokevirtual 206, 3, 165, 1, 1, 8, [(0, 358)]), (1827, .aload_n 2, 1, 0, 0, 0, 0, []), (1828, .invokevirtual 210, 3, 176, 1, 1, 9, [(0, 359)]), (1831, .if_icmp .eq 61, 3, 1892, 0, 0, 0, []), (1834, .iconst 0, 1, 0, 0, 0, 0, []), (1835, .ireturn, 1, 1, 0, 0, 0, []), (1836, .aload_n 1, 1, 0, 0, 0, 0, []), (1837, .aload_n 0, 1, 0, 0, 0, 0, []), (1838, .iload_n 3, 1, 0, 0, 0, 0, []), (1839, .iconst 1, 1, 0, 0, 0, 0, []), (1840, .iadd, 1, 0, 0, 0, 0, []), (1841, .iaload, 1, 40, 0, 0, 0, []), (1842, .aload_n 0, 1, 0, 0, 0, 0, []), (1843, .iload_n 3, 1, 0, 0, 0, 0, []), (1844, .iconst 2, 1, 0, 0, 0, 0, []), (1845, .iadd, 1, 0, 0, 0, 0, []), (1846, .iaload, 1, 40, 0, 0, 0, []), (1847, .invokevirtual 211, 3, 169, 3, 1, 8, [(0, 360)]), (1850, .aload_n 2, 1, 0, 0, 0, 0, []), (1851, .aload_n 0, 1, 0, 0, 0, 0, []), (1852, .iload_n 3, 1, 0, 0, 0, 0, []), (1853, .iconst 1, 1, 0, 0, 0, 0, []), (1854, .iadd, 1, 0, 0, 0, 0, []), (1855, .iaload, 1, 40, 0, 0, 0, [])]
noncomputable def pgC_58 : List (Nat × EN) := [(1856, .aload_n 0, 1, 0, 0, 0, 0, []), (1857, .iload_n 3, 1, 0, 0, 0, 0, []), (1858, .iconst 2, 1, 0, 0, 0, 0, []), (1859, .iadd, 1, 0, 0, 0, 0, []), (1860, .iaload, 1, 40, 0, 0, 0, []), (1861, .invokevirtual 214, 3, 282, 3, 1, 9, [(0, 361)]), (1864, .if_icmp .eq 28, 3, 1892, 0, 0, 0, []), (1867, .iconst 0, 1, 0, 0, 0, 0, []), (1868, .ireturn, 1, 1, 0, 0, 0, []), (1869, .aload_n 1, 1, 0, 0, 0, 0, []), (1870, .aload_n 0, 1, 0, 0, 0, 0, []), (1871, .iload_n 3, 1, 0, 0, 0, 0, []), (1872, .iconst 1, 1, 0, 0, 0, 0, []), (1873, .iadd, 1, 0, 0, 0, 0, []), (1874, .iaload, 1, 40, 0, 0, 0, []), (1875, .invokevirtual 215, 3, 174, 2, 1, 8, [(0, 362)]), (1878, .aload_n 2, 1, 0, 0, 0, 0, []), (1879, .aload_n 0, 1, 0, 0, 0, 0, []), (1880, .iload_n 3, 1, 0, 0, 0, 0, []), (1881, .iconst 1, 1, 0, 0, 0, 0, []), (1882, .iadd, 1, 0, 0, 0, 0, []), (1883, .iaload, 1, 40, 0, 0, 0, []), (1884, .invokevirtual 218, 3, 285, 2, 1, 9, [(0, 363)]), (1887, .if_icmp .eq 5, 3, 1892, 0, 0, 0, [])]
noncomputable def pgC_59 : List (Nat × EN) := [(1890, .iconst 0, 1, 0, 0, 0, 0, []), (1891, .ireturn, 1, 1, 0, 0, 0, []), (1892, .iinc 3 6, 3, 0, 0, 0, 0, []), (1895, .goto (-1877), 3, 18, 0, 0, 0, []), (1898, .iconst 1, 1, 0, 0, 0, 0, []), (1899, .ireturn, 1, 1, 0, 0, 0, [])]
noncomputable def pgA_286 : List (List (Nat × EN)) := [pgC_0, pgC_1, pgC_2, pgC_3, pgC_4, pgC_5, pgC_6, pgC_7, pgC_8, pgC_9, pgC_10, pgC_11, pgC_12, pgC_13, pgC_14, pgC_15, pgC_16, pgC_17, pgC_18, pgC_19, pgC_20, pgC_21, pgC_22, pgC_23, pgC_24, pgC_25, pgC_26, pgC_27, pgC_28, pgC_29, pgC_30, pgC_31, pgC_32, pgC_33, pgC_34, pgC_35, pgC_36, pgC_37, pgC_38, pgC_39, pgC_40, pgC_41, pgC_42, pgC_43, pgC_44, pgC_45, pgC_46, pgC_47, pgC_48, pgC_49, pgC_50, pgC_51, pgC_52, pgC_53, pgC_54, pgC_55, pgC_56, pgC_57, pgC_58, pgC_59]
noncomputable def pm_286 : MR := (15, ⟨"OneAtATimeLaw", "law", "([I)Z"⟩, code, 4, (some (.boolean)), pgA_286)
end
section
/-! the program as one list; what is checked of each entry; links (printed by wip/whole/gen05.py) -/
noncomputable def prog : List MR := [pm_0, pm_1, pm_2, pm_3, pm_4, pm_5, pm_6, pm_7, pm_8, pm_9, pm_10, pm_11, pm_12, pm_13, pm_14, pm_15, pm_16, pm_17, pm_18, pm_19, pm_20, pm_21, pm_22, pm_23, pm_24, pm_25, pm_26, pm_27, pm_28, pm_29, pm_30, pm_31, pm_32, pm_33, pm_34, pm_35, pm_36, pm_37, pm_38, pm_39, pm_40, pm_41, pm_42, pm_43, pm_44, pm_45, pm_46, pm_47, pm_48, pm_49, pm_50, pm_51, pm_52, pm_53, pm_54, pm_55, pm_56, pm_57, pm_58, pm_59, pm_60, pm_61, pm_62, pm_63, pm_64, pm_65, pm_66, pm_67, pm_68, pm_69, pm_70, pm_71, pm_72, pm_73, pm_74, pm_75, pm_76, pm_77, pm_78, pm_79, pm_80, pm_81, pm_82, pm_83, pm_84, pm_85, pm_86, pm_87, pm_88, pm_89, pm_90, pm_91, pm_92, pm_93, pm_94, pm_95, pm_96, pm_97, pm_98, pm_99, pm_100, pm_101, pm_102, pm_103, pm_104, pm_105, pm_106, pm_107, pm_108, pm_109, pm_110, pm_111, pm_112, pm_113, pm_114, pm_115, pm_116, pm_117, pm_118, pm_119, pm_120, pm_121, pm_122, pm_123, pm_124, pm_125, pm_126, pm_127, pm_128, pm_129, pm_130, pm_131, pm_132, pm_133, pm_134, pm_135, pm_136, pm_137, pm_138, pm_139, pm_140, pm_141, pm_142, pm_143, pm_144, pm_145, pm_146, pm_147, pm_148, pm_149, pm_150, pm_151, pm_152, pm_153, pm_154, pm_155, pm_156, pm_157, pm_158, pm_159, pm_160, pm_161, pm_162, pm_163, pm_164, pm_165, pm_166, pm_167, pm_168, pm_169, pm_170, pm_171, pm_172, pm_173, pm_174, pm_175, pm_176, pm_177, pm_178, pm_179, pm_180, pm_181, pm_182, pm_183, pm_184, pm_185, pm_186, pm_187, pm_188, pm_189, pm_190, pm_191, pm_192, pm_193, pm_194, pm_195, pm_196, pm_197, pm_198, pm_199, pm_200, pm_201, pm_202, pm_203, pm_204, pm_205, pm_206, pm_207, pm_208, pm_209, pm_210, pm_211, pm_212, pm_213, pm_214, pm_215, pm_216, pm_217, pm_218, pm_219, pm_220, pm_221, pm_222, pm_223, pm_224, pm_225, pm_226, pm_227, pm_228, pm_229, pm_230, pm_231, pm_232, pm_233, pm_234, pm_235, pm_236, pm_237, pm_238, pm_239, pm_240, pm_241, pm_242, pm_243, pm_244, pm_245, pm_246, pm_247, pm_248, pm_249, pm_250, pm_251, pm_252, pm_253, pm_254, pm_255, pm_256, pm_257, pm_258, pm_259, pm_260, pm_261, pm_262, pm_263, pm_264, pm_265, pm_266, pm_267, pm_268, pm_269, pm_270, pm_271, pm_272, pm_273, pm_274, pm_275, pm_276, pm_277, pm_278, pm_279, pm_280, pm_281, pm_282, pm_283, pm_284, pm_285, pm_286]
noncomputable def PG0 : PG := fun k => match prog[k]? with
  | some q => q.2.2.2.2.2
  | none => []
noncomputable def MX : Nat → Nat := fun k => match prog[k]? with
  | some q => q.2.2.2.1
  | none => 0
def ftL : List (Nat × Nat × Nat × Nat × Nat) := [(0, 11, 8, 0, 2), (0, 16, 8, 1, 2), (0, 23, 8, 2, 2), (0, 30, 8, 3, 2), (0, 39, 8, 4, 2), (0, 46, 8, 5, 2), (0, 53, 8, 6, 2), (0, 60, 8, 7, 2), (0, 67, 8, 8, 2), (1, 9, 0, 0, 2), (1, 15, 0, 1, 2), (1, 18, 0, 2, 1), (2, 11, 3, 0, 2), (2, 18, 3, 1, 2), (2, 22, 3, 2, 0), (2, 26, 3, 3, 0), (3, 14, 5, 0, 2), (3, 20, 5, 4, 0), (3, 24, 5, 5, 0), (4, 15, 1, 0, 2), (4, 21, 1, 1, 0), (6, 9, 7, 0, 2), (6, 15, 7, 1, 2), (6, 18, 7, 2, 2), (6, 21, 7, 3, 2), (6, 24, 7, 4, 2), (7, 9, 6, 0, 2), (7, 15, 6, 1, 2), (7, 18, 6, 2, 2), (8, 9, 4, 0, 2), (8, 15, 4, 1, 2), (9, 9, 2, 0, 2), (9, 15, 2, 1, 2), (9, 18, 2, 2, 2), (9, 21, 2, 3, 0), (9, 25, 2, 4, 3), (0, 71, 5, 0, 2), (0, 81, 1, 1, 0), (3, 27, 5, 3, 0), (3, 44, 5, 1, 0), (3, 47, 5, 2, 0), (3, 103, 1, 1, 0), (1, 22, 0, 3, 0), (1, 26, 0, 4, 0), (1, 29, 0, 5, 0), (1, 32, 0, 6, 0), (3, 87, 0, 6, 0), (0, 126, 0, 6, 0), (0, 96, 5, 4, 0), (0, 99, 5, 5, 0), (0, 106, 3, 3, 0), (0, 343, 0, 2, 1), (0, 113, 0, 3, 0), (0, 116, 0, 4, 0), (0, 119, 0, 5, 0), (0, 122, 0, 1, 2), (6, 39, 0, 1, 2), (6, 57, 0, 6, 0), (6, 75, 0, 3, 0), (0, 165, 0, 0, 2), (6, 112, 0, 0, 2), (12, 7, 0, 1, 2), (12, 31, 0, 3, 0), (12, 39, 0, 6, 0), (7, 21, 0, 1, 2), (7, 43, 0, 6, 0), (7, 86, 0, 3, 0), (12, 71, 0, 0, 2), (0, 277, 2, 3, 0), (0, 280, 2, 4, 3), (9, 37, 0, 3, 0), (9, 52, 0, 6, 0), (9, 55, 0, 0, 2), (8, 18, 0, 6, 0), (8, 38, 0, 0, 2), (4, 44, 0, 3, 0), (4, 54, 0, 4, 0), (4, 59, 0, 5, 0), (4, 64, 0, 1, 2), (4, 68, 0, 6, 0), (4, 71, 0, 0, 2), (14, 13, 9, 0, 2), (14, 17, 9, 1, 2), (14, 20, 9, 2, 2), (14, 23, 9, 4, 2), (14, 26, 9, 6, 2), (14, 29, 9, 9, 0), (14, 33, 9, 15, 2), (14, 36, 9, 16, 2), (14, 39, 9, 19, 2), (14, 43, 9, 20, 2), (14, 46, 9, 24, 2), (14, 49, 9, 25, 2), (14, 52, 9, 26, 2), (14, 55, 9, 27, 2), (14, 82, 9, 3, 0), (14, 88, 9, 5, 0), (14, 111, 9, 7, 0), (14, 138, 9, 8, 0), (14, 134, 9, 14, 1), (14, 114, 9, 10, 0), (14, 126, 9, 12, 0), (14, 120, 9, 11, 0), (14, 123, 9, 13, 0), (14, 182, 9, 28, 0), (14, 185, 9, 18, 1), (14, 188, 9, 17, 0), (14, 260, 9, 23, 0), (14, 263, 9, 22, 0), (14, 269, 9, 21, 0)]
def mtL : List (List Nat) := [[0, 1, 2, 1003, 1, 0, 0], [0, 15, 2, 1, 1, 0, 0], [0, 22, 2, 2, 1, 0, 0], [0, 29, 2, 3, 1, 0, 0], [0, 36, 2, 4, 2, 0, 0], [0, 45, 2, 6, 1, 0, 0], [0, 52, 2, 7, 1, 0, 0], [0, 59, 2, 8, 1, 0, 0], [0, 66, 2, 9, 1, 0, 0], [1, 3, 2, 1003, 1, 0, 0], [2, 3, 2, 1003, 1, 0, 0], [2, 17, 2, 1, 1, 0, 0], [3, 3, 2, 1003, 1, 0, 0], [3, 11, 2, 4, 2, 0, 0], [4, 3, 2, 1003, 1, 0, 0], [4, 9, 0, 1004, 2, 1, 0], [6, 3, 2, 1003, 1, 0, 0], [7, 3, 2, 1003, 1, 0, 0], [8, 3, 2, 1003, 1, 0, 0], [9, 3, 2, 1003, 1, 0, 0], [0, 74, 1, 11, 2, 1, 1], [0, 78, 1, 12, 2, 0, 1], [4, 25, 1, 13, 2, 0, 1], [0, 85, 0, 16, 1, 1, 0], [0, 88, 1, 17, 2, 1, 5], [0, 92, 1, 32, 2, 1, 8], [3, 30, 1, 18, 1, 0, 5], [3, 33, 1, 22, 2, 0, 5], [3, 37, 1, 29, 2, 0, 5], [3, 40, 1, 27, 2, 0, 5], [3, 50, 1, 25, 3, 0, 5], [3, 79, 1, 19, 2, 1, 1], [3, 105, 0, 20, 1, 1, 0], [3, 108, 0, 21, 1, 1, 0], [3, 56, 1, 23, 2, 0, 5], [3, 60, 1, 26, 3, 1, 5], [3, 66, 1, 24, 2, 1, 5], [3, 73, 1, 28, 5, 0, 0], [3, 93, 1, 1000, 1, 1, 30], [3, 99, 1, 1001, 2, 1, 30], [3, 83, 1, 30, 2, 1, 0], [3, 90, 1, 31, 2, 0, 0], [1, 39, 1, 30, 2, 1, 0], [0, 366, 1, 33, 2, 1, 0], [0, 347, 1, 34, 3, 0, 3], [0, 333, 1, 35, 2, 0, 0], [2, 29, 1, 35, 2, 0, 0], [2, 33, 0, 1005, 2, 1, 0], [1, 56, 0, 1002, 5, 0, 0], [0, 102, 1, 39, 1, 1, 8], [0, 109, 1, 41, 2, 2, 8], [0, 129, 1, 42, 1, 1, 0], [0, 132, 1, 44, 2, 1, 7], [0, 136, 1, 48, 1, 1, 0], [1, 62, 1, 43, 1, 1, 0], [6, 42, 1, 45, 2, 0, 7], [6, 46, 1, 47, 1, 1, 0], [6, 27, 0, 46, 2, 0, 0], [6, 33, 1, 42, 1, 1, 0], [1, 66, 1, 47, 1, 1, 0], [1, 76, 1, 49, 2, 1, 0], [1, 70, 0, 50, 1, 1, 0], [0, 139, 1, 43, 1, 1, 0], [0, 143, 0, 52, 1, 1, 0], [0, 147, 1, 53, 2, 1, 7], [0, 150, 1, 54, 2, 1, 7], [0, 153, 0, 55, 1, 1, 0], [0, 156, 1, 57, 2, 1, 7], [0, 159, 0, 60, 1, 1, 0], [0, 162, 0, 61, 1, 1, 0], [6, 49, 1, 44, 2, 1, 7], [6, 53, 1, 49, 2, 1, 0], [6, 61, 1, 56, 2, 1, 0], [6, 65, 0, 1004, 2, 1, 0], [1, 53, 0, 1005, 2, 1, 0], [6, 71, 1, 53, 2, 1, 7], [6, 78, 0, 58, 3, 1, 0], [6, 82, 0, 1006, 1, 1, 0], [6, 85, 1, 43, 1, 1, 0], [6, 89, 0, 1005, 2, 1, 0], [6, 92, 0, 62, 2, 1, 0], [6, 96, 0, 63, 3, 1, 0], [6, 100, 1, 64, 3, 1, 0], [0, 168, 1, 68, 2, 1, 0], [0, 171, 1, 70, 3, 1, 7], [0, 175, 1, 30, 2, 1, 0], [0, 178, 1, 72, 2, 1, 0], [0, 181, 0, 74, 2, 1, 0], [6, 103, 1, 72, 2, 1, 0], [0, 184, 0, 76, 1, 1, 0], [0, 187, 0, 78, 1, 1, 0], [0, 190, 0, 79, 2, 1, 0], [6, 106, 0, 79, 2, 1, 0], [6, 109, 0, 80, 2, 1, 0], [0, 193, 0, 82, 1, 1, 0], [0, 196, 0, 83, 3, 1, 0], [0, 200, 0, 85, 3, 1, 0], [0, 203, 0, 87, 3, 1, 0], [6, 115, 0, 50, 1, 1, 0], [0, 207, 0, 1005, 2, 1, 0], [0, 213, 0, 62, 2, 1, 0], [0, 216, 1, 91, 2, 1, 0], [0, 219, 0, 50, 1, 1, 0], [0, 224, 1, 93, 2, 1, 7], [6, 120, 1, 94, 2, 0, 7], [6, 123, 1, 95, 2, 1, 7], [0, 227, 0, 97, 3, 1, 0], [0, 230, 0, 101, 1, 1, 0], [0, 233, 0, 103, 2, 0, 0], [0, 239, 0, 105, 2, 0, 0], [0, 242, 0, 106, 2, 0, 0], [12, 13, 1, 104, 3, 0, 0], [12, 17, 1, 47, 1, 1, 0], [12, 21, 0, 101, 1, 1, 0], [12, 27, 1, 31, 2, 0, 0], [1, 35, 1, 28, 5, 0, 0], [12, 35, 1, 35, 2, 0, 0], [12, 42, 1, 107, 5, 0, 0], [1, 43, 0, 1004, 2, 1, 0], [1, 49, 1, 31, 2, 0, 0], [0, 246, 1, 109, 5, 1, 6], [7, 26, 1, 49, 2, 1, 0], [7, 30, 1, 110, 2, 0, 6], [7, 34, 1, 104, 3, 0, 0], [7, 38, 1, 48, 1, 1, 0], [7, 47, 0, 111, 2, 1, 0], [7, 51, 1, 114, 3, 1, 6], [7, 55, 1, 112, 1, 1, 0], [7, 58, 1, 113, 1, 0, 0], [7, 61, 1, 116, 3, 0, 6], [7, 64, 1, 47, 1, 1, 0], [7, 67, 0, 50, 1, 1, 0], [7, 73, 0, 101, 1, 1, 0], [7, 76, 1, 31, 2, 0, 0], [7, 80, 0, 60, 1, 1, 0], [7, 89, 1, 115, 3, 1, 6], [7, 92, 0, 1005, 2, 1, 0], [7, 98, 1, 56, 2, 1, 0], [7, 101, 0, 1004, 2, 1, 0], [0, 250, 0, 118, 2, 1, 0], [0, 254, 1, 120, 2, 1, 8], [0, 257, 0, 121, 3, 0, 0], [12, 46, 0, 1004, 2, 1, 0], [12, 52, 0, 119, 1, 1, 0], [12, 58, 1, 28, 5, 0, 0], [12, 62, 0, 122, 2, 1, 0], [12, 68, 1, 123, 5, 0, 0], [0, 261, 1, 125, 2, 1, 7], [6, 126, 1, 112, 1, 1, 0], [0, 264, 1, 127, 4, 1, 7], [0, 273, 1, 129, 2, 0, 2], [9, 29, 1, 130, 2, 0, 2], [9, 34, 1, 131, 2, 0, 2], [9, 42, 1, 134, 2, 1, 2], [9, 46, 0, 46, 2, 0, 0], [9, 58, 0, 1004, 2, 1, 0], [9, 64, 0, 1005, 2, 1, 0], [9, 67, 1, 132, 2, 3, 2], [9, 71, 0, 1007, 2, 3, 0], [9, 74, 0, 1002, 5, 0, 0], [0, 284, 0, 136, 2, 1, 0], [0, 288, 1, 137, 6, 1, 6], [0, 292, 0, 142, 3, 0, 0], [7, 104, 1, 138, 2, 0, 6], [7, 107, 1, 140, 4, 0, 6], [7, 111, 0, 139, 3, 1, 0], [7, 115, 0, 141, 2, 1, 0], [0, 296, 0, 144, 3, 0, 0], [0, 300, 1, 146, 3, 1, 0], [0, 303, 0, 147, 4, 0, 0], [0, 307, 0, 149, 1, 1, 0], [6, 129, 1, 146, 3, 1, 0], [0, 310, 0, 151, 4, 0, 0], [0, 313, 0, 153, 2, 0, 0], [12, 74, 1, 64, 3, 1, 0], [0, 316, 1, 104, 3, 0, 0], [0, 320, 1, 107, 5, 0, 0], [0, 324, 0, 156, 4, 0, 0], [0, 327, 1, 112, 1, 1, 0], [0, 330, 1, 123, 5, 0, 0], [0, 336, 1, 31, 2, 0, 0], [0, 339, 1, 162, 3, 1, 4], [8, 24, 1, 43, 1, 1, 0], [8, 28, 1, 163, 5, 1, 4], [8, 32, 0, 46, 2, 0, 0], [0, 351, 1, 166, 1, 1, 3], [0, 354, 1, 168, 2, 0, 3], [2, 39, 1, 167, 1, 1, 3], [0, 357, 1, 170, 2, 0, 1], [0, 360, 1, 173, 2, 0, 1], [4, 40, 1, 171, 2, 0, 1], [4, 49, 1, 172, 2, 0, 1], [4, 29, 1, 1000, 1, 1, 30], [4, 34, 1, 1001, 2, 1, 30], [4, 74, 1, 42, 1, 1, 0], [4, 77, 1, 64, 3, 1, 0], [0, 363, 1, 19, 2, 1, 1], [14, 7, 2, 1003, 1, 0, 0], [14, 64, 0, 178, 1, 1, 0], [14, 72, 1, 180, 2, 1, 9], [14, 94, 1, 182, 6, 0, 9], [14, 85, 1, 184, 2, 1, 9], [14, 60, 0, 179, 3, 1, 0], [14, 68, 1, 181, 3, 1, 9], [14, 91, 1, 183, 1, 0, 9], [14, 145, 1, 188, 1, 0, 9], [14, 163, 1, 190, 2, 1, 9], [14, 158, 1, 191, 2, 0, 9], [14, 167, 1, 193, 3, 1, 9], [14, 176, 1, 194, 2, 0, 9], [14, 179, 1, 195, 2, 0, 9], [14, 98, 1, 197, 2, 1, 9], [14, 117, 1, 189, 3, 1, 9], [14, 129, 0, 1005, 2, 1, 0], [14, 148, 1, 1000, 1, 1, 30], [14, 154, 1, 1001, 2, 1, 30], [14, 141, 1, 192, 3, 0, 9], [14, 107, 1, 196, 2, 0, 9], [14, 226, 1, 201, 3, 1, 9], [14, 200, 1, 202, 2, 1, 9], [14, 209, 1, 206, 2, 1, 9], [14, 212, 1, 210, 2, 1, 9], [14, 215, 1, 211, 2, 1, 9], [14, 218, 1, 213, 2, 1, 9], [14, 221, 1, 214, 2, 1, 9], [14, 191, 1, 203, 2, 0, 9], [14, 101, 1, 204, 2, 1, 9], [14, 104, 1, 205, 3, 1, 9], [14, 75, 1, 207, 2, 1, 9], [14, 194, 1, 208, 3, 1, 9], [14, 79, 0, 209, 1, 1, 0], [14, 197, 0, 1004, 2, 1, 0], [14, 203, 1, 212, 3, 1, 9], [14, 206, 1, 215, 2, 1, 9], [14, 1, 0, 216, 2, 1, 0], [14, 231, 1, 221, 3, 1, 9], [14, 234, 1, 224, 3, 1, 9], [14, 237, 1, 225, 3, 1, 9], [14, 240, 1, 226, 3, 1, 9], [14, 243, 1, 229, 3, 1, 9], [14, 246, 1, 231, 4, 1, 9], [14, 250, 1, 238, 2, 1, 9], [14, 253, 0, 243, 1, 1, 0], [14, 256, 1, 245, 4, 1, 9], [14, 280, 1, 247, 1, 0, 9], [14, 272, 1, 248, 5, 1, 9], [14, 266, 1, 249, 3, 1, 9], [14, 290, 0, 251, 1, 1, 0], [14, 294, 1, 252, 2, 1, 9], [14, 297, 1, 253, 3, 0, 9], [14, 283, 1, 254, 4, 0, 9], [14, 287, 1, 255, 4, 0, 9], [14, 307, 1, 257, 2, 1, 9], [14, 324, 0, 261, 2, 1, 0], [14, 313, 1, 262, 3, 1, 9], [14, 316, 1, 264, 4, 0, 9], [14, 310, 1, 263, 4, 1, 9], [14, 320, 1, 265, 6, 1, 9], [14, 327, 1, 268, 3, 1, 9], [14, 330, 1, 273, 2, 0, 9], [14, 333, 1, 280, 2, 1, 9], [14, 336, 1, 281, 5, 1, 9], [14, 345, 1, 283, 2, 0, 9], [14, 340, 1, 284, 2, 0, 9], [15, 9, 2, 0, 1, 0, 0], [15, 12, 2, 175, 1, 0, 0], [15, 13, 1, 10, 6, 1, 8], [15, 17, 1, 185, 6, 1, 9], [15, 18, 1, 14, 2, 1, 8], [15, 22, 1, 186, 2, 1, 9], [15, 23, 1, 15, 2, 1, 8], [15, 26, 1, 187, 2, 1, 9], [15, 27, 1, 37, 2, 1, 8], [15, 30, 1, 198, 2, 1, 9], [15, 31, 1, 38, 2, 1, 8], [15, 34, 1, 199, 2, 1, 9], [15, 35, 1, 40, 3, 1, 8], [15, 39, 1, 217, 3, 1, 9], [15, 40, 1, 51, 3, 1, 8], [15, 43, 1, 200, 3, 1, 9], [15, 44, 1, 65, 3, 1, 8], [15, 47, 1, 218, 3, 1, 9], [15, 48, 1, 66, 3, 1, 8], [15, 51, 1, 219, 3, 1, 9], [15, 52, 1, 67, 4, 1, 8], [15, 56, 1, 220, 4, 1, 9], [15, 57, 1, 69, 3, 1, 8], [15, 60, 1, 222, 3, 1, 9], [15, 61, 1, 71, 3, 1, 8], [15, 64, 1, 223, 3, 1, 9], [15, 65, 1, 73, 3, 1, 8], [15, 68, 1, 226, 3, 1, 9], [15, 69, 1, 75, 2, 1, 8], [15, 72, 1, 227, 2, 1, 9], [15, 73, 1, 77, 3, 1, 8], [15, 76, 1, 228, 3, 1, 9], [15, 77, 1, 81, 4, 1, 8], [15, 80, 1, 230, 4, 1, 9], [15, 81, 1, 84, 4, 1, 8], [15, 84, 1, 232, 4, 1, 9], [15, 85, 1, 86, 4, 1, 8], [15, 88, 1, 233, 4, 1, 9], [15, 89, 1, 88, 3, 1, 8], [15, 92, 1, 239, 3, 1, 9], [15, 93, 1, 89, 3, 1, 8], [15, 96, 1, 235, 3, 1, 9], [15, 97, 1, 90, 4, 1, 8], [15, 100, 1, 236, 4, 1, 9], [15, 101, 1, 92, 2, 1, 8], [15, 104, 1, 237, 2, 1, 9], [15, 105, 1, 96, 4, 1, 8], [15, 108, 1, 234, 4, 1, 9], [15, 109, 1, 98, 2, 1, 8], [15, 112, 1, 240, 2, 1, 9], [15, 113, 1, 99, 2, 1, 8], [15, 116, 1, 241, 2, 1, 9], [15, 117, 1, 100, 2, 1, 8], [15, 120, 1, 242, 2, 1, 9], [15, 121, 1, 102, 3, 1, 8], [15, 124, 1, 244, 3, 1, 9], [15, 125, 1, 108, 4, 1, 8], [15, 128, 1, 246, 4, 1, 9], [15, 131, 1, 117, 3, 1, 8], [15, 135, 1, 250, 3, 1, 9], [15, 136, 1, 124, 2, 1, 8], [15, 139, 1, 258, 2, 1, 9], [15, 140, 1, 126, 4, 1, 8], [15, 143, 1, 259, 4, 1, 9], [15, 144, 1, 128, 3, 3, 8], [15, 148, 1, 256, 3, 3, 9], [15, 149, 1, 135, 5, 1, 8], [15, 153, 1, 260, 5, 1, 9], [15, 154, 1, 143, 4, 1, 8], [15, 157, 1, 266, 4, 1, 9], [15, 158, 1, 145, 4, 1, 8], [15, 161, 1, 267, 4, 1, 9], [15, 162, 1, 148, 2, 1, 8], [15, 165, 1, 269, 2, 1, 9], [15, 166, 1, 150, 4, 1, 8], [15, 169, 1, 270, 4, 1, 9], [15, 170, 1, 152, 2, 1, 8], [15, 173, 1, 271, 2, 1, 9], [15, 174, 1, 154, 3, 1, 8], [15, 177, 1, 272, 3, 1, 9], [15, 178, 1, 155, 4, 1, 8], [15, 181, 1, 274, 4, 1, 9], [15, 182, 1, 157, 2, 1, 8], [15, 185, 1, 275, 2, 1, 9], [15, 186, 1, 158, 3, 1, 8], [15, 189, 1, 276, 3, 1, 9], [15, 190, 1, 159, 3, 1, 8], [15, 193, 1, 277, 3, 1, 9], [15, 194, 1, 160, 3, 1, 8], [15, 197, 1, 278, 3, 1, 9], [15, 198, 1, 161, 3, 1, 8], [15, 201, 1, 279, 3, 1, 9], [15, 202, 1, 164, 2, 1, 8], [15, 205, 1, 177, 2, 1, 9], [15, 206, 1, 165, 1, 1, 8], [15, 210, 1, 176, 1, 1, 9], [15, 211, 1, 169, 3, 1, 8], [15, 214, 1, 282, 3, 1, 9], [15, 215, 1, 174, 2, 1, 8], [15, 218, 1, 285, 2, 1, 9]]
def ntL : List (Nat × Nat × Nat × Nat) := [(0, 9, 23, 0), (0, 9, 0, 7), (0, 20, 3, 4), (0, 27, 5, 6), (0, 34, 1, 2), (0, 43, 7, 5), (0, 50, 6, 3), (0, 57, 4, 2), (0, 64, 2, 5), (2, 9, 23, 0), (2, 9, 0, 7), (3, 9, 1, 2), (15, 7, 8, 9), (15, 10, 9, 29)]
def scL : List (Nat × Nat × Nat) := [(3, 54, 7), (3, 64, 9), (3, 70, 11), (3, 71, 10), (4, 38, 8), (4, 52, 2), (4, 57, 4), (4, 62, 3), (14, 162, 7), (14, 170, 9), (14, 172, 11), (14, 174, 10), (14, 343, 8), (14, 349, 2), (14, 351, 4), (14, 353, 3), (14, 355, 5), (14, 357, 6)]
def kcL : List (Nat × Nat × Nat) := [(11, 265, 1431655765), (11, 266, 858993459), (11, 267, 252645135), (11, 264, 65536), (0, 245, 50000), (7, 42, 1000000), (9, 33, 65536)]
def klL : List (Nat × Nat × Nat × Nat) := [(13, 314, 6148914691236517205, 0), (13, 316, 3689348814741910323, 0), (13, 318, 1085102592571150095, 0), (0, 267, 2, 1), (0, 269, 5, 1), (0, 271, 6, 1), (14, 58, 2, 0), (14, 224, 6, 0), (14, 229, 7, 0), (14, 276, 3, 0), (14, 278, 50000, 0), (14, 301, 2, 1), (14, 303, 5, 1), (14, 305, 6, 1), (15, 129, 4294967295, 0)]
def lenI (i : Instr) : Nat := match i with
  | .bipush _ => 2 | .sipush _ => 3 | .ldc _ => 2 | .ldc_w _ => 3 | .ldc2_w _ => 3
  | .iload _ => 2 | .aload _ => 2 | .lload _ => 2 | .istore _ => 2 | .astore _ => 2 | .lstore _ => 2
  | .iinc _ _ => 3 | .goto _ => 3 | .if_icmp _ _ => 3 | .ifCond _ _ => 3 | .ifnull _ => 3 | .ifnonnull _ => 3
  | .getfield _ => 3 | .putfield _ => 3 | .new _ => 3 | .newarray _ => 2 | .anewarray _ => 3
  | .invokestatic _ => 3 | .invokespecial _ => 3 | .invokevirtual _ => 3
  | _ => 1
/-- the switch's row of places out of its offsets -/
def swT (pc : Nat) (lo : Int) : List Int → List (Int × Nat)
  | [] => []
  | o :: l => (lo, ((pc : Int) + o).toNat) :: swT pc (lo + 1) l
def finI (ci j : Nat) : Bool := match cls0[ci]? with
  | some q => (q.2.1 j).2.2.2
  | none => false
def chkI (q : MR) (pc : Nat) (e : EN) : Bool := match e with
  | (i, len, r1, r2, r3, r4, sw) => match i with
    | .tableswitch d lo hi offs => decide ((pc : Int) + d = r1) && decide (hi = lo + offs.size - 1) && decide (sw = swT pc lo offs.toList) && offs.toList.all (fun o => decide (0 ≤ (pc : Int) + o))
    | .lookupswitch d ps => decide ((pc : Int) + d = r1) && decide (sw = ps.toList.map (fun x => (x.1, ((pc : Int) + x.2).toNat))) && ps.toList.all (fun x => decide (0 ≤ (pc : Int) + x.2)) && (ps.toList.zip (ps.toList.drop 1)).all (fun (a, next) => a.1 < next.1)
    | .goto o => Nat.beq len 3 && decide ((pc : Int) + o = r1)
    | .if_icmp _ o => Nat.beq len 3 && decide ((pc : Int) + o = r1)
    | .ifCond _ o => Nat.beq len 3 && decide ((pc : Int) + o = r1)
    | .ifnull o => Nat.beq len 3 && decide ((pc : Int) + o = r1)
    | .ifnonnull o => Nat.beq len 3 && decide ((pc : Int) + o = r1)
    | .bipush v => Nat.beq len 2 && decide ((Int8.ofInt v).toInt32 = Int32.ofInt v)
    | .sipush v => Nat.beq len 3 && decide ((Int16.ofInt v).toInt32 = Int32.ofInt v)
    | .getfield x => Nat.beq len 3 && (match sw with
      | [(_, p)] => decide (ftL[p]? = some (q.1, x, r1, r2, r3))
      | _ => false)
    | .putfield x => Nat.beq len 3 && (match sw with
      | [(_, p)] => decide (ftL[p]? = some (q.1, x, r1, r2, r3))
      | _ => false) && (!(finI r1 r2) || decide (q.2.1.name = "<init>"))
    | .new x => Nat.beq len 3 && (match sw with
      | [(_, p)] => decide (ntL[p]? = some (q.1, x, r1, r2))
      | _ => false)
    | .anewarray x => Nat.beq len 3 && (match sw with
      | [(_, p)] => decide (ntL[p]? = some (q.1, x, 23, r2))
      | _ => false) && Nat.beq r1 23
    | .newarray t => Nat.beq len 2 && (match t with
      | .int => Nat.beq r1 20
      | .byte => Nat.beq r1 21
      | .boolean => Nat.beq r1 22
      | _ => false)
    | .iaload => Nat.beq len 1 && (Nat.beq r1 20 || Nat.beq r1 40)
    | .iastore => Nat.beq len 1 && Nat.beq r1 20
    | .arraylength => Nat.beq len 1 && (Nat.beq r1 20 || Nat.beq r1 40 || Nat.beq r1 21)
    | .baload => Nat.beq len 1 && (Nat.beq r1 21 || Nat.beq r1 22)
    | .bastore => Nat.beq len 1 && (Nat.beq r1 21 || Nat.beq r1 22)
    | .aaload => Nat.beq len 1 && Nat.beq r1 23
    | .aastore => Nat.beq len 1 && Nat.beq r1 23 && Nat.beq r2 0
    | .invokestatic x => Nat.beq len 3 && (match sw with
      | [(_, p)] => decide (mtL[p]? = some [q.1, x, 0, r1, r2, r3, r4])
      | _ => false)
    | .invokevirtual x => Nat.beq len 3 && (match sw with
      | [(_, p)] => decide (mtL[p]? = some [q.1, x, 1, r1, r2, r3, r4])
      | _ => false)
    | .invokespecial x => Nat.beq len 3 && (match sw with
      | [(_, p)] => decide (mtL[p]? = some [q.1, x, 2, r1, r2, r3, r4])
      | _ => false)
    | .ldc x => Nat.beq len 2 && (match sw with
      | [(2, p)] => Nat.beq r2 2 && decide (scL[p]? = some (q.1, x, r1))
      | [(0, p)] => Nat.beq r2 0 && decide (kcL[p]? = some (q.1, x, r1))
      | _ => false)
    | .ldc_w x => Nat.beq len 3 && (match sw with
      | [(2, p)] => Nat.beq r2 2 && decide (scL[p]? = some (q.1, x, r1))
      | [(0, p)] => Nat.beq r2 0 && decide (kcL[p]? = some (q.1, x, r1))
      | _ => false)
    | .ldc2_w x => Nat.beq len 3 && (match sw with
      | [(_, p)] => decide (klL[p]? = some (q.1, x, r1, r2))
      | _ => false)
    | .ireturn => Nat.beq len 1 && (match q.2.2.2.2.1 with
      | some .int => Nat.beq r1 0
      | some .boolean => Nat.beq r1 1
      | _ => false)
    | .areturn => Nat.beq len 1 && (match q.2.2.2.2.1 with
      | some (.object _) => true
      | _ => false)
    | .lreturn => Nat.beq len 1 && (match q.2.2.2.2.1 with
      | some .long => true
      | _ => false)
    | .return_ => Nat.beq len 1 && (match q.2.2.2.2.1 with
      | none => true
      | _ => false)
    | i => Nat.beq len (lenI i)
def chkE (q : MR) (x : Nat × EN) : Bool := decide (decode q.2.2.1 x.1 = .ok (x.2.1, x.2.2.1)) && chkI q x.1 x.2
def chkM (q : MR) : Bool := q.2.2.2.2.2.all (fun l => l.all (chkE q)) && decide (ownL[q.1]? = some q.2.1.cls)
end
section
set_option maxRecDepth 100000 in
theorem cm_0 : chkM pm_0 = true := by decide +kernel
set_option maxRecDepth 100000 in
theorem cm_1 : chkM pm_1 = true := by decide +kernel
set_option maxRecDepth 100000 in
theorem cm_2 : chkM pm_2 = true := by decide +kernel
set_option maxRecDepth 100000 in
theorem cm_3 : chkM pm_3 = true := by decide +kernel
set_option maxRecDepth 100000 in
theorem cm_4 : chkM pm_4 = true := by decide +kernel
set_option maxRecDepth 100000 in
theorem cm_5 : chkM pm_5 = true := by decide +kernel
set_option maxRecDepth 100000 in
theorem cm_6 : chkM pm_6 = true := by decide +kernel
set_option maxRecDepth 100000 in
theorem cm_7 : chkM pm_7 = true := by decide +kernel
set_option maxRecDepth 100000 in
theorem cm_8 : chkM pm_8 = true := by decide +kernel
set_option maxRecDepth 100000 in
theorem cm_9 : chkM pm_9 = true := by decide +kernel
set_option maxRecDepth 100000 in
theorem cm_10 : chkM pm_10 = true := by decide +kernel
set_option maxRecDepth 100000 in
theorem cm_11 : chkM pm_11 = true := by decide +kernel
set_option maxRecDepth 100000 in
theorem cm_12 : chkM pm_12 = true := by decide +kernel
set_option maxRecDepth 100000 in
theorem cm_13 : chkM pm_13 = true := by decide +kernel
set_option maxRecDepth 100000 in
theorem cm_14 : chkM pm_14 = true := by decide +kernel
set_option maxRecDepth 100000 in
theorem cm_15 : chkM pm_15 = true := by decide +kernel
set_option maxRecDepth 100000 in
theorem cm_16 : chkM pm_16 = true := by decide +kernel
set_option maxRecDepth 100000 in
theorem cm_17 : chkM pm_17 = true := by decide +kernel
set_option maxRecDepth 100000 in
theorem cm_18 : chkM pm_18 = true := by decide +kernel
set_option maxRecDepth 100000 in
theorem cm_19 : chkM pm_19 = true := by decide +kernel
set_option maxRecDepth 100000 in
theorem cm_20 : chkM pm_20 = true := by decide +kernel
set_option maxRecDepth 100000 in
theorem cm_21 : chkM pm_21 = true := by decide +kernel
set_option maxRecDepth 100000 in
theorem cm_22 : chkM pm_22 = true := by decide +kernel
set_option maxRecDepth 100000 in
theorem cm_23 : chkM pm_23 = true := by decide +kernel
set_option maxRecDepth 100000 in
theorem cm_24 : chkM pm_24 = true := by decide +kernel
set_option maxRecDepth 100000 in
theorem cm_25 : chkM pm_25 = true := by decide +kernel
set_option maxRecDepth 100000 in
theorem cm_26 : chkM pm_26 = true := by decide +kernel
set_option maxRecDepth 100000 in
theorem cm_27 : chkM pm_27 = true := by decide +kernel
set_option maxRecDepth 100000 in
theorem cm_28 : chkM pm_28 = true := by decide +kernel
set_option maxRecDepth 100000 in
theorem cm_29 : chkM pm_29 = true := by decide +kernel
set_option maxRecDepth 100000 in
theorem cm_30 : chkM pm_30 = true := by decide +kernel
set_option maxRecDepth 100000 in
theorem cm_31 : chkM pm_31 = true := by decide +kernel
set_option maxRecDepth 100000 in
theorem cm_32 : chkM pm_32 = true := by decide +kernel
set_option maxRecDepth 100000 in
theorem cm_33 : chkM pm_33 = true := by decide +kernel
set_option maxRecDepth 100000 in
theorem cm_34 : chkM pm_34 = true := by decide +kernel
set_option maxRecDepth 100000 in
theorem cm_35 : chkM pm_35 = true := by decide +kernel
set_option maxRecDepth 100000 in
theorem cm_36 : chkM pm_36 = true := by decide +kernel
set_option maxRecDepth 100000 in
theorem cm_37 : chkM pm_37 = true := by decide +kernel
set_option maxRecDepth 100000 in
theorem cm_38 : chkM pm_38 = true := by decide +kernel
set_option maxRecDepth 100000 in
theorem cm_39 : chkM pm_39 = true := by decide +kernel
set_option maxRecDepth 100000 in
theorem cm_40 : chkM pm_40 = true := by decide +kernel
set_option maxRecDepth 100000 in
theorem cm_41 : chkM pm_41 = true := by decide +kernel
set_option maxRecDepth 100000 in
theorem cm_42 : chkM pm_42 = true := by decide +kernel
set_option maxRecDepth 100000 in
theorem cm_43 : chkM pm_43 = true := by decide +kernel
set_option maxRecDepth 100000 in
theorem cm_44 : chkM pm_44 = true := by decide +kernel
set_option maxRecDepth 100000 in
theorem cm_45 : chkM pm_45 = true := by decide +kernel
set_option maxRecDepth 100000 in
theorem cm_46 : chkM pm_46 = true := by decide +kernel
set_option maxRecDepth 100000 in
theorem cm_47 : chkM pm_47 = true := by decide +kernel
set_option maxRecDepth 100000 in
theorem cm_48 : chkM pm_48 = true := by decide +kernel
set_option maxRecDepth 100000 in
theorem cm_49 : chkM pm_49 = true := by decide +kernel
set_option maxRecDepth 100000 in
theorem cm_50 : chkM pm_50 = true := by decide +kernel
set_option maxRecDepth 100000 in
theorem cm_51 : chkM pm_51 = true := by decide +kernel
set_option maxRecDepth 100000 in
theorem cm_52 : chkM pm_52 = true := by decide +kernel
set_option maxRecDepth 100000 in
theorem cm_53 : chkM pm_53 = true := by decide +kernel
set_option maxRecDepth 100000 in
theorem cm_54 : chkM pm_54 = true := by decide +kernel
set_option maxRecDepth 100000 in
theorem cm_55 : chkM pm_55 = true := by decide +kernel
set_option maxRecDepth 100000 in
theorem cm_56 : chkM pm_56 = true := by decide +kernel
set_option maxRecDepth 100000 in
theorem cm_57 : chkM pm_57 = true := by decide +kernel
set_option maxRecDepth 100000 in
theorem cm_58 : chkM pm_58 = true := by decide +kernel
set_option maxRecDepth 100000 in
theorem cm_59 : chkM pm_59 = true := by decide +kernel
set_option maxRecDepth 100000 in
theorem cm_60 : chkM pm_60 = true := by decide +kernel
set_option maxRecDepth 100000 in
theorem cm_61 : chkM pm_61 = true := by decide +kernel
set_option maxRecDepth 100000 in
theorem cm_62 : chkM pm_62 = true := by decide +kernel
set_option maxRecDepth 100000 in
theorem cm_63 : chkM pm_63 = true := by decide +kernel
set_option maxRecDepth 100000 in
theorem cm_64 : chkM pm_64 = true := by decide +kernel
set_option maxRecDepth 100000 in
theorem cm_65 : chkM pm_65 = true := by decide +kernel
set_option maxRecDepth 100000 in
theorem cm_66 : chkM pm_66 = true := by decide +kernel
set_option maxRecDepth 100000 in
theorem cm_67 : chkM pm_67 = true := by decide +kernel
set_option maxRecDepth 100000 in
theorem cm_68 : chkM pm_68 = true := by decide +kernel
set_option maxRecDepth 100000 in
theorem cm_69 : chkM pm_69 = true := by decide +kernel
set_option maxRecDepth 100000 in
theorem cm_70 : chkM pm_70 = true := by decide +kernel
set_option maxRecDepth 100000 in
theorem cm_71 : chkM pm_71 = true := by decide +kernel
set_option maxRecDepth 100000 in
theorem cm_72 : chkM pm_72 = true := by decide +kernel
set_option maxRecDepth 100000 in
theorem cm_73 : chkM pm_73 = true := by decide +kernel
set_option maxRecDepth 100000 in
theorem cm_74 : chkM pm_74 = true := by decide +kernel
set_option maxRecDepth 100000 in
theorem cm_75 : chkM pm_75 = true := by decide +kernel
set_option maxRecDepth 100000 in
theorem cm_76 : chkM pm_76 = true := by decide +kernel
set_option maxRecDepth 100000 in
theorem cm_77 : chkM pm_77 = true := by decide +kernel
set_option maxRecDepth 100000 in
theorem cm_78 : chkM pm_78 = true := by decide +kernel
set_option maxRecDepth 100000 in
theorem cm_79 : chkM pm_79 = true := by decide +kernel
set_option maxRecDepth 100000 in
theorem cm_80 : chkM pm_80 = true := by decide +kernel
set_option maxRecDepth 100000 in
theorem cm_81 : chkM pm_81 = true := by decide +kernel
set_option maxRecDepth 100000 in
theorem cm_82 : chkM pm_82 = true := by decide +kernel
set_option maxRecDepth 100000 in
theorem cm_83 : chkM pm_83 = true := by decide +kernel
set_option maxRecDepth 100000 in
theorem cm_84 : chkM pm_84 = true := by decide +kernel
set_option maxRecDepth 100000 in
theorem cm_85 : chkM pm_85 = true := by decide +kernel
set_option maxRecDepth 100000 in
theorem cm_86 : chkM pm_86 = true := by decide +kernel
set_option maxRecDepth 100000 in
theorem cm_87 : chkM pm_87 = true := by decide +kernel
set_option maxRecDepth 100000 in
theorem cm_88 : chkM pm_88 = true := by decide +kernel
set_option maxRecDepth 100000 in
theorem cm_89 : chkM pm_89 = true := by decide +kernel
set_option maxRecDepth 100000 in
theorem cm_90 : chkM pm_90 = true := by decide +kernel
set_option maxRecDepth 100000 in
theorem cm_91 : chkM pm_91 = true := by decide +kernel
set_option maxRecDepth 100000 in
theorem cm_92 : chkM pm_92 = true := by decide +kernel
set_option maxRecDepth 100000 in
theorem cm_93 : chkM pm_93 = true := by decide +kernel
set_option maxRecDepth 100000 in
theorem cm_94 : chkM pm_94 = true := by decide +kernel
set_option maxRecDepth 100000 in
theorem cm_95 : chkM pm_95 = true := by decide +kernel
set_option maxRecDepth 100000 in
theorem cm_96 : chkM pm_96 = true := by decide +kernel
set_option maxRecDepth 100000 in
theorem cm_97 : chkM pm_97 = true := by decide +kernel
set_option maxRecDepth 100000 in
theorem cm_98 : chkM pm_98 = true := by decide +kernel
set_option maxRecDepth 100000 in
theorem cm_99 : chkM pm_99 = true := by decide +kernel
end
section
set_option maxRecDepth 100000 in
theorem cm_100 : chkM pm_100 = true := by decide +kernel
set_option maxRecDepth 100000 in
theorem cm_101 : chkM pm_101 = true := by decide +kernel
set_option maxRecDepth 100000 in
theorem cm_102 : chkM pm_102 = true := by decide +kernel
set_option maxRecDepth 100000 in
theorem cm_103 : chkM pm_103 = true := by decide +kernel
set_option maxRecDepth 100000 in
theorem cm_104 : chkM pm_104 = true := by decide +kernel
set_option maxRecDepth 100000 in
theorem cm_105 : chkM pm_105 = true := by decide +kernel
set_option maxRecDepth 100000 in
theorem cm_106 : chkM pm_106 = true := by decide +kernel
set_option maxRecDepth 100000 in
theorem cm_107 : chkM pm_107 = true := by decide +kernel
set_option maxRecDepth 100000 in
theorem cm_108 : chkM pm_108 = true := by decide +kernel
set_option maxRecDepth 100000 in
theorem cm_109 : chkM pm_109 = true := by decide +kernel
set_option maxRecDepth 100000 in
theorem cm_110 : chkM pm_110 = true := by decide +kernel
set_option maxRecDepth 100000 in
theorem cm_111 : chkM pm_111 = true := by decide +kernel
set_option maxRecDepth 100000 in
theorem cm_112 : chkM pm_112 = true := by decide +kernel
set_option maxRecDepth 100000 in
theorem cm_113 : chkM pm_113 = true := by decide +kernel
set_option maxRecDepth 100000 in
theorem cm_114 : chkM pm_114 = true := by decide +kernel
set_option maxRecDepth 100000 in
theorem cm_115 : chkM pm_115 = true := by decide +kernel
set_option maxRecDepth 100000 in
theorem cm_116 : chkM pm_116 = true := by decide +kernel
set_option maxRecDepth 100000 in
theorem cm_117 : chkM pm_117 = true := by decide +kernel
set_option maxRecDepth 100000 in
theorem cm_118 : chkM pm_118 = true := by decide +kernel
set_option maxRecDepth 100000 in
theorem cm_119 : chkM pm_119 = true := by decide +kernel
set_option maxRecDepth 100000 in
theorem cm_120 : chkM pm_120 = true := by decide +kernel
set_option maxRecDepth 100000 in
theorem cm_121 : chkM pm_121 = true := by decide +kernel
set_option maxRecDepth 100000 in
theorem cm_122 : chkM pm_122 = true := by decide +kernel
set_option maxRecDepth 100000 in
theorem cm_123 : chkM pm_123 = true := by decide +kernel
set_option maxRecDepth 100000 in
theorem cm_124 : chkM pm_124 = true := by decide +kernel
set_option maxRecDepth 100000 in
theorem cm_125 : chkM pm_125 = true := by decide +kernel
set_option maxRecDepth 100000 in
theorem cm_126 : chkM pm_126 = true := by decide +kernel
set_option maxRecDepth 100000 in
theorem cm_127 : chkM pm_127 = true := by decide +kernel
set_option maxRecDepth 100000 in
theorem cm_128 : chkM pm_128 = true := by decide +kernel
set_option maxRecDepth 100000 in
theorem cm_129 : chkM pm_129 = true := by decide +kernel
set_option maxRecDepth 100000 in
theorem cm_130 : chkM pm_130 = true := by decide +kernel
set_option maxRecDepth 100000 in
theorem cm_131 : chkM pm_131 = true := by decide +kernel
set_option maxRecDepth 100000 in
theorem cm_132 : chkM pm_132 = true := by decide +kernel
set_option maxRecDepth 100000 in
theorem cm_133 : chkM pm_133 = true := by decide +kernel
set_option maxRecDepth 100000 in
theorem cm_134 : chkM pm_134 = true := by decide +kernel
set_option maxRecDepth 100000 in
theorem cm_135 : chkM pm_135 = true := by decide +kernel
set_option maxRecDepth 100000 in
theorem cm_136 : chkM pm_136 = true := by decide +kernel
set_option maxRecDepth 100000 in
theorem cm_137 : chkM pm_137 = true := by decide +kernel
set_option maxRecDepth 100000 in
theorem cm_138 : chkM pm_138 = true := by decide +kernel
set_option maxRecDepth 100000 in
theorem cm_139 : chkM pm_139 = true := by decide +kernel
set_option maxRecDepth 100000 in
theorem cm_140 : chkM pm_140 = true := by decide +kernel
set_option maxRecDepth 100000 in
theorem cm_141 : chkM pm_141 = true := by decide +kernel
set_option maxRecDepth 100000 in
theorem cm_142 : chkM pm_142 = true := by decide +kernel
set_option maxRecDepth 100000 in
theorem cm_143 : chkM pm_143 = true := by decide +kernel
set_option maxRecDepth 100000 in
theorem cm_144 : chkM pm_144 = true := by decide +kernel
set_option maxRecDepth 100000 in
theorem cm_145 : chkM pm_145 = true := by decide +kernel
set_option maxRecDepth 100000 in
theorem cm_146 : chkM pm_146 = true := by decide +kernel
set_option maxRecDepth 100000 in
theorem cm_147 : chkM pm_147 = true := by decide +kernel
set_option maxRecDepth 100000 in
theorem cm_148 : chkM pm_148 = true := by decide +kernel
set_option maxRecDepth 100000 in
theorem cm_149 : chkM pm_149 = true := by decide +kernel
set_option maxRecDepth 100000 in
theorem cm_150 : chkM pm_150 = true := by decide +kernel
set_option maxRecDepth 100000 in
theorem cm_151 : chkM pm_151 = true := by decide +kernel
set_option maxRecDepth 100000 in
theorem cm_152 : chkM pm_152 = true := by decide +kernel
set_option maxRecDepth 100000 in
theorem cm_153 : chkM pm_153 = true := by decide +kernel
set_option maxRecDepth 100000 in
theorem cm_154 : chkM pm_154 = true := by decide +kernel
set_option maxRecDepth 100000 in
theorem cm_155 : chkM pm_155 = true := by decide +kernel
set_option maxRecDepth 100000 in
theorem cm_156 : chkM pm_156 = true := by decide +kernel
set_option maxRecDepth 100000 in
theorem cm_157 : chkM pm_157 = true := by decide +kernel
set_option maxRecDepth 100000 in
theorem cm_158 : chkM pm_158 = true := by decide +kernel
set_option maxRecDepth 100000 in
theorem cm_159 : chkM pm_159 = true := by decide +kernel
set_option maxRecDepth 100000 in
theorem cm_160 : chkM pm_160 = true := by decide +kernel
set_option maxRecDepth 100000 in
theorem cm_161 : chkM pm_161 = true := by decide +kernel
set_option maxRecDepth 100000 in
theorem cm_162 : chkM pm_162 = true := by decide +kernel
set_option maxRecDepth 100000 in
theorem cm_163 : chkM pm_163 = true := by decide +kernel
set_option maxRecDepth 100000 in
theorem cm_164 : chkM pm_164 = true := by decide +kernel
set_option maxRecDepth 100000 in
theorem cm_165 : chkM pm_165 = true := by decide +kernel
set_option maxRecDepth 100000 in
theorem cm_166 : chkM pm_166 = true := by decide +kernel
set_option maxRecDepth 100000 in
theorem cm_167 : chkM pm_167 = true := by decide +kernel
set_option maxRecDepth 100000 in
theorem cm_168 : chkM pm_168 = true := by decide +kernel
end
section
set_option maxRecDepth 100000 in
theorem cm_169 : chkM pm_169 = true := by decide +kernel
set_option maxRecDepth 100000 in
theorem cm_170 : chkM pm_170 = true := by decide +kernel
set_option maxRecDepth 100000 in
theorem cm_171 : chkM pm_171 = true := by decide +kernel
set_option maxRecDepth 100000 in
theorem cm_172 : chkM pm_172 = true := by decide +kernel
set_option maxRecDepth 100000 in
theorem cm_173 : chkM pm_173 = true := by decide +kernel
set_option maxRecDepth 100000 in
theorem cm_174 : chkM pm_174 = true := by decide +kernel
set_option maxRecDepth 100000 in
theorem cm_175 : chkM pm_175 = true := by decide +kernel
set_option maxRecDepth 100000 in
theorem cm_176 : chkM pm_176 = true := by decide +kernel
set_option maxRecDepth 100000 in
theorem cm_177 : chkM pm_177 = true := by decide +kernel
set_option maxRecDepth 100000 in
theorem cm_178 : chkM pm_178 = true := by decide +kernel
set_option maxRecDepth 100000 in
theorem cm_179 : chkM pm_179 = true := by decide +kernel
set_option maxRecDepth 100000 in
theorem cm_180 : chkM pm_180 = true := by decide +kernel
set_option maxRecDepth 100000 in
theorem cm_181 : chkM pm_181 = true := by decide +kernel
set_option maxRecDepth 100000 in
theorem cm_182 : chkM pm_182 = true := by decide +kernel
set_option maxRecDepth 100000 in
theorem cm_183 : chkM pm_183 = true := by decide +kernel
set_option maxRecDepth 100000 in
theorem cm_184 : chkM pm_184 = true := by decide +kernel
set_option maxRecDepth 100000 in
theorem cm_185 : chkM pm_185 = true := by decide +kernel
set_option maxRecDepth 100000 in
theorem cm_186 : chkM pm_186 = true := by decide +kernel
set_option maxRecDepth 100000 in
theorem cm_187 : chkM pm_187 = true := by decide +kernel
set_option maxRecDepth 100000 in
theorem cm_188 : chkM pm_188 = true := by decide +kernel
set_option maxRecDepth 100000 in
theorem cm_189 : chkM pm_189 = true := by decide +kernel
set_option maxRecDepth 100000 in
theorem cm_190 : chkM pm_190 = true := by decide +kernel
set_option maxRecDepth 100000 in
theorem cm_191 : chkM pm_191 = true := by decide +kernel
set_option maxRecDepth 100000 in
theorem cm_192 : chkM pm_192 = true := by decide +kernel
set_option maxRecDepth 100000 in
theorem cm_193 : chkM pm_193 = true := by decide +kernel
set_option maxRecDepth 100000 in
theorem cm_194 : chkM pm_194 = true := by decide +kernel
set_option maxRecDepth 100000 in
theorem cm_195 : chkM pm_195 = true := by decide +kernel
set_option maxRecDepth 100000 in
theorem cm_196 : chkM pm_196 = true := by decide +kernel
set_option maxRecDepth 100000 in
theorem cm_197 : chkM pm_197 = true := by decide +kernel
set_option maxRecDepth 100000 in
theorem cm_198 : chkM pm_198 = true := by decide +kernel
set_option maxRecDepth 100000 in
theorem cm_199 : chkM pm_199 = true := by decide +kernel
set_option maxRecDepth 100000 in
theorem cm_200 : chkM pm_200 = true := by decide +kernel
set_option maxRecDepth 100000 in
theorem cm_201 : chkM pm_201 = true := by decide +kernel
set_option maxRecDepth 100000 in
theorem cm_202 : chkM pm_202 = true := by decide +kernel
set_option maxRecDepth 100000 in
theorem cm_203 : chkM pm_203 = true := by decide +kernel
set_option maxRecDepth 100000 in
theorem cm_204 : chkM pm_204 = true := by decide +kernel
set_option maxRecDepth 100000 in
theorem cm_205 : chkM pm_205 = true := by decide +kernel
set_option maxRecDepth 100000 in
theorem cm_206 : chkM pm_206 = true := by decide +kernel
set_option maxRecDepth 100000 in
theorem cm_207 : chkM pm_207 = true := by decide +kernel
set_option maxRecDepth 100000 in
theorem cm_208 : chkM pm_208 = true := by decide +kernel
set_option maxRecDepth 100000 in
theorem cm_209 : chkM pm_209 = true := by decide +kernel
set_option maxRecDepth 100000 in
theorem cm_210 : chkM pm_210 = true := by decide +kernel
set_option maxRecDepth 100000 in
theorem cm_211 : chkM pm_211 = true := by decide +kernel
set_option maxRecDepth 100000 in
theorem cm_212 : chkM pm_212 = true := by decide +kernel
set_option maxRecDepth 100000 in
theorem cm_213 : chkM pm_213 = true := by decide +kernel
set_option maxRecDepth 100000 in
theorem cm_214 : chkM pm_214 = true := by decide +kernel
set_option maxRecDepth 100000 in
theorem cm_215 : chkM pm_215 = true := by decide +kernel
set_option maxRecDepth 100000 in
theorem cm_216 : chkM pm_216 = true := by decide +kernel
set_option maxRecDepth 100000 in
theorem cm_217 : chkM pm_217 = true := by decide +kernel
set_option maxRecDepth 100000 in
theorem cm_218 : chkM pm_218 = true := by decide +kernel
set_option maxRecDepth 100000 in
theorem cm_219 : chkM pm_219 = true := by decide +kernel
set_option maxRecDepth 100000 in
theorem cm_220 : chkM pm_220 = true := by decide +kernel
set_option maxRecDepth 100000 in
theorem cm_221 : chkM pm_221 = true := by decide +kernel
set_option maxRecDepth 100000 in
theorem cm_222 : chkM pm_222 = true := by decide +kernel
set_option maxRecDepth 100000 in
theorem cm_223 : chkM pm_223 = true := by decide +kernel
set_option maxRecDepth 100000 in
theorem cm_224 : chkM pm_224 = true := by decide +kernel
set_option maxRecDepth 100000 in
theorem cm_225 : chkM pm_225 = true := by decide +kernel
set_option maxRecDepth 100000 in
theorem cm_226 : chkM pm_226 = true := by decide +kernel
set_option maxRecDepth 100000 in
theorem cm_227 : chkM pm_227 = true := by decide +kernel
set_option maxRecDepth 100000 in
theorem cm_228 : chkM pm_228 = true := by decide +kernel
set_option maxRecDepth 100000 in
theorem cm_229 : chkM pm_229 = true := by decide +kernel
set_option maxRecDepth 100000 in
theorem cm_230 : chkM pm_230 = true := by decide +kernel
set_option maxRecDepth 100000 in
theorem cm_231 : chkM pm_231 = true := by decide +kernel
set_option maxRecDepth 100000 in
theorem cm_232 : chkM pm_232 = true := by decide +kernel
set_option maxRecDepth 100000 in
theorem cm_233 : chkM pm_233 = true := by decide +kernel
set_option maxRecDepth 100000 in
theorem cm_234 : chkM pm_234 = true := by decide +kernel
set_option maxRecDepth 100000 in
theorem cm_235 : chkM pm_235 = true := by decide +kernel
set_option maxRecDepth 100000 in
theorem cm_236 : chkM pm_236 = true := by decide +kernel
set_option maxRecDepth 100000 in
theorem cm_237 : chkM pm_237 = true := by decide +kernel
set_option maxRecDepth 100000 in
theorem cm_238 : chkM pm_238 = true := by decide +kernel
set_option maxRecDepth 100000 in
theorem cm_239 : chkM pm_239 = true := by decide +kernel
end
section
set_option maxRecDepth 100000 in
theorem cm_240 : chkM pm_240 = true := by decide +kernel
set_option maxRecDepth 100000 in
theorem cm_241 : chkM pm_241 = true := by decide +kernel
set_option maxRecDepth 100000 in
theorem cm_242 : chkM pm_242 = true := by decide +kernel
set_option maxRecDepth 100000 in
theorem cm_243 : chkM pm_243 = true := by decide +kernel
set_option maxRecDepth 100000 in
theorem cm_244 : chkM pm_244 = true := by decide +kernel
set_option maxRecDepth 100000 in
theorem cm_245 : chkM pm_245 = true := by decide +kernel
set_option maxRecDepth 100000 in
theorem cm_246 : chkM pm_246 = true := by decide +kernel
set_option maxRecDepth 100000 in
theorem cm_247 : chkM pm_247 = true := by decide +kernel
set_option maxRecDepth 100000 in
theorem cm_248 : chkM pm_248 = true := by decide +kernel
set_option maxRecDepth 100000 in
theorem cm_249 : chkM pm_249 = true := by decide +kernel
set_option maxRecDepth 100000 in
theorem cm_250 : chkM pm_250 = true := by decide +kernel
set_option maxRecDepth 100000 in
theorem cm_251 : chkM pm_251 = true := by decide +kernel
set_option maxRecDepth 100000 in
theorem cm_252 : chkM pm_252 = true := by decide +kernel
set_option maxRecDepth 100000 in
theorem cm_253 : chkM pm_253 = true := by decide +kernel
set_option maxRecDepth 100000 in
theorem cm_254 : chkM pm_254 = true := by decide +kernel
set_option maxRecDepth 100000 in
theorem cm_255 : chkM pm_255 = true := by decide +kernel
set_option maxRecDepth 100000 in
theorem cm_256 : chkM pm_256 = true := by decide +kernel
set_option maxRecDepth 100000 in
theorem cm_257 : chkM pm_257 = true := by decide +kernel
set_option maxRecDepth 100000 in
theorem cm_258 : chkM pm_258 = true := by decide +kernel
set_option maxRecDepth 100000 in
theorem cm_259 : chkM pm_259 = true := by decide +kernel
set_option maxRecDepth 100000 in
theorem cm_260 : chkM pm_260 = true := by decide +kernel
set_option maxRecDepth 100000 in
theorem cm_261 : chkM pm_261 = true := by decide +kernel
set_option maxRecDepth 100000 in
theorem cm_262 : chkM pm_262 = true := by decide +kernel
set_option maxRecDepth 100000 in
theorem cm_263 : chkM pm_263 = true := by decide +kernel
set_option maxRecDepth 100000 in
theorem cm_264 : chkM pm_264 = true := by decide +kernel
set_option maxRecDepth 100000 in
theorem cm_265 : chkM pm_265 = true := by decide +kernel
set_option maxRecDepth 100000 in
theorem cm_266 : chkM pm_266 = true := by decide +kernel
set_option maxRecDepth 100000 in
theorem cm_267 : chkM pm_267 = true := by decide +kernel
set_option maxRecDepth 100000 in
theorem cm_268 : chkM pm_268 = true := by decide +kernel
set_option maxRecDepth 100000 in
theorem cm_269 : chkM pm_269 = true := by decide +kernel
set_option maxRecDepth 100000 in
theorem cm_270 : chkM pm_270 = true := by decide +kernel
set_option maxRecDepth 100000 in
theorem cm_271 : chkM pm_271 = true := by decide +kernel
set_option maxRecDepth 100000 in
theorem cm_272 : chkM pm_272 = true := by decide +kernel
set_option maxRecDepth 100000 in
theorem cm_273 : chkM pm_273 = true := by decide +kernel
set_option maxRecDepth 100000 in
theorem cm_274 : chkM pm_274 = true := by decide +kernel
set_option maxRecDepth 100000 in
theorem cm_275 : chkM pm_275 = true := by decide +kernel
set_option maxRecDepth 100000 in
theorem cm_276 : chkM pm_276 = true := by decide +kernel
set_option maxRecDepth 100000 in
theorem cm_277 : chkM pm_277 = true := by decide +kernel
set_option maxRecDepth 100000 in
theorem cm_278 : chkM pm_278 = true := by decide +kernel
set_option maxRecDepth 100000 in
theorem cm_279 : chkM pm_279 = true := by decide +kernel
set_option maxRecDepth 100000 in
theorem cm_280 : chkM pm_280 = true := by decide +kernel
set_option maxRecDepth 100000 in
theorem cm_281 : chkM pm_281 = true := by decide +kernel
set_option maxRecDepth 100000 in
theorem cm_282 : chkM pm_282 = true := by decide +kernel
set_option maxRecDepth 100000 in
theorem cm_283 : chkM pm_283 = true := by decide +kernel
set_option maxRecDepth 100000 in
theorem cm_284 : chkM pm_284 = true := by decide +kernel
set_option maxRecDepth 100000 in
theorem cm_285 : chkM pm_285 = true := by decide +kernel
end
section
set_option maxRecDepth 100000 in
theorem cl_0 : pgC_0.all (chkE pm_286) = true := by decide +kernel
set_option maxRecDepth 100000 in
theorem cl_1 : pgC_1.all (chkE pm_286) = true := by decide +kernel
set_option maxRecDepth 100000 in
theorem cl_2 : pgC_2.all (chkE pm_286) = true := by decide +kernel
set_option maxRecDepth 100000 in
theorem cl_3 : pgC_3.all (chkE pm_286) = true := by decide +kernel
set_option maxRecDepth 100000 in
theorem cl_4 : pgC_4.all (chkE pm_286) = true := by decide +kernel
set_option maxRecDepth 100000 in
theorem cl_5 : pgC_5.all (chkE pm_286) = true := by decide +kernel
set_option maxRecDepth 100000 in
theorem cl_6 : pgC_6.all (chkE pm_286) = true := by decide +kernel
set_option maxRecDepth 100000 in
theorem cl_7 : pgC_7.all (chkE pm_286) = true := by decide +kernel
set_option maxRecDepth 100000 in
theorem cl_8 : pgC_8.all (chkE pm_286) = true := by decide +kernel
set_option maxRecDepth 100000 in
theorem cl_9 : pgC_9.all (chkE pm_286) = true := by decide +kernel
end
section
set_option maxRecDepth 100000 in
theorem cl_10 : pgC_10.all (chkE pm_286) = true := by decide +kernel
set_option maxRecDepth 100000 in
theorem cl_11 : pgC_11.all (chkE pm_286) = true := by decide +kernel
set_option maxRecDepth 100000 in
theorem cl_12 : pgC_12.all (chkE pm_286) = true := by decide +kernel
set_option maxRecDepth 100000 in
theorem cl_13 : pgC_13.all (chkE pm_286) = true := by decide +kernel
set_option maxRecDepth 100000 in
theorem cl_14 : pgC_14.all (chkE pm_286) = true := by decide +kernel
set_option maxRecDepth 100000 in
theorem cl_15 : pgC_15.all (chkE pm_286) = true := by decide +kernel
set_option maxRecDepth 100000 in
theorem cl_16 : pgC_16.all (chkE pm_286) = true := by decide +kernel
set_option maxRecDepth 100000 in
theorem cl_17 : pgC_17.all (chkE pm_286) = true := by decide +kernel
set_option maxRecDepth 100000 in
theorem cl_18 : pgC_18.all (chkE pm_286) = true := by decide +kernel
set_option maxRecDepth 100000 in
theorem cl_19 : pgC_19.all (chkE pm_286) = true := by decide +kernel
end
section
set_option maxRecDepth 100000 in
theorem cl_20 : pgC_20.all (chkE pm_286) = true := by decide +kernel
set_option maxRecDepth 100000 in
theorem cl_21 : pgC_21.all (chkE pm_286) = true := by decide +kernel
set_option maxRecDepth 100000 in
theorem cl_22 : pgC_22.all (chkE pm_286) = true := by decide +kernel
set_option maxRecDepth 100000 in
theorem cl_23 : pgC_23.all (chkE pm_286) = true := by decide +kernel
set_option maxRecDepth 100000 in
theorem cl_24 : pgC_24.all (chkE pm_286) = true := by decide +kernel
set_option maxRecDepth 100000 in
theorem cl_25 : pgC_25.all (chkE pm_286) = true := by decide +kernel
set_option maxRecDepth 100000 in
theorem cl_26 : pgC_26.all (chkE pm_286) = true := by decide +kernel
set_option maxRecDepth 100000 in
theorem cl_27 : pgC_27.all (chkE pm_286) = true := by decide +kernel
set_option maxRecDepth 100000 in
theorem cl_28 : pgC_28.all (chkE pm_286) = true := by decide +kernel
set_option maxRecDepth 100000 in
theorem cl_29 : pgC_29.all (chkE pm_286) = true := by decide +kernel
end
section
set_option maxRecDepth 100000 in
theorem cl_30 : pgC_30.all (chkE pm_286) = true := by decide +kernel
set_option maxRecDepth 100000 in
theorem cl_31 : pgC_31.all (chkE pm_286) = true := by decide +kernel
set_option maxRecDepth 100000 in
theorem cl_32 : pgC_32.all (chkE pm_286) = true := by decide +kernel
set_option maxRecDepth 100000 in
theorem cl_33 : pgC_33.all (chkE pm_286) = true := by decide +kernel
set_option maxRecDepth 100000 in
theorem cl_34 : pgC_34.all (chkE pm_286) = true := by decide +kernel
set_option maxRecDepth 100000 in
theorem cl_35 : pgC_35.all (chkE pm_286) = true := by decide +kernel
set_option maxRecDepth 100000 in
theorem cl_36 : pgC_36.all (chkE pm_286) = true := by decide +kernel
set_option maxRecDepth 100000 in
theorem cl_37 : pgC_37.all (chkE pm_286) = true := by decide +kernel
set_option maxRecDepth 100000 in
theorem cl_38 : pgC_38.all (chkE pm_286) = true := by decide +kernel
set_option maxRecDepth 100000 in
theorem cl_39 : pgC_39.all (chkE pm_286) = true := by decide +kernel
end
section
set_option maxRecDepth 100000 in
theorem cl_40 : pgC_40.all (chkE pm_286) = true := by decide +kernel
set_option maxRecDepth 100000 in
theorem cl_41 : pgC_41.all (chkE pm_286) = true := by decide +kernel
set_option maxRecDepth 100000 in
theorem cl_42 : pgC_42.all (chkE pm_286) = true := by decide +kernel
set_option maxRecDepth 100000 in
theorem cl_43 : pgC_43.all (chkE pm_286) = true := by decide +kernel
set_option maxRecDepth 100000 in
theorem cl_44 : pgC_44.all (chkE pm_286) = true := by decide +kernel
set_option maxRecDepth 100000 in
theorem cl_45 : pgC_45.all (chkE pm_286) = true := by decide +kernel
set_option maxRecDepth 100000 in
theorem cl_46 : pgC_46.all (chkE pm_286) = true := by decide +kernel
set_option maxRecDepth 100000 in
theorem cl_47 : pgC_47.all (chkE pm_286) = true := by decide +kernel
set_option maxRecDepth 100000 in
theorem cl_48 : pgC_48.all (chkE pm_286) = true := by decide +kernel
set_option maxRecDepth 100000 in
theorem cl_49 : pgC_49.all (chkE pm_286) = true := by decide +kernel
end
section
set_option maxRecDepth 100000 in
theorem cl_50 : pgC_50.all (chkE pm_286) = true := by decide +kernel
set_option maxRecDepth 100000 in
theorem cl_51 : pgC_51.all (chkE pm_286) = true := by decide +kernel
set_option maxRecDepth 100000 in
theorem cl_52 : pgC_52.all (chkE pm_286) = true := by decide +kernel
set_option maxRecDepth 100000 in
theorem cl_53 : pgC_53.all (chkE pm_286) = true := by decide +kernel
set_option maxRecDepth 100000 in
theorem cl_54 : pgC_54.all (chkE pm_286) = true := by decide +kernel
set_option maxRecDepth 100000 in
theorem cl_55 : pgC_55.all (chkE pm_286) = true := by decide +kernel
set_option maxRecDepth 100000 in
theorem cl_56 : pgC_56.all (chkE pm_286) = true := by decide +kernel
set_option maxRecDepth 100000 in
theorem cl_57 : pgC_57.all (chkE pm_286) = true := by decide +kernel
set_option maxRecDepth 100000 in
theorem cl_58 : pgC_58.all (chkE pm_286) = true := by decide +kernel
set_option maxRecDepth 100000 in
theorem cl_59 : pgC_59.all (chkE pm_286) = true := by decide +kernel
end
section
theorem cm_286 : chkM pm_286 = true := by
  unfold chkM
  rw [Bool.and_eq_true]
  refine ⟨List.all_eq_true.mpr ?_, by decide +kernel⟩
  exact List.forall_mem_cons.mpr ⟨cl_0, List.forall_mem_cons.mpr ⟨cl_1, List.forall_mem_cons.mpr ⟨cl_2, List.forall_mem_cons.mpr ⟨cl_3, List.forall_mem_cons.mpr ⟨cl_4, List.forall_mem_cons.mpr ⟨cl_5, List.forall_mem_cons.mpr ⟨cl_6, List.forall_mem_cons.mpr ⟨cl_7, List.forall_mem_cons.mpr ⟨cl_8, List.forall_mem_cons.mpr ⟨cl_9, List.forall_mem_cons.mpr ⟨cl_10, List.forall_mem_cons.mpr ⟨cl_11, List.forall_mem_cons.mpr ⟨cl_12, List.forall_mem_cons.mpr ⟨cl_13, List.forall_mem_cons.mpr ⟨cl_14, List.forall_mem_cons.mpr ⟨cl_15, List.forall_mem_cons.mpr ⟨cl_16, List.forall_mem_cons.mpr ⟨cl_17, List.forall_mem_cons.mpr ⟨cl_18, List.forall_mem_cons.mpr ⟨cl_19, List.forall_mem_cons.mpr ⟨cl_20, List.forall_mem_cons.mpr ⟨cl_21, List.forall_mem_cons.mpr ⟨cl_22, List.forall_mem_cons.mpr ⟨cl_23, List.forall_mem_cons.mpr ⟨cl_24, List.forall_mem_cons.mpr ⟨cl_25, List.forall_mem_cons.mpr ⟨cl_26, List.forall_mem_cons.mpr ⟨cl_27, List.forall_mem_cons.mpr ⟨cl_28, List.forall_mem_cons.mpr ⟨cl_29, List.forall_mem_cons.mpr ⟨cl_30, List.forall_mem_cons.mpr ⟨cl_31, List.forall_mem_cons.mpr ⟨cl_32, List.forall_mem_cons.mpr ⟨cl_33, List.forall_mem_cons.mpr ⟨cl_34, List.forall_mem_cons.mpr ⟨cl_35, List.forall_mem_cons.mpr ⟨cl_36, List.forall_mem_cons.mpr ⟨cl_37, List.forall_mem_cons.mpr ⟨cl_38, List.forall_mem_cons.mpr ⟨cl_39, List.forall_mem_cons.mpr ⟨cl_40, List.forall_mem_cons.mpr ⟨cl_41, List.forall_mem_cons.mpr ⟨cl_42, List.forall_mem_cons.mpr ⟨cl_43, List.forall_mem_cons.mpr ⟨cl_44, List.forall_mem_cons.mpr ⟨cl_45, List.forall_mem_cons.mpr ⟨cl_46, List.forall_mem_cons.mpr ⟨cl_47, List.forall_mem_cons.mpr ⟨cl_48, List.forall_mem_cons.mpr ⟨cl_49, List.forall_mem_cons.mpr ⟨cl_50, List.forall_mem_cons.mpr ⟨cl_51, List.forall_mem_cons.mpr ⟨cl_52, List.forall_mem_cons.mpr ⟨cl_53, List.forall_mem_cons.mpr ⟨cl_54, List.forall_mem_cons.mpr ⟨cl_55, List.forall_mem_cons.mpr ⟨cl_56, List.forall_mem_cons.mpr ⟨cl_57, List.forall_mem_cons.mpr ⟨cl_58, List.forall_mem_cons.mpr ⟨cl_59, fun _ h => absurd h List.not_mem_nil⟩⟩⟩⟩⟩⟩⟩⟩⟩⟩⟩⟩⟩⟩⟩⟩⟩⟩⟩⟩⟩⟩⟩⟩⟩⟩⟩⟩⟩⟩⟩⟩⟩⟩⟩⟩⟩⟩⟩⟩⟩⟩⟩⟩⟩⟩⟩⟩⟩⟩⟩⟩⟩⟩⟩⟩⟩⟩⟩⟩
end
section
set_option maxRecDepth 100000 in
theorem prog_ok : ∀ q ∈ prog, chkM q = true := List.forall_mem_cons.mpr ⟨cm_0, List.forall_mem_cons.mpr ⟨cm_1, List.forall_mem_cons.mpr ⟨cm_2, List.forall_mem_cons.mpr ⟨cm_3, List.forall_mem_cons.mpr ⟨cm_4, List.forall_mem_cons.mpr ⟨cm_5, List.forall_mem_cons.mpr ⟨cm_6, List.forall_mem_cons.mpr ⟨cm_7, List.forall_mem_cons.mpr ⟨cm_8, List.forall_mem_cons.mpr ⟨cm_9, List.forall_mem_cons.mpr ⟨cm_10, List.forall_mem_cons.mpr ⟨cm_11, List.forall_mem_cons.mpr ⟨cm_12, List.forall_mem_cons.mpr ⟨cm_13, List.forall_mem_cons.mpr ⟨cm_14, List.forall_mem_cons.mpr ⟨cm_15, List.forall_mem_cons.mpr ⟨cm_16, List.forall_mem_cons.mpr ⟨cm_17, List.forall_mem_cons.mpr ⟨cm_18, List.forall_mem_cons.mpr ⟨cm_19, List.forall_mem_cons.mpr ⟨cm_20, List.forall_mem_cons.mpr ⟨cm_21, List.forall_mem_cons.mpr ⟨cm_22, List.forall_mem_cons.mpr ⟨cm_23, List.forall_mem_cons.mpr ⟨cm_24, List.forall_mem_cons.mpr ⟨cm_25, List.forall_mem_cons.mpr ⟨cm_26, List.forall_mem_cons.mpr ⟨cm_27, List.forall_mem_cons.mpr ⟨cm_28, List.forall_mem_cons.mpr ⟨cm_29, List.forall_mem_cons.mpr ⟨cm_30, List.forall_mem_cons.mpr ⟨cm_31, List.forall_mem_cons.mpr ⟨cm_32, List.forall_mem_cons.mpr ⟨cm_33, List.forall_mem_cons.mpr ⟨cm_34, List.forall_mem_cons.mpr ⟨cm_35, List.forall_mem_cons.mpr ⟨cm_36, List.forall_mem_cons.mpr ⟨cm_37, List.forall_mem_cons.mpr ⟨cm_38, List.forall_mem_cons.mpr ⟨cm_39, List.forall_mem_cons.mpr ⟨cm_40, List.forall_mem_cons.mpr ⟨cm_41, List.forall_mem_cons.mpr ⟨cm_42, List.forall_mem_cons.mpr ⟨cm_43, List.forall_mem_cons.mpr ⟨cm_44, List.forall_mem_cons.mpr ⟨cm_45, List.forall_mem_cons.mpr ⟨cm_46, List.forall_mem_cons.mpr ⟨cm_47, List.forall_mem_cons.mpr ⟨cm_48, List.forall_mem_cons.mpr ⟨cm_49, List.forall_mem_cons.mpr ⟨cm_50, List.forall_mem_cons.mpr ⟨cm_51, List.forall_mem_cons.mpr ⟨cm_52, List.forall_mem_cons.mpr ⟨cm_53, List.forall_mem_cons.mpr ⟨cm_54, List.forall_mem_cons.mpr ⟨cm_55, List.forall_mem_cons.mpr ⟨cm_56, List.forall_mem_cons.mpr ⟨cm_57, List.forall_mem_cons.mpr ⟨cm_58, List.forall_mem_cons.mpr ⟨cm_59, List.forall_mem_cons.mpr ⟨cm_60, List.forall_mem_cons.mpr ⟨cm_61, List.forall_mem_cons.mpr ⟨cm_62, List.forall_mem_cons.mpr ⟨cm_63, List.forall_mem_cons.mpr ⟨cm_64, List.forall_mem_cons.mpr ⟨cm_65, List.forall_mem_cons.mpr ⟨cm_66, List.forall_mem_cons.mpr ⟨cm_67, List.forall_mem_cons.mpr ⟨cm_68, List.forall_mem_cons.mpr ⟨cm_69, List.forall_mem_cons.mpr ⟨cm_70, List.forall_mem_cons.mpr ⟨cm_71, List.forall_mem_cons.mpr ⟨cm_72, List.forall_mem_cons.mpr ⟨cm_73, List.forall_mem_cons.mpr ⟨cm_74, List.forall_mem_cons.mpr ⟨cm_75, List.forall_mem_cons.mpr ⟨cm_76, List.forall_mem_cons.mpr ⟨cm_77, List.forall_mem_cons.mpr ⟨cm_78, List.forall_mem_cons.mpr ⟨cm_79, List.forall_mem_cons.mpr ⟨cm_80, List.forall_mem_cons.mpr ⟨cm_81, List.forall_mem_cons.mpr ⟨cm_82, List.forall_mem_cons.mpr ⟨cm_83, List.forall_mem_cons.mpr ⟨cm_84, List.forall_mem_cons.mpr ⟨cm_85, List.forall_mem_cons.mpr ⟨cm_86, List.forall_mem_cons.mpr ⟨cm_87, List.forall_mem_cons.mpr ⟨cm_88, List.forall_mem_cons.mpr ⟨cm_89, List.forall_mem_cons.mpr ⟨cm_90, List.forall_mem_cons.mpr ⟨cm_91, List.forall_mem_cons.mpr ⟨cm_92, List.forall_mem_cons.mpr ⟨cm_93, List.forall_mem_cons.mpr ⟨cm_94, List.forall_mem_cons.mpr ⟨cm_95, List.forall_mem_cons.mpr ⟨cm_96, List.forall_mem_cons.mpr ⟨cm_97, List.forall_mem_cons.mpr ⟨cm_98, List.forall_mem_cons.mpr ⟨cm_99, List.forall_mem_cons.mpr ⟨cm_100, List.forall_mem_cons.mpr ⟨cm_101, List.forall_mem_cons.mpr ⟨cm_102, List.forall_mem_cons.mpr ⟨cm_103, List.forall_mem_cons.mpr ⟨cm_104, List.forall_mem_cons.mpr ⟨cm_105, List.forall_mem_cons.mpr ⟨cm_106, List.forall_mem_cons.mpr ⟨cm_107, List.forall_mem_cons.mpr ⟨cm_108, List.forall_mem_cons.mpr ⟨cm_109, List.forall_mem_cons.mpr ⟨cm_110, List.forall_mem_cons.mpr ⟨cm_111, List.forall_mem_cons.mpr ⟨cm_112, List.forall_mem_cons.mpr ⟨cm_113, List.forall_mem_cons.mpr ⟨cm_114, List.forall_mem_cons.mpr ⟨cm_115, List.forall_mem_cons.mpr ⟨cm_116, List.forall_mem_cons.mpr ⟨cm_117, List.forall_mem_cons.mpr ⟨cm_118, List.forall_mem_cons.mpr ⟨cm_119, List.forall_mem_cons.mpr ⟨cm_120, List.forall_mem_cons.mpr ⟨cm_121, List.forall_mem_cons.mpr ⟨cm_122, List.forall_mem_cons.mpr ⟨cm_123, List.forall_mem_cons.mpr ⟨cm_124, List.forall_mem_cons.mpr ⟨cm_125, List.forall_mem_cons.mpr ⟨cm_126, List.forall_mem_cons.mpr ⟨cm_127, List.forall_mem_cons.mpr ⟨cm_128, List.forall_mem_cons.mpr ⟨cm_129, List.forall_mem_cons.mpr ⟨cm_130, List.forall_mem_cons.mpr ⟨cm_131, List.forall_mem_cons.mpr ⟨cm_132, List.forall_mem_cons.mpr ⟨cm_133, List.forall_mem_cons.mpr ⟨cm_134, List.forall_mem_cons.mpr ⟨cm_135, List.forall_mem_cons.mpr ⟨cm_136, List.forall_mem_cons.mpr ⟨cm_137, List.forall_mem_cons.mpr ⟨cm_138, List.forall_mem_cons.mpr ⟨cm_139, List.forall_mem_cons.mpr ⟨cm_140, List.forall_mem_cons.mpr ⟨cm_141, List.forall_mem_cons.mpr ⟨cm_142, List.forall_mem_cons.mpr ⟨cm_143, List.forall_mem_cons.mpr ⟨cm_144, List.forall_mem_cons.mpr ⟨cm_145, List.forall_mem_cons.mpr ⟨cm_146, List.forall_mem_cons.mpr ⟨cm_147, List.forall_mem_cons.mpr ⟨cm_148, List.forall_mem_cons.mpr ⟨cm_149, List.forall_mem_cons.mpr ⟨cm_150, List.forall_mem_cons.mpr ⟨cm_151, List.forall_mem_cons.mpr ⟨cm_152, List.forall_mem_cons.mpr ⟨cm_153, List.forall_mem_cons.mpr ⟨cm_154, List.forall_mem_cons.mpr ⟨cm_155, List.forall_mem_cons.mpr ⟨cm_156, List.forall_mem_cons.mpr ⟨cm_157, List.forall_mem_cons.mpr ⟨cm_158, List.forall_mem_cons.mpr ⟨cm_159, List.forall_mem_cons.mpr ⟨cm_160, List.forall_mem_cons.mpr ⟨cm_161, List.forall_mem_cons.mpr ⟨cm_162, List.forall_mem_cons.mpr ⟨cm_163, List.forall_mem_cons.mpr ⟨cm_164, List.forall_mem_cons.mpr ⟨cm_165, List.forall_mem_cons.mpr ⟨cm_166, List.forall_mem_cons.mpr ⟨cm_167, List.forall_mem_cons.mpr ⟨cm_168, List.forall_mem_cons.mpr ⟨cm_169, List.forall_mem_cons.mpr ⟨cm_170, List.forall_mem_cons.mpr ⟨cm_171, List.forall_mem_cons.mpr ⟨cm_172, List.forall_mem_cons.mpr ⟨cm_173, List.forall_mem_cons.mpr ⟨cm_174, List.forall_mem_cons.mpr ⟨cm_175, List.forall_mem_cons.mpr ⟨cm_176, List.forall_mem_cons.mpr ⟨cm_177, List.forall_mem_cons.mpr ⟨cm_178, List.forall_mem_cons.mpr ⟨cm_179, List.forall_mem_cons.mpr ⟨cm_180, List.forall_mem_cons.mpr ⟨cm_181, List.forall_mem_cons.mpr ⟨cm_182, List.forall_mem_cons.mpr ⟨cm_183, List.forall_mem_cons.mpr ⟨cm_184, List.forall_mem_cons.mpr ⟨cm_185, List.forall_mem_cons.mpr ⟨cm_186, List.forall_mem_cons.mpr ⟨cm_187, List.forall_mem_cons.mpr ⟨cm_188, List.forall_mem_cons.mpr ⟨cm_189, List.forall_mem_cons.mpr ⟨cm_190, List.forall_mem_cons.mpr ⟨cm_191, List.forall_mem_cons.mpr ⟨cm_192, List.forall_mem_cons.mpr ⟨cm_193, List.forall_mem_cons.mpr ⟨cm_194, List.forall_mem_cons.mpr ⟨cm_195, List.forall_mem_cons.mpr ⟨cm_196, List.forall_mem_cons.mpr ⟨cm_197, List.forall_mem_cons.mpr ⟨cm_198, List.forall_mem_cons.mpr ⟨cm_199, List.forall_mem_cons.mpr ⟨cm_200, List.forall_mem_cons.mpr ⟨cm_201, List.forall_mem_cons.mpr ⟨cm_202, List.forall_mem_cons.mpr ⟨cm_203, List.forall_mem_cons.mpr ⟨cm_204, List.forall_mem_cons.mpr ⟨cm_205, List.forall_mem_cons.mpr ⟨cm_206, List.forall_mem_cons.mpr ⟨cm_207, List.forall_mem_cons.mpr ⟨cm_208, List.forall_mem_cons.mpr ⟨cm_209, List.forall_mem_cons.mpr ⟨cm_210, List.forall_mem_cons.mpr ⟨cm_211, List.forall_mem_cons.mpr ⟨cm_212, List.forall_mem_cons.mpr ⟨cm_213, List.forall_mem_cons.mpr ⟨cm_214, List.forall_mem_cons.mpr ⟨cm_215, List.forall_mem_cons.mpr ⟨cm_216, List.forall_mem_cons.mpr ⟨cm_217, List.forall_mem_cons.mpr ⟨cm_218, List.forall_mem_cons.mpr ⟨cm_219, List.forall_mem_cons.mpr ⟨cm_220, List.forall_mem_cons.mpr ⟨cm_221, List.forall_mem_cons.mpr ⟨cm_222, List.forall_mem_cons.mpr ⟨cm_223, List.forall_mem_cons.mpr ⟨cm_224, List.forall_mem_cons.mpr ⟨cm_225, List.forall_mem_cons.mpr ⟨cm_226, List.forall_mem_cons.mpr ⟨cm_227, List.forall_mem_cons.mpr ⟨cm_228, List.forall_mem_cons.mpr ⟨cm_229, List.forall_mem_cons.mpr ⟨cm_230, List.forall_mem_cons.mpr ⟨cm_231, List.forall_mem_cons.mpr ⟨cm_232, List.forall_mem_cons.mpr ⟨cm_233, List.forall_mem_cons.mpr ⟨cm_234, List.forall_mem_cons.mpr ⟨cm_235, List.forall_mem_cons.mpr ⟨cm_236, List.forall_mem_cons.mpr ⟨cm_237, List.forall_mem_cons.mpr ⟨cm_238, List.forall_mem_cons.mpr ⟨cm_239, List.forall_mem_cons.mpr ⟨cm_240, List.forall_mem_cons.mpr ⟨cm_241, List.forall_mem_cons.mpr ⟨cm_242, List.forall_mem_cons.mpr ⟨cm_243, List.forall_mem_cons.mpr ⟨cm_244, List.forall_mem_cons.mpr ⟨cm_245, List.forall_mem_cons.mpr ⟨cm_246, List.forall_mem_cons.mpr ⟨cm_247, List.forall_mem_cons.mpr ⟨cm_248, List.forall_mem_cons.mpr ⟨cm_249, List.forall_mem_cons.mpr ⟨cm_250, List.forall_mem_cons.mpr ⟨cm_251, List.forall_mem_cons.mpr ⟨cm_252, List.forall_mem_cons.mpr ⟨cm_253, List.forall_mem_cons.mpr ⟨cm_254, List.forall_mem_cons.mpr ⟨cm_255, List.forall_mem_cons.mpr ⟨cm_256, List.forall_mem_cons.mpr ⟨cm_257, List.forall_mem_cons.mpr ⟨cm_258, List.forall_mem_cons.mpr ⟨cm_259, List.forall_mem_cons.mpr ⟨cm_260, List.forall_mem_cons.mpr ⟨cm_261, List.forall_mem_cons.mpr ⟨cm_262, List.forall_mem_cons.mpr ⟨cm_263, List.forall_mem_cons.mpr ⟨cm_264, List.forall_mem_cons.mpr ⟨cm_265, List.forall_mem_cons.mpr ⟨cm_266, List.forall_mem_cons.mpr ⟨cm_267, List.forall_mem_cons.mpr ⟨cm_268, List.forall_mem_cons.mpr ⟨cm_269, List.forall_mem_cons.mpr ⟨cm_270, List.forall_mem_cons.mpr ⟨cm_271, List.forall_mem_cons.mpr ⟨cm_272, List.forall_mem_cons.mpr ⟨cm_273, List.forall_mem_cons.mpr ⟨cm_274, List.forall_mem_cons.mpr ⟨cm_275, List.forall_mem_cons.mpr ⟨cm_276, List.forall_mem_cons.mpr ⟨cm_277, List.forall_mem_cons.mpr ⟨cm_278, List.forall_mem_cons.mpr ⟨cm_279, List.forall_mem_cons.mpr ⟨cm_280, List.forall_mem_cons.mpr ⟨cm_281, List.forall_mem_cons.mpr ⟨cm_282, List.forall_mem_cons.mpr ⟨cm_283, List.forall_mem_cons.mpr ⟨cm_284, List.forall_mem_cons.mpr ⟨cm_285, List.forall_mem_cons.mpr ⟨cm_286, fun _ h => absurd h List.not_mem_nil⟩⟩⟩⟩⟩⟩⟩⟩⟩⟩⟩⟩⟩⟩⟩⟩⟩⟩⟩⟩⟩⟩⟩⟩⟩⟩⟩⟩⟩⟩⟩⟩⟩⟩⟩⟩⟩⟩⟩⟩⟩⟩⟩⟩⟩⟩⟩⟩⟩⟩⟩⟩⟩⟩⟩⟩⟩⟩⟩⟩⟩⟩⟩⟩⟩⟩⟩⟩⟩⟩⟩⟩⟩⟩⟩⟩⟩⟩⟩⟩⟩⟩⟩⟩⟩⟩⟩⟩⟩⟩⟩⟩⟩⟩⟩⟩⟩⟩⟩⟩⟩⟩⟩⟩⟩⟩⟩⟩⟩⟩⟩⟩⟩⟩⟩⟩⟩⟩⟩⟩⟩⟩⟩⟩⟩⟩⟩⟩⟩⟩⟩⟩⟩⟩⟩⟩⟩⟩⟩⟩⟩⟩⟩⟩⟩⟩⟩⟩⟩⟩⟩⟩⟩⟩⟩⟩⟩⟩⟩⟩⟩⟩⟩⟩⟩⟩⟩⟩⟩⟩⟩⟩⟩⟩⟩⟩⟩⟩⟩⟩⟩⟩⟩⟩⟩⟩⟩⟩⟩⟩⟩⟩⟩⟩⟩⟩⟩⟩⟩⟩⟩⟩⟩⟩⟩⟩⟩⟩⟩⟩⟩⟩⟩⟩⟩⟩⟩⟩⟩⟩⟩⟩⟩⟩⟩⟩⟩⟩⟩⟩⟩⟩⟩⟩⟩⟩⟩⟩⟩⟩⟩⟩⟩⟩⟩⟩⟩⟩⟩⟩⟩⟩⟩⟩⟩⟩⟩⟩⟩⟩⟩⟩⟩⟩⟩⟩⟩⟩⟩⟩⟩⟩⟩⟩⟩⟩⟩⟩⟩⟩⟩⟩⟩⟩⟩⟩⟩
end
section
/-! the links are words of the tables (printed by wip/whole/gen08.py) -/
def gtb : List Cond := lw_tbl.filter goodWord
theorem gw {w : Cond} (h : w ∈ lw_tbl) (g : goodWord w = true) : w ∈ gtb := List.mem_filter.mpr ⟨h, g⟩
def fkd (c k : Nat) : Nat := (fkL.getD c []).getD k 0
def tyK (kd : Nat) (t : FieldType) : Bool := match kd, t with
  | 0, .int => true
  | 1, .boolean => true
  | 2, .object _ => true
  | 2, .array _ => true
  | 3, .long => true
  | _, _ => false
def retK (t : Option FieldType) : Nat := match t with
  | none => 0
  | some .long => 3
  | some (.object _) => 2
  | some (.array _) => 2
  | some _ => 1
def CPr (ci : Nat) (q : vw_C) (ty : Nat → FieldType) : Prop := (∀ w ∈ u_ws q.1 q.2.1 q.2.2, w ∈ gtb) ∧ (∀ a, a < q.2.2 → ∀ b, b < q.2.2 → a ≠ b → (q.2.1 a).2.1 ≠ (q.2.1 b).2.1) ∧ Jvm.Cond.instantiable q.1 q.2.2 ∈ gtb ∧ Jvm.Cond.initialized q.1 ∈ gtb ∧ (∀ k, k < q.2.2 → parseFieldDescriptor (q.2.1 k).2.2.1 = some (ty k)) ∧ (∀ k, k < q.2.2 → tyK (fkd ci k) (ty k) = true) ∧ (∀ k, k < q.2.2 → (q.2.1 k).1 = q.1)
theorem cpw_0 : u_ws "OneAtATime$BitList" kT0 7 = [73, 75, 77, 79, 81, 83, 85].filterMap (fun i => tables_1[i]?) := by decide +kernel
set_option maxRecDepth 100000 in
theorem cp_0 : CPr 0 ("OneAtATime$BitList", kT0, 7) kY0 := by
  refine ⟨fun w h => ?_, by decide +kernel, (gw (List.mem_append_right _ (List.mem_of_getElem? (i := 31) rfl)) rfl), (gw (List.mem_append_right _ (List.mem_of_getElem? (i := 2) rfl)) rfl), by decide +kernel, by decide +kernel, by decide +kernel⟩
  have h : w ∈ u_ws "OneAtATime$BitList" kT0 7 := h
  rw [cpw_0] at h
  obtain ⟨i, -, hi⟩ := List.mem_filterMap.mp h
  refine gw (List.mem_append_right _ (List.mem_of_getElem? hi)) ?_
  rw [← cpw_0] at h
  obtain ⟨k, -, hk⟩ := List.mem_map.mp h
  rw [← hk]
  unfold u_lay
  split <;> rfl
theorem cpw_1 : u_ws "OneAtATime$Bytes" kT1 2 = [130, 132].filterMap (fun i => tables_1[i]?) := by decide +kernel
set_option maxRecDepth 100000 in
theorem cp_1 : CPr 1 ("OneAtATime$Bytes", kT1, 2) kY1 := by
  refine ⟨fun w h => ?_, by decide +kernel, (gw (List.mem_append_right _ (List.mem_of_getElem? (i := 118) rfl)) rfl), (gw (List.mem_append_right _ (List.mem_of_getElem? (i := 5) rfl)) rfl), by decide +kernel, by decide +kernel, by decide +kernel⟩
  have h : w ∈ u_ws "OneAtATime$Bytes" kT1 2 := h
  rw [cpw_1] at h
  obtain ⟨i, -, hi⟩ := List.mem_filterMap.mp h
  refine gw (List.mem_append_right _ (List.mem_of_getElem? hi)) ?_
  rw [← cpw_1] at h
  obtain ⟨k, -, hk⟩ := List.mem_map.mp h
  rw [← hk]
  unfold u_lay
  split <;> rfl
theorem cpw_2 : u_ws "OneAtATime$Evenness" kT2 5 = [224, 226, 228, 230, 232].filterMap (fun i => tables_1[i]?) := by decide +kernel
set_option maxRecDepth 100000 in
theorem cp_2 : CPr 2 ("OneAtATime$Evenness", kT2, 5) kY2 := by
  refine ⟨fun w h => ?_, by decide +kernel, (gw (List.mem_append_right _ (List.mem_of_getElem? (i := 212) rfl)) rfl), (gw (List.mem_append_right _ (List.mem_of_getElem? (i := 10) rfl)) rfl), by decide +kernel, by decide +kernel, by decide +kernel⟩
  have h : w ∈ u_ws "OneAtATime$Evenness" kT2 5 := h
  rw [cpw_2] at h
  obtain ⟨i, -, hi⟩ := List.mem_filterMap.mp h
  refine gw (List.mem_append_right _ (List.mem_of_getElem? hi)) ?_
  rw [← cpw_2] at h
  obtain ⟨k, -, hk⟩ := List.mem_map.mp h
  rw [← hk]
  unfold u_lay
  split <;> rfl
theorem cpw_3 : u_ws "OneAtATime$History" kT3 4 = [102, 104, 106, 108].filterMap (fun i => tables_1[i]?) := by decide +kernel
set_option maxRecDepth 100000 in
theorem cp_3 : CPr 3 ("OneAtATime$History", kT3, 4) kY3 := by
  refine ⟨fun w h => ?_, by decide +kernel, (gw (List.mem_append_right _ (List.mem_of_getElem? (i := 90) rfl)) rfl), (gw (List.mem_append_right _ (List.mem_of_getElem? (i := 3) rfl)) rfl), by decide +kernel, by decide +kernel, by decide +kernel⟩
  have h : w ∈ u_ws "OneAtATime$History" kT3 4 := h
  rw [cpw_3] at h
  obtain ⟨i, -, hi⟩ := List.mem_filterMap.mp h
  refine gw (List.mem_append_right _ (List.mem_of_getElem? hi)) ?_
  rw [← cpw_3] at h
  obtain ⟨k, -, hk⟩ := List.mem_map.mp h
  rw [← hk]
  unfold u_lay
  split <;> rfl
theorem cpw_4 : u_ws "OneAtATime$Likeness" kT4 2 = [206, 208].filterMap (fun i => tables_1[i]?) := by decide +kernel
set_option maxRecDepth 100000 in
theorem cp_4 : CPr 4 ("OneAtATime$Likeness", kT4, 2) kY4 := by
  refine ⟨fun w h => ?_, by decide +kernel, (gw (List.mem_append_right _ (List.mem_of_getElem? (i := 199) rfl)) rfl), (gw (List.mem_append_right _ (List.mem_of_getElem? (i := 9) rfl)) rfl), by decide +kernel, by decide +kernel, by decide +kernel⟩
  have h : w ∈ u_ws "OneAtATime$Likeness" kT4 2 := h
  rw [cpw_4] at h
  obtain ⟨i, -, hi⟩ := List.mem_filterMap.mp h
  refine gw (List.mem_append_right _ (List.mem_of_getElem? hi)) ?_
  rw [← cpw_4] at h
  obtain ⟨k, -, hk⟩ := List.mem_map.mp h
  rw [← hk]
  unfold u_lay
  split <;> rfl
theorem cpw_5 : u_ws "OneAtATime$Reader" kT5 6 = [145, 147, 149, 151, 153, 155].filterMap (fun i => tables_1[i]?) := by decide +kernel
set_option maxRecDepth 100000 in
theorem cp_5 : CPr 5 ("OneAtATime$Reader", kT5, 6) kY5 := by
  refine ⟨fun w h => ?_, by decide +kernel, (gw (List.mem_append_right _ (List.mem_of_getElem? (i := 112) rfl)) rfl), (gw (List.mem_append_right _ (List.mem_of_getElem? (i := 4) rfl)) rfl), by decide +kernel, by decide +kernel, by decide +kernel⟩
  have h : w ∈ u_ws "OneAtATime$Reader" kT5 6 := h
  rw [cpw_5] at h
  obtain ⟨i, -, hi⟩ := List.mem_filterMap.mp h
  refine gw (List.mem_append_right _ (List.mem_of_getElem? hi)) ?_
  rw [← cpw_5] at h
  obtain ⟨k, -, hk⟩ := List.mem_map.mp h
  rw [← hk]
  unfold u_lay
  split <;> rfl
theorem cpw_6 : u_ws "OneAtATime$Search" kT6 3 = [191, 193, 195].filterMap (fun i => tables_1[i]?) := by decide +kernel
set_option maxRecDepth 100000 in
theorem cp_6 : CPr 6 ("OneAtATime$Search", kT6, 3) kY6 := by
  refine ⟨fun w h => ?_, by decide +kernel, (gw (List.mem_append_right _ (List.mem_of_getElem? (i := 183) rfl)) rfl), (gw (List.mem_append_right _ (List.mem_of_getElem? (i := 8) rfl)) rfl), by decide +kernel, by decide +kernel, by decide +kernel⟩
  have h : w ∈ u_ws "OneAtATime$Search" kT6 3 := h
  rw [cpw_6] at h
  obtain ⟨i, -, hi⟩ := List.mem_filterMap.mp h
  refine gw (List.mem_append_right _ (List.mem_of_getElem? hi)) ?_
  rw [← cpw_6] at h
  obtain ⟨k, -, hk⟩ := List.mem_map.mp h
  rw [← hk]
  unfold u_lay
  split <;> rfl
theorem cpw_7 : u_ws "OneAtATime$Survey" kT7 5 = [171, 173, 175, 177, 179].filterMap (fun i => tables_1[i]?) := by decide +kernel
set_option maxRecDepth 100000 in
theorem cp_7 : CPr 7 ("OneAtATime$Survey", kT7, 5) kY7 := by
  refine ⟨fun w h => ?_, by decide +kernel, (gw (List.mem_append_right _ (List.mem_of_getElem? (i := 161) rfl)) rfl), (gw (List.mem_append_right _ (List.mem_of_getElem? (i := 7) rfl)) rfl), by decide +kernel, by decide +kernel, by decide +kernel⟩
  have h : w ∈ u_ws "OneAtATime$Survey" kT7 5 := h
  rw [cpw_7] at h
  obtain ⟨i, -, hi⟩ := List.mem_filterMap.mp h
  refine gw (List.mem_append_right _ (List.mem_of_getElem? hi)) ?_
  rw [← cpw_7] at h
  obtain ⟨k, -, hk⟩ := List.mem_map.mp h
  rw [← hk]
  unfold u_lay
  split <;> rfl
theorem cpw_8 : u_ws "OneAtATime" kT8 9 = [244, 246, 248, 250, 252, 254, 256, 258, 260].filterMap (fun i => tables_1[i]?) := by decide +kernel
set_option maxRecDepth 100000 in
theorem cp_8 : CPr 8 ("OneAtATime", kT8, 9) kY8 := by
  refine ⟨fun w h => ?_, by decide +kernel, (gw (List.mem_append_right _ (List.mem_of_getElem? (i := 22) rfl)) rfl), (gw (List.mem_append_right _ (List.mem_of_getElem? (i := 1) rfl)) rfl), by decide +kernel, by decide +kernel, by decide +kernel⟩
  have h : w ∈ u_ws "OneAtATime" kT8 9 := h
  rw [cpw_8] at h
  obtain ⟨i, -, hi⟩ := List.mem_filterMap.mp h
  refine gw (List.mem_append_right _ (List.mem_of_getElem? hi)) ?_
  rw [← cpw_8] at h
  obtain ⟨k, -, hk⟩ := List.mem_map.mp h
  rw [← hk]
  unfold u_lay
  split <;> rfl
theorem cpw_9 : u_ws "OneAtATimeModel" kT9 29 = [1044, 1046, 1048, 1050, 1052, 1054, 1056, 1058, 1060, 1062, 1064, 1066, 1068, 1070, 1072, 1074, 1076, 1078, 1080, 1082, 1084, 1086, 1088, 1090, 1092, 1094, 1096, 1098, 1100].filterMap (fun i => tables_1[i]?) := by decide +kernel
set_option maxRecDepth 100000 in
theorem cp_9 : CPr 9 ("OneAtATimeModel", kT9, 29) kY9 := by
  refine ⟨fun w h => ?_, by decide +kernel, (gw (List.mem_append_right _ (List.mem_of_getElem? (i := 1010) rfl)) rfl), (gw (List.mem_append_right _ (List.mem_of_getElem? (i := 11) rfl)) rfl), by decide +kernel, by decide +kernel, by decide +kernel⟩
  have h : w ∈ u_ws "OneAtATimeModel" kT9 29 := h
  rw [cpw_9] at h
  obtain ⟨i, -, hi⟩ := List.mem_filterMap.mp h
  refine gw (List.mem_append_right _ (List.mem_of_getElem? hi)) ?_
  rw [← cpw_9] at h
  obtain ⟨k, -, hk⟩ := List.mem_map.mp h
  rw [← hk]
  unfold u_lay
  split <;> rfl
theorem cls_ok : ∀ (ci : Nat) (q : vw_C), cls0[ci]? = some q → ∃ ty, CPr ci q ty := by
  intro ci q h
  match ci, h with
  | 0, h => exact ⟨kY0, Option.some.inj h ▸ cp_0⟩
  | 1, h => exact ⟨kY1, Option.some.inj h ▸ cp_1⟩
  | 2, h => exact ⟨kY2, Option.some.inj h ▸ cp_2⟩
  | 3, h => exact ⟨kY3, Option.some.inj h ▸ cp_3⟩
  | 4, h => exact ⟨kY4, Option.some.inj h ▸ cp_4⟩
  | 5, h => exact ⟨kY5, Option.some.inj h ▸ cp_5⟩
  | 6, h => exact ⟨kY6, Option.some.inj h ▸ cp_6⟩
  | 7, h => exact ⟨kY7, Option.some.inj h ▸ cp_7⟩
  | 8, h => exact ⟨kY8, Option.some.inj h ▸ cp_8⟩
  | 9, h => exact ⟨kY9, Option.some.inj h ▸ cp_9⟩
  | k + 10, h => exact absurd h (by simp [cls0])
def FPr (e : Nat × Nat × Nat × Nat × Nat) : Prop := ∃ (own : String) (q : vw_C), ownL[e.1]? = some own ∧ cls0[e.2.2.1]? = some q ∧ e.2.2.2.1 < q.2.2 ∧ Jvm.Cond.fieldLink own e.2.1 (q.2.1 e.2.2.2.1).1 (q.2.1 e.2.2.2.1).2.1 (q.2.1 e.2.2.2.1).2.2.1 ∈ gtb ∧ fkd e.2.2.1 e.2.2.2.1 = e.2.2.2.2
set_option maxRecDepth 100000 in
theorem fl_0 : FPr (0, 11, 8, 0, 2) := ⟨"OneAtATime", ("OneAtATime", kT8, 9), rfl, rfl, Nat.le_of_ble_eq_true rfl, (gw (List.mem_append_right _ (List.mem_of_getElem? (i := 235) rfl)) rfl), rfl⟩
set_option maxRecDepth 100000 in
theorem fl_1 : FPr (0, 16, 8, 1, 2) := ⟨"OneAtATime", ("OneAtATime", kT8, 9), rfl, rfl, Nat.le_of_ble_eq_true rfl, (gw (List.mem_append_right _ (List.mem_of_getElem? (i := 236) rfl)) rfl), rfl⟩
set_option maxRecDepth 100000 in
theorem fl_2 : FPr (0, 23, 8, 2, 2) := ⟨"OneAtATime", ("OneAtATime", kT8, 9), rfl, rfl, Nat.le_of_ble_eq_true rfl, (gw (List.mem_append_right _ (List.mem_of_getElem? (i := 237) rfl)) rfl), rfl⟩
set_option maxRecDepth 100000 in
theorem fl_3 : FPr (0, 30, 8, 3, 2) := ⟨"OneAtATime", ("OneAtATime", kT8, 9), rfl, rfl, Nat.le_of_ble_eq_true rfl, (gw (List.mem_append_right _ (List.mem_of_getElem? (i := 238) rfl)) rfl), rfl⟩
set_option maxRecDepth 100000 in
theorem fl_4 : FPr (0, 39, 8, 4, 2) := ⟨"OneAtATime", ("OneAtATime", kT8, 9), rfl, rfl, Nat.le_of_ble_eq_true rfl, (gw (List.mem_append_right _ (List.mem_of_getElem? (i := 239) rfl)) rfl), rfl⟩
set_option maxRecDepth 100000 in
theorem fl_5 : FPr (0, 46, 8, 5, 2) := ⟨"OneAtATime", ("OneAtATime", kT8, 9), rfl, rfl, Nat.le_of_ble_eq_true rfl, (gw (List.mem_append_right _ (List.mem_of_getElem? (i := 240) rfl)) rfl), rfl⟩
set_option maxRecDepth 100000 in
theorem fl_6 : FPr (0, 53, 8, 6, 2) := ⟨"OneAtATime", ("OneAtATime", kT8, 9), rfl, rfl, Nat.le_of_ble_eq_true rfl, (gw (List.mem_append_right _ (List.mem_of_getElem? (i := 241) rfl)) rfl), rfl⟩
set_option maxRecDepth 100000 in
theorem fl_7 : FPr (0, 60, 8, 7, 2) := ⟨"OneAtATime", ("OneAtATime", kT8, 9), rfl, rfl, Nat.le_of_ble_eq_true rfl, (gw (List.mem_append_right _ (List.mem_of_getElem? (i := 242) rfl)) rfl), rfl⟩
set_option maxRecDepth 100000 in
theorem fl_8 : FPr (0, 67, 8, 8, 2) := ⟨"OneAtATime", ("OneAtATime", kT8, 9), rfl, rfl, Nat.le_of_ble_eq_true rfl, (gw (List.mem_append_right _ (List.mem_of_getElem? (i := 243) rfl)) rfl), rfl⟩
set_option maxRecDepth 100000 in
theorem fl_9 : FPr (1, 9, 0, 0, 2) := ⟨"OneAtATime$BitList", ("OneAtATime$BitList", kT0, 7), rfl, rfl, Nat.le_of_ble_eq_true rfl, (gw (List.mem_append_right _ (List.mem_of_getElem? (i := 36) rfl)) rfl), rfl⟩
set_option maxRecDepth 100000 in
theorem fl_10 : FPr (1, 15, 0, 1, 2) := ⟨"OneAtATime$BitList", ("OneAtATime$BitList", kT0, 7), rfl, rfl, Nat.le_of_ble_eq_true rfl, (gw (List.mem_append_right _ (List.mem_of_getElem? (i := 43) rfl)) rfl), rfl⟩
set_option maxRecDepth 100000 in
theorem fl_11 : FPr (1, 18, 0, 2, 1) := ⟨"OneAtATime$BitList", ("OneAtATime$BitList", kT0, 7), rfl, rfl, Nat.le_of_ble_eq_true rfl, (gw (List.mem_append_right _ (List.mem_of_getElem? (i := 49) rfl)) rfl), rfl⟩
set_option maxRecDepth 100000 in
theorem fl_12 : FPr (2, 11, 3, 0, 2) := ⟨"OneAtATime$History", ("OneAtATime$History", kT3, 4), rfl, rfl, Nat.le_of_ble_eq_true rfl, (gw (List.mem_append_right _ (List.mem_of_getElem? (i := 97) rfl)) rfl), rfl⟩
set_option maxRecDepth 100000 in
theorem fl_13 : FPr (2, 18, 3, 1, 2) := ⟨"OneAtATime$History", ("OneAtATime$History", kT3, 4), rfl, rfl, Nat.le_of_ble_eq_true rfl, (gw (List.mem_append_right _ (List.mem_of_getElem? (i := 98) rfl)) rfl), rfl⟩
set_option maxRecDepth 100000 in
theorem fl_14 : FPr (2, 22, 3, 2, 0) := ⟨"OneAtATime$History", ("OneAtATime$History", kT3, 4), rfl, rfl, Nat.le_of_ble_eq_true rfl, (gw (List.mem_append_right _ (List.mem_of_getElem? (i := 99) rfl)) rfl), rfl⟩
set_option maxRecDepth 100000 in
theorem fl_15 : FPr (2, 26, 3, 3, 0) := ⟨"OneAtATime$History", ("OneAtATime$History", kT3, 4), rfl, rfl, Nat.le_of_ble_eq_true rfl, (gw (List.mem_append_right _ (List.mem_of_getElem? (i := 100) rfl)) rfl), rfl⟩
set_option maxRecDepth 100000 in
theorem fl_16 : FPr (3, 14, 5, 0, 2) := ⟨"OneAtATime$Reader", ("OneAtATime$Reader", kT5, 6), rfl, rfl, Nat.le_of_ble_eq_true rfl, (gw (List.mem_append_right _ (List.mem_of_getElem? (i := 136) rfl)) rfl), rfl⟩
set_option maxRecDepth 100000 in
theorem fl_17 : FPr (3, 20, 5, 4, 0) := ⟨"OneAtATime$Reader", ("OneAtATime$Reader", kT5, 6), rfl, rfl, Nat.le_of_ble_eq_true rfl, (gw (List.mem_append_right _ (List.mem_of_getElem? (i := 141) rfl)) rfl), rfl⟩
set_option maxRecDepth 100000 in
theorem fl_18 : FPr (3, 24, 5, 5, 0) := ⟨"OneAtATime$Reader", ("OneAtATime$Reader", kT5, 6), rfl, rfl, Nat.le_of_ble_eq_true rfl, (gw (List.mem_append_right _ (List.mem_of_getElem? (i := 143) rfl)) rfl), rfl⟩
set_option maxRecDepth 100000 in
theorem fl_19 : FPr (4, 15, 1, 0, 2) := ⟨"OneAtATime$Bytes", ("OneAtATime$Bytes", kT1, 2), rfl, rfl, Nat.le_of_ble_eq_true rfl, (gw (List.mem_append_right _ (List.mem_of_getElem? (i := 126) rfl)) rfl), rfl⟩
set_option maxRecDepth 100000 in
theorem fl_20 : FPr (4, 21, 1, 1, 0) := ⟨"OneAtATime$Bytes", ("OneAtATime$Bytes", kT1, 2), rfl, rfl, Nat.le_of_ble_eq_true rfl, (gw (List.mem_append_right _ (List.mem_of_getElem? (i := 127) rfl)) rfl), rfl⟩
set_option maxRecDepth 100000 in
theorem fl_21 : FPr (6, 9, 7, 0, 2) := ⟨"OneAtATime$Survey", ("OneAtATime$Survey", kT7, 5), rfl, rfl, Nat.le_of_ble_eq_true rfl, (gw (List.mem_append_right _ (List.mem_of_getElem? (i := 166) rfl)) rfl), rfl⟩
set_option maxRecDepth 100000 in
theorem fl_22 : FPr (6, 15, 7, 1, 2) := ⟨"OneAtATime$Survey", ("OneAtATime$Survey", kT7, 5), rfl, rfl, Nat.le_of_ble_eq_true rfl, (gw (List.mem_append_right _ (List.mem_of_getElem? (i := 167) rfl)) rfl), rfl⟩
set_option maxRecDepth 100000 in
theorem fl_23 : FPr (6, 18, 7, 2, 2) := ⟨"OneAtATime$Survey", ("OneAtATime$Survey", kT7, 5), rfl, rfl, Nat.le_of_ble_eq_true rfl, (gw (List.mem_append_right _ (List.mem_of_getElem? (i := 168) rfl)) rfl), rfl⟩
set_option maxRecDepth 100000 in
theorem fl_24 : FPr (6, 21, 7, 3, 2) := ⟨"OneAtATime$Survey", ("OneAtATime$Survey", kT7, 5), rfl, rfl, Nat.le_of_ble_eq_true rfl, (gw (List.mem_append_right _ (List.mem_of_getElem? (i := 169) rfl)) rfl), rfl⟩
set_option maxRecDepth 100000 in
theorem fl_25 : FPr (6, 24, 7, 4, 2) := ⟨"OneAtATime$Survey", ("OneAtATime$Survey", kT7, 5), rfl, rfl, Nat.le_of_ble_eq_true rfl, (gw (List.mem_append_right _ (List.mem_of_getElem? (i := 170) rfl)) rfl), rfl⟩
set_option maxRecDepth 100000 in
theorem fl_26 : FPr (7, 9, 6, 0, 2) := ⟨"OneAtATime$Search", ("OneAtATime$Search", kT6, 3), rfl, rfl, Nat.le_of_ble_eq_true rfl, (gw (List.mem_append_right _ (List.mem_of_getElem? (i := 188) rfl)) rfl), rfl⟩
set_option maxRecDepth 100000 in
theorem fl_27 : FPr (7, 15, 6, 1, 2) := ⟨"OneAtATime$Search", ("OneAtATime$Search", kT6, 3), rfl, rfl, Nat.le_of_ble_eq_true rfl, (gw (List.mem_append_right _ (List.mem_of_getElem? (i := 189) rfl)) rfl), rfl⟩
set_option maxRecDepth 100000 in
theorem fl_28 : FPr (7, 18, 6, 2, 2) := ⟨"OneAtATime$Search", ("OneAtATime$Search", kT6, 3), rfl, rfl, Nat.le_of_ble_eq_true rfl, (gw (List.mem_append_right _ (List.mem_of_getElem? (i := 190) rfl)) rfl), rfl⟩
set_option maxRecDepth 100000 in
theorem fl_29 : FPr (8, 9, 4, 0, 2) := ⟨"OneAtATime$Likeness", ("OneAtATime$Likeness", kT4, 2), rfl, rfl, Nat.le_of_ble_eq_true rfl, (gw (List.mem_append_right _ (List.mem_of_getElem? (i := 204) rfl)) rfl), rfl⟩
set_option maxRecDepth 100000 in
theorem fl_30 : FPr (8, 15, 4, 1, 2) := ⟨"OneAtATime$Likeness", ("OneAtATime$Likeness", kT4, 2), rfl, rfl, Nat.le_of_ble_eq_true rfl, (gw (List.mem_append_right _ (List.mem_of_getElem? (i := 205) rfl)) rfl), rfl⟩
set_option maxRecDepth 100000 in
theorem fl_31 : FPr (9, 9, 2, 0, 2) := ⟨"OneAtATime$Evenness", ("OneAtATime$Evenness", kT2, 5), rfl, rfl, Nat.le_of_ble_eq_true rfl, (gw (List.mem_append_right _ (List.mem_of_getElem? (i := 217) rfl)) rfl), rfl⟩
set_option maxRecDepth 100000 in
theorem fl_32 : FPr (9, 15, 2, 1, 2) := ⟨"OneAtATime$Evenness", ("OneAtATime$Evenness", kT2, 5), rfl, rfl, Nat.le_of_ble_eq_true rfl, (gw (List.mem_append_right _ (List.mem_of_getElem? (i := 218) rfl)) rfl), rfl⟩
set_option maxRecDepth 100000 in
theorem fl_33 : FPr (9, 18, 2, 2, 2) := ⟨"OneAtATime$Evenness", ("OneAtATime$Evenness", kT2, 5), rfl, rfl, Nat.le_of_ble_eq_true rfl, (gw (List.mem_append_right _ (List.mem_of_getElem? (i := 219) rfl)) rfl), rfl⟩
set_option maxRecDepth 100000 in
theorem fl_34 : FPr (9, 21, 2, 3, 0) := ⟨"OneAtATime$Evenness", ("OneAtATime$Evenness", kT2, 5), rfl, rfl, Nat.le_of_ble_eq_true rfl, (gw (List.mem_append_right _ (List.mem_of_getElem? (i := 220) rfl)) rfl), rfl⟩
set_option maxRecDepth 100000 in
theorem fl_35 : FPr (9, 25, 2, 4, 3) := ⟨"OneAtATime$Evenness", ("OneAtATime$Evenness", kT2, 5), rfl, rfl, Nat.le_of_ble_eq_true rfl, (gw (List.mem_append_right _ (List.mem_of_getElem? (i := 222) rfl)) rfl), rfl⟩
set_option maxRecDepth 100000 in
theorem fl_36 : FPr (0, 71, 5, 0, 2) := ⟨"OneAtATime", ("OneAtATime$Reader", kT5, 6), rfl, rfl, Nat.le_of_ble_eq_true rfl, (gw (List.mem_append_right _ (List.mem_of_getElem? (i := 137) rfl)) rfl), rfl⟩
set_option maxRecDepth 100000 in
theorem fl_37 : FPr (0, 81, 1, 1, 0) := ⟨"OneAtATime", ("OneAtATime$Bytes", kT1, 2), rfl, rfl, Nat.le_of_ble_eq_true rfl, (gw (List.mem_append_right _ (List.mem_of_getElem? (i := 128) rfl)) rfl), rfl⟩
set_option maxRecDepth 100000 in
theorem fl_38 : FPr (3, 27, 5, 3, 0) := ⟨"OneAtATime$Reader", ("OneAtATime$Reader", kT5, 6), rfl, rfl, Nat.le_of_ble_eq_true rfl, (gw (List.mem_append_right _ (List.mem_of_getElem? (i := 140) rfl)) rfl), rfl⟩
set_option maxRecDepth 100000 in
theorem fl_39 : FPr (3, 44, 5, 1, 0) := ⟨"OneAtATime$Reader", ("OneAtATime$Reader", kT5, 6), rfl, rfl, Nat.le_of_ble_eq_true rfl, (gw (List.mem_append_right _ (List.mem_of_getElem? (i := 138) rfl)) rfl), rfl⟩
set_option maxRecDepth 100000 in
theorem fl_40 : FPr (3, 47, 5, 2, 0) := ⟨"OneAtATime$Reader", ("OneAtATime$Reader", kT5, 6), rfl, rfl, Nat.le_of_ble_eq_true rfl, (gw (List.mem_append_right _ (List.mem_of_getElem? (i := 139) rfl)) rfl), rfl⟩
set_option maxRecDepth 100000 in
theorem fl_41 : FPr (3, 103, 1, 1, 0) := ⟨"OneAtATime$Reader", ("OneAtATime$Bytes", kT1, 2), rfl, rfl, Nat.le_of_ble_eq_true rfl, (gw (List.mem_append_right _ (List.mem_of_getElem? (i := 129) rfl)) rfl), rfl⟩
set_option maxRecDepth 100000 in
theorem fl_42 : FPr (1, 22, 0, 3, 0) := ⟨"OneAtATime$BitList", ("OneAtATime$BitList", kT0, 7), rfl, rfl, Nat.le_of_ble_eq_true rfl, (gw (List.mem_append_right _ (List.mem_of_getElem? (i := 51) rfl)) rfl), rfl⟩
set_option maxRecDepth 100000 in
theorem fl_43 : FPr (1, 26, 0, 4, 0) := ⟨"OneAtATime$BitList", ("OneAtATime$BitList", kT0, 7), rfl, rfl, Nat.le_of_ble_eq_true rfl, (gw (List.mem_append_right _ (List.mem_of_getElem? (i := 58) rfl)) rfl), rfl⟩
set_option maxRecDepth 100000 in
theorem fl_44 : FPr (1, 29, 0, 5, 0) := ⟨"OneAtATime$BitList", ("OneAtATime$BitList", kT0, 7), rfl, rfl, Nat.le_of_ble_eq_true rfl, (gw (List.mem_append_right _ (List.mem_of_getElem? (i := 61) rfl)) rfl), rfl⟩
set_option maxRecDepth 100000 in
theorem fl_45 : FPr (1, 32, 0, 6, 0) := ⟨"OneAtATime$BitList", ("OneAtATime$BitList", kT0, 7), rfl, rfl, Nat.le_of_ble_eq_true rfl, (gw (List.mem_append_right _ (List.mem_of_getElem? (i := 65) rfl)) rfl), rfl⟩
set_option maxRecDepth 100000 in
theorem fl_46 : FPr (3, 87, 0, 6, 0) := ⟨"OneAtATime$Reader", ("OneAtATime$BitList", kT0, 7), rfl, rfl, Nat.le_of_ble_eq_true rfl, (gw (List.mem_append_right _ (List.mem_of_getElem? (i := 69) rfl)) rfl), rfl⟩
set_option maxRecDepth 100000 in
theorem fl_47 : FPr (0, 126, 0, 6, 0) := ⟨"OneAtATime", ("OneAtATime$BitList", kT0, 7), rfl, rfl, Nat.le_of_ble_eq_true rfl, (gw (List.mem_append_right _ (List.mem_of_getElem? (i := 71) rfl)) rfl), rfl⟩
set_option maxRecDepth 100000 in
theorem fl_48 : FPr (0, 96, 5, 4, 0) := ⟨"OneAtATime", ("OneAtATime$Reader", kT5, 6), rfl, rfl, Nat.le_of_ble_eq_true rfl, (gw (List.mem_append_right _ (List.mem_of_getElem? (i := 142) rfl)) rfl), rfl⟩
set_option maxRecDepth 100000 in
theorem fl_49 : FPr (0, 99, 5, 5, 0) := ⟨"OneAtATime", ("OneAtATime$Reader", kT5, 6), rfl, rfl, Nat.le_of_ble_eq_true rfl, (gw (List.mem_append_right _ (List.mem_of_getElem? (i := 144) rfl)) rfl), rfl⟩
set_option maxRecDepth 100000 in
theorem fl_50 : FPr (0, 106, 3, 3, 0) := ⟨"OneAtATime", ("OneAtATime$History", kT3, 4), rfl, rfl, Nat.le_of_ble_eq_true rfl, (gw (List.mem_append_right _ (List.mem_of_getElem? (i := 101) rfl)) rfl), rfl⟩
set_option maxRecDepth 100000 in
theorem fl_51 : FPr (0, 343, 0, 2, 1) := ⟨"OneAtATime", ("OneAtATime$BitList", kT0, 7), rfl, rfl, Nat.le_of_ble_eq_true rfl, (gw (List.mem_append_right _ (List.mem_of_getElem? (i := 50) rfl)) rfl), rfl⟩
set_option maxRecDepth 100000 in
theorem fl_52 : FPr (0, 113, 0, 3, 0) := ⟨"OneAtATime", ("OneAtATime$BitList", kT0, 7), rfl, rfl, Nat.le_of_ble_eq_true rfl, (gw (List.mem_append_right _ (List.mem_of_getElem? (i := 56) rfl)) rfl), rfl⟩
set_option maxRecDepth 100000 in
theorem fl_53 : FPr (0, 116, 0, 4, 0) := ⟨"OneAtATime", ("OneAtATime$BitList", kT0, 7), rfl, rfl, Nat.le_of_ble_eq_true rfl, (gw (List.mem_append_right _ (List.mem_of_getElem? (i := 59) rfl)) rfl), rfl⟩
set_option maxRecDepth 100000 in
theorem fl_54 : FPr (0, 119, 0, 5, 0) := ⟨"OneAtATime", ("OneAtATime$BitList", kT0, 7), rfl, rfl, Nat.le_of_ble_eq_true rfl, (gw (List.mem_append_right _ (List.mem_of_getElem? (i := 62) rfl)) rfl), rfl⟩
set_option maxRecDepth 100000 in
theorem fl_55 : FPr (0, 122, 0, 1, 2) := ⟨"OneAtATime", ("OneAtATime$BitList", kT0, 7), rfl, rfl, Nat.le_of_ble_eq_true rfl, (gw (List.mem_append_right _ (List.mem_of_getElem? (i := 47) rfl)) rfl), rfl⟩
set_option maxRecDepth 100000 in
theorem fl_56 : FPr (6, 39, 0, 1, 2) := ⟨"OneAtATime$Survey", ("OneAtATime$BitList", kT0, 7), rfl, rfl, Nat.le_of_ble_eq_true rfl, (gw (List.mem_append_right _ (List.mem_of_getElem? (i := 46) rfl)) rfl), rfl⟩
set_option maxRecDepth 100000 in
theorem fl_57 : FPr (6, 57, 0, 6, 0) := ⟨"OneAtATime$Survey", ("OneAtATime$BitList", kT0, 7), rfl, rfl, Nat.le_of_ble_eq_true rfl, (gw (List.mem_append_right _ (List.mem_of_getElem? (i := 70) rfl)) rfl), rfl⟩
set_option maxRecDepth 100000 in
theorem fl_58 : FPr (6, 75, 0, 3, 0) := ⟨"OneAtATime$Survey", ("OneAtATime$BitList", kT0, 7), rfl, rfl, Nat.le_of_ble_eq_true rfl, (gw (List.mem_append_right _ (List.mem_of_getElem? (i := 55) rfl)) rfl), rfl⟩
set_option maxRecDepth 100000 in
theorem fl_59 : FPr (0, 165, 0, 0, 2) := ⟨"OneAtATime", ("OneAtATime$BitList", kT0, 7), rfl, rfl, Nat.le_of_ble_eq_true rfl, (gw (List.mem_append_right _ (List.mem_of_getElem? (i := 41) rfl)) rfl), rfl⟩
set_option maxRecDepth 100000 in
theorem fl_60 : FPr (6, 112, 0, 0, 2) := ⟨"OneAtATime$Survey", ("OneAtATime$BitList", kT0, 7), rfl, rfl, Nat.le_of_ble_eq_true rfl, (gw (List.mem_append_right _ (List.mem_of_getElem? (i := 42) rfl)) rfl), rfl⟩
set_option maxRecDepth 100000 in
theorem fl_61 : FPr (12, 7, 0, 1, 2) := ⟨"OneAtATime$Maker", ("OneAtATime$BitList", kT0, 7), rfl, rfl, Nat.le_of_ble_eq_true rfl, (gw (List.mem_append_right _ (List.mem_of_getElem? (i := 45) rfl)) rfl), rfl⟩
set_option maxRecDepth 100000 in
theorem fl_62 : FPr (12, 31, 0, 3, 0) := ⟨"OneAtATime$Maker", ("OneAtATime$BitList", kT0, 7), rfl, rfl, Nat.le_of_ble_eq_true rfl, (gw (List.mem_append_right _ (List.mem_of_getElem? (i := 52) rfl)) rfl), rfl⟩
set_option maxRecDepth 100000 in
theorem fl_63 : FPr (12, 39, 0, 6, 0) := ⟨"OneAtATime$Maker", ("OneAtATime$BitList", kT0, 7), rfl, rfl, Nat.le_of_ble_eq_true rfl, (gw (List.mem_append_right _ (List.mem_of_getElem? (i := 68) rfl)) rfl), rfl⟩
set_option maxRecDepth 100000 in
theorem fl_64 : FPr (7, 21, 0, 1, 2) := ⟨"OneAtATime$Search", ("OneAtATime$BitList", kT0, 7), rfl, rfl, Nat.le_of_ble_eq_true rfl, (gw (List.mem_append_right _ (List.mem_of_getElem? (i := 44) rfl)) rfl), rfl⟩
set_option maxRecDepth 100000 in
theorem fl_65 : FPr (7, 43, 0, 6, 0) := ⟨"OneAtATime$Search", ("OneAtATime$BitList", kT0, 7), rfl, rfl, Nat.le_of_ble_eq_true rfl, (gw (List.mem_append_right _ (List.mem_of_getElem? (i := 66) rfl)) rfl), rfl⟩
set_option maxRecDepth 100000 in
theorem fl_66 : FPr (7, 86, 0, 3, 0) := ⟨"OneAtATime$Search", ("OneAtATime$BitList", kT0, 7), rfl, rfl, Nat.le_of_ble_eq_true rfl, (gw (List.mem_append_right _ (List.mem_of_getElem? (i := 54) rfl)) rfl), rfl⟩
set_option maxRecDepth 100000 in
theorem fl_67 : FPr (12, 71, 0, 0, 2) := ⟨"OneAtATime$Maker", ("OneAtATime$BitList", kT0, 7), rfl, rfl, Nat.le_of_ble_eq_true rfl, (gw (List.mem_append_right _ (List.mem_of_getElem? (i := 39) rfl)) rfl), rfl⟩
set_option maxRecDepth 100000 in
theorem fl_68 : FPr (0, 277, 2, 3, 0) := ⟨"OneAtATime", ("OneAtATime$Evenness", kT2, 5), rfl, rfl, Nat.le_of_ble_eq_true rfl, (gw (List.mem_append_right _ (List.mem_of_getElem? (i := 221) rfl)) rfl), rfl⟩
set_option maxRecDepth 100000 in
theorem fl_69 : FPr (0, 280, 2, 4, 3) := ⟨"OneAtATime", ("OneAtATime$Evenness", kT2, 5), rfl, rfl, Nat.le_of_ble_eq_true rfl, (gw (List.mem_append_right _ (List.mem_of_getElem? (i := 223) rfl)) rfl), rfl⟩
set_option maxRecDepth 100000 in
theorem fl_70 : FPr (9, 37, 0, 3, 0) := ⟨"OneAtATime$Evenness", ("OneAtATime$BitList", kT0, 7), rfl, rfl, Nat.le_of_ble_eq_true rfl, (gw (List.mem_append_right _ (List.mem_of_getElem? (i := 53) rfl)) rfl), rfl⟩
set_option maxRecDepth 100000 in
theorem fl_71 : FPr (9, 52, 0, 6, 0) := ⟨"OneAtATime$Evenness", ("OneAtATime$BitList", kT0, 7), rfl, rfl, Nat.le_of_ble_eq_true rfl, (gw (List.mem_append_right _ (List.mem_of_getElem? (i := 67) rfl)) rfl), rfl⟩
set_option maxRecDepth 100000 in
theorem fl_72 : FPr (9, 55, 0, 0, 2) := ⟨"OneAtATime$Evenness", ("OneAtATime$BitList", kT0, 7), rfl, rfl, Nat.le_of_ble_eq_true rfl, (gw (List.mem_append_right _ (List.mem_of_getElem? (i := 38) rfl)) rfl), rfl⟩
set_option maxRecDepth 100000 in
theorem fl_73 : FPr (8, 18, 0, 6, 0) := ⟨"OneAtATime$Likeness", ("OneAtATime$BitList", kT0, 7), rfl, rfl, Nat.le_of_ble_eq_true rfl, (gw (List.mem_append_right _ (List.mem_of_getElem? (i := 64) rfl)) rfl), rfl⟩
set_option maxRecDepth 100000 in
theorem fl_74 : FPr (8, 38, 0, 0, 2) := ⟨"OneAtATime$Likeness", ("OneAtATime$BitList", kT0, 7), rfl, rfl, Nat.le_of_ble_eq_true rfl, (gw (List.mem_append_right _ (List.mem_of_getElem? (i := 37) rfl)) rfl), rfl⟩
set_option maxRecDepth 100000 in
theorem fl_75 : FPr (4, 44, 0, 3, 0) := ⟨"OneAtATime$Bytes", ("OneAtATime$BitList", kT0, 7), rfl, rfl, Nat.le_of_ble_eq_true rfl, (gw (List.mem_append_right _ (List.mem_of_getElem? (i := 57) rfl)) rfl), rfl⟩
set_option maxRecDepth 100000 in
theorem fl_76 : FPr (4, 54, 0, 4, 0) := ⟨"OneAtATime$Bytes", ("OneAtATime$BitList", kT0, 7), rfl, rfl, Nat.le_of_ble_eq_true rfl, (gw (List.mem_append_right _ (List.mem_of_getElem? (i := 60) rfl)) rfl), rfl⟩
set_option maxRecDepth 100000 in
theorem fl_77 : FPr (4, 59, 0, 5, 0) := ⟨"OneAtATime$Bytes", ("OneAtATime$BitList", kT0, 7), rfl, rfl, Nat.le_of_ble_eq_true rfl, (gw (List.mem_append_right _ (List.mem_of_getElem? (i := 63) rfl)) rfl), rfl⟩
set_option maxRecDepth 100000 in
theorem fl_78 : FPr (4, 64, 0, 1, 2) := ⟨"OneAtATime$Bytes", ("OneAtATime$BitList", kT0, 7), rfl, rfl, Nat.le_of_ble_eq_true rfl, (gw (List.mem_append_right _ (List.mem_of_getElem? (i := 48) rfl)) rfl), rfl⟩
set_option maxRecDepth 100000 in
theorem fl_79 : FPr (4, 68, 0, 6, 0) := ⟨"OneAtATime$Bytes", ("OneAtATime$BitList", kT0, 7), rfl, rfl, Nat.le_of_ble_eq_true rfl, (gw (List.mem_append_right _ (List.mem_of_getElem? (i := 72) rfl)) rfl), rfl⟩
set_option maxRecDepth 100000 in
theorem fl_80 : FPr (4, 71, 0, 0, 2) := ⟨"OneAtATime$Bytes", ("OneAtATime$BitList", kT0, 7), rfl, rfl, Nat.le_of_ble_eq_true rfl, (gw (List.mem_append_right _ (List.mem_of_getElem? (i := 40) rfl)) rfl), rfl⟩
set_option maxRecDepth 100000 in
theorem fl_81 : FPr (14, 13, 9, 0, 2) := ⟨"OneAtATimeModel", ("OneAtATimeModel", kT9, 29), rfl, rfl, Nat.le_of_ble_eq_true rfl, (gw (List.mem_append_right _ (List.mem_of_getElem? (i := 1015) rfl)) rfl), rfl⟩
set_option maxRecDepth 100000 in
theorem fl_82 : FPr (14, 17, 9, 1, 2) := ⟨"OneAtATimeModel", ("OneAtATimeModel", kT9, 29), rfl, rfl, Nat.le_of_ble_eq_true rfl, (gw (List.mem_append_right _ (List.mem_of_getElem? (i := 1016) rfl)) rfl), rfl⟩
set_option maxRecDepth 100000 in
theorem fl_83 : FPr (14, 20, 9, 2, 2) := ⟨"OneAtATimeModel", ("OneAtATimeModel", kT9, 29), rfl, rfl, Nat.le_of_ble_eq_true rfl, (gw (List.mem_append_right _ (List.mem_of_getElem? (i := 1017) rfl)) rfl), rfl⟩
set_option maxRecDepth 100000 in
theorem fl_84 : FPr (14, 23, 9, 4, 2) := ⟨"OneAtATimeModel", ("OneAtATimeModel", kT9, 29), rfl, rfl, Nat.le_of_ble_eq_true rfl, (gw (List.mem_append_right _ (List.mem_of_getElem? (i := 1019) rfl)) rfl), rfl⟩
set_option maxRecDepth 100000 in
theorem fl_85 : FPr (14, 26, 9, 6, 2) := ⟨"OneAtATimeModel", ("OneAtATimeModel", kT9, 29), rfl, rfl, Nat.le_of_ble_eq_true rfl, (gw (List.mem_append_right _ (List.mem_of_getElem? (i := 1021) rfl)) rfl), rfl⟩
set_option maxRecDepth 100000 in
theorem fl_86 : FPr (14, 29, 9, 9, 0) := ⟨"OneAtATimeModel", ("OneAtATimeModel", kT9, 29), rfl, rfl, Nat.le_of_ble_eq_true rfl, (gw (List.mem_append_right _ (List.mem_of_getElem? (i := 1024) rfl)) rfl), rfl⟩
set_option maxRecDepth 100000 in
theorem fl_87 : FPr (14, 33, 9, 15, 2) := ⟨"OneAtATimeModel", ("OneAtATimeModel", kT9, 29), rfl, rfl, Nat.le_of_ble_eq_true rfl, (gw (List.mem_append_right _ (List.mem_of_getElem? (i := 1030) rfl)) rfl), rfl⟩
set_option maxRecDepth 100000 in
theorem fl_88 : FPr (14, 36, 9, 16, 2) := ⟨"OneAtATimeModel", ("OneAtATimeModel", kT9, 29), rfl, rfl, Nat.le_of_ble_eq_true rfl, (gw (List.mem_append_right _ (List.mem_of_getElem? (i := 1031) rfl)) rfl), rfl⟩
set_option maxRecDepth 100000 in
theorem fl_89 : FPr (14, 39, 9, 19, 2) := ⟨"OneAtATimeModel", ("OneAtATimeModel", kT9, 29), rfl, rfl, Nat.le_of_ble_eq_true rfl, (gw (List.mem_append_right _ (List.mem_of_getElem? (i := 1034) rfl)) rfl), rfl⟩
set_option maxRecDepth 100000 in
theorem fl_90 : FPr (14, 43, 9, 20, 2) := ⟨"OneAtATimeModel", ("OneAtATimeModel", kT9, 29), rfl, rfl, Nat.le_of_ble_eq_true rfl, (gw (List.mem_append_right _ (List.mem_of_getElem? (i := 1035) rfl)) rfl), rfl⟩
set_option maxRecDepth 100000 in
theorem fl_91 : FPr (14, 46, 9, 24, 2) := ⟨"OneAtATimeModel", ("OneAtATimeModel", kT9, 29), rfl, rfl, Nat.le_of_ble_eq_true rfl, (gw (List.mem_append_right _ (List.mem_of_getElem? (i := 1039) rfl)) rfl), rfl⟩
set_option maxRecDepth 100000 in
theorem fl_92 : FPr (14, 49, 9, 25, 2) := ⟨"OneAtATimeModel", ("OneAtATimeModel", kT9, 29), rfl, rfl, Nat.le_of_ble_eq_true rfl, (gw (List.mem_append_right _ (List.mem_of_getElem? (i := 1040) rfl)) rfl), rfl⟩
set_option maxRecDepth 100000 in
theorem fl_93 : FPr (14, 52, 9, 26, 2) := ⟨"OneAtATimeModel", ("OneAtATimeModel", kT9, 29), rfl, rfl, Nat.le_of_ble_eq_true rfl, (gw (List.mem_append_right _ (List.mem_of_getElem? (i := 1041) rfl)) rfl), rfl⟩
set_option maxRecDepth 100000 in
theorem fl_94 : FPr (14, 55, 9, 27, 2) := ⟨"OneAtATimeModel", ("OneAtATimeModel", kT9, 29), rfl, rfl, Nat.le_of_ble_eq_true rfl, (gw (List.mem_append_right _ (List.mem_of_getElem? (i := 1042) rfl)) rfl), rfl⟩
set_option maxRecDepth 100000 in
theorem fl_95 : FPr (14, 82, 9, 3, 0) := ⟨"OneAtATimeModel", ("OneAtATimeModel", kT9, 29), rfl, rfl, Nat.le_of_ble_eq_true rfl, (gw (List.mem_append_right _ (List.mem_of_getElem? (i := 1018) rfl)) rfl), rfl⟩
set_option maxRecDepth 100000 in
theorem fl_96 : FPr (14, 88, 9, 5, 0) := ⟨"OneAtATimeModel", ("OneAtATimeModel", kT9, 29), rfl, rfl, Nat.le_of_ble_eq_true rfl, (gw (List.mem_append_right _ (List.mem_of_getElem? (i := 1020) rfl)) rfl), rfl⟩
set_option maxRecDepth 100000 in
theorem fl_97 : FPr (14, 111, 9, 7, 0) := ⟨"OneAtATimeModel", ("OneAtATimeModel", kT9, 29), rfl, rfl, Nat.le_of_ble_eq_true rfl, (gw (List.mem_append_right _ (List.mem_of_getElem? (i := 1022) rfl)) rfl), rfl⟩
set_option maxRecDepth 100000 in
theorem fl_98 : FPr (14, 138, 9, 8, 0) := ⟨"OneAtATimeModel", ("OneAtATimeModel", kT9, 29), rfl, rfl, Nat.le_of_ble_eq_true rfl, (gw (List.mem_append_right _ (List.mem_of_getElem? (i := 1023) rfl)) rfl), rfl⟩
set_option maxRecDepth 100000 in
theorem fl_99 : FPr (14, 134, 9, 14, 1) := ⟨"OneAtATimeModel", ("OneAtATimeModel", kT9, 29), rfl, rfl, Nat.le_of_ble_eq_true rfl, (gw (List.mem_append_right _ (List.mem_of_getElem? (i := 1029) rfl)) rfl), rfl⟩
set_option maxRecDepth 100000 in
theorem fl_100 : FPr (14, 114, 9, 10, 0) := ⟨"OneAtATimeModel", ("OneAtATimeModel", kT9, 29), rfl, rfl, Nat.le_of_ble_eq_true rfl, (gw (List.mem_append_right _ (List.mem_of_getElem? (i := 1025) rfl)) rfl), rfl⟩
set_option maxRecDepth 100000 in
theorem fl_101 : FPr (14, 126, 9, 12, 0) := ⟨"OneAtATimeModel", ("OneAtATimeModel", kT9, 29), rfl, rfl, Nat.le_of_ble_eq_true rfl, (gw (List.mem_append_right _ (List.mem_of_getElem? (i := 1027) rfl)) rfl), rfl⟩
set_option maxRecDepth 100000 in
theorem fl_102 : FPr (14, 120, 9, 11, 0) := ⟨"OneAtATimeModel", ("OneAtATimeModel", kT9, 29), rfl, rfl, Nat.le_of_ble_eq_true rfl, (gw (List.mem_append_right _ (List.mem_of_getElem? (i := 1026) rfl)) rfl), rfl⟩
set_option maxRecDepth 100000 in
theorem fl_103 : FPr (14, 123, 9, 13, 0) := ⟨"OneAtATimeModel", ("OneAtATimeModel", kT9, 29), rfl, rfl, Nat.le_of_ble_eq_true rfl, (gw (List.mem_append_right _ (List.mem_of_getElem? (i := 1028) rfl)) rfl), rfl⟩
set_option maxRecDepth 100000 in
theorem fl_104 : FPr (14, 182, 9, 28, 0) := ⟨"OneAtATimeModel", ("OneAtATimeModel", kT9, 29), rfl, rfl, Nat.le_of_ble_eq_true rfl, (gw (List.mem_append_right _ (List.mem_of_getElem? (i := 1043) rfl)) rfl), rfl⟩
set_option maxRecDepth 100000 in
theorem fl_105 : FPr (14, 185, 9, 18, 1) := ⟨"OneAtATimeModel", ("OneAtATimeModel", kT9, 29), rfl, rfl, Nat.le_of_ble_eq_true rfl, (gw (List.mem_append_right _ (List.mem_of_getElem? (i := 1033) rfl)) rfl), rfl⟩
set_option maxRecDepth 100000 in
theorem fl_106 : FPr (14, 188, 9, 17, 0) := ⟨"OneAtATimeModel", ("OneAtATimeModel", kT9, 29), rfl, rfl, Nat.le_of_ble_eq_true rfl, (gw (List.mem_append_right _ (List.mem_of_getElem? (i := 1032) rfl)) rfl), rfl⟩
set_option maxRecDepth 100000 in
theorem fl_107 : FPr (14, 260, 9, 23, 0) := ⟨"OneAtATimeModel", ("OneAtATimeModel", kT9, 29), rfl, rfl, Nat.le_of_ble_eq_true rfl, (gw (List.mem_append_right _ (List.mem_of_getElem? (i := 1038) rfl)) rfl), rfl⟩
set_option maxRecDepth 100000 in
theorem fl_108 : FPr (14, 263, 9, 22, 0) := ⟨"OneAtATimeModel", ("OneAtATimeModel", kT9, 29), rfl, rfl, Nat.le_of_ble_eq_true rfl, (gw (List.mem_append_right _ (List.mem_of_getElem? (i := 1037) rfl)) rfl), rfl⟩
set_option maxRecDepth 100000 in
theorem fl_109 : FPr (14, 269, 9, 21, 0) := ⟨"OneAtATimeModel", ("OneAtATimeModel", kT9, 29), rfl, rfl, Nat.le_of_ble_eq_true rfl, (gw (List.mem_append_right _ (List.mem_of_getElem? (i := 1036) rfl)) rfl), rfl⟩
set_option maxRecDepth 100000 in
theorem ft_ok : ∀ e ∈ ftL, FPr e := List.forall_mem_cons.mpr ⟨fl_0, List.forall_mem_cons.mpr ⟨fl_1, List.forall_mem_cons.mpr ⟨fl_2, List.forall_mem_cons.mpr ⟨fl_3, List.forall_mem_cons.mpr ⟨fl_4, List.forall_mem_cons.mpr ⟨fl_5, List.forall_mem_cons.mpr ⟨fl_6, List.forall_mem_cons.mpr ⟨fl_7, List.forall_mem_cons.mpr ⟨fl_8, List.forall_mem_cons.mpr ⟨fl_9, List.forall_mem_cons.mpr ⟨fl_10, List.forall_mem_cons.mpr ⟨fl_11, List.forall_mem_cons.mpr ⟨fl_12, List.forall_mem_cons.mpr ⟨fl_13, List.forall_mem_cons.mpr ⟨fl_14, List.forall_mem_cons.mpr ⟨fl_15, List.forall_mem_cons.mpr ⟨fl_16, List.forall_mem_cons.mpr ⟨fl_17, List.forall_mem_cons.mpr ⟨fl_18, List.forall_mem_cons.mpr ⟨fl_19, List.forall_mem_cons.mpr ⟨fl_20, List.forall_mem_cons.mpr ⟨fl_21, List.forall_mem_cons.mpr ⟨fl_22, List.forall_mem_cons.mpr ⟨fl_23, List.forall_mem_cons.mpr ⟨fl_24, List.forall_mem_cons.mpr ⟨fl_25, List.forall_mem_cons.mpr ⟨fl_26, List.forall_mem_cons.mpr ⟨fl_27, List.forall_mem_cons.mpr ⟨fl_28, List.forall_mem_cons.mpr ⟨fl_29, List.forall_mem_cons.mpr ⟨fl_30, List.forall_mem_cons.mpr ⟨fl_31, List.forall_mem_cons.mpr ⟨fl_32, List.forall_mem_cons.mpr ⟨fl_33, List.forall_mem_cons.mpr ⟨fl_34, List.forall_mem_cons.mpr ⟨fl_35, List.forall_mem_cons.mpr ⟨fl_36, List.forall_mem_cons.mpr ⟨fl_37, List.forall_mem_cons.mpr ⟨fl_38, List.forall_mem_cons.mpr ⟨fl_39, List.forall_mem_cons.mpr ⟨fl_40, List.forall_mem_cons.mpr ⟨fl_41, List.forall_mem_cons.mpr ⟨fl_42, List.forall_mem_cons.mpr ⟨fl_43, List.forall_mem_cons.mpr ⟨fl_44, List.forall_mem_cons.mpr ⟨fl_45, List.forall_mem_cons.mpr ⟨fl_46, List.forall_mem_cons.mpr ⟨fl_47, List.forall_mem_cons.mpr ⟨fl_48, List.forall_mem_cons.mpr ⟨fl_49, List.forall_mem_cons.mpr ⟨fl_50, List.forall_mem_cons.mpr ⟨fl_51, List.forall_mem_cons.mpr ⟨fl_52, List.forall_mem_cons.mpr ⟨fl_53, List.forall_mem_cons.mpr ⟨fl_54, List.forall_mem_cons.mpr ⟨fl_55, List.forall_mem_cons.mpr ⟨fl_56, List.forall_mem_cons.mpr ⟨fl_57, List.forall_mem_cons.mpr ⟨fl_58, List.forall_mem_cons.mpr ⟨fl_59, List.forall_mem_cons.mpr ⟨fl_60, List.forall_mem_cons.mpr ⟨fl_61, List.forall_mem_cons.mpr ⟨fl_62, List.forall_mem_cons.mpr ⟨fl_63, List.forall_mem_cons.mpr ⟨fl_64, List.forall_mem_cons.mpr ⟨fl_65, List.forall_mem_cons.mpr ⟨fl_66, List.forall_mem_cons.mpr ⟨fl_67, List.forall_mem_cons.mpr ⟨fl_68, List.forall_mem_cons.mpr ⟨fl_69, List.forall_mem_cons.mpr ⟨fl_70, List.forall_mem_cons.mpr ⟨fl_71, List.forall_mem_cons.mpr ⟨fl_72, List.forall_mem_cons.mpr ⟨fl_73, List.forall_mem_cons.mpr ⟨fl_74, List.forall_mem_cons.mpr ⟨fl_75, List.forall_mem_cons.mpr ⟨fl_76, List.forall_mem_cons.mpr ⟨fl_77, List.forall_mem_cons.mpr ⟨fl_78, List.forall_mem_cons.mpr ⟨fl_79, List.forall_mem_cons.mpr ⟨fl_80, List.forall_mem_cons.mpr ⟨fl_81, List.forall_mem_cons.mpr ⟨fl_82, List.forall_mem_cons.mpr ⟨fl_83, List.forall_mem_cons.mpr ⟨fl_84, List.forall_mem_cons.mpr ⟨fl_85, List.forall_mem_cons.mpr ⟨fl_86, List.forall_mem_cons.mpr ⟨fl_87, List.forall_mem_cons.mpr ⟨fl_88, List.forall_mem_cons.mpr ⟨fl_89, List.forall_mem_cons.mpr ⟨fl_90, List.forall_mem_cons.mpr ⟨fl_91, List.forall_mem_cons.mpr ⟨fl_92, List.forall_mem_cons.mpr ⟨fl_93, List.forall_mem_cons.mpr ⟨fl_94, List.forall_mem_cons.mpr ⟨fl_95, List.forall_mem_cons.mpr ⟨fl_96, List.forall_mem_cons.mpr ⟨fl_97, List.forall_mem_cons.mpr ⟨fl_98, List.forall_mem_cons.mpr ⟨fl_99, List.forall_mem_cons.mpr ⟨fl_100, List.forall_mem_cons.mpr ⟨fl_101, List.forall_mem_cons.mpr ⟨fl_102, List.forall_mem_cons.mpr ⟨fl_103, List.forall_mem_cons.mpr ⟨fl_104, List.forall_mem_cons.mpr ⟨fl_105, List.forall_mem_cons.mpr ⟨fl_106, List.forall_mem_cons.mpr ⟨fl_107, List.forall_mem_cons.mpr ⟨fl_108, List.forall_mem_cons.mpr ⟨fl_109, fun _ h => absurd h List.not_mem_nil⟩⟩⟩⟩⟩⟩⟩⟩⟩⟩⟩⟩⟩⟩⟩⟩⟩⟩⟩⟩⟩⟩⟩⟩⟩⟩⟩⟩⟩⟩⟩⟩⟩⟩⟩⟩⟩⟩⟩⟩⟩⟩⟩⟩⟩⟩⟩⟩⟩⟩⟩⟩⟩⟩⟩⟩⟩⟩⟩⟩⟩⟩⟩⟩⟩⟩⟩⟩⟩⟩⟩⟩⟩⟩⟩⟩⟩⟩⟩⟩⟩⟩⟩⟩⟩⟩⟩⟩⟩⟩⟩⟩⟩⟩⟩⟩⟩⟩⟩⟩⟩⟩⟩⟩⟩⟩⟩⟩⟩⟩
def NPr (e : Nat × Nat × Nat × Nat) : Prop := ∃ (own : String) (q : vw_C), ownL[e.1]? = some own ∧ cls0[bif Nat.beq e.2.2.1 23 then 0 else e.2.2.1]? = some q ∧ Jvm.Cond.classLink own e.2.1 q.1 ∈ gtb ∧ (Nat.beq e.2.2.1 23 = false → q.2.2 = e.2.2.2)
set_option maxRecDepth 100000 in
theorem nl_0 : NPr (0, 9, 23, 0) := ⟨"OneAtATime", ("OneAtATime$BitList", kT0, 7), rfl, rfl, (gw (List.mem_append_right _ (List.mem_of_getElem? (i := 29) rfl)) rfl), fun h => by cases h⟩
set_option maxRecDepth 100000 in
theorem nl_1 : NPr (0, 9, 0, 7) := ⟨"OneAtATime", ("OneAtATime$BitList", kT0, 7), rfl, rfl, (gw (List.mem_append_right _ (List.mem_of_getElem? (i := 29) rfl)) rfl), fun _ => rfl⟩
set_option maxRecDepth 100000 in
theorem nl_2 : NPr (0, 20, 3, 4) := ⟨"OneAtATime", ("OneAtATime$History", kT3, 4), rfl, rfl, (gw (List.mem_append_right _ (List.mem_of_getElem? (i := 89) rfl)) rfl), fun _ => rfl⟩
set_option maxRecDepth 100000 in
theorem nl_3 : NPr (0, 27, 5, 6) := ⟨"OneAtATime", ("OneAtATime$Reader", kT5, 6), rfl, rfl, (gw (List.mem_append_right _ (List.mem_of_getElem? (i := 111) rfl)) rfl), fun _ => rfl⟩
set_option maxRecDepth 100000 in
theorem nl_4 : NPr (0, 34, 1, 2) := ⟨"OneAtATime", ("OneAtATime$Bytes", kT1, 2), rfl, rfl, (gw (List.mem_append_right _ (List.mem_of_getElem? (i := 158) rfl)) rfl), fun _ => rfl⟩
set_option maxRecDepth 100000 in
theorem nl_5 : NPr (0, 43, 7, 5) := ⟨"OneAtATime", ("OneAtATime$Survey", kT7, 5), rfl, rfl, (gw (List.mem_append_right _ (List.mem_of_getElem? (i := 160) rfl)) rfl), fun _ => rfl⟩
set_option maxRecDepth 100000 in
theorem nl_6 : NPr (0, 50, 6, 3) := ⟨"OneAtATime", ("OneAtATime$Search", kT6, 3), rfl, rfl, (gw (List.mem_append_right _ (List.mem_of_getElem? (i := 182) rfl)) rfl), fun _ => rfl⟩
set_option maxRecDepth 100000 in
theorem nl_7 : NPr (0, 57, 4, 2) := ⟨"OneAtATime", ("OneAtATime$Likeness", kT4, 2), rfl, rfl, (gw (List.mem_append_right _ (List.mem_of_getElem? (i := 198) rfl)) rfl), fun _ => rfl⟩
set_option maxRecDepth 100000 in
theorem nl_8 : NPr (0, 64, 2, 5) := ⟨"OneAtATime", ("OneAtATime$Evenness", kT2, 5), rfl, rfl, (gw (List.mem_append_right _ (List.mem_of_getElem? (i := 211) rfl)) rfl), fun _ => rfl⟩
set_option maxRecDepth 100000 in
theorem nl_9 : NPr (2, 9, 23, 0) := ⟨"OneAtATime$History", ("OneAtATime$BitList", kT0, 7), rfl, rfl, (gw (List.mem_append_right _ (List.mem_of_getElem? (i := 95) rfl)) rfl), fun h => by cases h⟩
set_option maxRecDepth 100000 in
theorem nl_10 : NPr (2, 9, 0, 7) := ⟨"OneAtATime$History", ("OneAtATime$BitList", kT0, 7), rfl, rfl, (gw (List.mem_append_right _ (List.mem_of_getElem? (i := 95) rfl)) rfl), fun _ => rfl⟩
set_option maxRecDepth 100000 in
theorem nl_11 : NPr (3, 9, 1, 2) := ⟨"OneAtATime$Reader", ("OneAtATime$Bytes", kT1, 2), rfl, rfl, (gw (List.mem_append_right _ (List.mem_of_getElem? (i := 117) rfl)) rfl), fun _ => rfl⟩
set_option maxRecDepth 100000 in
theorem nl_12 : NPr (15, 7, 8, 9) := ⟨"OneAtATimeLaw", ("OneAtATime", kT8, 9), rfl, rfl, (gw (List.mem_append_right _ (List.mem_of_getElem? (i := 21) rfl)) rfl), fun _ => rfl⟩
set_option maxRecDepth 100000 in
theorem nl_13 : NPr (15, 10, 9, 29) := ⟨"OneAtATimeLaw", ("OneAtATimeModel", kT9, 29), rfl, rfl, (gw (List.mem_append_right _ (List.mem_of_getElem? (i := 1009) rfl)) rfl), fun _ => rfl⟩
set_option maxRecDepth 100000 in
theorem nt_ok : ∀ e ∈ ntL, NPr e := List.forall_mem_cons.mpr ⟨nl_0, List.forall_mem_cons.mpr ⟨nl_1, List.forall_mem_cons.mpr ⟨nl_2, List.forall_mem_cons.mpr ⟨nl_3, List.forall_mem_cons.mpr ⟨nl_4, List.forall_mem_cons.mpr ⟨nl_5, List.forall_mem_cons.mpr ⟨nl_6, List.forall_mem_cons.mpr ⟨nl_7, List.forall_mem_cons.mpr ⟨nl_8, List.forall_mem_cons.mpr ⟨nl_9, List.forall_mem_cons.mpr ⟨nl_10, List.forall_mem_cons.mpr ⟨nl_11, List.forall_mem_cons.mpr ⟨nl_12, List.forall_mem_cons.mpr ⟨nl_13, fun _ h => absurd h List.not_mem_nil⟩⟩⟩⟩⟩⟩⟩⟩⟩⟩⟩⟩⟩⟩
def KPr (e : Nat × Nat × Nat) : Prop := ∃ own : String, ownL[e.1]? = some own ∧ Jvm.Cond.constant own e.2.1 (Int32.ofInt (e.2.2 : Int)) ∈ gtb
theorem kl_0 : KPr (11, 265, 1431655765) := ⟨"java/lang/Integer", rfl, gw (List.mem_append_right _ (List.mem_of_getElem? (i := 480) (by decide +kernel))) rfl⟩
theorem kl_1 : KPr (11, 266, 858993459) := ⟨"java/lang/Integer", rfl, gw (List.mem_append_right _ (List.mem_of_getElem? (i := 481) (by decide +kernel))) rfl⟩
theorem kl_2 : KPr (11, 267, 252645135) := ⟨"java/lang/Integer", rfl, gw (List.mem_append_right _ (List.mem_of_getElem? (i := 482) (by decide +kernel))) rfl⟩
theorem kl_3 : KPr (11, 264, 65536) := ⟨"java/lang/Integer", rfl, gw (List.mem_append_right _ (List.mem_of_getElem? (i := 683) (by decide +kernel))) rfl⟩
theorem kl_4 : KPr (0, 245, 50000) := ⟨"OneAtATime", rfl, gw (List.mem_append_right _ (List.mem_of_getElem? (i := 716) (by decide +kernel))) rfl⟩
theorem kl_5 : KPr (7, 42, 1000000) := ⟨"OneAtATime$Search", rfl, gw (List.mem_append_right _ (List.mem_of_getElem? (i := 729) (by decide +kernel))) rfl⟩
theorem kl_6 : KPr (9, 33, 65536) := ⟨"OneAtATime$Evenness", rfl, gw (List.mem_append_right _ (List.mem_of_getElem? (i := 822) (by decide +kernel))) rfl⟩
set_option maxRecDepth 100000 in
theorem kc_ok : ∀ e ∈ kcL, KPr e := List.forall_mem_cons.mpr ⟨kl_0, List.forall_mem_cons.mpr ⟨kl_1, List.forall_mem_cons.mpr ⟨kl_2, List.forall_mem_cons.mpr ⟨kl_3, List.forall_mem_cons.mpr ⟨kl_4, List.forall_mem_cons.mpr ⟨kl_5, List.forall_mem_cons.mpr ⟨kl_6, fun _ h => absurd h List.not_mem_nil⟩⟩⟩⟩⟩⟩⟩
def LPr (e : Nat × Nat × Nat × Nat) : Prop := ∃ own : String, ownL[e.1]? = some own ∧ Jvm.Cond.constantLong own e.2.1 (Int64.ofInt (bif Nat.beq e.2.2.2 1 then -(e.2.2.1 : Int) else (e.2.2.1 : Int))) ∈ gtb
theorem ll_0 : LPr (13, 314, 6148914691236517205, 0) := ⟨"java/lang/Long", rfl, gw (List.mem_append_right _ (List.mem_of_getElem? (i := 771) (by decide +kernel))) rfl⟩
theorem ll_1 : LPr (13, 316, 3689348814741910323, 0) := ⟨"java/lang/Long", rfl, gw (List.mem_append_right _ (List.mem_of_getElem? (i := 772) (by decide +kernel))) rfl⟩
theorem ll_2 : LPr (13, 318, 1085102592571150095, 0) := ⟨"java/lang/Long", rfl, gw (List.mem_append_right _ (List.mem_of_getElem? (i := 773) (by decide +kernel))) rfl⟩
theorem ll_3 : LPr (0, 267, 2, 1) := ⟨"OneAtATime", rfl, gw (List.mem_append_right _ (List.mem_of_getElem? (i := 810) (by decide +kernel))) rfl⟩
theorem ll_4 : LPr (0, 269, 5, 1) := ⟨"OneAtATime", rfl, gw (List.mem_append_right _ (List.mem_of_getElem? (i := 811) (by decide +kernel))) rfl⟩
theorem ll_5 : LPr (0, 271, 6, 1) := ⟨"OneAtATime", rfl, gw (List.mem_append_right _ (List.mem_of_getElem? (i := 812) (by decide +kernel))) rfl⟩
theorem ll_6 : LPr (14, 58, 2, 0) := ⟨"OneAtATimeModel", rfl, gw (List.mem_append_right _ (List.mem_of_getElem? (i := 1115) (by decide +kernel))) rfl⟩
theorem ll_7 : LPr (14, 224, 6, 0) := ⟨"OneAtATimeModel", rfl, gw (List.mem_append_right _ (List.mem_of_getElem? (i := 1210) (by decide +kernel))) rfl⟩
theorem ll_8 : LPr (14, 229, 7, 0) := ⟨"OneAtATimeModel", rfl, gw (List.mem_append_right _ (List.mem_of_getElem? (i := 1278) (by decide +kernel))) rfl⟩
theorem ll_9 : LPr (14, 276, 3, 0) := ⟨"OneAtATimeModel", rfl, gw (List.mem_append_right _ (List.mem_of_getElem? (i := 1395) (by decide +kernel))) rfl⟩
theorem ll_10 : LPr (14, 278, 50000, 0) := ⟨"OneAtATimeModel", rfl, gw (List.mem_append_right _ (List.mem_of_getElem? (i := 1396) (by decide +kernel))) rfl⟩
theorem ll_11 : LPr (14, 301, 2, 1) := ⟨"OneAtATimeModel", rfl, gw (List.mem_append_right _ (List.mem_of_getElem? (i := 1436) (by decide +kernel))) rfl⟩
theorem ll_12 : LPr (14, 303, 5, 1) := ⟨"OneAtATimeModel", rfl, gw (List.mem_append_right _ (List.mem_of_getElem? (i := 1437) (by decide +kernel))) rfl⟩
theorem ll_13 : LPr (14, 305, 6, 1) := ⟨"OneAtATimeModel", rfl, gw (List.mem_append_right _ (List.mem_of_getElem? (i := 1438) (by decide +kernel))) rfl⟩
theorem ll_14 : LPr (15, 129, 4294967295, 0) := ⟨"OneAtATimeLaw", rfl, gw (List.mem_append_right _ (List.mem_of_getElem? (i := 1560) (by decide +kernel))) rfl⟩
set_option maxRecDepth 100000 in
theorem kl_ok : ∀ e ∈ klL, LPr e := List.forall_mem_cons.mpr ⟨ll_0, List.forall_mem_cons.mpr ⟨ll_1, List.forall_mem_cons.mpr ⟨ll_2, List.forall_mem_cons.mpr ⟨ll_3, List.forall_mem_cons.mpr ⟨ll_4, List.forall_mem_cons.mpr ⟨ll_5, List.forall_mem_cons.mpr ⟨ll_6, List.forall_mem_cons.mpr ⟨ll_7, List.forall_mem_cons.mpr ⟨ll_8, List.forall_mem_cons.mpr ⟨ll_9, List.forall_mem_cons.mpr ⟨ll_10, List.forall_mem_cons.mpr ⟨ll_11, List.forall_mem_cons.mpr ⟨ll_12, List.forall_mem_cons.mpr ⟨ll_13, List.forall_mem_cons.mpr ⟨ll_14, fun _ h => absurd h List.not_mem_nil⟩⟩⟩⟩⟩⟩⟩⟩⟩⟩⟩⟩⟩⟩⟩
def strL : List String := ["", "", " levels ", " start ", " to ", ":", ";", "bits", "bits ", "levels", "start", "to"]
def SPr (e : Nat × Nat × Nat) : Prop := ∃ (own tx : String), ownL[e.1]? = some own ∧ strL[e.2.2]? = some tx ∧ 2 ≤ e.2.2 ∧ e.2.2 < 12 
set_option maxRecDepth 100000 in
theorem sl_0 : SPr (3, 54, 7) := ⟨"OneAtATime$Reader", "bits", rfl, rfl, by decide, by decide⟩
set_option maxRecDepth 100000 in
theorem sl_1 : SPr (3, 64, 9) := ⟨"OneAtATime$Reader", "levels", rfl, rfl, by decide, by decide⟩
set_option maxRecDepth 100000 in
theorem sl_2 : SPr (3, 70, 11) := ⟨"OneAtATime$Reader", "to", rfl, rfl, by decide, by decide⟩
set_option maxRecDepth 100000 in
theorem sl_3 : SPr (3, 71, 10) := ⟨"OneAtATime$Reader", "start", rfl, rfl, by decide, by decide⟩
set_option maxRecDepth 100000 in
theorem sl_4 : SPr (4, 38, 8) := ⟨"OneAtATime$Bytes", "bits ", rfl, rfl, by decide, by decide⟩
set_option maxRecDepth 100000 in
theorem sl_5 : SPr (4, 52, 2) := ⟨"OneAtATime$Bytes", " levels ", rfl, rfl, by decide, by decide⟩
set_option maxRecDepth 100000 in
theorem sl_6 : SPr (4, 57, 4) := ⟨"OneAtATime$Bytes", " to ", rfl, rfl, by decide, by decide⟩
set_option maxRecDepth 100000 in
theorem sl_7 : SPr (4, 62, 3) := ⟨"OneAtATime$Bytes", " start ", rfl, rfl, by decide, by decide⟩
set_option maxRecDepth 100000 in
theorem sl_8 : SPr (14, 162, 7) := ⟨"OneAtATimeModel", "bits", rfl, rfl, by decide, by decide⟩
set_option maxRecDepth 100000 in
theorem sl_9 : SPr (14, 170, 9) := ⟨"OneAtATimeModel", "levels", rfl, rfl, by decide, by decide⟩
set_option maxRecDepth 100000 in
theorem sl_10 : SPr (14, 172, 11) := ⟨"OneAtATimeModel", "to", rfl, rfl, by decide, by decide⟩
set_option maxRecDepth 100000 in
theorem sl_11 : SPr (14, 174, 10) := ⟨"OneAtATimeModel", "start", rfl, rfl, by decide, by decide⟩
set_option maxRecDepth 100000 in
theorem sl_12 : SPr (14, 343, 8) := ⟨"OneAtATimeModel", "bits ", rfl, rfl, by decide, by decide⟩
set_option maxRecDepth 100000 in
theorem sl_13 : SPr (14, 349, 2) := ⟨"OneAtATimeModel", " levels ", rfl, rfl, by decide, by decide⟩
set_option maxRecDepth 100000 in
theorem sl_14 : SPr (14, 351, 4) := ⟨"OneAtATimeModel", " to ", rfl, rfl, by decide, by decide⟩
set_option maxRecDepth 100000 in
theorem sl_15 : SPr (14, 353, 3) := ⟨"OneAtATimeModel", " start ", rfl, rfl, by decide, by decide⟩
set_option maxRecDepth 100000 in
theorem sl_16 : SPr (14, 355, 5) := ⟨"OneAtATimeModel", ":", rfl, rfl, by decide, by decide⟩
set_option maxRecDepth 100000 in
theorem sl_17 : SPr (14, 357, 6) := ⟨"OneAtATimeModel", ";", rfl, rfl, by decide, by decide⟩
set_option maxRecDepth 100000 in
theorem sc_ok : ∀ e ∈ scL, SPr e := List.forall_mem_cons.mpr ⟨sl_0, List.forall_mem_cons.mpr ⟨sl_1, List.forall_mem_cons.mpr ⟨sl_2, List.forall_mem_cons.mpr ⟨sl_3, List.forall_mem_cons.mpr ⟨sl_4, List.forall_mem_cons.mpr ⟨sl_5, List.forall_mem_cons.mpr ⟨sl_6, List.forall_mem_cons.mpr ⟨sl_7, List.forall_mem_cons.mpr ⟨sl_8, List.forall_mem_cons.mpr ⟨sl_9, List.forall_mem_cons.mpr ⟨sl_10, List.forall_mem_cons.mpr ⟨sl_11, List.forall_mem_cons.mpr ⟨sl_12, List.forall_mem_cons.mpr ⟨sl_13, List.forall_mem_cons.mpr ⟨sl_14, List.forall_mem_cons.mpr ⟨sl_15, List.forall_mem_cons.mpr ⟨sl_16, List.forall_mem_cons.mpr ⟨sl_17, fun _ h => absurd h List.not_mem_nil⟩⟩⟩⟩⟩⟩⟩⟩⟩⟩⟩⟩⟩⟩⟩⟩⟩⟩
end
section
/-- a method's own words -/
def MFr (q : MR) (n : Nat) : Prop := Jvm.Cond.code q.2.1 q.2.2.1 q.2.2.2.1 q.2.2.2.2.1 ∈ gtb ∧ Jvm.Cond.initialized q.2.1.cls ∈ gtb ∧ (parseMethodDescriptor q.2.1.desc).map (fun d => d.parameters.length) = some n ∧ plainName q.2.1.cls = true
def MathW (y : MethodName) (cc : ByteArray) (n : Nat) (t : FieldType) : Prop := Jvm.Cond.static y ∈ gtb ∧ Jvm.Cond.initialized "java/lang/Math" ∈ gtb ∧ Jvm.Cond.code y cc n (some t) ∈ gtb
/-- a call's link: own class, entry, kind (0 static, 1 virtual, 2 special), callee, how many arguments, kind of answer, class of the receiver -/
def MPr (e : List Nat) : Prop := match e with
  | [o, x, 0, 1002, 5, 0, 0] => ∃ own : String, ownL[o]? = some own ∧ Jvm.Cond.methodLink own x arraycopyName ∈ gtb ∧ Jvm.Cond.native arraycopyName ∈ gtb ∧ Jvm.Cond.static arraycopyName ∈ gtb ∧ Jvm.Cond.initialized "java/lang/System" ∈ gtb
  | [o, x, 0, 1004, 2, 1, 0] => ∃ own : String, ownL[o]? = some own ∧ Jvm.Cond.methodLink own x Lib.Math.max.name ∈ gtb ∧ MathW Lib.Math.max.name Lib.Math.max.code 2 .int
  | [o, x, 0, 1005, 2, 1, 0] => ∃ own : String, ownL[o]? = some own ∧ Jvm.Cond.methodLink own x Lib.Math.min.name ∈ gtb ∧ MathW Lib.Math.min.name Lib.Math.min.code 2 .int
  | [o, x, 0, 1006, 1, 1, 0] => ∃ own : String, ownL[o]? = some own ∧ Jvm.Cond.methodLink own x Lib.Math.abs.name ∈ gtb ∧ MathW Lib.Math.abs.name Lib.Math.abs.code 1 .int
  | [o, x, 0, 1007, 2, 3, 0] => ∃ own : String, ownL[o]? = some own ∧ Jvm.Cond.methodLink own x Lib.MathLoose.min_long.x ∈ gtb ∧ MathW Lib.MathLoose.min_long.x Lib.MathLoose.min_long.code 4 .long
  | [o, x, 1, 1000, 1, 1, 30] => ∃ own : String, ownL[o]? = some own ∧ Jvm.Cond.methodLink own x ⟨"java/lang/String", "length", "()I"⟩ ∈ gtb
  | [o, x, 1, 1001, 2, 1, 30] => ∃ own : String, ownL[o]? = some own ∧ Jvm.Cond.methodLink own x ⟨"java/lang/String", "charAt", "(I)C"⟩ ∈ gtb
  | [o, x, 2, 1003, 1, 0, 0] => ∃ own : String, ownL[o]? = some own ∧ Jvm.Cond.methodLink own x Lib.objectInit ∈ gtb ∧ Jvm.Cond.instanceMethod Lib.objectInit ∈ gtb ∧ Jvm.Cond.code Lib.objectInit ⟨#[0xb1]⟩ 1 none ∈ gtb
  | [o, x, 0, k, n, r, 0] => ∃ (own : String) (q : MR), ownL[o]? = some own ∧ prog[k]? = some q ∧ Jvm.Cond.methodLink own x q.2.1 ∈ gtb ∧ Jvm.Cond.static q.2.1 ∈ gtb ∧ MFr q n ∧ retK q.2.2.2.2.1 = r ∧ k < 1000
  | [o, x, 1, k, n + 1, r, cl] => ∃ (own : String) (q : MR) (c : vw_C), ownL[o]? = some own ∧ prog[k]? = some q ∧ cls0[cl]? = some c ∧ c.1 = q.2.1.cls ∧ Jvm.Cond.methodLink own x q.2.1 ∈ gtb ∧ (Jvm.Cond.instanceMethod q.2.1 ∈ gtb ∧ Jvm.Cond.selects q.2.1.cls q.2.1 q.2.1 ∈ gtb) ∧ MFr q n ∧ retK q.2.2.2.2.1 = r ∧ k < 1000
  | [o, x, 2, k, n + 1, 0, 0] => ∃ (own : String) (q : MR), ownL[o]? = some own ∧ prog[k]? = some q ∧ q.2.1.name = "<init>" ∧ Jvm.Cond.methodLink own x q.2.1 ∈ gtb ∧ Jvm.Cond.instanceMethod q.2.1 ∈ gtb ∧ MFr q n ∧ q.2.2.2.2.1 = none ∧ k < 1000
  | _ => False
set_option maxRecDepth 100000 in
theorem ini_0 : Jvm.Cond.initialized "OneAtATime" ∈ gtb := (gw (List.mem_append_right _ (List.mem_of_getElem? (i := 1) rfl)) rfl)
set_option maxRecDepth 100000 in
theorem ini_1 : Jvm.Cond.initialized "OneAtATime$BitList" ∈ gtb := (gw (List.mem_append_right _ (List.mem_of_getElem? (i := 2) rfl)) rfl)
set_option maxRecDepth 100000 in
theorem ini_2 : Jvm.Cond.initialized "OneAtATime$History" ∈ gtb := (gw (List.mem_append_right _ (List.mem_of_getElem? (i := 3) rfl)) rfl)
set_option maxRecDepth 100000 in
theorem ini_3 : Jvm.Cond.initialized "OneAtATime$Reader" ∈ gtb := (gw (List.mem_append_right _ (List.mem_of_getElem? (i := 4) rfl)) rfl)
set_option maxRecDepth 100000 in
theorem ini_4 : Jvm.Cond.initialized "OneAtATime$Bytes" ∈ gtb := (gw (List.mem_append_right _ (List.mem_of_getElem? (i := 5) rfl)) rfl)
set_option maxRecDepth 100000 in
theorem ini_5 : Jvm.Cond.initialized "java/lang/Math" ∈ gtb := (gw (List.mem_append_right _ (List.mem_of_getElem? (i := 6) rfl)) rfl)
set_option maxRecDepth 100000 in
theorem ini_6 : Jvm.Cond.initialized "OneAtATime$Survey" ∈ gtb := (gw (List.mem_append_right _ (List.mem_of_getElem? (i := 7) rfl)) rfl)
set_option maxRecDepth 100000 in
theorem ini_7 : Jvm.Cond.initialized "OneAtATime$Search" ∈ gtb := (gw (List.mem_append_right _ (List.mem_of_getElem? (i := 8) rfl)) rfl)
set_option maxRecDepth 100000 in
theorem ini_8 : Jvm.Cond.initialized "OneAtATime$Likeness" ∈ gtb := (gw (List.mem_append_right _ (List.mem_of_getElem? (i := 9) rfl)) rfl)
set_option maxRecDepth 100000 in
theorem ini_9 : Jvm.Cond.initialized "OneAtATime$Evenness" ∈ gtb := (gw (List.mem_append_right _ (List.mem_of_getElem? (i := 10) rfl)) rfl)
set_option maxRecDepth 100000 in
theorem ini_10 : Jvm.Cond.initialized "java/util/Arrays" ∈ gtb := (gw (List.mem_append_right _ (List.mem_of_getElem? (i := 17) rfl)) rfl)
set_option maxRecDepth 100000 in
theorem ini_11 : Jvm.Cond.initialized "java/lang/Integer" ∈ gtb := (gw (List.mem_append_right _ (List.mem_of_getElem? (i := 18) rfl)) rfl)
set_option maxRecDepth 100000 in
theorem ini_12 : Jvm.Cond.initialized "OneAtATime$Maker" ∈ gtb := (gw (List.mem_append_right _ (List.mem_of_getElem? (i := 19) rfl)) rfl)
set_option maxRecDepth 100000 in
theorem ini_13 : Jvm.Cond.initialized "java/lang/Long" ∈ gtb := (gw (List.mem_append_right _ (List.mem_of_getElem? (i := 20) rfl)) rfl)
set_option maxRecDepth 100000 in
theorem ini_14 : Jvm.Cond.initialized "OneAtATimeModel" ∈ gtb := (gw (List.mem_append_right _ (List.mem_of_getElem? (i := 11) rfl)) rfl)
set_option maxRecDepth 100000 in
theorem ini_15 : Jvm.Cond.initialized "OneAtATimeLaw" ∈ gtb := (gw (List.mem_append_right _ (List.mem_of_getElem? (i := 0) rfl)) rfl)
set_option maxRecDepth 100000 in
theorem ini_16 : Jvm.Cond.initialized "java/lang/System" ∈ gtb := (gw (List.mem_append_right _ (List.mem_of_getElem? (i := 16) rfl)) rfl)
set_option maxRecDepth 100000 in
theorem mw_1004 : MathW Lib.Math.max.name Lib.Math.max.code 2 .int := ⟨(gw (List.mem_append_right _ (List.mem_of_getElem? (i := 124) rfl)) rfl), ini_5, (gw (List.mem_append_right _ (List.mem_of_getElem? (i := 125) rfl)) rfl)⟩
set_option maxRecDepth 100000 in
theorem mw_1005 : MathW Lib.Math.min.name Lib.Math.min.code 2 .int := ⟨(gw (List.mem_append_right _ (List.mem_of_getElem? (i := 421) rfl)) rfl), ini_5, (gw (List.mem_append_right _ (List.mem_of_getElem? (i := 422) rfl)) rfl)⟩
set_option maxRecDepth 100000 in
theorem mw_1006 : MathW Lib.Math.abs.name Lib.Math.abs.code 1 .int := ⟨(gw (List.mem_append_right _ (List.mem_of_getElem? (i := 519) rfl)) rfl), ini_5, (gw (List.mem_append_right _ (List.mem_of_getElem? (i := 520) rfl)) rfl)⟩
set_option maxRecDepth 100000 in
theorem mw_1007 : MathW Lib.MathLoose.min_long.x Lib.MathLoose.min_long.code 4 .long := ⟨(gw (List.mem_append_right _ (List.mem_of_getElem? (i := 835) rfl)) rfl), ini_5, (gw (List.mem_append_right _ (List.mem_of_getElem? (i := 836) rfl)) rfl)⟩
set_option maxRecDepth 100000 in
theorem ml_0 : MPr [0, 1, 2, 1003, 1, 0, 0] := ⟨"OneAtATime", rfl, (gw (List.mem_append_right _ (List.mem_of_getElem? (i := 26) rfl)) rfl), (gw (List.mem_append_right _ (List.mem_of_getElem? (i := 27) rfl)) rfl), (gw (List.mem_append_right _ (List.mem_of_getElem? (i := 28) rfl)) rfl)⟩
set_option maxRecDepth 100000 in
theorem mf_1 : MFr pm_1 0 := ⟨(gw (List.mem_append_right _ (List.mem_of_getElem? (i := 34) rfl)) rfl), ini_1, by decide +kernel, by decide +kernel⟩
set_option maxRecDepth 100000 in
theorem mi_1 : Jvm.Cond.instanceMethod pm_1.2.1 ∈ gtb := (gw (List.mem_append_right _ (List.mem_of_getElem? (i := 33) rfl)) rfl)
set_option maxRecDepth 100000 in
theorem ml_1 : MPr [0, 15, 2, 1, 1, 0, 0] := ⟨"OneAtATime", pm_1, rfl, rfl, rfl, (gw (List.mem_append_right _ (List.mem_of_getElem? (i := 32) rfl)) rfl), mi_1, mf_1, rfl, Nat.le_of_ble_eq_true rfl⟩
set_option maxRecDepth 100000 in
theorem mf_2 : MFr pm_2 0 := ⟨(gw (List.mem_append_right _ (List.mem_of_getElem? (i := 93) rfl)) rfl), ini_2, by decide +kernel, by decide +kernel⟩
set_option maxRecDepth 100000 in
theorem mi_2 : Jvm.Cond.instanceMethod pm_2.2.1 ∈ gtb := (gw (List.mem_append_right _ (List.mem_of_getElem? (i := 92) rfl)) rfl)
set_option maxRecDepth 100000 in
theorem ml_2 : MPr [0, 22, 2, 2, 1, 0, 0] := ⟨"OneAtATime", pm_2, rfl, rfl, rfl, (gw (List.mem_append_right _ (List.mem_of_getElem? (i := 91) rfl)) rfl), mi_2, mf_2, rfl, Nat.le_of_ble_eq_true rfl⟩
set_option maxRecDepth 100000 in
theorem mf_3 : MFr pm_3 0 := ⟨(gw (List.mem_append_right _ (List.mem_of_getElem? (i := 115) rfl)) rfl), ini_3, by decide +kernel, by decide +kernel⟩
set_option maxRecDepth 100000 in
theorem mi_3 : Jvm.Cond.instanceMethod pm_3.2.1 ∈ gtb := (gw (List.mem_append_right _ (List.mem_of_getElem? (i := 114) rfl)) rfl)
set_option maxRecDepth 100000 in
theorem ml_3 : MPr [0, 29, 2, 3, 1, 0, 0] := ⟨"OneAtATime", pm_3, rfl, rfl, rfl, (gw (List.mem_append_right _ (List.mem_of_getElem? (i := 113) rfl)) rfl), mi_3, mf_3, rfl, Nat.le_of_ble_eq_true rfl⟩
set_option maxRecDepth 100000 in
theorem mf_4 : MFr pm_4 1 := ⟨(gw (List.mem_append_right _ (List.mem_of_getElem? (i := 121) rfl)) rfl), ini_4, by decide +kernel, by decide +kernel⟩
set_option maxRecDepth 100000 in
theorem mi_4 : Jvm.Cond.instanceMethod pm_4.2.1 ∈ gtb := (gw (List.mem_append_right _ (List.mem_of_getElem? (i := 120) rfl)) rfl)
set_option maxRecDepth 100000 in
theorem ml_4 : MPr [0, 36, 2, 4, 2, 0, 0] := ⟨"OneAtATime", pm_4, rfl, rfl, rfl, (gw (List.mem_append_right _ (List.mem_of_getElem? (i := 159) rfl)) rfl), mi_4, mf_4, rfl, Nat.le_of_ble_eq_true rfl⟩
set_option maxRecDepth 100000 in
theorem mf_6 : MFr pm_6 0 := ⟨(gw (List.mem_append_right _ (List.mem_of_getElem? (i := 164) rfl)) rfl), ini_6, by decide +kernel, by decide +kernel⟩
set_option maxRecDepth 100000 in
theorem mi_6 : Jvm.Cond.instanceMethod pm_6.2.1 ∈ gtb := (gw (List.mem_append_right _ (List.mem_of_getElem? (i := 163) rfl)) rfl)
set_option maxRecDepth 100000 in
theorem ml_5 : MPr [0, 45, 2, 6, 1, 0, 0] := ⟨"OneAtATime", pm_6, rfl, rfl, rfl, (gw (List.mem_append_right _ (List.mem_of_getElem? (i := 162) rfl)) rfl), mi_6, mf_6, rfl, Nat.le_of_ble_eq_true rfl⟩
set_option maxRecDepth 100000 in
theorem mf_7 : MFr pm_7 0 := ⟨(gw (List.mem_append_right _ (List.mem_of_getElem? (i := 186) rfl)) rfl), ini_7, by decide +kernel, by decide +kernel⟩
set_option maxRecDepth 100000 in
theorem mi_7 : Jvm.Cond.instanceMethod pm_7.2.1 ∈ gtb := (gw (List.mem_append_right _ (List.mem_of_getElem? (i := 185) rfl)) rfl)
set_option maxRecDepth 100000 in
theorem ml_6 : MPr [0, 52, 2, 7, 1, 0, 0] := ⟨"OneAtATime", pm_7, rfl, rfl, rfl, (gw (List.mem_append_right _ (List.mem_of_getElem? (i := 184) rfl)) rfl), mi_7, mf_7, rfl, Nat.le_of_ble_eq_true rfl⟩
set_option maxRecDepth 100000 in
theorem mf_8 : MFr pm_8 0 := ⟨(gw (List.mem_append_right _ (List.mem_of_getElem? (i := 202) rfl)) rfl), ini_8, by decide +kernel, by decide +kernel⟩
set_option maxRecDepth 100000 in
theorem mi_8 : Jvm.Cond.instanceMethod pm_8.2.1 ∈ gtb := (gw (List.mem_append_right _ (List.mem_of_getElem? (i := 201) rfl)) rfl)
set_option maxRecDepth 100000 in
theorem ml_7 : MPr [0, 59, 2, 8, 1, 0, 0] := ⟨"OneAtATime", pm_8, rfl, rfl, rfl, (gw (List.mem_append_right _ (List.mem_of_getElem? (i := 200) rfl)) rfl), mi_8, mf_8, rfl, Nat.le_of_ble_eq_true rfl⟩
set_option maxRecDepth 100000 in
theorem mf_9 : MFr pm_9 0 := ⟨(gw (List.mem_append_right _ (List.mem_of_getElem? (i := 215) rfl)) rfl), ini_9, by decide +kernel, by decide +kernel⟩
set_option maxRecDepth 100000 in
theorem mi_9 : Jvm.Cond.instanceMethod pm_9.2.1 ∈ gtb := (gw (List.mem_append_right _ (List.mem_of_getElem? (i := 214) rfl)) rfl)
set_option maxRecDepth 100000 in
theorem ml_8 : MPr [0, 66, 2, 9, 1, 0, 0] := ⟨"OneAtATime", pm_9, rfl, rfl, rfl, (gw (List.mem_append_right _ (List.mem_of_getElem? (i := 213) rfl)) rfl), mi_9, mf_9, rfl, Nat.le_of_ble_eq_true rfl⟩
set_option maxRecDepth 100000 in
theorem ml_9 : MPr [1, 3, 2, 1003, 1, 0, 0] := ⟨"OneAtATime$BitList", rfl, (gw (List.mem_append_right _ (List.mem_of_getElem? (i := 35) rfl)) rfl), (gw (List.mem_append_right _ (List.mem_of_getElem? (i := 27) rfl)) rfl), (gw (List.mem_append_right _ (List.mem_of_getElem? (i := 28) rfl)) rfl)⟩
set_option maxRecDepth 100000 in
theorem ml_10 : MPr [2, 3, 2, 1003, 1, 0, 0] := ⟨"OneAtATime$History", rfl, (gw (List.mem_append_right _ (List.mem_of_getElem? (i := 94) rfl)) rfl), (gw (List.mem_append_right _ (List.mem_of_getElem? (i := 27) rfl)) rfl), (gw (List.mem_append_right _ (List.mem_of_getElem? (i := 28) rfl)) rfl)⟩
set_option maxRecDepth 100000 in
theorem ml_11 : MPr [2, 17, 2, 1, 1, 0, 0] := ⟨"OneAtATime$History", pm_1, rfl, rfl, rfl, (gw (List.mem_append_right _ (List.mem_of_getElem? (i := 96) rfl)) rfl), mi_1, mf_1, rfl, Nat.le_of_ble_eq_true rfl⟩
set_option maxRecDepth 100000 in
theorem ml_12 : MPr [3, 3, 2, 1003, 1, 0, 0] := ⟨"OneAtATime$Reader", rfl, (gw (List.mem_append_right _ (List.mem_of_getElem? (i := 116) rfl)) rfl), (gw (List.mem_append_right _ (List.mem_of_getElem? (i := 27) rfl)) rfl), (gw (List.mem_append_right _ (List.mem_of_getElem? (i := 28) rfl)) rfl)⟩
set_option maxRecDepth 100000 in
theorem ml_13 : MPr [3, 11, 2, 4, 2, 0, 0] := ⟨"OneAtATime$Reader", pm_4, rfl, rfl, rfl, (gw (List.mem_append_right _ (List.mem_of_getElem? (i := 119) rfl)) rfl), mi_4, mf_4, rfl, Nat.le_of_ble_eq_true rfl⟩
set_option maxRecDepth 100000 in
theorem ml_14 : MPr [4, 3, 2, 1003, 1, 0, 0] := ⟨"OneAtATime$Bytes", rfl, (gw (List.mem_append_right _ (List.mem_of_getElem? (i := 122) rfl)) rfl), (gw (List.mem_append_right _ (List.mem_of_getElem? (i := 27) rfl)) rfl), (gw (List.mem_append_right _ (List.mem_of_getElem? (i := 28) rfl)) rfl)⟩
set_option maxRecDepth 100000 in
theorem ml_15 : MPr [4, 9, 0, 1004, 2, 1, 0] := ⟨"OneAtATime$Bytes", rfl, (gw (List.mem_append_right _ (List.mem_of_getElem? (i := 123) rfl)) rfl), mw_1004⟩
set_option maxRecDepth 100000 in
theorem ml_16 : MPr [6, 3, 2, 1003, 1, 0, 0] := ⟨"OneAtATime$Survey", rfl, (gw (List.mem_append_right _ (List.mem_of_getElem? (i := 165) rfl)) rfl), (gw (List.mem_append_right _ (List.mem_of_getElem? (i := 27) rfl)) rfl), (gw (List.mem_append_right _ (List.mem_of_getElem? (i := 28) rfl)) rfl)⟩
set_option maxRecDepth 100000 in
theorem ml_17 : MPr [7, 3, 2, 1003, 1, 0, 0] := ⟨"OneAtATime$Search", rfl, (gw (List.mem_append_right _ (List.mem_of_getElem? (i := 187) rfl)) rfl), (gw (List.mem_append_right _ (List.mem_of_getElem? (i := 27) rfl)) rfl), (gw (List.mem_append_right _ (List.mem_of_getElem? (i := 28) rfl)) rfl)⟩
set_option maxRecDepth 100000 in
theorem ml_18 : MPr [8, 3, 2, 1003, 1, 0, 0] := ⟨"OneAtATime$Likeness", rfl, (gw (List.mem_append_right _ (List.mem_of_getElem? (i := 203) rfl)) rfl), (gw (List.mem_append_right _ (List.mem_of_getElem? (i := 27) rfl)) rfl), (gw (List.mem_append_right _ (List.mem_of_getElem? (i := 28) rfl)) rfl)⟩
set_option maxRecDepth 100000 in
theorem ml_19 : MPr [9, 3, 2, 1003, 1, 0, 0] := ⟨"OneAtATime$Evenness", rfl, (gw (List.mem_append_right _ (List.mem_of_getElem? (i := 216) rfl)) rfl), (gw (List.mem_append_right _ (List.mem_of_getElem? (i := 27) rfl)) rfl), (gw (List.mem_append_right _ (List.mem_of_getElem? (i := 28) rfl)) rfl)⟩
set_option maxRecDepth 100000 in
theorem mf_11 : MFr pm_11 1 := ⟨(gw (List.mem_append_right _ (List.mem_of_getElem? (i := 270) rfl)) rfl), ini_4, by decide +kernel, by decide +kernel⟩
set_option maxRecDepth 100000 in
theorem mi_11 : Jvm.Cond.instanceMethod pm_11.2.1 ∈ gtb ∧ Jvm.Cond.selects pm_11.2.1.cls pm_11.2.1 pm_11.2.1 ∈ gtb := ⟨(gw (List.mem_append_right _ (List.mem_of_getElem? (i := 268) rfl)) rfl), (gw (List.mem_append_right _ (List.mem_of_getElem? (i := 269) rfl)) rfl)⟩
set_option maxRecDepth 100000 in
theorem ml_20 : MPr [0, 74, 1, 11, 2, 1, 1] := ⟨"OneAtATime", pm_11, ("OneAtATime$Bytes", kT1, 2), rfl, rfl, rfl, rfl, (gw (List.mem_append_right _ (List.mem_of_getElem? (i := 267) rfl)) rfl), mi_11, mf_11, rfl, Nat.le_of_ble_eq_true rfl⟩
set_option maxRecDepth 100000 in
theorem mf_12 : MFr pm_12 1 := ⟨(gw (List.mem_append_right _ (List.mem_of_getElem? (i := 274) rfl)) rfl), ini_4, by decide +kernel, by decide +kernel⟩
set_option maxRecDepth 100000 in
theorem mi_12 : Jvm.Cond.instanceMethod pm_12.2.1 ∈ gtb ∧ Jvm.Cond.selects pm_12.2.1.cls pm_12.2.1 pm_12.2.1 ∈ gtb := ⟨(gw (List.mem_append_right _ (List.mem_of_getElem? (i := 272) rfl)) rfl), (gw (List.mem_append_right _ (List.mem_of_getElem? (i := 273) rfl)) rfl)⟩
set_option maxRecDepth 100000 in
theorem ml_21 : MPr [0, 78, 1, 12, 2, 0, 1] := ⟨"OneAtATime", pm_12, ("OneAtATime$Bytes", kT1, 2), rfl, rfl, rfl, rfl, (gw (List.mem_append_right _ (List.mem_of_getElem? (i := 271) rfl)) rfl), mi_12, mf_12, rfl, Nat.le_of_ble_eq_true rfl⟩
set_option maxRecDepth 100000 in
theorem mf_13 : MFr pm_13 1 := ⟨(gw (List.mem_append_right _ (List.mem_of_getElem? (i := 278) rfl)) rfl), ini_4, by decide +kernel, by decide +kernel⟩
set_option maxRecDepth 100000 in
theorem mi_13 : Jvm.Cond.instanceMethod pm_13.2.1 ∈ gtb ∧ Jvm.Cond.selects pm_13.2.1.cls pm_13.2.1 pm_13.2.1 ∈ gtb := ⟨(gw (List.mem_append_right _ (List.mem_of_getElem? (i := 276) rfl)) rfl), (gw (List.mem_append_right _ (List.mem_of_getElem? (i := 277) rfl)) rfl)⟩
set_option maxRecDepth 100000 in
theorem ml_22 : MPr [4, 25, 1, 13, 2, 0, 1] := ⟨"OneAtATime$Bytes", pm_13, ("OneAtATime$Bytes", kT1, 2), rfl, rfl, rfl, rfl, (gw (List.mem_append_right _ (List.mem_of_getElem? (i := 275) rfl)) rfl), mi_13, mf_13, rfl, Nat.le_of_ble_eq_true rfl⟩
set_option maxRecDepth 100000 in
theorem mf_16 : MFr pm_16 1 := ⟨(gw (List.mem_append_right _ (List.mem_of_getElem? (i := 289) rfl)) rfl), ini_0, by decide +kernel, by decide +kernel⟩
set_option maxRecDepth 100000 in
theorem mi_16 : Jvm.Cond.static pm_16.2.1 ∈ gtb := (gw (List.mem_append_right _ (List.mem_of_getElem? (i := 288) rfl)) rfl)
set_option maxRecDepth 100000 in
theorem ml_23 : MPr [0, 85, 0, 16, 1, 1, 0] := ⟨"OneAtATime", pm_16, rfl, rfl, (gw (List.mem_append_right _ (List.mem_of_getElem? (i := 287) rfl)) rfl), mi_16, mf_16, rfl, Nat.le_of_ble_eq_true rfl⟩
set_option maxRecDepth 100000 in
theorem mf_17 : MFr pm_17 1 := ⟨(gw (List.mem_append_right _ (List.mem_of_getElem? (i := 293) rfl)) rfl), ini_3, by decide +kernel, by decide +kernel⟩
set_option maxRecDepth 100000 in
theorem mi_17 : Jvm.Cond.instanceMethod pm_17.2.1 ∈ gtb ∧ Jvm.Cond.selects pm_17.2.1.cls pm_17.2.1 pm_17.2.1 ∈ gtb := ⟨(gw (List.mem_append_right _ (List.mem_of_getElem? (i := 291) rfl)) rfl), (gw (List.mem_append_right _ (List.mem_of_getElem? (i := 292) rfl)) rfl)⟩
set_option maxRecDepth 100000 in
theorem ml_24 : MPr [0, 88, 1, 17, 2, 1, 5] := ⟨"OneAtATime", pm_17, ("OneAtATime$Reader", kT5, 6), rfl, rfl, rfl, rfl, (gw (List.mem_append_right _ (List.mem_of_getElem? (i := 290) rfl)) rfl), mi_17, mf_17, rfl, Nat.le_of_ble_eq_true rfl⟩
set_option maxRecDepth 100000 in
theorem mf_32 : MFr pm_32 1 := ⟨(gw (List.mem_append_right _ (List.mem_of_getElem? (i := 404) rfl)) rfl), ini_0, by decide +kernel, by decide +kernel⟩
set_option maxRecDepth 100000 in
theorem mi_32 : Jvm.Cond.instanceMethod pm_32.2.1 ∈ gtb ∧ Jvm.Cond.selects pm_32.2.1.cls pm_32.2.1 pm_32.2.1 ∈ gtb := ⟨(gw (List.mem_append_right _ (List.mem_of_getElem? (i := 403) rfl)) rfl), (gw (List.mem_append_left _ (List.mem_of_getElem? (i := 8) rfl)) rfl)⟩
set_option maxRecDepth 100000 in
theorem ml_25 : MPr [0, 92, 1, 32, 2, 1, 8] := ⟨"OneAtATime", pm_32, ("OneAtATime", kT8, 9), rfl, rfl, rfl, rfl, (gw (List.mem_append_right _ (List.mem_of_getElem? (i := 401) rfl)) rfl), mi_32, mf_32, rfl, Nat.le_of_ble_eq_true rfl⟩
set_option maxRecDepth 100000 in
theorem mf_18 : MFr pm_18 0 := ⟨(gw (List.mem_append_right _ (List.mem_of_getElem? (i := 297) rfl)) rfl), ini_3, by decide +kernel, by decide +kernel⟩
set_option maxRecDepth 100000 in
theorem mi_18 : Jvm.Cond.instanceMethod pm_18.2.1 ∈ gtb ∧ Jvm.Cond.selects pm_18.2.1.cls pm_18.2.1 pm_18.2.1 ∈ gtb := ⟨(gw (List.mem_append_right _ (List.mem_of_getElem? (i := 296) rfl)) rfl), (gw (List.mem_append_left _ (List.mem_of_getElem? (i := 0) rfl)) rfl)⟩
set_option maxRecDepth 100000 in
theorem ml_26 : MPr [3, 30, 1, 18, 1, 0, 5] := ⟨"OneAtATime$Reader", pm_18, ("OneAtATime$Reader", kT5, 6), rfl, rfl, rfl, rfl, (gw (List.mem_append_right _ (List.mem_of_getElem? (i := 294) rfl)) rfl), mi_18, mf_18, rfl, Nat.le_of_ble_eq_true rfl⟩
set_option maxRecDepth 100000 in
theorem mf_22 : MFr pm_22 1 := ⟨(gw (List.mem_append_right _ (List.mem_of_getElem? (i := 311) rfl)) rfl), ini_3, by decide +kernel, by decide +kernel⟩
set_option maxRecDepth 100000 in
theorem mi_22 : Jvm.Cond.instanceMethod pm_22.2.1 ∈ gtb ∧ Jvm.Cond.selects pm_22.2.1.cls pm_22.2.1 pm_22.2.1 ∈ gtb := ⟨(gw (List.mem_append_right _ (List.mem_of_getElem? (i := 310) rfl)) rfl), (gw (List.mem_append_left _ (List.mem_of_getElem? (i := 1) rfl)) rfl)⟩
set_option maxRecDepth 100000 in
theorem ml_27 : MPr [3, 33, 1, 22, 2, 0, 5] := ⟨"OneAtATime$Reader", pm_22, ("OneAtATime$Reader", kT5, 6), rfl, rfl, rfl, rfl, (gw (List.mem_append_right _ (List.mem_of_getElem? (i := 308) rfl)) rfl), mi_22, mf_22, rfl, Nat.le_of_ble_eq_true rfl⟩
set_option maxRecDepth 100000 in
theorem mf_29 : MFr pm_29 1 := ⟨(gw (List.mem_append_right _ (List.mem_of_getElem? (i := 391) rfl)) rfl), ini_3, by decide +kernel, by decide +kernel⟩
set_option maxRecDepth 100000 in
theorem mi_29 : Jvm.Cond.instanceMethod pm_29.2.1 ∈ gtb ∧ Jvm.Cond.selects pm_29.2.1.cls pm_29.2.1 pm_29.2.1 ∈ gtb := ⟨(gw (List.mem_append_right _ (List.mem_of_getElem? (i := 390) rfl)) rfl), (gw (List.mem_append_left _ (List.mem_of_getElem? (i := 7) rfl)) rfl)⟩
set_option maxRecDepth 100000 in
theorem ml_28 : MPr [3, 37, 1, 29, 2, 0, 5] := ⟨"OneAtATime$Reader", pm_29, ("OneAtATime$Reader", kT5, 6), rfl, rfl, rfl, rfl, (gw (List.mem_append_right _ (List.mem_of_getElem? (i := 388) rfl)) rfl), mi_29, mf_29, rfl, Nat.le_of_ble_eq_true rfl⟩
set_option maxRecDepth 100000 in
theorem mf_27 : MFr pm_27 1 := ⟨(gw (List.mem_append_right _ (List.mem_of_getElem? (i := 383) rfl)) rfl), ini_3, by decide +kernel, by decide +kernel⟩
set_option maxRecDepth 100000 in
theorem mi_27 : Jvm.Cond.instanceMethod pm_27.2.1 ∈ gtb ∧ Jvm.Cond.selects pm_27.2.1.cls pm_27.2.1 pm_27.2.1 ∈ gtb := ⟨(gw (List.mem_append_right _ (List.mem_of_getElem? (i := 382) rfl)) rfl), (gw (List.mem_append_left _ (List.mem_of_getElem? (i := 6) rfl)) rfl)⟩
set_option maxRecDepth 100000 in
theorem ml_29 : MPr [3, 40, 1, 27, 2, 0, 5] := ⟨"OneAtATime$Reader", pm_27, ("OneAtATime$Reader", kT5, 6), rfl, rfl, rfl, rfl, (gw (List.mem_append_right _ (List.mem_of_getElem? (i := 380) rfl)) rfl), mi_27, mf_27, rfl, Nat.le_of_ble_eq_true rfl⟩
set_option maxRecDepth 100000 in
theorem mf_25 : MFr pm_25 2 := ⟨(gw (List.mem_append_right _ (List.mem_of_getElem? (i := 372) rfl)) rfl), ini_3, by decide +kernel, by decide +kernel⟩
set_option maxRecDepth 100000 in
theorem mi_25 : Jvm.Cond.instanceMethod pm_25.2.1 ∈ gtb ∧ Jvm.Cond.selects pm_25.2.1.cls pm_25.2.1 pm_25.2.1 ∈ gtb := ⟨(gw (List.mem_append_right _ (List.mem_of_getElem? (i := 371) rfl)) rfl), (gw (List.mem_append_left _ (List.mem_of_getElem? (i := 4) rfl)) rfl)⟩
set_option maxRecDepth 100000 in
theorem ml_30 : MPr [3, 50, 1, 25, 3, 0, 5] := ⟨"OneAtATime$Reader", pm_25, ("OneAtATime$Reader", kT5, 6), rfl, rfl, rfl, rfl, (gw (List.mem_append_right _ (List.mem_of_getElem? (i := 369) rfl)) rfl), mi_25, mf_25, rfl, Nat.le_of_ble_eq_true rfl⟩
set_option maxRecDepth 100000 in
theorem mf_19 : MFr pm_19 1 := ⟨(gw (List.mem_append_right _ (List.mem_of_getElem? (i := 301) rfl)) rfl), ini_4, by decide +kernel, by decide +kernel⟩
set_option maxRecDepth 100000 in
theorem mi_19 : Jvm.Cond.instanceMethod pm_19.2.1 ∈ gtb ∧ Jvm.Cond.selects pm_19.2.1.cls pm_19.2.1 pm_19.2.1 ∈ gtb := ⟨(gw (List.mem_append_right _ (List.mem_of_getElem? (i := 299) rfl)) rfl), (gw (List.mem_append_right _ (List.mem_of_getElem? (i := 300) rfl)) rfl)⟩
set_option maxRecDepth 100000 in
theorem ml_31 : MPr [3, 79, 1, 19, 2, 1, 1] := ⟨"OneAtATime$Reader", pm_19, ("OneAtATime$Bytes", kT1, 2), rfl, rfl, rfl, rfl, (gw (List.mem_append_right _ (List.mem_of_getElem? (i := 298) rfl)) rfl), mi_19, mf_19, rfl, Nat.le_of_ble_eq_true rfl⟩
set_option maxRecDepth 100000 in
theorem mf_20 : MFr pm_20 1 := ⟨(gw (List.mem_append_right _ (List.mem_of_getElem? (i := 304) rfl)) rfl), ini_3, by decide +kernel, by decide +kernel⟩
set_option maxRecDepth 100000 in
theorem mi_20 : Jvm.Cond.static pm_20.2.1 ∈ gtb := (gw (List.mem_append_right _ (List.mem_of_getElem? (i := 303) rfl)) rfl)
set_option maxRecDepth 100000 in
theorem ml_32 : MPr [3, 105, 0, 20, 1, 1, 0] := ⟨"OneAtATime$Reader", pm_20, rfl, rfl, (gw (List.mem_append_right _ (List.mem_of_getElem? (i := 302) rfl)) rfl), mi_20, mf_20, rfl, Nat.le_of_ble_eq_true rfl⟩
set_option maxRecDepth 100000 in
theorem mf_21 : MFr pm_21 1 := ⟨(gw (List.mem_append_right _ (List.mem_of_getElem? (i := 307) rfl)) rfl), ini_3, by decide +kernel, by decide +kernel⟩
set_option maxRecDepth 100000 in
theorem mi_21 : Jvm.Cond.static pm_21.2.1 ∈ gtb := (gw (List.mem_append_right _ (List.mem_of_getElem? (i := 306) rfl)) rfl)
set_option maxRecDepth 100000 in
theorem ml_33 : MPr [3, 108, 0, 21, 1, 1, 0] := ⟨"OneAtATime$Reader", pm_21, rfl, rfl, (gw (List.mem_append_right _ (List.mem_of_getElem? (i := 305) rfl)) rfl), mi_21, mf_21, rfl, Nat.le_of_ble_eq_true rfl⟩
set_option maxRecDepth 100000 in
theorem mf_23 : MFr pm_23 1 := ⟨(gw (List.mem_append_right _ (List.mem_of_getElem? (i := 316) rfl)) rfl), ini_3, by decide +kernel, by decide +kernel⟩
set_option maxRecDepth 100000 in
theorem mi_23 : Jvm.Cond.instanceMethod pm_23.2.1 ∈ gtb ∧ Jvm.Cond.selects pm_23.2.1.cls pm_23.2.1 pm_23.2.1 ∈ gtb := ⟨(gw (List.mem_append_right _ (List.mem_of_getElem? (i := 315) rfl)) rfl), (gw (List.mem_append_left _ (List.mem_of_getElem? (i := 2) rfl)) rfl)⟩
set_option maxRecDepth 100000 in
theorem ml_34 : MPr [3, 56, 1, 23, 2, 0, 5] := ⟨"OneAtATime$Reader", pm_23, ("OneAtATime$Reader", kT5, 6), rfl, rfl, rfl, rfl, (gw (List.mem_append_right _ (List.mem_of_getElem? (i := 313) rfl)) rfl), mi_23, mf_23, rfl, Nat.le_of_ble_eq_true rfl⟩
set_option maxRecDepth 100000 in
theorem mf_26 : MFr pm_26 2 := ⟨(gw (List.mem_append_right _ (List.mem_of_getElem? (i := 376) rfl)) rfl), ini_3, by decide +kernel, by decide +kernel⟩
set_option maxRecDepth 100000 in
theorem mi_26 : Jvm.Cond.instanceMethod pm_26.2.1 ∈ gtb ∧ Jvm.Cond.selects pm_26.2.1.cls pm_26.2.1 pm_26.2.1 ∈ gtb := ⟨(gw (List.mem_append_right _ (List.mem_of_getElem? (i := 375) rfl)) rfl), (gw (List.mem_append_left _ (List.mem_of_getElem? (i := 5) rfl)) rfl)⟩
set_option maxRecDepth 100000 in
theorem ml_35 : MPr [3, 60, 1, 26, 3, 1, 5] := ⟨"OneAtATime$Reader", pm_26, ("OneAtATime$Reader", kT5, 6), rfl, rfl, rfl, rfl, (gw (List.mem_append_right _ (List.mem_of_getElem? (i := 373) rfl)) rfl), mi_26, mf_26, rfl, Nat.le_of_ble_eq_true rfl⟩
set_option maxRecDepth 100000 in
theorem mf_24 : MFr pm_24 1 := ⟨(gw (List.mem_append_right _ (List.mem_of_getElem? (i := 320) rfl)) rfl), ini_3, by decide +kernel, by decide +kernel⟩
set_option maxRecDepth 100000 in
theorem mi_24 : Jvm.Cond.instanceMethod pm_24.2.1 ∈ gtb ∧ Jvm.Cond.selects pm_24.2.1.cls pm_24.2.1 pm_24.2.1 ∈ gtb := ⟨(gw (List.mem_append_right _ (List.mem_of_getElem? (i := 319) rfl)) rfl), (gw (List.mem_append_left _ (List.mem_of_getElem? (i := 3) rfl)) rfl)⟩
set_option maxRecDepth 100000 in
theorem ml_36 : MPr [3, 66, 1, 24, 2, 1, 5] := ⟨"OneAtATime$Reader", pm_24, ("OneAtATime$Reader", kT5, 6), rfl, rfl, rfl, rfl, (gw (List.mem_append_right _ (List.mem_of_getElem? (i := 317) rfl)) rfl), mi_24, mf_24, rfl, Nat.le_of_ble_eq_true rfl⟩
set_option maxRecDepth 100000 in
theorem mf_28 : MFr pm_28 4 := ⟨(gw (List.mem_append_right _ (List.mem_of_getElem? (i := 387) rfl)) rfl), ini_1, by decide +kernel, by decide +kernel⟩
set_option maxRecDepth 100000 in
theorem mi_28 : Jvm.Cond.instanceMethod pm_28.2.1 ∈ gtb ∧ Jvm.Cond.selects pm_28.2.1.cls pm_28.2.1 pm_28.2.1 ∈ gtb := ⟨(gw (List.mem_append_right _ (List.mem_of_getElem? (i := 385) rfl)) rfl), (gw (List.mem_append_right _ (List.mem_of_getElem? (i := 386) rfl)) rfl)⟩
set_option maxRecDepth 100000 in
theorem ml_37 : MPr [3, 73, 1, 28, 5, 0, 0] := ⟨"OneAtATime$Reader", pm_28, ("OneAtATime$BitList", kT0, 7), rfl, rfl, rfl, rfl, (gw (List.mem_append_right _ (List.mem_of_getElem? (i := 384) rfl)) rfl), mi_28, mf_28, rfl, Nat.le_of_ble_eq_true rfl⟩
set_option maxRecDepth 100000 in
theorem ml_38 : MPr [3, 93, 1, 1000, 1, 1, 30] := ⟨"OneAtATime$Reader", rfl, (gw (List.mem_append_right _ (List.mem_of_getElem? (i := 321) rfl)) rfl)⟩
set_option maxRecDepth 100000 in
theorem ml_39 : MPr [3, 99, 1, 1001, 2, 1, 30] := ⟨"OneAtATime$Reader", rfl, (gw (List.mem_append_right _ (List.mem_of_getElem? (i := 331) rfl)) rfl)⟩
set_option maxRecDepth 100000 in
theorem mf_30 : MFr pm_30 1 := ⟨(gw (List.mem_append_right _ (List.mem_of_getElem? (i := 395) rfl)) rfl), ini_1, by decide +kernel, by decide +kernel⟩
set_option maxRecDepth 100000 in
theorem mi_30 : Jvm.Cond.instanceMethod pm_30.2.1 ∈ gtb ∧ Jvm.Cond.selects pm_30.2.1.cls pm_30.2.1 pm_30.2.1 ∈ gtb := ⟨(gw (List.mem_append_right _ (List.mem_of_getElem? (i := 393) rfl)) rfl), (gw (List.mem_append_right _ (List.mem_of_getElem? (i := 394) rfl)) rfl)⟩
set_option maxRecDepth 100000 in
theorem ml_40 : MPr [3, 83, 1, 30, 2, 1, 0] := ⟨"OneAtATime$Reader", pm_30, ("OneAtATime$BitList", kT0, 7), rfl, rfl, rfl, rfl, (gw (List.mem_append_right _ (List.mem_of_getElem? (i := 392) rfl)) rfl), mi_30, mf_30, rfl, Nat.le_of_ble_eq_true rfl⟩
set_option maxRecDepth 100000 in
theorem mf_31 : MFr pm_31 1 := ⟨(gw (List.mem_append_right _ (List.mem_of_getElem? (i := 399) rfl)) rfl), ini_1, by decide +kernel, by decide +kernel⟩
set_option maxRecDepth 100000 in
theorem mi_31 : Jvm.Cond.instanceMethod pm_31.2.1 ∈ gtb ∧ Jvm.Cond.selects pm_31.2.1.cls pm_31.2.1 pm_31.2.1 ∈ gtb := ⟨(gw (List.mem_append_right _ (List.mem_of_getElem? (i := 397) rfl)) rfl), (gw (List.mem_append_right _ (List.mem_of_getElem? (i := 398) rfl)) rfl)⟩
set_option maxRecDepth 100000 in
theorem ml_41 : MPr [3, 90, 1, 31, 2, 0, 0] := ⟨"OneAtATime$Reader", pm_31, ("OneAtATime$BitList", kT0, 7), rfl, rfl, rfl, rfl, (gw (List.mem_append_right _ (List.mem_of_getElem? (i := 396) rfl)) rfl), mi_31, mf_31, rfl, Nat.le_of_ble_eq_true rfl⟩
set_option maxRecDepth 100000 in
theorem ml_42 : MPr [1, 39, 1, 30, 2, 1, 0] := ⟨"OneAtATime$BitList", pm_30, ("OneAtATime$BitList", kT0, 7), rfl, rfl, rfl, rfl, (gw (List.mem_append_right _ (List.mem_of_getElem? (i := 400) rfl)) rfl), mi_30, mf_30, rfl, Nat.le_of_ble_eq_true rfl⟩
set_option maxRecDepth 100000 in
theorem mf_33 : MFr pm_33 1 := ⟨(gw (List.mem_append_right _ (List.mem_of_getElem? (i := 408) rfl)) rfl), ini_1, by decide +kernel, by decide +kernel⟩
set_option maxRecDepth 100000 in
theorem mi_33 : Jvm.Cond.instanceMethod pm_33.2.1 ∈ gtb ∧ Jvm.Cond.selects pm_33.2.1.cls pm_33.2.1 pm_33.2.1 ∈ gtb := ⟨(gw (List.mem_append_right _ (List.mem_of_getElem? (i := 406) rfl)) rfl), (gw (List.mem_append_right _ (List.mem_of_getElem? (i := 407) rfl)) rfl)⟩
set_option maxRecDepth 100000 in
theorem ml_43 : MPr [0, 366, 1, 33, 2, 1, 0] := ⟨"OneAtATime", pm_33, ("OneAtATime$BitList", kT0, 7), rfl, rfl, rfl, rfl, (gw (List.mem_append_right _ (List.mem_of_getElem? (i := 405) rfl)) rfl), mi_33, mf_33, rfl, Nat.le_of_ble_eq_true rfl⟩
set_option maxRecDepth 100000 in
theorem mf_34 : MFr pm_34 2 := ⟨(gw (List.mem_append_right _ (List.mem_of_getElem? (i := 412) rfl)) rfl), ini_2, by decide +kernel, by decide +kernel⟩
set_option maxRecDepth 100000 in
theorem mi_34 : Jvm.Cond.instanceMethod pm_34.2.1 ∈ gtb ∧ Jvm.Cond.selects pm_34.2.1.cls pm_34.2.1 pm_34.2.1 ∈ gtb := ⟨(gw (List.mem_append_right _ (List.mem_of_getElem? (i := 410) rfl)) rfl), (gw (List.mem_append_right _ (List.mem_of_getElem? (i := 411) rfl)) rfl)⟩
set_option maxRecDepth 100000 in
theorem ml_44 : MPr [0, 347, 1, 34, 3, 0, 3] := ⟨"OneAtATime", pm_34, ("OneAtATime$History", kT3, 4), rfl, rfl, rfl, rfl, (gw (List.mem_append_right _ (List.mem_of_getElem? (i := 409) rfl)) rfl), mi_34, mf_34, rfl, Nat.le_of_ble_eq_true rfl⟩
set_option maxRecDepth 100000 in
theorem mf_35 : MFr pm_35 1 := ⟨(gw (List.mem_append_right _ (List.mem_of_getElem? (i := 416) rfl)) rfl), ini_1, by decide +kernel, by decide +kernel⟩
set_option maxRecDepth 100000 in
theorem mi_35 : Jvm.Cond.instanceMethod pm_35.2.1 ∈ gtb ∧ Jvm.Cond.selects pm_35.2.1.cls pm_35.2.1 pm_35.2.1 ∈ gtb := ⟨(gw (List.mem_append_right _ (List.mem_of_getElem? (i := 414) rfl)) rfl), (gw (List.mem_append_right _ (List.mem_of_getElem? (i := 415) rfl)) rfl)⟩
set_option maxRecDepth 100000 in
theorem ml_45 : MPr [0, 333, 1, 35, 2, 0, 0] := ⟨"OneAtATime", pm_35, ("OneAtATime$BitList", kT0, 7), rfl, rfl, rfl, rfl, (gw (List.mem_append_right _ (List.mem_of_getElem? (i := 423) rfl)) rfl), mi_35, mf_35, rfl, Nat.le_of_ble_eq_true rfl⟩
set_option maxRecDepth 100000 in
theorem ml_46 : MPr [2, 29, 1, 35, 2, 0, 0] := ⟨"OneAtATime$History", pm_35, ("OneAtATime$BitList", kT0, 7), rfl, rfl, rfl, rfl, (gw (List.mem_append_right _ (List.mem_of_getElem? (i := 413) rfl)) rfl), mi_35, mf_35, rfl, Nat.le_of_ble_eq_true rfl⟩
set_option maxRecDepth 100000 in
theorem ml_47 : MPr [2, 33, 0, 1005, 2, 1, 0] := ⟨"OneAtATime$History", rfl, (gw (List.mem_append_right _ (List.mem_of_getElem? (i := 420) rfl)) rfl), mw_1005⟩
set_option maxRecDepth 100000 in
theorem ml_48 : MPr [1, 56, 0, 1002, 5, 0, 0] := ⟨"OneAtATime$BitList", rfl, (gw (List.mem_append_right _ (List.mem_of_getElem? (i := 417) rfl)) rfl), (gw (List.mem_append_right _ (List.mem_of_getElem? (i := 419) rfl)) rfl), (gw (List.mem_append_right _ (List.mem_of_getElem? (i := 418) rfl)) rfl), ini_16⟩
set_option maxRecDepth 100000 in
theorem mf_39 : MFr pm_39 0 := ⟨(gw (List.mem_append_right _ (List.mem_of_getElem? (i := 435) rfl)) rfl), ini_0, by decide +kernel, by decide +kernel⟩
set_option maxRecDepth 100000 in
theorem mi_39 : Jvm.Cond.instanceMethod pm_39.2.1 ∈ gtb ∧ Jvm.Cond.selects pm_39.2.1.cls pm_39.2.1 pm_39.2.1 ∈ gtb := ⟨(gw (List.mem_append_right _ (List.mem_of_getElem? (i := 434) rfl)) rfl), (gw (List.mem_append_left _ (List.mem_of_getElem? (i := 9) rfl)) rfl)⟩
set_option maxRecDepth 100000 in
theorem ml_49 : MPr [0, 102, 1, 39, 1, 1, 8] := ⟨"OneAtATime", pm_39, ("OneAtATime", kT8, 9), rfl, rfl, rfl, rfl, (gw (List.mem_append_right _ (List.mem_of_getElem? (i := 432) rfl)) rfl), mi_39, mf_39, rfl, Nat.le_of_ble_eq_true rfl⟩
set_option maxRecDepth 100000 in
theorem mf_41 : MFr pm_41 1 := ⟨(gw (List.mem_append_right _ (List.mem_of_getElem? (i := 443) rfl)) rfl), ini_0, by decide +kernel, by decide +kernel⟩
set_option maxRecDepth 100000 in
theorem mi_41 : Jvm.Cond.instanceMethod pm_41.2.1 ∈ gtb ∧ Jvm.Cond.selects pm_41.2.1.cls pm_41.2.1 pm_41.2.1 ∈ gtb := ⟨(gw (List.mem_append_right _ (List.mem_of_getElem? (i := 442) rfl)) rfl), (gw (List.mem_append_left _ (List.mem_of_getElem? (i := 10) rfl)) rfl)⟩
set_option maxRecDepth 100000 in
theorem ml_50 : MPr [0, 109, 1, 41, 2, 2, 8] := ⟨"OneAtATime", pm_41, ("OneAtATime", kT8, 9), rfl, rfl, rfl, rfl, (gw (List.mem_append_right _ (List.mem_of_getElem? (i := 440) rfl)) rfl), mi_41, mf_41, rfl, Nat.le_of_ble_eq_true rfl⟩
set_option maxRecDepth 100000 in
theorem mf_42 : MFr pm_42 0 := ⟨(gw (List.mem_append_right _ (List.mem_of_getElem? (i := 447) rfl)) rfl), ini_1, by decide +kernel, by decide +kernel⟩
set_option maxRecDepth 100000 in
theorem mi_42 : Jvm.Cond.instanceMethod pm_42.2.1 ∈ gtb ∧ Jvm.Cond.selects pm_42.2.1.cls pm_42.2.1 pm_42.2.1 ∈ gtb := ⟨(gw (List.mem_append_right _ (List.mem_of_getElem? (i := 445) rfl)) rfl), (gw (List.mem_append_right _ (List.mem_of_getElem? (i := 446) rfl)) rfl)⟩
set_option maxRecDepth 100000 in
theorem ml_51 : MPr [0, 129, 1, 42, 1, 1, 0] := ⟨"OneAtATime", pm_42, ("OneAtATime$BitList", kT0, 7), rfl, rfl, rfl, rfl, (gw (List.mem_append_right _ (List.mem_of_getElem? (i := 444) rfl)) rfl), mi_42, mf_42, rfl, Nat.le_of_ble_eq_true rfl⟩
set_option maxRecDepth 100000 in
theorem mf_44 : MFr pm_44 1 := ⟨(gw (List.mem_append_right _ (List.mem_of_getElem? (i := 455) rfl)) rfl), ini_6, by decide +kernel, by decide +kernel⟩
set_option maxRecDepth 100000 in
theorem mi_44 : Jvm.Cond.instanceMethod pm_44.2.1 ∈ gtb ∧ Jvm.Cond.selects pm_44.2.1.cls pm_44.2.1 pm_44.2.1 ∈ gtb := ⟨(gw (List.mem_append_right _ (List.mem_of_getElem? (i := 453) rfl)) rfl), (gw (List.mem_append_right _ (List.mem_of_getElem? (i := 454) rfl)) rfl)⟩
set_option maxRecDepth 100000 in
theorem ml_52 : MPr [0, 132, 1, 44, 2, 1, 7] := ⟨"OneAtATime", pm_44, ("OneAtATime$Survey", kT7, 5), rfl, rfl, rfl, rfl, (gw (List.mem_append_right _ (List.mem_of_getElem? (i := 452) rfl)) rfl), mi_44, mf_44, rfl, Nat.le_of_ble_eq_true rfl⟩
set_option maxRecDepth 100000 in
theorem mf_48 : MFr pm_48 0 := ⟨(gw (List.mem_append_right _ (List.mem_of_getElem? (i := 471) rfl)) rfl), ini_1, by decide +kernel, by decide +kernel⟩
set_option maxRecDepth 100000 in
theorem mi_48 : Jvm.Cond.instanceMethod pm_48.2.1 ∈ gtb ∧ Jvm.Cond.selects pm_48.2.1.cls pm_48.2.1 pm_48.2.1 ∈ gtb := ⟨(gw (List.mem_append_right _ (List.mem_of_getElem? (i := 469) rfl)) rfl), (gw (List.mem_append_right _ (List.mem_of_getElem? (i := 470) rfl)) rfl)⟩
set_option maxRecDepth 100000 in
theorem ml_53 : MPr [0, 136, 1, 48, 1, 1, 0] := ⟨"OneAtATime", pm_48, ("OneAtATime$BitList", kT0, 7), rfl, rfl, rfl, rfl, (gw (List.mem_append_right _ (List.mem_of_getElem? (i := 468) rfl)) rfl), mi_48, mf_48, rfl, Nat.le_of_ble_eq_true rfl⟩
set_option maxRecDepth 100000 in
theorem mf_43 : MFr pm_43 0 := ⟨(gw (List.mem_append_right _ (List.mem_of_getElem? (i := 451) rfl)) rfl), ini_1, by decide +kernel, by decide +kernel⟩
set_option maxRecDepth 100000 in
theorem mi_43 : Jvm.Cond.instanceMethod pm_43.2.1 ∈ gtb ∧ Jvm.Cond.selects pm_43.2.1.cls pm_43.2.1 pm_43.2.1 ∈ gtb := ⟨(gw (List.mem_append_right _ (List.mem_of_getElem? (i := 449) rfl)) rfl), (gw (List.mem_append_right _ (List.mem_of_getElem? (i := 450) rfl)) rfl)⟩
set_option maxRecDepth 100000 in
theorem ml_54 : MPr [1, 62, 1, 43, 1, 1, 0] := ⟨"OneAtATime$BitList", pm_43, ("OneAtATime$BitList", kT0, 7), rfl, rfl, rfl, rfl, (gw (List.mem_append_right _ (List.mem_of_getElem? (i := 448) rfl)) rfl), mi_43, mf_43, rfl, Nat.le_of_ble_eq_true rfl⟩
set_option maxRecDepth 100000 in
theorem mf_45 : MFr pm_45 1 := ⟨(gw (List.mem_append_right _ (List.mem_of_getElem? (i := 459) rfl)) rfl), ini_6, by decide +kernel, by decide +kernel⟩
set_option maxRecDepth 100000 in
theorem mi_45 : Jvm.Cond.instanceMethod pm_45.2.1 ∈ gtb ∧ Jvm.Cond.selects pm_45.2.1.cls pm_45.2.1 pm_45.2.1 ∈ gtb := ⟨(gw (List.mem_append_right _ (List.mem_of_getElem? (i := 458) rfl)) rfl), (gw (List.mem_append_left _ (List.mem_of_getElem? (i := 11) rfl)) rfl)⟩
set_option maxRecDepth 100000 in
theorem ml_55 : MPr [6, 42, 1, 45, 2, 0, 7] := ⟨"OneAtATime$Survey", pm_45, ("OneAtATime$Survey", kT7, 5), rfl, rfl, rfl, rfl, (gw (List.mem_append_right _ (List.mem_of_getElem? (i := 456) rfl)) rfl), mi_45, mf_45, rfl, Nat.le_of_ble_eq_true rfl⟩
set_option maxRecDepth 100000 in
theorem mf_47 : MFr pm_47 0 := ⟨(gw (List.mem_append_right _ (List.mem_of_getElem? (i := 467) rfl)) rfl), ini_1, by decide +kernel, by decide +kernel⟩
set_option maxRecDepth 100000 in
theorem mi_47 : Jvm.Cond.instanceMethod pm_47.2.1 ∈ gtb ∧ Jvm.Cond.selects pm_47.2.1.cls pm_47.2.1 pm_47.2.1 ∈ gtb := ⟨(gw (List.mem_append_right _ (List.mem_of_getElem? (i := 465) rfl)) rfl), (gw (List.mem_append_right _ (List.mem_of_getElem? (i := 466) rfl)) rfl)⟩
set_option maxRecDepth 100000 in
theorem ml_56 : MPr [6, 46, 1, 47, 1, 1, 0] := ⟨"OneAtATime$Survey", pm_47, ("OneAtATime$BitList", kT0, 7), rfl, rfl, rfl, rfl, (gw (List.mem_append_right _ (List.mem_of_getElem? (i := 464) rfl)) rfl), mi_47, mf_47, rfl, Nat.le_of_ble_eq_true rfl⟩
set_option maxRecDepth 100000 in
theorem mf_46 : MFr pm_46 2 := ⟨(gw (List.mem_append_right _ (List.mem_of_getElem? (i := 462) rfl)) rfl), ini_10, by decide +kernel, by decide +kernel⟩
set_option maxRecDepth 100000 in
theorem mi_46 : Jvm.Cond.static pm_46.2.1 ∈ gtb := (gw (List.mem_append_right _ (List.mem_of_getElem? (i := 461) rfl)) rfl)
set_option maxRecDepth 100000 in
theorem ml_57 : MPr [6, 27, 0, 46, 2, 0, 0] := ⟨"OneAtATime$Survey", pm_46, rfl, rfl, (gw (List.mem_append_right _ (List.mem_of_getElem? (i := 460) rfl)) rfl), mi_46, mf_46, rfl, Nat.le_of_ble_eq_true rfl⟩
set_option maxRecDepth 100000 in
theorem ml_58 : MPr [6, 33, 1, 42, 1, 1, 0] := ⟨"OneAtATime$Survey", pm_42, ("OneAtATime$BitList", kT0, 7), rfl, rfl, rfl, rfl, (gw (List.mem_append_right _ (List.mem_of_getElem? (i := 463) rfl)) rfl), mi_42, mf_42, rfl, Nat.le_of_ble_eq_true rfl⟩
set_option maxRecDepth 100000 in
theorem ml_59 : MPr [1, 66, 1, 47, 1, 1, 0] := ⟨"OneAtATime$BitList", pm_47, ("OneAtATime$BitList", kT0, 7), rfl, rfl, rfl, rfl, (gw (List.mem_append_right _ (List.mem_of_getElem? (i := 472) rfl)) rfl), mi_47, mf_47, rfl, Nat.le_of_ble_eq_true rfl⟩
set_option maxRecDepth 100000 in
theorem mf_49 : MFr pm_49 1 := ⟨(gw (List.mem_append_right _ (List.mem_of_getElem? (i := 476) rfl)) rfl), ini_1, by decide +kernel, by decide +kernel⟩
set_option maxRecDepth 100000 in
theorem mi_49 : Jvm.Cond.instanceMethod pm_49.2.1 ∈ gtb ∧ Jvm.Cond.selects pm_49.2.1.cls pm_49.2.1 pm_49.2.1 ∈ gtb := ⟨(gw (List.mem_append_right _ (List.mem_of_getElem? (i := 474) rfl)) rfl), (gw (List.mem_append_right _ (List.mem_of_getElem? (i := 475) rfl)) rfl)⟩
set_option maxRecDepth 100000 in
theorem ml_60 : MPr [1, 76, 1, 49, 2, 1, 0] := ⟨"OneAtATime$BitList", pm_49, ("OneAtATime$BitList", kT0, 7), rfl, rfl, rfl, rfl, (gw (List.mem_append_right _ (List.mem_of_getElem? (i := 473) rfl)) rfl), mi_49, mf_49, rfl, Nat.le_of_ble_eq_true rfl⟩
set_option maxRecDepth 100000 in
theorem mf_50 : MFr pm_50 1 := ⟨(gw (List.mem_append_right _ (List.mem_of_getElem? (i := 479) rfl)) rfl), ini_11, by decide +kernel, by decide +kernel⟩
set_option maxRecDepth 100000 in
theorem mi_50 : Jvm.Cond.static pm_50.2.1 ∈ gtb := (gw (List.mem_append_right _ (List.mem_of_getElem? (i := 478) rfl)) rfl)
set_option maxRecDepth 100000 in
theorem ml_61 : MPr [1, 70, 0, 50, 1, 1, 0] := ⟨"OneAtATime$BitList", pm_50, rfl, rfl, (gw (List.mem_append_right _ (List.mem_of_getElem? (i := 477) rfl)) rfl), mi_50, mf_50, rfl, Nat.le_of_ble_eq_true rfl⟩
set_option maxRecDepth 100000 in
theorem ml_62 : MPr [0, 139, 1, 43, 1, 1, 0] := ⟨"OneAtATime", pm_43, ("OneAtATime$BitList", kT0, 7), rfl, rfl, rfl, rfl, (gw (List.mem_append_right _ (List.mem_of_getElem? (i := 487) rfl)) rfl), mi_43, mf_43, rfl, Nat.le_of_ble_eq_true rfl⟩
set_option maxRecDepth 100000 in
theorem mf_52 : MFr pm_52 1 := ⟨(gw (List.mem_append_right _ (List.mem_of_getElem? (i := 490) rfl)) rfl), ini_0, by decide +kernel, by decide +kernel⟩
set_option maxRecDepth 100000 in
theorem mi_52 : Jvm.Cond.static pm_52.2.1 ∈ gtb := (gw (List.mem_append_right _ (List.mem_of_getElem? (i := 489) rfl)) rfl)
set_option maxRecDepth 100000 in
theorem ml_63 : MPr [0, 143, 0, 52, 1, 1, 0] := ⟨"OneAtATime", pm_52, rfl, rfl, (gw (List.mem_append_right _ (List.mem_of_getElem? (i := 488) rfl)) rfl), mi_52, mf_52, rfl, Nat.le_of_ble_eq_true rfl⟩
set_option maxRecDepth 100000 in
theorem mf_53 : MFr pm_53 1 := ⟨(gw (List.mem_append_right _ (List.mem_of_getElem? (i := 494) rfl)) rfl), ini_6, by decide +kernel, by decide +kernel⟩
set_option maxRecDepth 100000 in
theorem mi_53 : Jvm.Cond.instanceMethod pm_53.2.1 ∈ gtb ∧ Jvm.Cond.selects pm_53.2.1.cls pm_53.2.1 pm_53.2.1 ∈ gtb := ⟨(gw (List.mem_append_right _ (List.mem_of_getElem? (i := 492) rfl)) rfl), (gw (List.mem_append_right _ (List.mem_of_getElem? (i := 493) rfl)) rfl)⟩
set_option maxRecDepth 100000 in
theorem ml_64 : MPr [0, 147, 1, 53, 2, 1, 7] := ⟨"OneAtATime", pm_53, ("OneAtATime$Survey", kT7, 5), rfl, rfl, rfl, rfl, (gw (List.mem_append_right _ (List.mem_of_getElem? (i := 491) rfl)) rfl), mi_53, mf_53, rfl, Nat.le_of_ble_eq_true rfl⟩
set_option maxRecDepth 100000 in
theorem mf_54 : MFr pm_54 1 := ⟨(gw (List.mem_append_right _ (List.mem_of_getElem? (i := 499) rfl)) rfl), ini_6, by decide +kernel, by decide +kernel⟩
set_option maxRecDepth 100000 in
theorem mi_54 : Jvm.Cond.instanceMethod pm_54.2.1 ∈ gtb ∧ Jvm.Cond.selects pm_54.2.1.cls pm_54.2.1 pm_54.2.1 ∈ gtb := ⟨(gw (List.mem_append_right _ (List.mem_of_getElem? (i := 497) rfl)) rfl), (gw (List.mem_append_right _ (List.mem_of_getElem? (i := 498) rfl)) rfl)⟩
set_option maxRecDepth 100000 in
theorem ml_65 : MPr [0, 150, 1, 54, 2, 1, 7] := ⟨"OneAtATime", pm_54, ("OneAtATime$Survey", kT7, 5), rfl, rfl, rfl, rfl, (gw (List.mem_append_right _ (List.mem_of_getElem? (i := 496) rfl)) rfl), mi_54, mf_54, rfl, Nat.le_of_ble_eq_true rfl⟩
set_option maxRecDepth 100000 in
theorem mf_55 : MFr pm_55 1 := ⟨(gw (List.mem_append_right _ (List.mem_of_getElem? (i := 503) rfl)) rfl), ini_6, by decide +kernel, by decide +kernel⟩
set_option maxRecDepth 100000 in
theorem mi_55 : Jvm.Cond.static pm_55.2.1 ∈ gtb := (gw (List.mem_append_right _ (List.mem_of_getElem? (i := 502) rfl)) rfl)
set_option maxRecDepth 100000 in
theorem ml_66 : MPr [0, 153, 0, 55, 1, 1, 0] := ⟨"OneAtATime", pm_55, rfl, rfl, (gw (List.mem_append_right _ (List.mem_of_getElem? (i := 501) rfl)) rfl), mi_55, mf_55, rfl, Nat.le_of_ble_eq_true rfl⟩
set_option maxRecDepth 100000 in
theorem mf_57 : MFr pm_57 1 := ⟨(gw (List.mem_append_right _ (List.mem_of_getElem? (i := 513) rfl)) rfl), ini_6, by decide +kernel, by decide +kernel⟩
set_option maxRecDepth 100000 in
theorem mi_57 : Jvm.Cond.instanceMethod pm_57.2.1 ∈ gtb ∧ Jvm.Cond.selects pm_57.2.1.cls pm_57.2.1 pm_57.2.1 ∈ gtb := ⟨(gw (List.mem_append_right _ (List.mem_of_getElem? (i := 511) rfl)) rfl), (gw (List.mem_append_right _ (List.mem_of_getElem? (i := 512) rfl)) rfl)⟩
set_option maxRecDepth 100000 in
theorem ml_67 : MPr [0, 156, 1, 57, 2, 1, 7] := ⟨"OneAtATime", pm_57, ("OneAtATime$Survey", kT7, 5), rfl, rfl, rfl, rfl, (gw (List.mem_append_right _ (List.mem_of_getElem? (i := 510) rfl)) rfl), mi_57, mf_57, rfl, Nat.le_of_ble_eq_true rfl⟩
set_option maxRecDepth 100000 in
theorem mf_60 : MFr pm_60 1 := ⟨(gw (List.mem_append_right _ (List.mem_of_getElem? (i := 525) rfl)) rfl), ini_6, by decide +kernel, by decide +kernel⟩
set_option maxRecDepth 100000 in
theorem mi_60 : Jvm.Cond.static pm_60.2.1 ∈ gtb := (gw (List.mem_append_right _ (List.mem_of_getElem? (i := 524) rfl)) rfl)
set_option maxRecDepth 100000 in
theorem ml_68 : MPr [0, 159, 0, 60, 1, 1, 0] := ⟨"OneAtATime", pm_60, rfl, rfl, (gw (List.mem_append_right _ (List.mem_of_getElem? (i := 523) rfl)) rfl), mi_60, mf_60, rfl, Nat.le_of_ble_eq_true rfl⟩
set_option maxRecDepth 100000 in
theorem mf_61 : MFr pm_61 1 := ⟨(gw (List.mem_append_right _ (List.mem_of_getElem? (i := 528) rfl)) rfl), ini_6, by decide +kernel, by decide +kernel⟩
set_option maxRecDepth 100000 in
theorem mi_61 : Jvm.Cond.static pm_61.2.1 ∈ gtb := (gw (List.mem_append_right _ (List.mem_of_getElem? (i := 527) rfl)) rfl)
set_option maxRecDepth 100000 in
theorem ml_69 : MPr [0, 162, 0, 61, 1, 1, 0] := ⟨"OneAtATime", pm_61, rfl, rfl, (gw (List.mem_append_right _ (List.mem_of_getElem? (i := 526) rfl)) rfl), mi_61, mf_61, rfl, Nat.le_of_ble_eq_true rfl⟩
set_option maxRecDepth 100000 in
theorem ml_70 : MPr [6, 49, 1, 44, 2, 1, 7] := ⟨"OneAtATime$Survey", pm_44, ("OneAtATime$Survey", kT7, 5), rfl, rfl, rfl, rfl, (gw (List.mem_append_right _ (List.mem_of_getElem? (i := 495) rfl)) rfl), mi_44, mf_44, rfl, Nat.le_of_ble_eq_true rfl⟩
set_option maxRecDepth 100000 in
theorem ml_71 : MPr [6, 53, 1, 49, 2, 1, 0] := ⟨"OneAtATime$Survey", pm_49, ("OneAtATime$BitList", kT0, 7), rfl, rfl, rfl, rfl, (gw (List.mem_append_right _ (List.mem_of_getElem? (i := 500) rfl)) rfl), mi_49, mf_49, rfl, Nat.le_of_ble_eq_true rfl⟩
set_option maxRecDepth 100000 in
theorem mf_56 : MFr pm_56 1 := ⟨(gw (List.mem_append_right _ (List.mem_of_getElem? (i := 507) rfl)) rfl), ini_1, by decide +kernel, by decide +kernel⟩
set_option maxRecDepth 100000 in
theorem mi_56 : Jvm.Cond.instanceMethod pm_56.2.1 ∈ gtb ∧ Jvm.Cond.selects pm_56.2.1.cls pm_56.2.1 pm_56.2.1 ∈ gtb := ⟨(gw (List.mem_append_right _ (List.mem_of_getElem? (i := 505) rfl)) rfl), (gw (List.mem_append_right _ (List.mem_of_getElem? (i := 506) rfl)) rfl)⟩
set_option maxRecDepth 100000 in
theorem ml_72 : MPr [6, 61, 1, 56, 2, 1, 0] := ⟨"OneAtATime$Survey", pm_56, ("OneAtATime$BitList", kT0, 7), rfl, rfl, rfl, rfl, (gw (List.mem_append_right _ (List.mem_of_getElem? (i := 504) rfl)) rfl), mi_56, mf_56, rfl, Nat.le_of_ble_eq_true rfl⟩
set_option maxRecDepth 100000 in
theorem ml_73 : MPr [6, 65, 0, 1004, 2, 1, 0] := ⟨"OneAtATime$Survey", rfl, (gw (List.mem_append_right _ (List.mem_of_getElem? (i := 509) rfl)) rfl), mw_1004⟩
set_option maxRecDepth 100000 in
theorem ml_74 : MPr [1, 53, 0, 1005, 2, 1, 0] := ⟨"OneAtATime$BitList", rfl, (gw (List.mem_append_right _ (List.mem_of_getElem? (i := 508) rfl)) rfl), mw_1005⟩
set_option maxRecDepth 100000 in
theorem ml_75 : MPr [6, 71, 1, 53, 2, 1, 7] := ⟨"OneAtATime$Survey", pm_53, ("OneAtATime$Survey", kT7, 5), rfl, rfl, rfl, rfl, (gw (List.mem_append_right _ (List.mem_of_getElem? (i := 514) rfl)) rfl), mi_53, mf_53, rfl, Nat.le_of_ble_eq_true rfl⟩
set_option maxRecDepth 100000 in
theorem mf_58 : MFr pm_58 3 := ⟨(gw (List.mem_append_right _ (List.mem_of_getElem? (i := 517) rfl)) rfl), ini_6, by decide +kernel, by decide +kernel⟩
set_option maxRecDepth 100000 in
theorem mi_58 : Jvm.Cond.static pm_58.2.1 ∈ gtb := (gw (List.mem_append_right _ (List.mem_of_getElem? (i := 516) rfl)) rfl)
set_option maxRecDepth 100000 in
theorem ml_76 : MPr [6, 78, 0, 58, 3, 1, 0] := ⟨"OneAtATime$Survey", pm_58, rfl, rfl, (gw (List.mem_append_right _ (List.mem_of_getElem? (i := 515) rfl)) rfl), mi_58, mf_58, rfl, Nat.le_of_ble_eq_true rfl⟩
set_option maxRecDepth 100000 in
theorem ml_77 : MPr [6, 82, 0, 1006, 1, 1, 0] := ⟨"OneAtATime$Survey", rfl, (gw (List.mem_append_right _ (List.mem_of_getElem? (i := 518) rfl)) rfl), mw_1006⟩
set_option maxRecDepth 100000 in
theorem ml_78 : MPr [6, 85, 1, 43, 1, 1, 0] := ⟨"OneAtATime$Survey", pm_43, ("OneAtATime$BitList", kT0, 7), rfl, rfl, rfl, rfl, (gw (List.mem_append_right _ (List.mem_of_getElem? (i := 521) rfl)) rfl), mi_43, mf_43, rfl, Nat.le_of_ble_eq_true rfl⟩
set_option maxRecDepth 100000 in
theorem ml_79 : MPr [6, 89, 0, 1005, 2, 1, 0] := ⟨"OneAtATime$Survey", rfl, (gw (List.mem_append_right _ (List.mem_of_getElem? (i := 522) rfl)) rfl), mw_1005⟩
set_option maxRecDepth 100000 in
theorem mf_62 : MFr pm_62 2 := ⟨(gw (List.mem_append_right _ (List.mem_of_getElem? (i := 531) rfl)) rfl), ini_6, by decide +kernel, by decide +kernel⟩
set_option maxRecDepth 100000 in
theorem mi_62 : Jvm.Cond.static pm_62.2.1 ∈ gtb := (gw (List.mem_append_right _ (List.mem_of_getElem? (i := 530) rfl)) rfl)
set_option maxRecDepth 100000 in
theorem ml_80 : MPr [6, 92, 0, 62, 2, 1, 0] := ⟨"OneAtATime$Survey", pm_62, rfl, rfl, (gw (List.mem_append_right _ (List.mem_of_getElem? (i := 529) rfl)) rfl), mi_62, mf_62, rfl, Nat.le_of_ble_eq_true rfl⟩
set_option maxRecDepth 100000 in
theorem mf_63 : MFr pm_63 3 := ⟨(gw (List.mem_append_right _ (List.mem_of_getElem? (i := 534) rfl)) rfl), ini_6, by decide +kernel, by decide +kernel⟩
set_option maxRecDepth 100000 in
theorem mi_63 : Jvm.Cond.static pm_63.2.1 ∈ gtb := (gw (List.mem_append_right _ (List.mem_of_getElem? (i := 533) rfl)) rfl)
set_option maxRecDepth 100000 in
theorem ml_81 : MPr [6, 96, 0, 63, 3, 1, 0] := ⟨"OneAtATime$Survey", pm_63, rfl, rfl, (gw (List.mem_append_right _ (List.mem_of_getElem? (i := 532) rfl)) rfl), mi_63, mf_63, rfl, Nat.le_of_ble_eq_true rfl⟩
set_option maxRecDepth 100000 in
theorem mf_64 : MFr pm_64 2 := ⟨(gw (List.mem_append_right _ (List.mem_of_getElem? (i := 538) rfl)) rfl), ini_1, by decide +kernel, by decide +kernel⟩
set_option maxRecDepth 100000 in
theorem mi_64 : Jvm.Cond.instanceMethod pm_64.2.1 ∈ gtb ∧ Jvm.Cond.selects pm_64.2.1.cls pm_64.2.1 pm_64.2.1 ∈ gtb := ⟨(gw (List.mem_append_right _ (List.mem_of_getElem? (i := 536) rfl)) rfl), (gw (List.mem_append_right _ (List.mem_of_getElem? (i := 537) rfl)) rfl)⟩
set_option maxRecDepth 100000 in
theorem ml_82 : MPr [6, 100, 1, 64, 3, 1, 0] := ⟨"OneAtATime$Survey", pm_64, ("OneAtATime$BitList", kT0, 7), rfl, rfl, rfl, rfl, (gw (List.mem_append_right _ (List.mem_of_getElem? (i := 535) rfl)) rfl), mi_64, mf_64, rfl, Nat.le_of_ble_eq_true rfl⟩
set_option maxRecDepth 100000 in
theorem mf_68 : MFr pm_68 1 := ⟨(gw (List.mem_append_right _ (List.mem_of_getElem? (i := 554) rfl)) rfl), ini_1, by decide +kernel, by decide +kernel⟩
set_option maxRecDepth 100000 in
theorem mi_68 : Jvm.Cond.instanceMethod pm_68.2.1 ∈ gtb ∧ Jvm.Cond.selects pm_68.2.1.cls pm_68.2.1 pm_68.2.1 ∈ gtb := ⟨(gw (List.mem_append_right _ (List.mem_of_getElem? (i := 552) rfl)) rfl), (gw (List.mem_append_right _ (List.mem_of_getElem? (i := 553) rfl)) rfl)⟩
set_option maxRecDepth 100000 in
theorem ml_83 : MPr [0, 168, 1, 68, 2, 1, 0] := ⟨"OneAtATime", pm_68, ("OneAtATime$BitList", kT0, 7), rfl, rfl, rfl, rfl, (gw (List.mem_append_right _ (List.mem_of_getElem? (i := 551) rfl)) rfl), mi_68, mf_68, rfl, Nat.le_of_ble_eq_true rfl⟩
set_option maxRecDepth 100000 in
theorem mf_70 : MFr pm_70 2 := ⟨(gw (List.mem_append_right _ (List.mem_of_getElem? (i := 562) rfl)) rfl), ini_6, by decide +kernel, by decide +kernel⟩
set_option maxRecDepth 100000 in
theorem mi_70 : Jvm.Cond.instanceMethod pm_70.2.1 ∈ gtb ∧ Jvm.Cond.selects pm_70.2.1.cls pm_70.2.1 pm_70.2.1 ∈ gtb := ⟨(gw (List.mem_append_right _ (List.mem_of_getElem? (i := 560) rfl)) rfl), (gw (List.mem_append_right _ (List.mem_of_getElem? (i := 561) rfl)) rfl)⟩
set_option maxRecDepth 100000 in
theorem ml_84 : MPr [0, 171, 1, 70, 3, 1, 7] := ⟨"OneAtATime", pm_70, ("OneAtATime$Survey", kT7, 5), rfl, rfl, rfl, rfl, (gw (List.mem_append_right _ (List.mem_of_getElem? (i := 559) rfl)) rfl), mi_70, mf_70, rfl, Nat.le_of_ble_eq_true rfl⟩
set_option maxRecDepth 100000 in
theorem ml_85 : MPr [0, 175, 1, 30, 2, 1, 0] := ⟨"OneAtATime", pm_30, ("OneAtATime$BitList", kT0, 7), rfl, rfl, rfl, rfl, (gw (List.mem_append_right _ (List.mem_of_getElem? (i := 567) rfl)) rfl), mi_30, mf_30, rfl, Nat.le_of_ble_eq_true rfl⟩
set_option maxRecDepth 100000 in
theorem mf_72 : MFr pm_72 1 := ⟨(gw (List.mem_append_right _ (List.mem_of_getElem? (i := 571) rfl)) rfl), ini_1, by decide +kernel, by decide +kernel⟩
set_option maxRecDepth 100000 in
theorem mi_72 : Jvm.Cond.instanceMethod pm_72.2.1 ∈ gtb ∧ Jvm.Cond.selects pm_72.2.1.cls pm_72.2.1 pm_72.2.1 ∈ gtb := ⟨(gw (List.mem_append_right _ (List.mem_of_getElem? (i := 569) rfl)) rfl), (gw (List.mem_append_right _ (List.mem_of_getElem? (i := 570) rfl)) rfl)⟩
set_option maxRecDepth 100000 in
theorem ml_86 : MPr [0, 178, 1, 72, 2, 1, 0] := ⟨"OneAtATime", pm_72, ("OneAtATime$BitList", kT0, 7), rfl, rfl, rfl, rfl, (gw (List.mem_append_right _ (List.mem_of_getElem? (i := 568) rfl)) rfl), mi_72, mf_72, rfl, Nat.le_of_ble_eq_true rfl⟩
set_option maxRecDepth 100000 in
theorem mf_74 : MFr pm_74 2 := ⟨(gw (List.mem_append_right _ (List.mem_of_getElem? (i := 578) rfl)) rfl), ini_6, by decide +kernel, by decide +kernel⟩
set_option maxRecDepth 100000 in
theorem mi_74 : Jvm.Cond.static pm_74.2.1 ∈ gtb := (gw (List.mem_append_right _ (List.mem_of_getElem? (i := 577) rfl)) rfl)
set_option maxRecDepth 100000 in
theorem ml_87 : MPr [0, 181, 0, 74, 2, 1, 0] := ⟨"OneAtATime", pm_74, rfl, rfl, (gw (List.mem_append_right _ (List.mem_of_getElem? (i := 576) rfl)) rfl), mi_74, mf_74, rfl, Nat.le_of_ble_eq_true rfl⟩
set_option maxRecDepth 100000 in
theorem ml_88 : MPr [6, 103, 1, 72, 2, 1, 0] := ⟨"OneAtATime$Survey", pm_72, ("OneAtATime$BitList", kT0, 7), rfl, rfl, rfl, rfl, (gw (List.mem_append_right _ (List.mem_of_getElem? (i := 579) rfl)) rfl), mi_72, mf_72, rfl, Nat.le_of_ble_eq_true rfl⟩
set_option maxRecDepth 100000 in
theorem mf_76 : MFr pm_76 1 := ⟨(gw (List.mem_append_right _ (List.mem_of_getElem? (i := 586) rfl)) rfl), ini_6, by decide +kernel, by decide +kernel⟩
set_option maxRecDepth 100000 in
theorem mi_76 : Jvm.Cond.static pm_76.2.1 ∈ gtb := (gw (List.mem_append_right _ (List.mem_of_getElem? (i := 585) rfl)) rfl)
set_option maxRecDepth 100000 in
theorem ml_89 : MPr [0, 184, 0, 76, 1, 1, 0] := ⟨"OneAtATime", pm_76, rfl, rfl, (gw (List.mem_append_right _ (List.mem_of_getElem? (i := 584) rfl)) rfl), mi_76, mf_76, rfl, Nat.le_of_ble_eq_true rfl⟩
set_option maxRecDepth 100000 in
theorem mf_78 : MFr pm_78 1 := ⟨(gw (List.mem_append_right _ (List.mem_of_getElem? (i := 593) rfl)) rfl), ini_6, by decide +kernel, by decide +kernel⟩
set_option maxRecDepth 100000 in
theorem mi_78 : Jvm.Cond.static pm_78.2.1 ∈ gtb := (gw (List.mem_append_right _ (List.mem_of_getElem? (i := 592) rfl)) rfl)
set_option maxRecDepth 100000 in
theorem ml_90 : MPr [0, 187, 0, 78, 1, 1, 0] := ⟨"OneAtATime", pm_78, rfl, rfl, (gw (List.mem_append_right _ (List.mem_of_getElem? (i := 591) rfl)) rfl), mi_78, mf_78, rfl, Nat.le_of_ble_eq_true rfl⟩
set_option maxRecDepth 100000 in
theorem mf_79 : MFr pm_79 2 := ⟨(gw (List.mem_append_right _ (List.mem_of_getElem? (i := 596) rfl)) rfl), ini_6, by decide +kernel, by decide +kernel⟩
set_option maxRecDepth 100000 in
theorem mi_79 : Jvm.Cond.static pm_79.2.1 ∈ gtb := (gw (List.mem_append_right _ (List.mem_of_getElem? (i := 595) rfl)) rfl)
set_option maxRecDepth 100000 in
theorem ml_91 : MPr [0, 190, 0, 79, 2, 1, 0] := ⟨"OneAtATime", pm_79, rfl, rfl, (gw (List.mem_append_right _ (List.mem_of_getElem? (i := 600) rfl)) rfl), mi_79, mf_79, rfl, Nat.le_of_ble_eq_true rfl⟩
set_option maxRecDepth 100000 in
theorem ml_92 : MPr [6, 106, 0, 79, 2, 1, 0] := ⟨"OneAtATime$Survey", pm_79, rfl, rfl, (gw (List.mem_append_right _ (List.mem_of_getElem? (i := 594) rfl)) rfl), mi_79, mf_79, rfl, Nat.le_of_ble_eq_true rfl⟩
set_option maxRecDepth 100000 in
theorem mf_80 : MFr pm_80 2 := ⟨(gw (List.mem_append_right _ (List.mem_of_getElem? (i := 599) rfl)) rfl), ini_6, by decide +kernel, by decide +kernel⟩
set_option maxRecDepth 100000 in
theorem mi_80 : Jvm.Cond.static pm_80.2.1 ∈ gtb := (gw (List.mem_append_right _ (List.mem_of_getElem? (i := 598) rfl)) rfl)
set_option maxRecDepth 100000 in
theorem ml_93 : MPr [6, 109, 0, 80, 2, 1, 0] := ⟨"OneAtATime$Survey", pm_80, rfl, rfl, (gw (List.mem_append_right _ (List.mem_of_getElem? (i := 597) rfl)) rfl), mi_80, mf_80, rfl, Nat.le_of_ble_eq_true rfl⟩
set_option maxRecDepth 100000 in
theorem mf_82 : MFr pm_82 1 := ⟨(gw (List.mem_append_right _ (List.mem_of_getElem? (i := 607) rfl)) rfl), ini_0, by decide +kernel, by decide +kernel⟩
set_option maxRecDepth 100000 in
theorem mi_82 : Jvm.Cond.static pm_82.2.1 ∈ gtb := (gw (List.mem_append_right _ (List.mem_of_getElem? (i := 606) rfl)) rfl)
set_option maxRecDepth 100000 in
theorem ml_94 : MPr [0, 193, 0, 82, 1, 1, 0] := ⟨"OneAtATime", pm_82, rfl, rfl, (gw (List.mem_append_right _ (List.mem_of_getElem? (i := 605) rfl)) rfl), mi_82, mf_82, rfl, Nat.le_of_ble_eq_true rfl⟩
set_option maxRecDepth 100000 in
theorem mf_83 : MFr pm_83 3 := ⟨(gw (List.mem_append_right _ (List.mem_of_getElem? (i := 610) rfl)) rfl), ini_6, by decide +kernel, by decide +kernel⟩
set_option maxRecDepth 100000 in
theorem mi_83 : Jvm.Cond.static pm_83.2.1 ∈ gtb := (gw (List.mem_append_right _ (List.mem_of_getElem? (i := 609) rfl)) rfl)
set_option maxRecDepth 100000 in
theorem ml_95 : MPr [0, 196, 0, 83, 3, 1, 0] := ⟨"OneAtATime", pm_83, rfl, rfl, (gw (List.mem_append_right _ (List.mem_of_getElem? (i := 608) rfl)) rfl), mi_83, mf_83, rfl, Nat.le_of_ble_eq_true rfl⟩
set_option maxRecDepth 100000 in
theorem mf_85 : MFr pm_85 3 := ⟨(gw (List.mem_append_right _ (List.mem_of_getElem? (i := 617) rfl)) rfl), ini_6, by decide +kernel, by decide +kernel⟩
set_option maxRecDepth 100000 in
theorem mi_85 : Jvm.Cond.static pm_85.2.1 ∈ gtb := (gw (List.mem_append_right _ (List.mem_of_getElem? (i := 616) rfl)) rfl)
set_option maxRecDepth 100000 in
theorem ml_96 : MPr [0, 200, 0, 85, 3, 1, 0] := ⟨"OneAtATime", pm_85, rfl, rfl, (gw (List.mem_append_right _ (List.mem_of_getElem? (i := 615) rfl)) rfl), mi_85, mf_85, rfl, Nat.le_of_ble_eq_true rfl⟩
set_option maxRecDepth 100000 in
theorem mf_87 : MFr pm_87 3 := ⟨(gw (List.mem_append_right _ (List.mem_of_getElem? (i := 624) rfl)) rfl), ini_6, by decide +kernel, by decide +kernel⟩
set_option maxRecDepth 100000 in
theorem mi_87 : Jvm.Cond.static pm_87.2.1 ∈ gtb := (gw (List.mem_append_right _ (List.mem_of_getElem? (i := 623) rfl)) rfl)
set_option maxRecDepth 100000 in
theorem ml_97 : MPr [0, 203, 0, 87, 3, 1, 0] := ⟨"OneAtATime", pm_87, rfl, rfl, (gw (List.mem_append_right _ (List.mem_of_getElem? (i := 622) rfl)) rfl), mi_87, mf_87, rfl, Nat.le_of_ble_eq_true rfl⟩
set_option maxRecDepth 100000 in
theorem ml_98 : MPr [6, 115, 0, 50, 1, 1, 0] := ⟨"OneAtATime$Survey", pm_50, rfl, rfl, (gw (List.mem_append_right _ (List.mem_of_getElem? (i := 625) rfl)) rfl), mi_50, mf_50, rfl, Nat.le_of_ble_eq_true rfl⟩
set_option maxRecDepth 100000 in
theorem ml_99 : MPr [0, 207, 0, 1005, 2, 1, 0] := ⟨"OneAtATime", rfl, (gw (List.mem_append_right _ (List.mem_of_getElem? (i := 630) rfl)) rfl), mw_1005⟩
set_option maxRecDepth 100000 in
theorem ml_100 : MPr [0, 213, 0, 62, 2, 1, 0] := ⟨"OneAtATime", pm_62, rfl, rfl, (gw (List.mem_append_right _ (List.mem_of_getElem? (i := 635) rfl)) rfl), mi_62, mf_62, rfl, Nat.le_of_ble_eq_true rfl⟩
set_option maxRecDepth 100000 in
theorem mf_91 : MFr pm_91 1 := ⟨(gw (List.mem_append_right _ (List.mem_of_getElem? (i := 643) rfl)) rfl), ini_1, by decide +kernel, by decide +kernel⟩
set_option maxRecDepth 100000 in
theorem mi_91 : Jvm.Cond.instanceMethod pm_91.2.1 ∈ gtb ∧ Jvm.Cond.selects pm_91.2.1.cls pm_91.2.1 pm_91.2.1 ∈ gtb := ⟨(gw (List.mem_append_right _ (List.mem_of_getElem? (i := 641) rfl)) rfl), (gw (List.mem_append_right _ (List.mem_of_getElem? (i := 642) rfl)) rfl)⟩
set_option maxRecDepth 100000 in
theorem ml_101 : MPr [0, 216, 1, 91, 2, 1, 0] := ⟨"OneAtATime", pm_91, ("OneAtATime$BitList", kT0, 7), rfl, rfl, rfl, rfl, (gw (List.mem_append_right _ (List.mem_of_getElem? (i := 640) rfl)) rfl), mi_91, mf_91, rfl, Nat.le_of_ble_eq_true rfl⟩
set_option maxRecDepth 100000 in
theorem ml_102 : MPr [0, 219, 0, 50, 1, 1, 0] := ⟨"OneAtATime", pm_50, rfl, rfl, (gw (List.mem_append_right _ (List.mem_of_getElem? (i := 644) rfl)) rfl), mi_50, mf_50, rfl, Nat.le_of_ble_eq_true rfl⟩
set_option maxRecDepth 100000 in
theorem mf_93 : MFr pm_93 1 := ⟨(gw (List.mem_append_right _ (List.mem_of_getElem? (i := 652) rfl)) rfl), ini_6, by decide +kernel, by decide +kernel⟩
set_option maxRecDepth 100000 in
theorem mi_93 : Jvm.Cond.instanceMethod pm_93.2.1 ∈ gtb ∧ Jvm.Cond.selects pm_93.2.1.cls pm_93.2.1 pm_93.2.1 ∈ gtb := ⟨(gw (List.mem_append_right _ (List.mem_of_getElem? (i := 650) rfl)) rfl), (gw (List.mem_append_right _ (List.mem_of_getElem? (i := 651) rfl)) rfl)⟩
set_option maxRecDepth 100000 in
theorem ml_103 : MPr [0, 224, 1, 93, 2, 1, 7] := ⟨"OneAtATime", pm_93, ("OneAtATime$Survey", kT7, 5), rfl, rfl, rfl, rfl, (gw (List.mem_append_right _ (List.mem_of_getElem? (i := 649) rfl)) rfl), mi_93, mf_93, rfl, Nat.le_of_ble_eq_true rfl⟩
set_option maxRecDepth 100000 in
theorem mf_94 : MFr pm_94 1 := ⟨(gw (List.mem_append_right _ (List.mem_of_getElem? (i := 656) rfl)) rfl), ini_6, by decide +kernel, by decide +kernel⟩
set_option maxRecDepth 100000 in
theorem mi_94 : Jvm.Cond.instanceMethod pm_94.2.1 ∈ gtb ∧ Jvm.Cond.selects pm_94.2.1.cls pm_94.2.1 pm_94.2.1 ∈ gtb := ⟨(gw (List.mem_append_right _ (List.mem_of_getElem? (i := 655) rfl)) rfl), (gw (List.mem_append_left _ (List.mem_of_getElem? (i := 12) rfl)) rfl)⟩
set_option maxRecDepth 100000 in
theorem ml_104 : MPr [6, 120, 1, 94, 2, 0, 7] := ⟨"OneAtATime$Survey", pm_94, ("OneAtATime$Survey", kT7, 5), rfl, rfl, rfl, rfl, (gw (List.mem_append_right _ (List.mem_of_getElem? (i := 653) rfl)) rfl), mi_94, mf_94, rfl, Nat.le_of_ble_eq_true rfl⟩
set_option maxRecDepth 100000 in
theorem mf_95 : MFr pm_95 1 := ⟨(gw (List.mem_append_right _ (List.mem_of_getElem? (i := 660) rfl)) rfl), ini_6, by decide +kernel, by decide +kernel⟩
set_option maxRecDepth 100000 in
theorem mi_95 : Jvm.Cond.instanceMethod pm_95.2.1 ∈ gtb ∧ Jvm.Cond.selects pm_95.2.1.cls pm_95.2.1 pm_95.2.1 ∈ gtb := ⟨(gw (List.mem_append_right _ (List.mem_of_getElem? (i := 659) rfl)) rfl), (gw (List.mem_append_left _ (List.mem_of_getElem? (i := 13) rfl)) rfl)⟩
set_option maxRecDepth 100000 in
theorem ml_105 : MPr [6, 123, 1, 95, 2, 1, 7] := ⟨"OneAtATime$Survey", pm_95, ("OneAtATime$Survey", kT7, 5), rfl, rfl, rfl, rfl, (gw (List.mem_append_right _ (List.mem_of_getElem? (i := 657) rfl)) rfl), mi_95, mf_95, rfl, Nat.le_of_ble_eq_true rfl⟩
set_option maxRecDepth 100000 in
theorem mf_97 : MFr pm_97 3 := ⟨(gw (List.mem_append_right _ (List.mem_of_getElem? (i := 667) rfl)) rfl), ini_6, by decide +kernel, by decide +kernel⟩
set_option maxRecDepth 100000 in
theorem mi_97 : Jvm.Cond.static pm_97.2.1 ∈ gtb := (gw (List.mem_append_right _ (List.mem_of_getElem? (i := 666) rfl)) rfl)
set_option maxRecDepth 100000 in
theorem ml_106 : MPr [0, 227, 0, 97, 3, 1, 0] := ⟨"OneAtATime", pm_97, rfl, rfl, (gw (List.mem_append_right _ (List.mem_of_getElem? (i := 665) rfl)) rfl), mi_97, mf_97, rfl, Nat.le_of_ble_eq_true rfl⟩
set_option maxRecDepth 100000 in
theorem mf_101 : MFr pm_101 1 := ⟨(gw (List.mem_append_right _ (List.mem_of_getElem? (i := 682) rfl)) rfl), ini_11, by decide +kernel, by decide +kernel⟩
set_option maxRecDepth 100000 in
theorem mi_101 : Jvm.Cond.static pm_101.2.1 ∈ gtb := (gw (List.mem_append_right _ (List.mem_of_getElem? (i := 681) rfl)) rfl)
set_option maxRecDepth 100000 in
theorem ml_107 : MPr [0, 230, 0, 101, 1, 1, 0] := ⟨"OneAtATime", pm_101, rfl, rfl, (gw (List.mem_append_right _ (List.mem_of_getElem? (i := 680) rfl)) rfl), mi_101, mf_101, rfl, Nat.le_of_ble_eq_true rfl⟩
set_option maxRecDepth 100000 in
theorem mf_103 : MFr pm_103 2 := ⟨(gw (List.mem_append_right _ (List.mem_of_getElem? (i := 690) rfl)) rfl), ini_12, by decide +kernel, by decide +kernel⟩
set_option maxRecDepth 100000 in
theorem mi_103 : Jvm.Cond.static pm_103.2.1 ∈ gtb := (gw (List.mem_append_right _ (List.mem_of_getElem? (i := 689) rfl)) rfl)
set_option maxRecDepth 100000 in
theorem ml_108 : MPr [0, 233, 0, 103, 2, 0, 0] := ⟨"OneAtATime", pm_103, rfl, rfl, (gw (List.mem_append_right _ (List.mem_of_getElem? (i := 688) rfl)) rfl), mi_103, mf_103, rfl, Nat.le_of_ble_eq_true rfl⟩
set_option maxRecDepth 100000 in
theorem mf_105 : MFr pm_105 2 := ⟨(gw (List.mem_append_right _ (List.mem_of_getElem? (i := 701) rfl)) rfl), ini_12, by decide +kernel, by decide +kernel⟩
set_option maxRecDepth 100000 in
theorem mi_105 : Jvm.Cond.static pm_105.2.1 ∈ gtb := (gw (List.mem_append_right _ (List.mem_of_getElem? (i := 700) rfl)) rfl)
set_option maxRecDepth 100000 in
theorem ml_109 : MPr [0, 239, 0, 105, 2, 0, 0] := ⟨"OneAtATime", pm_105, rfl, rfl, (gw (List.mem_append_right _ (List.mem_of_getElem? (i := 699) rfl)) rfl), mi_105, mf_105, rfl, Nat.le_of_ble_eq_true rfl⟩
set_option maxRecDepth 100000 in
theorem mf_106 : MFr pm_106 2 := ⟨(gw (List.mem_append_right _ (List.mem_of_getElem? (i := 704) rfl)) rfl), ini_12, by decide +kernel, by decide +kernel⟩
set_option maxRecDepth 100000 in
theorem mi_106 : Jvm.Cond.static pm_106.2.1 ∈ gtb := (gw (List.mem_append_right _ (List.mem_of_getElem? (i := 703) rfl)) rfl)
set_option maxRecDepth 100000 in
theorem ml_110 : MPr [0, 242, 0, 106, 2, 0, 0] := ⟨"OneAtATime", pm_106, rfl, rfl, (gw (List.mem_append_right _ (List.mem_of_getElem? (i := 702) rfl)) rfl), mi_106, mf_106, rfl, Nat.le_of_ble_eq_true rfl⟩
set_option maxRecDepth 100000 in
theorem mf_104 : MFr pm_104 2 := ⟨(gw (List.mem_append_right _ (List.mem_of_getElem? (i := 694) rfl)) rfl), ini_1, by decide +kernel, by decide +kernel⟩
set_option maxRecDepth 100000 in
theorem mi_104 : Jvm.Cond.instanceMethod pm_104.2.1 ∈ gtb ∧ Jvm.Cond.selects pm_104.2.1.cls pm_104.2.1 pm_104.2.1 ∈ gtb := ⟨(gw (List.mem_append_right _ (List.mem_of_getElem? (i := 692) rfl)) rfl), (gw (List.mem_append_right _ (List.mem_of_getElem? (i := 693) rfl)) rfl)⟩
set_option maxRecDepth 100000 in
theorem ml_111 : MPr [12, 13, 1, 104, 3, 0, 0] := ⟨"OneAtATime$Maker", pm_104, ("OneAtATime$BitList", kT0, 7), rfl, rfl, rfl, rfl, (gw (List.mem_append_right _ (List.mem_of_getElem? (i := 691) rfl)) rfl), mi_104, mf_104, rfl, Nat.le_of_ble_eq_true rfl⟩
set_option maxRecDepth 100000 in
theorem ml_112 : MPr [12, 17, 1, 47, 1, 1, 0] := ⟨"OneAtATime$Maker", pm_47, ("OneAtATime$BitList", kT0, 7), rfl, rfl, rfl, rfl, (gw (List.mem_append_right _ (List.mem_of_getElem? (i := 696) rfl)) rfl), mi_47, mf_47, rfl, Nat.le_of_ble_eq_true rfl⟩
set_option maxRecDepth 100000 in
theorem ml_113 : MPr [12, 21, 0, 101, 1, 1, 0] := ⟨"OneAtATime$Maker", pm_101, rfl, rfl, (gw (List.mem_append_right _ (List.mem_of_getElem? (i := 697) rfl)) rfl), mi_101, mf_101, rfl, Nat.le_of_ble_eq_true rfl⟩
set_option maxRecDepth 100000 in
theorem ml_114 : MPr [12, 27, 1, 31, 2, 0, 0] := ⟨"OneAtATime$Maker", pm_31, ("OneAtATime$BitList", kT0, 7), rfl, rfl, rfl, rfl, (gw (List.mem_append_right _ (List.mem_of_getElem? (i := 698) rfl)) rfl), mi_31, mf_31, rfl, Nat.le_of_ble_eq_true rfl⟩
set_option maxRecDepth 100000 in
theorem ml_115 : MPr [1, 35, 1, 28, 5, 0, 0] := ⟨"OneAtATime$BitList", pm_28, ("OneAtATime$BitList", kT0, 7), rfl, rfl, rfl, rfl, (gw (List.mem_append_right _ (List.mem_of_getElem? (i := 695) rfl)) rfl), mi_28, mf_28, rfl, Nat.le_of_ble_eq_true rfl⟩
set_option maxRecDepth 100000 in
theorem ml_116 : MPr [12, 35, 1, 35, 2, 0, 0] := ⟨"OneAtATime$Maker", pm_35, ("OneAtATime$BitList", kT0, 7), rfl, rfl, rfl, rfl, (gw (List.mem_append_right _ (List.mem_of_getElem? (i := 705) rfl)) rfl), mi_35, mf_35, rfl, Nat.le_of_ble_eq_true rfl⟩
set_option maxRecDepth 100000 in
theorem mf_107 : MFr pm_107 4 := ⟨(gw (List.mem_append_right _ (List.mem_of_getElem? (i := 709) rfl)) rfl), ini_1, by decide +kernel, by decide +kernel⟩
set_option maxRecDepth 100000 in
theorem mi_107 : Jvm.Cond.instanceMethod pm_107.2.1 ∈ gtb ∧ Jvm.Cond.selects pm_107.2.1.cls pm_107.2.1 pm_107.2.1 ∈ gtb := ⟨(gw (List.mem_append_right _ (List.mem_of_getElem? (i := 707) rfl)) rfl), (gw (List.mem_append_right _ (List.mem_of_getElem? (i := 708) rfl)) rfl)⟩
set_option maxRecDepth 100000 in
theorem ml_117 : MPr [12, 42, 1, 107, 5, 0, 0] := ⟨"OneAtATime$Maker", pm_107, ("OneAtATime$BitList", kT0, 7), rfl, rfl, rfl, rfl, (gw (List.mem_append_right _ (List.mem_of_getElem? (i := 706) rfl)) rfl), mi_107, mf_107, rfl, Nat.le_of_ble_eq_true rfl⟩
set_option maxRecDepth 100000 in
theorem ml_118 : MPr [1, 43, 0, 1004, 2, 1, 0] := ⟨"OneAtATime$BitList", rfl, (gw (List.mem_append_right _ (List.mem_of_getElem? (i := 710) rfl)) rfl), mw_1004⟩
set_option maxRecDepth 100000 in
theorem ml_119 : MPr [1, 49, 1, 31, 2, 0, 0] := ⟨"OneAtATime$BitList", pm_31, ("OneAtATime$BitList", kT0, 7), rfl, rfl, rfl, rfl, (gw (List.mem_append_right _ (List.mem_of_getElem? (i := 711) rfl)) rfl), mi_31, mf_31, rfl, Nat.le_of_ble_eq_true rfl⟩
set_option maxRecDepth 100000 in
theorem mf_109 : MFr pm_109 4 := ⟨(gw (List.mem_append_right _ (List.mem_of_getElem? (i := 720) rfl)) rfl), ini_7, by decide +kernel, by decide +kernel⟩
set_option maxRecDepth 100000 in
theorem mi_109 : Jvm.Cond.instanceMethod pm_109.2.1 ∈ gtb ∧ Jvm.Cond.selects pm_109.2.1.cls pm_109.2.1 pm_109.2.1 ∈ gtb := ⟨(gw (List.mem_append_right _ (List.mem_of_getElem? (i := 718) rfl)) rfl), (gw (List.mem_append_right _ (List.mem_of_getElem? (i := 719) rfl)) rfl)⟩
set_option maxRecDepth 100000 in
theorem ml_120 : MPr [0, 246, 1, 109, 5, 1, 6] := ⟨"OneAtATime", pm_109, ("OneAtATime$Search", kT6, 3), rfl, rfl, rfl, rfl, (gw (List.mem_append_right _ (List.mem_of_getElem? (i := 717) rfl)) rfl), mi_109, mf_109, rfl, Nat.le_of_ble_eq_true rfl⟩
set_option maxRecDepth 100000 in
theorem ml_121 : MPr [7, 26, 1, 49, 2, 1, 0] := ⟨"OneAtATime$Search", pm_49, ("OneAtATime$BitList", kT0, 7), rfl, rfl, rfl, rfl, (gw (List.mem_append_right _ (List.mem_of_getElem? (i := 721) rfl)) rfl), mi_49, mf_49, rfl, Nat.le_of_ble_eq_true rfl⟩
set_option maxRecDepth 100000 in
theorem mf_110 : MFr pm_110 1 := ⟨(gw (List.mem_append_right _ (List.mem_of_getElem? (i := 725) rfl)) rfl), ini_7, by decide +kernel, by decide +kernel⟩
set_option maxRecDepth 100000 in
theorem mi_110 : Jvm.Cond.instanceMethod pm_110.2.1 ∈ gtb ∧ Jvm.Cond.selects pm_110.2.1.cls pm_110.2.1 pm_110.2.1 ∈ gtb := ⟨(gw (List.mem_append_right _ (List.mem_of_getElem? (i := 724) rfl)) rfl), (gw (List.mem_append_left _ (List.mem_of_getElem? (i := 14) rfl)) rfl)⟩
set_option maxRecDepth 100000 in
theorem ml_122 : MPr [7, 30, 1, 110, 2, 0, 6] := ⟨"OneAtATime$Search", pm_110, ("OneAtATime$Search", kT6, 3), rfl, rfl, rfl, rfl, (gw (List.mem_append_right _ (List.mem_of_getElem? (i := 722) rfl)) rfl), mi_110, mf_110, rfl, Nat.le_of_ble_eq_true rfl⟩
set_option maxRecDepth 100000 in
theorem ml_123 : MPr [7, 34, 1, 104, 3, 0, 0] := ⟨"OneAtATime$Search", pm_104, ("OneAtATime$BitList", kT0, 7), rfl, rfl, rfl, rfl, (gw (List.mem_append_right _ (List.mem_of_getElem? (i := 727) rfl)) rfl), mi_104, mf_104, rfl, Nat.le_of_ble_eq_true rfl⟩
set_option maxRecDepth 100000 in
theorem ml_124 : MPr [7, 38, 1, 48, 1, 1, 0] := ⟨"OneAtATime$Search", pm_48, ("OneAtATime$BitList", kT0, 7), rfl, rfl, rfl, rfl, (gw (List.mem_append_right _ (List.mem_of_getElem? (i := 728) rfl)) rfl), mi_48, mf_48, rfl, Nat.le_of_ble_eq_true rfl⟩
set_option maxRecDepth 100000 in
theorem mf_111 : MFr pm_111 2 := ⟨(gw (List.mem_append_right _ (List.mem_of_getElem? (i := 732) rfl)) rfl), ini_7, by decide +kernel, by decide +kernel⟩
set_option maxRecDepth 100000 in
theorem mi_111 : Jvm.Cond.static pm_111.2.1 ∈ gtb := (gw (List.mem_append_right _ (List.mem_of_getElem? (i := 731) rfl)) rfl)
set_option maxRecDepth 100000 in
theorem ml_125 : MPr [7, 47, 0, 111, 2, 1, 0] := ⟨"OneAtATime$Search", pm_111, rfl, rfl, (gw (List.mem_append_right _ (List.mem_of_getElem? (i := 730) rfl)) rfl), mi_111, mf_111, rfl, Nat.le_of_ble_eq_true rfl⟩
set_option maxRecDepth 100000 in
theorem mf_114 : MFr pm_114 2 := ⟨(gw (List.mem_append_right _ (List.mem_of_getElem? (i := 748) rfl)) rfl), ini_7, by decide +kernel, by decide +kernel⟩
set_option maxRecDepth 100000 in
theorem mi_114 : Jvm.Cond.instanceMethod pm_114.2.1 ∈ gtb ∧ Jvm.Cond.selects pm_114.2.1.cls pm_114.2.1 pm_114.2.1 ∈ gtb := ⟨(gw (List.mem_append_right _ (List.mem_of_getElem? (i := 747) rfl)) rfl), (gw (List.mem_append_left _ (List.mem_of_getElem? (i := 15) rfl)) rfl)⟩
set_option maxRecDepth 100000 in
theorem ml_126 : MPr [7, 51, 1, 114, 3, 1, 6] := ⟨"OneAtATime$Search", pm_114, ("OneAtATime$Search", kT6, 3), rfl, rfl, rfl, rfl, (gw (List.mem_append_right _ (List.mem_of_getElem? (i := 745) rfl)) rfl), mi_114, mf_114, rfl, Nat.le_of_ble_eq_true rfl⟩
set_option maxRecDepth 100000 in
theorem mf_112 : MFr pm_112 0 := ⟨(gw (List.mem_append_right _ (List.mem_of_getElem? (i := 736) rfl)) rfl), ini_1, by decide +kernel, by decide +kernel⟩
set_option maxRecDepth 100000 in
theorem mi_112 : Jvm.Cond.instanceMethod pm_112.2.1 ∈ gtb ∧ Jvm.Cond.selects pm_112.2.1.cls pm_112.2.1 pm_112.2.1 ∈ gtb := ⟨(gw (List.mem_append_right _ (List.mem_of_getElem? (i := 734) rfl)) rfl), (gw (List.mem_append_right _ (List.mem_of_getElem? (i := 735) rfl)) rfl)⟩
set_option maxRecDepth 100000 in
theorem ml_127 : MPr [7, 55, 1, 112, 1, 1, 0] := ⟨"OneAtATime$Search", pm_112, ("OneAtATime$BitList", kT0, 7), rfl, rfl, rfl, rfl, (gw (List.mem_append_right _ (List.mem_of_getElem? (i := 733) rfl)) rfl), mi_112, mf_112, rfl, Nat.le_of_ble_eq_true rfl⟩
set_option maxRecDepth 100000 in
theorem mf_113 : MFr pm_113 0 := ⟨(gw (List.mem_append_right _ (List.mem_of_getElem? (i := 744) rfl)) rfl), ini_1, by decide +kernel, by decide +kernel⟩
set_option maxRecDepth 100000 in
theorem mi_113 : Jvm.Cond.instanceMethod pm_113.2.1 ∈ gtb ∧ Jvm.Cond.selects pm_113.2.1.cls pm_113.2.1 pm_113.2.1 ∈ gtb := ⟨(gw (List.mem_append_right _ (List.mem_of_getElem? (i := 742) rfl)) rfl), (gw (List.mem_append_right _ (List.mem_of_getElem? (i := 743) rfl)) rfl)⟩
set_option maxRecDepth 100000 in
theorem ml_128 : MPr [7, 58, 1, 113, 1, 0, 0] := ⟨"OneAtATime$Search", pm_113, ("OneAtATime$BitList", kT0, 7), rfl, rfl, rfl, rfl, (gw (List.mem_append_right _ (List.mem_of_getElem? (i := 741) rfl)) rfl), mi_113, mf_113, rfl, Nat.le_of_ble_eq_true rfl⟩
set_option maxRecDepth 100000 in
theorem mf_116 : MFr pm_116 2 := ⟨(gw (List.mem_append_right _ (List.mem_of_getElem? (i := 757) rfl)) rfl), ini_7, by decide +kernel, by decide +kernel⟩
set_option maxRecDepth 100000 in
theorem mi_116 : Jvm.Cond.instanceMethod pm_116.2.1 ∈ gtb ∧ Jvm.Cond.selects pm_116.2.1.cls pm_116.2.1 pm_116.2.1 ∈ gtb := ⟨(gw (List.mem_append_right _ (List.mem_of_getElem? (i := 756) rfl)) rfl), (gw (List.mem_append_left _ (List.mem_of_getElem? (i := 17) rfl)) rfl)⟩
set_option maxRecDepth 100000 in
theorem ml_129 : MPr [7, 61, 1, 116, 3, 0, 6] := ⟨"OneAtATime$Search", pm_116, ("OneAtATime$Search", kT6, 3), rfl, rfl, rfl, rfl, (gw (List.mem_append_right _ (List.mem_of_getElem? (i := 754) rfl)) rfl), mi_116, mf_116, rfl, Nat.le_of_ble_eq_true rfl⟩
set_option maxRecDepth 100000 in
theorem ml_130 : MPr [7, 64, 1, 47, 1, 1, 0] := ⟨"OneAtATime$Search", pm_47, ("OneAtATime$BitList", kT0, 7), rfl, rfl, rfl, rfl, (gw (List.mem_append_right _ (List.mem_of_getElem? (i := 726) rfl)) rfl), mi_47, mf_47, rfl, Nat.le_of_ble_eq_true rfl⟩
set_option maxRecDepth 100000 in
theorem ml_131 : MPr [7, 67, 0, 50, 1, 1, 0] := ⟨"OneAtATime$Search", pm_50, rfl, rfl, (gw (List.mem_append_right _ (List.mem_of_getElem? (i := 737) rfl)) rfl), mi_50, mf_50, rfl, Nat.le_of_ble_eq_true rfl⟩
set_option maxRecDepth 100000 in
theorem ml_132 : MPr [7, 73, 0, 101, 1, 1, 0] := ⟨"OneAtATime$Search", pm_101, rfl, rfl, (gw (List.mem_append_right _ (List.mem_of_getElem? (i := 738) rfl)) rfl), mi_101, mf_101, rfl, Nat.le_of_ble_eq_true rfl⟩
set_option maxRecDepth 100000 in
theorem ml_133 : MPr [7, 76, 1, 31, 2, 0, 0] := ⟨"OneAtATime$Search", pm_31, ("OneAtATime$BitList", kT0, 7), rfl, rfl, rfl, rfl, (gw (List.mem_append_right _ (List.mem_of_getElem? (i := 739) rfl)) rfl), mi_31, mf_31, rfl, Nat.le_of_ble_eq_true rfl⟩
set_option maxRecDepth 100000 in
theorem ml_134 : MPr [7, 80, 0, 60, 1, 1, 0] := ⟨"OneAtATime$Search", pm_60, rfl, rfl, (gw (List.mem_append_right _ (List.mem_of_getElem? (i := 740) rfl)) rfl), mi_60, mf_60, rfl, Nat.le_of_ble_eq_true rfl⟩
set_option maxRecDepth 100000 in
theorem mf_115 : MFr pm_115 2 := ⟨(gw (List.mem_append_right _ (List.mem_of_getElem? (i := 752) rfl)) rfl), ini_7, by decide +kernel, by decide +kernel⟩
set_option maxRecDepth 100000 in
theorem mi_115 : Jvm.Cond.instanceMethod pm_115.2.1 ∈ gtb ∧ Jvm.Cond.selects pm_115.2.1.cls pm_115.2.1 pm_115.2.1 ∈ gtb := ⟨(gw (List.mem_append_right _ (List.mem_of_getElem? (i := 751) rfl)) rfl), (gw (List.mem_append_left _ (List.mem_of_getElem? (i := 16) rfl)) rfl)⟩
set_option maxRecDepth 100000 in
theorem ml_135 : MPr [7, 89, 1, 115, 3, 1, 6] := ⟨"OneAtATime$Search", pm_115, ("OneAtATime$Search", kT6, 3), rfl, rfl, rfl, rfl, (gw (List.mem_append_right _ (List.mem_of_getElem? (i := 749) rfl)) rfl), mi_115, mf_115, rfl, Nat.le_of_ble_eq_true rfl⟩
set_option maxRecDepth 100000 in
theorem ml_136 : MPr [7, 92, 0, 1005, 2, 1, 0] := ⟨"OneAtATime$Search", rfl, (gw (List.mem_append_right _ (List.mem_of_getElem? (i := 753) rfl)) rfl), mw_1005⟩
set_option maxRecDepth 100000 in
theorem ml_137 : MPr [7, 98, 1, 56, 2, 1, 0] := ⟨"OneAtATime$Search", pm_56, ("OneAtATime$BitList", kT0, 7), rfl, rfl, rfl, rfl, (gw (List.mem_append_right _ (List.mem_of_getElem? (i := 758) rfl)) rfl), mi_56, mf_56, rfl, Nat.le_of_ble_eq_true rfl⟩
set_option maxRecDepth 100000 in
theorem ml_138 : MPr [7, 101, 0, 1004, 2, 1, 0] := ⟨"OneAtATime$Search", rfl, (gw (List.mem_append_right _ (List.mem_of_getElem? (i := 759) rfl)) rfl), mw_1004⟩
set_option maxRecDepth 100000 in
theorem mf_118 : MFr pm_118 2 := ⟨(gw (List.mem_append_right _ (List.mem_of_getElem? (i := 766) rfl)) rfl), ini_12, by decide +kernel, by decide +kernel⟩
set_option maxRecDepth 100000 in
theorem mi_118 : Jvm.Cond.static pm_118.2.1 ∈ gtb := (gw (List.mem_append_right _ (List.mem_of_getElem? (i := 765) rfl)) rfl)
set_option maxRecDepth 100000 in
theorem ml_139 : MPr [0, 250, 0, 118, 2, 1, 0] := ⟨"OneAtATime", pm_118, rfl, rfl, (gw (List.mem_append_right _ (List.mem_of_getElem? (i := 764) rfl)) rfl), mi_118, mf_118, rfl, Nat.le_of_ble_eq_true rfl⟩
set_option maxRecDepth 100000 in
theorem mf_120 : MFr pm_120 1 := ⟨(gw (List.mem_append_right _ (List.mem_of_getElem? (i := 777) rfl)) rfl), ini_0, by decide +kernel, by decide +kernel⟩
set_option maxRecDepth 100000 in
theorem mi_120 : Jvm.Cond.instanceMethod pm_120.2.1 ∈ gtb ∧ Jvm.Cond.selects pm_120.2.1.cls pm_120.2.1 pm_120.2.1 ∈ gtb := ⟨(gw (List.mem_append_right _ (List.mem_of_getElem? (i := 776) rfl)) rfl), (gw (List.mem_append_left _ (List.mem_of_getElem? (i := 18) rfl)) rfl)⟩
set_option maxRecDepth 100000 in
theorem ml_140 : MPr [0, 254, 1, 120, 2, 1, 8] := ⟨"OneAtATime", pm_120, ("OneAtATime", kT8, 9), rfl, rfl, rfl, rfl, (gw (List.mem_append_right _ (List.mem_of_getElem? (i := 774) rfl)) rfl), mi_120, mf_120, rfl, Nat.le_of_ble_eq_true rfl⟩
set_option maxRecDepth 100000 in
theorem mf_121 : MFr pm_121 3 := ⟨(gw (List.mem_append_right _ (List.mem_of_getElem? (i := 780) rfl)) rfl), ini_12, by decide +kernel, by decide +kernel⟩
set_option maxRecDepth 100000 in
theorem mi_121 : Jvm.Cond.static pm_121.2.1 ∈ gtb := (gw (List.mem_append_right _ (List.mem_of_getElem? (i := 779) rfl)) rfl)
set_option maxRecDepth 100000 in
theorem ml_141 : MPr [0, 257, 0, 121, 3, 0, 0] := ⟨"OneAtATime", pm_121, rfl, rfl, (gw (List.mem_append_right _ (List.mem_of_getElem? (i := 778) rfl)) rfl), mi_121, mf_121, rfl, Nat.le_of_ble_eq_true rfl⟩
set_option maxRecDepth 100000 in
theorem ml_142 : MPr [12, 46, 0, 1004, 2, 1, 0] := ⟨"OneAtATime$Maker", rfl, (gw (List.mem_append_right _ (List.mem_of_getElem? (i := 767) rfl)) rfl), mw_1004⟩
set_option maxRecDepth 100000 in
theorem mf_119 : MFr pm_119 1 := ⟨(gw (List.mem_append_right _ (List.mem_of_getElem? (i := 770) rfl)) rfl), ini_13, by decide +kernel, by decide +kernel⟩
set_option maxRecDepth 100000 in
theorem mi_119 : Jvm.Cond.static pm_119.2.1 ∈ gtb := (gw (List.mem_append_right _ (List.mem_of_getElem? (i := 769) rfl)) rfl)
set_option maxRecDepth 100000 in
theorem ml_143 : MPr [12, 52, 0, 119, 1, 1, 0] := ⟨"OneAtATime$Maker", pm_119, rfl, rfl, (gw (List.mem_append_right _ (List.mem_of_getElem? (i := 768) rfl)) rfl), mi_119, mf_119, rfl, Nat.le_of_ble_eq_true rfl⟩
set_option maxRecDepth 100000 in
theorem ml_144 : MPr [12, 58, 1, 28, 5, 0, 0] := ⟨"OneAtATime$Maker", pm_28, ("OneAtATime$BitList", kT0, 7), rfl, rfl, rfl, rfl, (gw (List.mem_append_right _ (List.mem_of_getElem? (i := 781) rfl)) rfl), mi_28, mf_28, rfl, Nat.le_of_ble_eq_true rfl⟩
set_option maxRecDepth 100000 in
theorem mf_122 : MFr pm_122 2 := ⟨(gw (List.mem_append_right _ (List.mem_of_getElem? (i := 784) rfl)) rfl), ini_12, by decide +kernel, by decide +kernel⟩
set_option maxRecDepth 100000 in
theorem mi_122 : Jvm.Cond.static pm_122.2.1 ∈ gtb := (gw (List.mem_append_right _ (List.mem_of_getElem? (i := 783) rfl)) rfl)
set_option maxRecDepth 100000 in
theorem ml_145 : MPr [12, 62, 0, 122, 2, 1, 0] := ⟨"OneAtATime$Maker", pm_122, rfl, rfl, (gw (List.mem_append_right _ (List.mem_of_getElem? (i := 782) rfl)) rfl), mi_122, mf_122, rfl, Nat.le_of_ble_eq_true rfl⟩
set_option maxRecDepth 100000 in
theorem mf_123 : MFr pm_123 4 := ⟨(gw (List.mem_append_right _ (List.mem_of_getElem? (i := 788) rfl)) rfl), ini_1, by decide +kernel, by decide +kernel⟩
set_option maxRecDepth 100000 in
theorem mi_123 : Jvm.Cond.instanceMethod pm_123.2.1 ∈ gtb ∧ Jvm.Cond.selects pm_123.2.1.cls pm_123.2.1 pm_123.2.1 ∈ gtb := ⟨(gw (List.mem_append_right _ (List.mem_of_getElem? (i := 786) rfl)) rfl), (gw (List.mem_append_right _ (List.mem_of_getElem? (i := 787) rfl)) rfl)⟩
set_option maxRecDepth 100000 in
theorem ml_146 : MPr [12, 68, 1, 123, 5, 0, 0] := ⟨"OneAtATime$Maker", pm_123, ("OneAtATime$BitList", kT0, 7), rfl, rfl, rfl, rfl, (gw (List.mem_append_right _ (List.mem_of_getElem? (i := 785) rfl)) rfl), mi_123, mf_123, rfl, Nat.le_of_ble_eq_true rfl⟩
set_option maxRecDepth 100000 in
theorem mf_125 : MFr pm_125 1 := ⟨(gw (List.mem_append_right _ (List.mem_of_getElem? (i := 796) rfl)) rfl), ini_6, by decide +kernel, by decide +kernel⟩
set_option maxRecDepth 100000 in
theorem mi_125 : Jvm.Cond.instanceMethod pm_125.2.1 ∈ gtb ∧ Jvm.Cond.selects pm_125.2.1.cls pm_125.2.1 pm_125.2.1 ∈ gtb := ⟨(gw (List.mem_append_right _ (List.mem_of_getElem? (i := 794) rfl)) rfl), (gw (List.mem_append_right _ (List.mem_of_getElem? (i := 795) rfl)) rfl)⟩
set_option maxRecDepth 100000 in
theorem ml_147 : MPr [0, 261, 1, 125, 2, 1, 7] := ⟨"OneAtATime", pm_125, ("OneAtATime$Survey", kT7, 5), rfl, rfl, rfl, rfl, (gw (List.mem_append_right _ (List.mem_of_getElem? (i := 793) rfl)) rfl), mi_125, mf_125, rfl, Nat.le_of_ble_eq_true rfl⟩
set_option maxRecDepth 100000 in
theorem ml_148 : MPr [6, 126, 1, 112, 1, 1, 0] := ⟨"OneAtATime$Survey", pm_112, ("OneAtATime$BitList", kT0, 7), rfl, rfl, rfl, rfl, (gw (List.mem_append_right _ (List.mem_of_getElem? (i := 797) rfl)) rfl), mi_112, mf_112, rfl, Nat.le_of_ble_eq_true rfl⟩
set_option maxRecDepth 100000 in
theorem mf_127 : MFr pm_127 3 := ⟨(gw (List.mem_append_right _ (List.mem_of_getElem? (i := 805) rfl)) rfl), ini_6, by decide +kernel, by decide +kernel⟩
set_option maxRecDepth 100000 in
theorem mi_127 : Jvm.Cond.instanceMethod pm_127.2.1 ∈ gtb ∧ Jvm.Cond.selects pm_127.2.1.cls pm_127.2.1 pm_127.2.1 ∈ gtb := ⟨(gw (List.mem_append_right _ (List.mem_of_getElem? (i := 803) rfl)) rfl), (gw (List.mem_append_right _ (List.mem_of_getElem? (i := 804) rfl)) rfl)⟩
set_option maxRecDepth 100000 in
theorem ml_149 : MPr [0, 264, 1, 127, 4, 1, 7] := ⟨"OneAtATime", pm_127, ("OneAtATime$Survey", kT7, 5), rfl, rfl, rfl, rfl, (gw (List.mem_append_right _ (List.mem_of_getElem? (i := 802) rfl)) rfl), mi_127, mf_127, rfl, Nat.le_of_ble_eq_true rfl⟩
set_option maxRecDepth 100000 in
theorem mf_129 : MFr pm_129 1 := ⟨(gw (List.mem_append_right _ (List.mem_of_getElem? (i := 816) rfl)) rfl), ini_9, by decide +kernel, by decide +kernel⟩
set_option maxRecDepth 100000 in
theorem mi_129 : Jvm.Cond.instanceMethod pm_129.2.1 ∈ gtb ∧ Jvm.Cond.selects pm_129.2.1.cls pm_129.2.1 pm_129.2.1 ∈ gtb := ⟨(gw (List.mem_append_right _ (List.mem_of_getElem? (i := 814) rfl)) rfl), (gw (List.mem_append_right _ (List.mem_of_getElem? (i := 815) rfl)) rfl)⟩
set_option maxRecDepth 100000 in
theorem ml_150 : MPr [0, 273, 1, 129, 2, 0, 2] := ⟨"OneAtATime", pm_129, ("OneAtATime$Evenness", kT2, 5), rfl, rfl, rfl, rfl, (gw (List.mem_append_right _ (List.mem_of_getElem? (i := 813) rfl)) rfl), mi_129, mf_129, rfl, Nat.le_of_ble_eq_true rfl⟩
set_option maxRecDepth 100000 in
theorem mf_130 : MFr pm_130 1 := ⟨(gw (List.mem_append_right _ (List.mem_of_getElem? (i := 820) rfl)) rfl), ini_9, by decide +kernel, by decide +kernel⟩
set_option maxRecDepth 100000 in
theorem mi_130 : Jvm.Cond.instanceMethod pm_130.2.1 ∈ gtb ∧ Jvm.Cond.selects pm_130.2.1.cls pm_130.2.1 pm_130.2.1 ∈ gtb := ⟨(gw (List.mem_append_right _ (List.mem_of_getElem? (i := 819) rfl)) rfl), (gw (List.mem_append_left _ (List.mem_of_getElem? (i := 19) rfl)) rfl)⟩
set_option maxRecDepth 100000 in
theorem ml_151 : MPr [9, 29, 1, 130, 2, 0, 2] := ⟨"OneAtATime$Evenness", pm_130, ("OneAtATime$Evenness", kT2, 5), rfl, rfl, rfl, rfl, (gw (List.mem_append_right _ (List.mem_of_getElem? (i := 817) rfl)) rfl), mi_130, mf_130, rfl, Nat.le_of_ble_eq_true rfl⟩
set_option maxRecDepth 100000 in
theorem mf_131 : MFr pm_131 1 := ⟨(gw (List.mem_append_right _ (List.mem_of_getElem? (i := 826) rfl)) rfl), ini_9, by decide +kernel, by decide +kernel⟩
set_option maxRecDepth 100000 in
theorem mi_131 : Jvm.Cond.instanceMethod pm_131.2.1 ∈ gtb ∧ Jvm.Cond.selects pm_131.2.1.cls pm_131.2.1 pm_131.2.1 ∈ gtb := ⟨(gw (List.mem_append_right _ (List.mem_of_getElem? (i := 825) rfl)) rfl), (gw (List.mem_append_left _ (List.mem_of_getElem? (i := 20) rfl)) rfl)⟩
set_option maxRecDepth 100000 in
theorem ml_152 : MPr [9, 34, 1, 131, 2, 0, 2] := ⟨"OneAtATime$Evenness", pm_131, ("OneAtATime$Evenness", kT2, 5), rfl, rfl, rfl, rfl, (gw (List.mem_append_right _ (List.mem_of_getElem? (i := 823) rfl)) rfl), mi_131, mf_131, rfl, Nat.le_of_ble_eq_true rfl⟩
set_option maxRecDepth 100000 in
theorem mf_134 : MFr pm_134 1 := ⟨(gw (List.mem_append_right _ (List.mem_of_getElem? (i := 840) rfl)) rfl), ini_9, by decide +kernel, by decide +kernel⟩
set_option maxRecDepth 100000 in
theorem mi_134 : Jvm.Cond.instanceMethod pm_134.2.1 ∈ gtb ∧ Jvm.Cond.selects pm_134.2.1.cls pm_134.2.1 pm_134.2.1 ∈ gtb := ⟨(gw (List.mem_append_right _ (List.mem_of_getElem? (i := 839) rfl)) rfl), (gw (List.mem_append_left _ (List.mem_of_getElem? (i := 22) rfl)) rfl)⟩
set_option maxRecDepth 100000 in
theorem ml_153 : MPr [9, 42, 1, 134, 2, 1, 2] := ⟨"OneAtATime$Evenness", pm_134, ("OneAtATime$Evenness", kT2, 5), rfl, rfl, rfl, rfl, (gw (List.mem_append_right _ (List.mem_of_getElem? (i := 837) rfl)) rfl), mi_134, mf_134, rfl, Nat.le_of_ble_eq_true rfl⟩
set_option maxRecDepth 100000 in
theorem ml_154 : MPr [9, 46, 0, 46, 2, 0, 0] := ⟨"OneAtATime$Evenness", pm_46, rfl, rfl, (gw (List.mem_append_right _ (List.mem_of_getElem? (i := 821) rfl)) rfl), mi_46, mf_46, rfl, Nat.le_of_ble_eq_true rfl⟩
set_option maxRecDepth 100000 in
theorem ml_155 : MPr [9, 58, 0, 1004, 2, 1, 0] := ⟨"OneAtATime$Evenness", rfl, (gw (List.mem_append_right _ (List.mem_of_getElem? (i := 827) rfl)) rfl), mw_1004⟩
set_option maxRecDepth 100000 in
theorem ml_156 : MPr [9, 64, 0, 1005, 2, 1, 0] := ⟨"OneAtATime$Evenness", rfl, (gw (List.mem_append_right _ (List.mem_of_getElem? (i := 828) rfl)) rfl), mw_1005⟩
set_option maxRecDepth 100000 in
theorem mf_132 : MFr pm_132 1 := ⟨(gw (List.mem_append_right _ (List.mem_of_getElem? (i := 832) rfl)) rfl), ini_9, by decide +kernel, by decide +kernel⟩
set_option maxRecDepth 100000 in
theorem mi_132 : Jvm.Cond.instanceMethod pm_132.2.1 ∈ gtb ∧ Jvm.Cond.selects pm_132.2.1.cls pm_132.2.1 pm_132.2.1 ∈ gtb := ⟨(gw (List.mem_append_right _ (List.mem_of_getElem? (i := 831) rfl)) rfl), (gw (List.mem_append_left _ (List.mem_of_getElem? (i := 21) rfl)) rfl)⟩
set_option maxRecDepth 100000 in
theorem ml_157 : MPr [9, 67, 1, 132, 2, 3, 2] := ⟨"OneAtATime$Evenness", pm_132, ("OneAtATime$Evenness", kT2, 5), rfl, rfl, rfl, rfl, (gw (List.mem_append_right _ (List.mem_of_getElem? (i := 829) rfl)) rfl), mi_132, mf_132, rfl, Nat.le_of_ble_eq_true rfl⟩
set_option maxRecDepth 100000 in
theorem ml_158 : MPr [9, 71, 0, 1007, 2, 3, 0] := ⟨"OneAtATime$Evenness", rfl, (gw (List.mem_append_right _ (List.mem_of_getElem? (i := 834) rfl)) rfl), mw_1007⟩
set_option maxRecDepth 100000 in
theorem ml_159 : MPr [9, 74, 0, 1002, 5, 0, 0] := ⟨"OneAtATime$Evenness", rfl, (gw (List.mem_append_right _ (List.mem_of_getElem? (i := 833) rfl)) rfl), (gw (List.mem_append_right _ (List.mem_of_getElem? (i := 419) rfl)) rfl), (gw (List.mem_append_right _ (List.mem_of_getElem? (i := 418) rfl)) rfl), ini_16⟩
set_option maxRecDepth 100000 in
theorem mf_136 : MFr pm_136 2 := ⟨(gw (List.mem_append_right _ (List.mem_of_getElem? (i := 847) rfl)) rfl), ini_0, by decide +kernel, by decide +kernel⟩
set_option maxRecDepth 100000 in
theorem mi_136 : Jvm.Cond.static pm_136.2.1 ∈ gtb := (gw (List.mem_append_right _ (List.mem_of_getElem? (i := 846) rfl)) rfl)
set_option maxRecDepth 100000 in
theorem ml_160 : MPr [0, 284, 0, 136, 2, 1, 0] := ⟨"OneAtATime", pm_136, rfl, rfl, (gw (List.mem_append_right _ (List.mem_of_getElem? (i := 845) rfl)) rfl), mi_136, mf_136, rfl, Nat.le_of_ble_eq_true rfl⟩
set_option maxRecDepth 100000 in
theorem mf_137 : MFr pm_137 5 := ⟨(gw (List.mem_append_right _ (List.mem_of_getElem? (i := 851) rfl)) rfl), ini_7, by decide +kernel, by decide +kernel⟩
set_option maxRecDepth 100000 in
theorem mi_137 : Jvm.Cond.instanceMethod pm_137.2.1 ∈ gtb ∧ Jvm.Cond.selects pm_137.2.1.cls pm_137.2.1 pm_137.2.1 ∈ gtb := ⟨(gw (List.mem_append_right _ (List.mem_of_getElem? (i := 849) rfl)) rfl), (gw (List.mem_append_right _ (List.mem_of_getElem? (i := 850) rfl)) rfl)⟩
set_option maxRecDepth 100000 in
theorem ml_161 : MPr [0, 288, 1, 137, 6, 1, 6] := ⟨"OneAtATime", pm_137, ("OneAtATime$Search", kT6, 3), rfl, rfl, rfl, rfl, (gw (List.mem_append_right _ (List.mem_of_getElem? (i := 848) rfl)) rfl), mi_137, mf_137, rfl, Nat.le_of_ble_eq_true rfl⟩
set_option maxRecDepth 100000 in
theorem mf_142 : MFr pm_142 3 := ⟨(gw (List.mem_append_right _ (List.mem_of_getElem? (i := 868) rfl)) rfl), ini_12, by decide +kernel, by decide +kernel⟩
set_option maxRecDepth 100000 in
theorem mi_142 : Jvm.Cond.static pm_142.2.1 ∈ gtb := (gw (List.mem_append_right _ (List.mem_of_getElem? (i := 867) rfl)) rfl)
set_option maxRecDepth 100000 in
theorem ml_162 : MPr [0, 292, 0, 142, 3, 0, 0] := ⟨"OneAtATime", pm_142, rfl, rfl, (gw (List.mem_append_right _ (List.mem_of_getElem? (i := 866) rfl)) rfl), mi_142, mf_142, rfl, Nat.le_of_ble_eq_true rfl⟩
set_option maxRecDepth 100000 in
theorem mf_138 : MFr pm_138 1 := ⟨(gw (List.mem_append_right _ (List.mem_of_getElem? (i := 855) rfl)) rfl), ini_7, by decide +kernel, by decide +kernel⟩
set_option maxRecDepth 100000 in
theorem mi_138 : Jvm.Cond.instanceMethod pm_138.2.1 ∈ gtb ∧ Jvm.Cond.selects pm_138.2.1.cls pm_138.2.1 pm_138.2.1 ∈ gtb := ⟨(gw (List.mem_append_right _ (List.mem_of_getElem? (i := 854) rfl)) rfl), (gw (List.mem_append_left _ (List.mem_of_getElem? (i := 23) rfl)) rfl)⟩
set_option maxRecDepth 100000 in
theorem ml_163 : MPr [7, 104, 1, 138, 2, 0, 6] := ⟨"OneAtATime$Search", pm_138, ("OneAtATime$Search", kT6, 3), rfl, rfl, rfl, rfl, (gw (List.mem_append_right _ (List.mem_of_getElem? (i := 852) rfl)) rfl), mi_138, mf_138, rfl, Nat.le_of_ble_eq_true rfl⟩
set_option maxRecDepth 100000 in
theorem mf_140 : MFr pm_140 3 := ⟨(gw (List.mem_append_right _ (List.mem_of_getElem? (i := 862) rfl)) rfl), ini_7, by decide +kernel, by decide +kernel⟩
set_option maxRecDepth 100000 in
theorem mi_140 : Jvm.Cond.instanceMethod pm_140.2.1 ∈ gtb ∧ Jvm.Cond.selects pm_140.2.1.cls pm_140.2.1 pm_140.2.1 ∈ gtb := ⟨(gw (List.mem_append_right _ (List.mem_of_getElem? (i := 861) rfl)) rfl), (gw (List.mem_append_left _ (List.mem_of_getElem? (i := 24) rfl)) rfl)⟩
set_option maxRecDepth 100000 in
theorem ml_164 : MPr [7, 107, 1, 140, 4, 0, 6] := ⟨"OneAtATime$Search", pm_140, ("OneAtATime$Search", kT6, 3), rfl, rfl, rfl, rfl, (gw (List.mem_append_right _ (List.mem_of_getElem? (i := 859) rfl)) rfl), mi_140, mf_140, rfl, Nat.le_of_ble_eq_true rfl⟩
set_option maxRecDepth 100000 in
theorem mf_139 : MFr pm_139 3 := ⟨(gw (List.mem_append_right _ (List.mem_of_getElem? (i := 858) rfl)) rfl), ini_7, by decide +kernel, by decide +kernel⟩
set_option maxRecDepth 100000 in
theorem mi_139 : Jvm.Cond.static pm_139.2.1 ∈ gtb := (gw (List.mem_append_right _ (List.mem_of_getElem? (i := 857) rfl)) rfl)
set_option maxRecDepth 100000 in
theorem ml_165 : MPr [7, 111, 0, 139, 3, 1, 0] := ⟨"OneAtATime$Search", pm_139, rfl, rfl, (gw (List.mem_append_right _ (List.mem_of_getElem? (i := 856) rfl)) rfl), mi_139, mf_139, rfl, Nat.le_of_ble_eq_true rfl⟩
set_option maxRecDepth 100000 in
theorem mf_141 : MFr pm_141 2 := ⟨(gw (List.mem_append_right _ (List.mem_of_getElem? (i := 865) rfl)) rfl), ini_7, by decide +kernel, by decide +kernel⟩
set_option maxRecDepth 100000 in
theorem mi_141 : Jvm.Cond.static pm_141.2.1 ∈ gtb := (gw (List.mem_append_right _ (List.mem_of_getElem? (i := 864) rfl)) rfl)
set_option maxRecDepth 100000 in
theorem ml_166 : MPr [7, 115, 0, 141, 2, 1, 0] := ⟨"OneAtATime$Search", pm_141, rfl, rfl, (gw (List.mem_append_right _ (List.mem_of_getElem? (i := 863) rfl)) rfl), mi_141, mf_141, rfl, Nat.le_of_ble_eq_true rfl⟩
set_option maxRecDepth 100000 in
theorem mf_144 : MFr pm_144 3 := ⟨(gw (List.mem_append_right _ (List.mem_of_getElem? (i := 875) rfl)) rfl), ini_12, by decide +kernel, by decide +kernel⟩
set_option maxRecDepth 100000 in
theorem mi_144 : Jvm.Cond.static pm_144.2.1 ∈ gtb := (gw (List.mem_append_right _ (List.mem_of_getElem? (i := 874) rfl)) rfl)
set_option maxRecDepth 100000 in
theorem ml_167 : MPr [0, 296, 0, 144, 3, 0, 0] := ⟨"OneAtATime", pm_144, rfl, rfl, (gw (List.mem_append_right _ (List.mem_of_getElem? (i := 873) rfl)) rfl), mi_144, mf_144, rfl, Nat.le_of_ble_eq_true rfl⟩
set_option maxRecDepth 100000 in
theorem mf_146 : MFr pm_146 2 := ⟨(gw (List.mem_append_right _ (List.mem_of_getElem? (i := 883) rfl)) rfl), ini_1, by decide +kernel, by decide +kernel⟩
set_option maxRecDepth 100000 in
theorem mi_146 : Jvm.Cond.instanceMethod pm_146.2.1 ∈ gtb ∧ Jvm.Cond.selects pm_146.2.1.cls pm_146.2.1 pm_146.2.1 ∈ gtb := ⟨(gw (List.mem_append_right _ (List.mem_of_getElem? (i := 881) rfl)) rfl), (gw (List.mem_append_right _ (List.mem_of_getElem? (i := 882) rfl)) rfl)⟩
set_option maxRecDepth 100000 in
theorem ml_168 : MPr [0, 300, 1, 146, 3, 1, 0] := ⟨"OneAtATime", pm_146, ("OneAtATime$BitList", kT0, 7), rfl, rfl, rfl, rfl, (gw (List.mem_append_right _ (List.mem_of_getElem? (i := 880) rfl)) rfl), mi_146, mf_146, rfl, Nat.le_of_ble_eq_true rfl⟩
set_option maxRecDepth 100000 in
theorem mf_147 : MFr pm_147 4 := ⟨(gw (List.mem_append_right _ (List.mem_of_getElem? (i := 886) rfl)) rfl), ini_12, by decide +kernel, by decide +kernel⟩
set_option maxRecDepth 100000 in
theorem mi_147 : Jvm.Cond.static pm_147.2.1 ∈ gtb := (gw (List.mem_append_right _ (List.mem_of_getElem? (i := 885) rfl)) rfl)
set_option maxRecDepth 100000 in
theorem ml_169 : MPr [0, 303, 0, 147, 4, 0, 0] := ⟨"OneAtATime", pm_147, rfl, rfl, (gw (List.mem_append_right _ (List.mem_of_getElem? (i := 884) rfl)) rfl), mi_147, mf_147, rfl, Nat.le_of_ble_eq_true rfl⟩
set_option maxRecDepth 100000 in
theorem mf_149 : MFr pm_149 1 := ⟨(gw (List.mem_append_right _ (List.mem_of_getElem? (i := 893) rfl)) rfl), ini_6, by decide +kernel, by decide +kernel⟩
set_option maxRecDepth 100000 in
theorem mi_149 : Jvm.Cond.static pm_149.2.1 ∈ gtb := (gw (List.mem_append_right _ (List.mem_of_getElem? (i := 892) rfl)) rfl)
set_option maxRecDepth 100000 in
theorem ml_170 : MPr [0, 307, 0, 149, 1, 1, 0] := ⟨"OneAtATime", pm_149, rfl, rfl, (gw (List.mem_append_right _ (List.mem_of_getElem? (i := 891) rfl)) rfl), mi_149, mf_149, rfl, Nat.le_of_ble_eq_true rfl⟩
set_option maxRecDepth 100000 in
theorem ml_171 : MPr [6, 129, 1, 146, 3, 1, 0] := ⟨"OneAtATime$Survey", pm_146, ("OneAtATime$BitList", kT0, 7), rfl, rfl, rfl, rfl, (gw (List.mem_append_right _ (List.mem_of_getElem? (i := 894) rfl)) rfl), mi_146, mf_146, rfl, Nat.le_of_ble_eq_true rfl⟩
set_option maxRecDepth 100000 in
theorem mf_151 : MFr pm_151 4 := ⟨(gw (List.mem_append_right _ (List.mem_of_getElem? (i := 901) rfl)) rfl), ini_12, by decide +kernel, by decide +kernel⟩
set_option maxRecDepth 100000 in
theorem mi_151 : Jvm.Cond.static pm_151.2.1 ∈ gtb := (gw (List.mem_append_right _ (List.mem_of_getElem? (i := 900) rfl)) rfl)
set_option maxRecDepth 100000 in
theorem ml_172 : MPr [0, 310, 0, 151, 4, 0, 0] := ⟨"OneAtATime", pm_151, rfl, rfl, (gw (List.mem_append_right _ (List.mem_of_getElem? (i := 899) rfl)) rfl), mi_151, mf_151, rfl, Nat.le_of_ble_eq_true rfl⟩
set_option maxRecDepth 100000 in
theorem mf_153 : MFr pm_153 2 := ⟨(gw (List.mem_append_right _ (List.mem_of_getElem? (i := 908) rfl)) rfl), ini_12, by decide +kernel, by decide +kernel⟩
set_option maxRecDepth 100000 in
theorem mi_153 : Jvm.Cond.static pm_153.2.1 ∈ gtb := (gw (List.mem_append_right _ (List.mem_of_getElem? (i := 907) rfl)) rfl)
set_option maxRecDepth 100000 in
theorem ml_173 : MPr [0, 313, 0, 153, 2, 0, 0] := ⟨"OneAtATime", pm_153, rfl, rfl, (gw (List.mem_append_right _ (List.mem_of_getElem? (i := 906) rfl)) rfl), mi_153, mf_153, rfl, Nat.le_of_ble_eq_true rfl⟩
set_option maxRecDepth 100000 in
theorem ml_174 : MPr [12, 74, 1, 64, 3, 1, 0] := ⟨"OneAtATime$Maker", pm_64, ("OneAtATime$BitList", kT0, 7), rfl, rfl, rfl, rfl, (gw (List.mem_append_right _ (List.mem_of_getElem? (i := 909) rfl)) rfl), mi_64, mf_64, rfl, Nat.le_of_ble_eq_true rfl⟩
set_option maxRecDepth 100000 in
theorem ml_175 : MPr [0, 316, 1, 104, 3, 0, 0] := ⟨"OneAtATime", pm_104, ("OneAtATime$BitList", kT0, 7), rfl, rfl, rfl, rfl, (gw (List.mem_append_right _ (List.mem_of_getElem? (i := 914) rfl)) rfl), mi_104, mf_104, rfl, Nat.le_of_ble_eq_true rfl⟩
set_option maxRecDepth 100000 in
theorem ml_176 : MPr [0, 320, 1, 107, 5, 0, 0] := ⟨"OneAtATime", pm_107, ("OneAtATime$BitList", kT0, 7), rfl, rfl, rfl, rfl, (gw (List.mem_append_right _ (List.mem_of_getElem? (i := 915) rfl)) rfl), mi_107, mf_107, rfl, Nat.le_of_ble_eq_true rfl⟩
set_option maxRecDepth 100000 in
theorem mf_156 : MFr pm_156 4 := ⟨(gw (List.mem_append_right _ (List.mem_of_getElem? (i := 922) rfl)) rfl), ini_12, by decide +kernel, by decide +kernel⟩
set_option maxRecDepth 100000 in
theorem mi_156 : Jvm.Cond.static pm_156.2.1 ∈ gtb := (gw (List.mem_append_right _ (List.mem_of_getElem? (i := 921) rfl)) rfl)
set_option maxRecDepth 100000 in
theorem ml_177 : MPr [0, 324, 0, 156, 4, 0, 0] := ⟨"OneAtATime", pm_156, rfl, rfl, (gw (List.mem_append_right _ (List.mem_of_getElem? (i := 920) rfl)) rfl), mi_156, mf_156, rfl, Nat.le_of_ble_eq_true rfl⟩
set_option maxRecDepth 100000 in
theorem ml_178 : MPr [0, 327, 1, 112, 1, 1, 0] := ⟨"OneAtATime", pm_112, ("OneAtATime$BitList", kT0, 7), rfl, rfl, rfl, rfl, (gw (List.mem_append_right _ (List.mem_of_getElem? (i := 927) rfl)) rfl), mi_112, mf_112, rfl, Nat.le_of_ble_eq_true rfl⟩
set_option maxRecDepth 100000 in
theorem ml_179 : MPr [0, 330, 1, 123, 5, 0, 0] := ⟨"OneAtATime", pm_123, ("OneAtATime$BitList", kT0, 7), rfl, rfl, rfl, rfl, (gw (List.mem_append_right _ (List.mem_of_getElem? (i := 928) rfl)) rfl), mi_123, mf_123, rfl, Nat.le_of_ble_eq_true rfl⟩
set_option maxRecDepth 100000 in
theorem ml_180 : MPr [0, 336, 1, 31, 2, 0, 0] := ⟨"OneAtATime", pm_31, ("OneAtATime$BitList", kT0, 7), rfl, rfl, rfl, rfl, (gw (List.mem_append_right _ (List.mem_of_getElem? (i := 937) rfl)) rfl), mi_31, mf_31, rfl, Nat.le_of_ble_eq_true rfl⟩
set_option maxRecDepth 100000 in
theorem mf_162 : MFr pm_162 2 := ⟨(gw (List.mem_append_right _ (List.mem_of_getElem? (i := 949) rfl)) rfl), ini_8, by decide +kernel, by decide +kernel⟩
set_option maxRecDepth 100000 in
theorem mi_162 : Jvm.Cond.instanceMethod pm_162.2.1 ∈ gtb ∧ Jvm.Cond.selects pm_162.2.1.cls pm_162.2.1 pm_162.2.1 ∈ gtb := ⟨(gw (List.mem_append_right _ (List.mem_of_getElem? (i := 947) rfl)) rfl), (gw (List.mem_append_right _ (List.mem_of_getElem? (i := 948) rfl)) rfl)⟩
set_option maxRecDepth 100000 in
theorem ml_181 : MPr [0, 339, 1, 162, 3, 1, 4] := ⟨"OneAtATime", pm_162, ("OneAtATime$Likeness", kT4, 2), rfl, rfl, rfl, rfl, (gw (List.mem_append_right _ (List.mem_of_getElem? (i := 946) rfl)) rfl), mi_162, mf_162, rfl, Nat.le_of_ble_eq_true rfl⟩
set_option maxRecDepth 100000 in
theorem ml_182 : MPr [8, 24, 1, 43, 1, 1, 0] := ⟨"OneAtATime$Likeness", pm_43, ("OneAtATime$BitList", kT0, 7), rfl, rfl, rfl, rfl, (gw (List.mem_append_right _ (List.mem_of_getElem? (i := 950) rfl)) rfl), mi_43, mf_43, rfl, Nat.le_of_ble_eq_true rfl⟩
set_option maxRecDepth 100000 in
theorem mf_163 : MFr pm_163 4 := ⟨(gw (List.mem_append_right _ (List.mem_of_getElem? (i := 954) rfl)) rfl), ini_8, by decide +kernel, by decide +kernel⟩
set_option maxRecDepth 100000 in
theorem mi_163 : Jvm.Cond.instanceMethod pm_163.2.1 ∈ gtb ∧ Jvm.Cond.selects pm_163.2.1.cls pm_163.2.1 pm_163.2.1 ∈ gtb := ⟨(gw (List.mem_append_right _ (List.mem_of_getElem? (i := 953) rfl)) rfl), (gw (List.mem_append_left _ (List.mem_of_getElem? (i := 25) rfl)) rfl)⟩
set_option maxRecDepth 100000 in
theorem ml_183 : MPr [8, 28, 1, 163, 5, 1, 4] := ⟨"OneAtATime$Likeness", pm_163, ("OneAtATime$Likeness", kT4, 2), rfl, rfl, rfl, rfl, (gw (List.mem_append_right _ (List.mem_of_getElem? (i := 951) rfl)) rfl), mi_163, mf_163, rfl, Nat.le_of_ble_eq_true rfl⟩
set_option maxRecDepth 100000 in
theorem ml_184 : MPr [8, 32, 0, 46, 2, 0, 0] := ⟨"OneAtATime$Likeness", pm_46, rfl, rfl, (gw (List.mem_append_right _ (List.mem_of_getElem? (i := 955) rfl)) rfl), mi_46, mf_46, rfl, Nat.le_of_ble_eq_true rfl⟩
set_option maxRecDepth 100000 in
theorem mf_166 : MFr pm_166 0 := ⟨(gw (List.mem_append_right _ (List.mem_of_getElem? (i := 967) rfl)) rfl), ini_2, by decide +kernel, by decide +kernel⟩
set_option maxRecDepth 100000 in
theorem mi_166 : Jvm.Cond.instanceMethod pm_166.2.1 ∈ gtb ∧ Jvm.Cond.selects pm_166.2.1.cls pm_166.2.1 pm_166.2.1 ∈ gtb := ⟨(gw (List.mem_append_right _ (List.mem_of_getElem? (i := 965) rfl)) rfl), (gw (List.mem_append_right _ (List.mem_of_getElem? (i := 966) rfl)) rfl)⟩
set_option maxRecDepth 100000 in
theorem ml_185 : MPr [0, 351, 1, 166, 1, 1, 3] := ⟨"OneAtATime", pm_166, ("OneAtATime$History", kT3, 4), rfl, rfl, rfl, rfl, (gw (List.mem_append_right _ (List.mem_of_getElem? (i := 964) rfl)) rfl), mi_166, mf_166, rfl, Nat.le_of_ble_eq_true rfl⟩
set_option maxRecDepth 100000 in
theorem mf_168 : MFr pm_168 1 := ⟨(gw (List.mem_append_right _ (List.mem_of_getElem? (i := 975) rfl)) rfl), ini_2, by decide +kernel, by decide +kernel⟩
set_option maxRecDepth 100000 in
theorem mi_168 : Jvm.Cond.instanceMethod pm_168.2.1 ∈ gtb ∧ Jvm.Cond.selects pm_168.2.1.cls pm_168.2.1 pm_168.2.1 ∈ gtb := ⟨(gw (List.mem_append_right _ (List.mem_of_getElem? (i := 973) rfl)) rfl), (gw (List.mem_append_right _ (List.mem_of_getElem? (i := 974) rfl)) rfl)⟩
set_option maxRecDepth 100000 in
theorem ml_186 : MPr [0, 354, 1, 168, 2, 0, 3] := ⟨"OneAtATime", pm_168, ("OneAtATime$History", kT3, 4), rfl, rfl, rfl, rfl, (gw (List.mem_append_right _ (List.mem_of_getElem? (i := 972) rfl)) rfl), mi_168, mf_168, rfl, Nat.le_of_ble_eq_true rfl⟩
set_option maxRecDepth 100000 in
theorem mf_167 : MFr pm_167 0 := ⟨(gw (List.mem_append_right _ (List.mem_of_getElem? (i := 971) rfl)) rfl), ini_2, by decide +kernel, by decide +kernel⟩
set_option maxRecDepth 100000 in
theorem mi_167 : Jvm.Cond.instanceMethod pm_167.2.1 ∈ gtb ∧ Jvm.Cond.selects pm_167.2.1.cls pm_167.2.1 pm_167.2.1 ∈ gtb := ⟨(gw (List.mem_append_right _ (List.mem_of_getElem? (i := 970) rfl)) rfl), (gw (List.mem_append_left _ (List.mem_of_getElem? (i := 26) rfl)) rfl)⟩
set_option maxRecDepth 100000 in
theorem ml_187 : MPr [2, 39, 1, 167, 1, 1, 3] := ⟨"OneAtATime$History", pm_167, ("OneAtATime$History", kT3, 4), rfl, rfl, rfl, rfl, (gw (List.mem_append_right _ (List.mem_of_getElem? (i := 968) rfl)) rfl), mi_167, mf_167, rfl, Nat.le_of_ble_eq_true rfl⟩
set_option maxRecDepth 100000 in
theorem mf_170 : MFr pm_170 1 := ⟨(gw (List.mem_append_right _ (List.mem_of_getElem? (i := 983) rfl)) rfl), ini_4, by decide +kernel, by decide +kernel⟩
set_option maxRecDepth 100000 in
theorem mi_170 : Jvm.Cond.instanceMethod pm_170.2.1 ∈ gtb ∧ Jvm.Cond.selects pm_170.2.1.cls pm_170.2.1 pm_170.2.1 ∈ gtb := ⟨(gw (List.mem_append_right _ (List.mem_of_getElem? (i := 981) rfl)) rfl), (gw (List.mem_append_right _ (List.mem_of_getElem? (i := 982) rfl)) rfl)⟩
set_option maxRecDepth 100000 in
theorem ml_188 : MPr [0, 357, 1, 170, 2, 0, 1] := ⟨"OneAtATime", pm_170, ("OneAtATime$Bytes", kT1, 2), rfl, rfl, rfl, rfl, (gw (List.mem_append_right _ (List.mem_of_getElem? (i := 980) rfl)) rfl), mi_170, mf_170, rfl, Nat.le_of_ble_eq_true rfl⟩
set_option maxRecDepth 100000 in
theorem mf_173 : MFr pm_173 1 := ⟨(gw (List.mem_append_right _ (List.mem_of_getElem? (i := 1001) rfl)) rfl), ini_4, by decide +kernel, by decide +kernel⟩
set_option maxRecDepth 100000 in
theorem mi_173 : Jvm.Cond.instanceMethod pm_173.2.1 ∈ gtb ∧ Jvm.Cond.selects pm_173.2.1.cls pm_173.2.1 pm_173.2.1 ∈ gtb := ⟨(gw (List.mem_append_right _ (List.mem_of_getElem? (i := 999) rfl)) rfl), (gw (List.mem_append_right _ (List.mem_of_getElem? (i := 1000) rfl)) rfl)⟩
set_option maxRecDepth 100000 in
theorem ml_189 : MPr [0, 360, 1, 173, 2, 0, 1] := ⟨"OneAtATime", pm_173, ("OneAtATime$Bytes", kT1, 2), rfl, rfl, rfl, rfl, (gw (List.mem_append_right _ (List.mem_of_getElem? (i := 998) rfl)) rfl), mi_173, mf_173, rfl, Nat.le_of_ble_eq_true rfl⟩
set_option maxRecDepth 100000 in
theorem mf_171 : MFr pm_171 1 := ⟨(gw (List.mem_append_right _ (List.mem_of_getElem? (i := 988) rfl)) rfl), ini_4, by decide +kernel, by decide +kernel⟩
set_option maxRecDepth 100000 in
theorem mi_171 : Jvm.Cond.instanceMethod pm_171.2.1 ∈ gtb ∧ Jvm.Cond.selects pm_171.2.1.cls pm_171.2.1 pm_171.2.1 ∈ gtb := ⟨(gw (List.mem_append_right _ (List.mem_of_getElem? (i := 986) rfl)) rfl), (gw (List.mem_append_right _ (List.mem_of_getElem? (i := 987) rfl)) rfl)⟩
set_option maxRecDepth 100000 in
theorem ml_190 : MPr [4, 40, 1, 171, 2, 0, 1] := ⟨"OneAtATime$Bytes", pm_171, ("OneAtATime$Bytes", kT1, 2), rfl, rfl, rfl, rfl, (gw (List.mem_append_right _ (List.mem_of_getElem? (i := 985) rfl)) rfl), mi_171, mf_171, rfl, Nat.le_of_ble_eq_true rfl⟩
set_option maxRecDepth 100000 in
theorem mf_172 : MFr pm_172 1 := ⟨(gw (List.mem_append_right _ (List.mem_of_getElem? (i := 994) rfl)) rfl), ini_4, by decide +kernel, by decide +kernel⟩
set_option maxRecDepth 100000 in
theorem mi_172 : Jvm.Cond.instanceMethod pm_172.2.1 ∈ gtb ∧ Jvm.Cond.selects pm_172.2.1.cls pm_172.2.1 pm_172.2.1 ∈ gtb := ⟨(gw (List.mem_append_right _ (List.mem_of_getElem? (i := 992) rfl)) rfl), (gw (List.mem_append_right _ (List.mem_of_getElem? (i := 993) rfl)) rfl)⟩
set_option maxRecDepth 100000 in
theorem ml_191 : MPr [4, 49, 1, 172, 2, 0, 1] := ⟨"OneAtATime$Bytes", pm_172, ("OneAtATime$Bytes", kT1, 2), rfl, rfl, rfl, rfl, (gw (List.mem_append_right _ (List.mem_of_getElem? (i := 991) rfl)) rfl), mi_172, mf_172, rfl, Nat.le_of_ble_eq_true rfl⟩
set_option maxRecDepth 100000 in
theorem ml_192 : MPr [4, 29, 1, 1000, 1, 1, 30] := ⟨"OneAtATime$Bytes", rfl, (gw (List.mem_append_right _ (List.mem_of_getElem? (i := 989) rfl)) rfl)⟩
set_option maxRecDepth 100000 in
theorem ml_193 : MPr [4, 34, 1, 1001, 2, 1, 30] := ⟨"OneAtATime$Bytes", rfl, (gw (List.mem_append_right _ (List.mem_of_getElem? (i := 990) rfl)) rfl)⟩
set_option maxRecDepth 100000 in
theorem ml_194 : MPr [4, 74, 1, 42, 1, 1, 0] := ⟨"OneAtATime$Bytes", pm_42, ("OneAtATime$BitList", kT0, 7), rfl, rfl, rfl, rfl, (gw (List.mem_append_right _ (List.mem_of_getElem? (i := 1002) rfl)) rfl), mi_42, mf_42, rfl, Nat.le_of_ble_eq_true rfl⟩
set_option maxRecDepth 100000 in
theorem ml_195 : MPr [4, 77, 1, 64, 3, 1, 0] := ⟨"OneAtATime$Bytes", pm_64, ("OneAtATime$BitList", kT0, 7), rfl, rfl, rfl, rfl, (gw (List.mem_append_right _ (List.mem_of_getElem? (i := 1003) rfl)) rfl), mi_64, mf_64, rfl, Nat.le_of_ble_eq_true rfl⟩
set_option maxRecDepth 100000 in
theorem ml_196 : MPr [0, 363, 1, 19, 2, 1, 1] := ⟨"OneAtATime", pm_19, ("OneAtATime$Bytes", kT1, 2), rfl, rfl, rfl, rfl, (gw (List.mem_append_right _ (List.mem_of_getElem? (i := 1008) rfl)) rfl), mi_19, mf_19, rfl, Nat.le_of_ble_eq_true rfl⟩
set_option maxRecDepth 100000 in
theorem ml_197 : MPr [14, 7, 2, 1003, 1, 0, 0] := ⟨"OneAtATimeModel", rfl, (gw (List.mem_append_right _ (List.mem_of_getElem? (i := 1014) rfl)) rfl), (gw (List.mem_append_right _ (List.mem_of_getElem? (i := 27) rfl)) rfl), (gw (List.mem_append_right _ (List.mem_of_getElem? (i := 28) rfl)) rfl)⟩
set_option maxRecDepth 100000 in
theorem mf_178 : MFr pm_178 1 := ⟨(gw (List.mem_append_right _ (List.mem_of_getElem? (i := 1114) rfl)) rfl), ini_14, by decide +kernel, by decide +kernel⟩
set_option maxRecDepth 100000 in
theorem mi_178 : Jvm.Cond.static pm_178.2.1 ∈ gtb := (gw (List.mem_append_right _ (List.mem_of_getElem? (i := 1113) rfl)) rfl)
set_option maxRecDepth 100000 in
theorem ml_198 : MPr [14, 64, 0, 178, 1, 1, 0] := ⟨"OneAtATimeModel", pm_178, rfl, rfl, (gw (List.mem_append_right _ (List.mem_of_getElem? (i := 1112) rfl)) rfl), mi_178, mf_178, rfl, Nat.le_of_ble_eq_true rfl⟩
set_option maxRecDepth 100000 in
theorem mf_180 : MFr pm_180 1 := ⟨(gw (List.mem_append_right _ (List.mem_of_getElem? (i := 1122) rfl)) rfl), ini_14, by decide +kernel, by decide +kernel⟩
set_option maxRecDepth 100000 in
theorem mi_180 : Jvm.Cond.instanceMethod pm_180.2.1 ∈ gtb ∧ Jvm.Cond.selects pm_180.2.1.cls pm_180.2.1 pm_180.2.1 ∈ gtb := ⟨(gw (List.mem_append_right _ (List.mem_of_getElem? (i := 1121) rfl)) rfl), (gw (List.mem_append_left _ (List.mem_of_getElem? (i := 27) rfl)) rfl)⟩
set_option maxRecDepth 100000 in
theorem ml_199 : MPr [14, 72, 1, 180, 2, 1, 9] := ⟨"OneAtATimeModel", pm_180, ("OneAtATimeModel", kT9, 29), rfl, rfl, rfl, rfl, (gw (List.mem_append_right _ (List.mem_of_getElem? (i := 1119) rfl)) rfl), mi_180, mf_180, rfl, Nat.le_of_ble_eq_true rfl⟩
set_option maxRecDepth 100000 in
theorem mf_182 : MFr pm_182 5 := ⟨(gw (List.mem_append_right _ (List.mem_of_getElem? (i := 1130) rfl)) rfl), ini_14, by decide +kernel, by decide +kernel⟩
set_option maxRecDepth 100000 in
theorem mi_182 : Jvm.Cond.instanceMethod pm_182.2.1 ∈ gtb ∧ Jvm.Cond.selects pm_182.2.1.cls pm_182.2.1 pm_182.2.1 ∈ gtb := ⟨(gw (List.mem_append_right _ (List.mem_of_getElem? (i := 1129) rfl)) rfl), (gw (List.mem_append_left _ (List.mem_of_getElem? (i := 29) rfl)) rfl)⟩
set_option maxRecDepth 100000 in
theorem ml_200 : MPr [14, 94, 1, 182, 6, 0, 9] := ⟨"OneAtATimeModel", pm_182, ("OneAtATimeModel", kT9, 29), rfl, rfl, rfl, rfl, (gw (List.mem_append_right _ (List.mem_of_getElem? (i := 1127) rfl)) rfl), mi_182, mf_182, rfl, Nat.le_of_ble_eq_true rfl⟩
set_option maxRecDepth 100000 in
theorem mf_184 : MFr pm_184 1 := ⟨(gw (List.mem_append_right _ (List.mem_of_getElem? (i := 1138) rfl)) rfl), ini_14, by decide +kernel, by decide +kernel⟩
set_option maxRecDepth 100000 in
theorem mi_184 : Jvm.Cond.instanceMethod pm_184.2.1 ∈ gtb ∧ Jvm.Cond.selects pm_184.2.1.cls pm_184.2.1 pm_184.2.1 ∈ gtb := ⟨(gw (List.mem_append_right _ (List.mem_of_getElem? (i := 1137) rfl)) rfl), (gw (List.mem_append_left _ (List.mem_of_getElem? (i := 31) rfl)) rfl)⟩
set_option maxRecDepth 100000 in
theorem ml_201 : MPr [14, 85, 1, 184, 2, 1, 9] := ⟨"OneAtATimeModel", pm_184, ("OneAtATimeModel", kT9, 29), rfl, rfl, rfl, rfl, (gw (List.mem_append_right _ (List.mem_of_getElem? (i := 1135) rfl)) rfl), mi_184, mf_184, rfl, Nat.le_of_ble_eq_true rfl⟩
set_option maxRecDepth 100000 in
theorem mf_179 : MFr pm_179 3 := ⟨(gw (List.mem_append_right _ (List.mem_of_getElem? (i := 1118) rfl)) rfl), ini_14, by decide +kernel, by decide +kernel⟩
set_option maxRecDepth 100000 in
theorem mi_179 : Jvm.Cond.static pm_179.2.1 ∈ gtb := (gw (List.mem_append_right _ (List.mem_of_getElem? (i := 1117) rfl)) rfl)
set_option maxRecDepth 100000 in
theorem ml_202 : MPr [14, 60, 0, 179, 3, 1, 0] := ⟨"OneAtATimeModel", pm_179, rfl, rfl, (gw (List.mem_append_right _ (List.mem_of_getElem? (i := 1116) rfl)) rfl), mi_179, mf_179, rfl, Nat.le_of_ble_eq_true rfl⟩
set_option maxRecDepth 100000 in
theorem mf_181 : MFr pm_181 2 := ⟨(gw (List.mem_append_right _ (List.mem_of_getElem? (i := 1126) rfl)) rfl), ini_14, by decide +kernel, by decide +kernel⟩
set_option maxRecDepth 100000 in
theorem mi_181 : Jvm.Cond.instanceMethod pm_181.2.1 ∈ gtb ∧ Jvm.Cond.selects pm_181.2.1.cls pm_181.2.1 pm_181.2.1 ∈ gtb := ⟨(gw (List.mem_append_right _ (List.mem_of_getElem? (i := 1125) rfl)) rfl), (gw (List.mem_append_left _ (List.mem_of_getElem? (i := 28) rfl)) rfl)⟩
set_option maxRecDepth 100000 in
theorem ml_203 : MPr [14, 68, 1, 181, 3, 1, 9] := ⟨"OneAtATimeModel", pm_181, ("OneAtATimeModel", kT9, 29), rfl, rfl, rfl, rfl, (gw (List.mem_append_right _ (List.mem_of_getElem? (i := 1123) rfl)) rfl), mi_181, mf_181, rfl, Nat.le_of_ble_eq_true rfl⟩
set_option maxRecDepth 100000 in
theorem mf_183 : MFr pm_183 0 := ⟨(gw (List.mem_append_right _ (List.mem_of_getElem? (i := 1134) rfl)) rfl), ini_14, by decide +kernel, by decide +kernel⟩
set_option maxRecDepth 100000 in
theorem mi_183 : Jvm.Cond.instanceMethod pm_183.2.1 ∈ gtb ∧ Jvm.Cond.selects pm_183.2.1.cls pm_183.2.1 pm_183.2.1 ∈ gtb := ⟨(gw (List.mem_append_right _ (List.mem_of_getElem? (i := 1133) rfl)) rfl), (gw (List.mem_append_left _ (List.mem_of_getElem? (i := 30) rfl)) rfl)⟩
set_option maxRecDepth 100000 in
theorem ml_204 : MPr [14, 91, 1, 183, 1, 0, 9] := ⟨"OneAtATimeModel", pm_183, ("OneAtATimeModel", kT9, 29), rfl, rfl, rfl, rfl, (gw (List.mem_append_right _ (List.mem_of_getElem? (i := 1131) rfl)) rfl), mi_183, mf_183, rfl, Nat.le_of_ble_eq_true rfl⟩
set_option maxRecDepth 100000 in
theorem mf_188 : MFr pm_188 0 := ⟨(gw (List.mem_append_right _ (List.mem_of_getElem? (i := 1154) rfl)) rfl), ini_14, by decide +kernel, by decide +kernel⟩
set_option maxRecDepth 100000 in
theorem mi_188 : Jvm.Cond.instanceMethod pm_188.2.1 ∈ gtb ∧ Jvm.Cond.selects pm_188.2.1.cls pm_188.2.1 pm_188.2.1 ∈ gtb := ⟨(gw (List.mem_append_right _ (List.mem_of_getElem? (i := 1153) rfl)) rfl), (gw (List.mem_append_left _ (List.mem_of_getElem? (i := 32) rfl)) rfl)⟩
set_option maxRecDepth 100000 in
theorem ml_205 : MPr [14, 145, 1, 188, 1, 0, 9] := ⟨"OneAtATimeModel", pm_188, ("OneAtATimeModel", kT9, 29), rfl, rfl, rfl, rfl, (gw (List.mem_append_right _ (List.mem_of_getElem? (i := 1151) rfl)) rfl), mi_188, mf_188, rfl, Nat.le_of_ble_eq_true rfl⟩
set_option maxRecDepth 100000 in
theorem mf_190 : MFr pm_190 1 := ⟨(gw (List.mem_append_right _ (List.mem_of_getElem? (i := 1164) rfl)) rfl), ini_14, by decide +kernel, by decide +kernel⟩
set_option maxRecDepth 100000 in
theorem mi_190 : Jvm.Cond.instanceMethod pm_190.2.1 ∈ gtb ∧ Jvm.Cond.selects pm_190.2.1.cls pm_190.2.1 pm_190.2.1 ∈ gtb := ⟨(gw (List.mem_append_right _ (List.mem_of_getElem? (i := 1163) rfl)) rfl), (gw (List.mem_append_left _ (List.mem_of_getElem? (i := 34) rfl)) rfl)⟩
set_option maxRecDepth 100000 in
theorem ml_206 : MPr [14, 163, 1, 190, 2, 1, 9] := ⟨"OneAtATimeModel", pm_190, ("OneAtATimeModel", kT9, 29), rfl, rfl, rfl, rfl, (gw (List.mem_append_right _ (List.mem_of_getElem? (i := 1161) rfl)) rfl), mi_190, mf_190, rfl, Nat.le_of_ble_eq_true rfl⟩
set_option maxRecDepth 100000 in
theorem mf_191 : MFr pm_191 1 := ⟨(gw (List.mem_append_right _ (List.mem_of_getElem? (i := 1170) rfl)) rfl), ini_14, by decide +kernel, by decide +kernel⟩
set_option maxRecDepth 100000 in
theorem mi_191 : Jvm.Cond.instanceMethod pm_191.2.1 ∈ gtb ∧ Jvm.Cond.selects pm_191.2.1.cls pm_191.2.1 pm_191.2.1 ∈ gtb := ⟨(gw (List.mem_append_right _ (List.mem_of_getElem? (i := 1169) rfl)) rfl), (gw (List.mem_append_left _ (List.mem_of_getElem? (i := 35) rfl)) rfl)⟩
set_option maxRecDepth 100000 in
theorem ml_207 : MPr [14, 158, 1, 191, 2, 0, 9] := ⟨"OneAtATimeModel", pm_191, ("OneAtATimeModel", kT9, 29), rfl, rfl, rfl, rfl, (gw (List.mem_append_right _ (List.mem_of_getElem? (i := 1167) rfl)) rfl), mi_191, mf_191, rfl, Nat.le_of_ble_eq_true rfl⟩
set_option maxRecDepth 100000 in
theorem mf_193 : MFr pm_193 2 := ⟨(gw (List.mem_append_right _ (List.mem_of_getElem? (i := 1178) rfl)) rfl), ini_14, by decide +kernel, by decide +kernel⟩
set_option maxRecDepth 100000 in
theorem mi_193 : Jvm.Cond.instanceMethod pm_193.2.1 ∈ gtb ∧ Jvm.Cond.selects pm_193.2.1.cls pm_193.2.1 pm_193.2.1 ∈ gtb := ⟨(gw (List.mem_append_right _ (List.mem_of_getElem? (i := 1177) rfl)) rfl), (gw (List.mem_append_left _ (List.mem_of_getElem? (i := 37) rfl)) rfl)⟩
set_option maxRecDepth 100000 in
theorem ml_208 : MPr [14, 167, 1, 193, 3, 1, 9] := ⟨"OneAtATimeModel", pm_193, ("OneAtATimeModel", kT9, 29), rfl, rfl, rfl, rfl, (gw (List.mem_append_right _ (List.mem_of_getElem? (i := 1175) rfl)) rfl), mi_193, mf_193, rfl, Nat.le_of_ble_eq_true rfl⟩
set_option maxRecDepth 100000 in
theorem mf_194 : MFr pm_194 1 := ⟨(gw (List.mem_append_right _ (List.mem_of_getElem? (i := 1185) rfl)) rfl), ini_14, by decide +kernel, by decide +kernel⟩
set_option maxRecDepth 100000 in
theorem mi_194 : Jvm.Cond.instanceMethod pm_194.2.1 ∈ gtb ∧ Jvm.Cond.selects pm_194.2.1.cls pm_194.2.1 pm_194.2.1 ∈ gtb := ⟨(gw (List.mem_append_right _ (List.mem_of_getElem? (i := 1184) rfl)) rfl), (gw (List.mem_append_left _ (List.mem_of_getElem? (i := 38) rfl)) rfl)⟩
set_option maxRecDepth 100000 in
theorem ml_209 : MPr [14, 176, 1, 194, 2, 0, 9] := ⟨"OneAtATimeModel", pm_194, ("OneAtATimeModel", kT9, 29), rfl, rfl, rfl, rfl, (gw (List.mem_append_right _ (List.mem_of_getElem? (i := 1182) rfl)) rfl), mi_194, mf_194, rfl, Nat.le_of_ble_eq_true rfl⟩
set_option maxRecDepth 100000 in
theorem mf_195 : MFr pm_195 1 := ⟨(gw (List.mem_append_right _ (List.mem_of_getElem? (i := 1189) rfl)) rfl), ini_14, by decide +kernel, by decide +kernel⟩
set_option maxRecDepth 100000 in
theorem mi_195 : Jvm.Cond.instanceMethod pm_195.2.1 ∈ gtb ∧ Jvm.Cond.selects pm_195.2.1.cls pm_195.2.1 pm_195.2.1 ∈ gtb := ⟨(gw (List.mem_append_right _ (List.mem_of_getElem? (i := 1188) rfl)) rfl), (gw (List.mem_append_left _ (List.mem_of_getElem? (i := 39) rfl)) rfl)⟩
set_option maxRecDepth 100000 in
theorem ml_210 : MPr [14, 179, 1, 195, 2, 0, 9] := ⟨"OneAtATimeModel", pm_195, ("OneAtATimeModel", kT9, 29), rfl, rfl, rfl, rfl, (gw (List.mem_append_right _ (List.mem_of_getElem? (i := 1186) rfl)) rfl), mi_195, mf_195, rfl, Nat.le_of_ble_eq_true rfl⟩
set_option maxRecDepth 100000 in
theorem mf_197 : MFr pm_197 1 := ⟨(gw (List.mem_append_right _ (List.mem_of_getElem? (i := 1197) rfl)) rfl), ini_14, by decide +kernel, by decide +kernel⟩
set_option maxRecDepth 100000 in
theorem mi_197 : Jvm.Cond.instanceMethod pm_197.2.1 ∈ gtb ∧ Jvm.Cond.selects pm_197.2.1.cls pm_197.2.1 pm_197.2.1 ∈ gtb := ⟨(gw (List.mem_append_right _ (List.mem_of_getElem? (i := 1196) rfl)) rfl), (gw (List.mem_append_left _ (List.mem_of_getElem? (i := 41) rfl)) rfl)⟩
set_option maxRecDepth 100000 in
theorem ml_211 : MPr [14, 98, 1, 197, 2, 1, 9] := ⟨"OneAtATimeModel", pm_197, ("OneAtATimeModel", kT9, 29), rfl, rfl, rfl, rfl, (gw (List.mem_append_right _ (List.mem_of_getElem? (i := 1194) rfl)) rfl), mi_197, mf_197, rfl, Nat.le_of_ble_eq_true rfl⟩
set_option maxRecDepth 100000 in
theorem mf_189 : MFr pm_189 2 := ⟨(gw (List.mem_append_right _ (List.mem_of_getElem? (i := 1158) rfl)) rfl), ini_14, by decide +kernel, by decide +kernel⟩
set_option maxRecDepth 100000 in
theorem mi_189 : Jvm.Cond.instanceMethod pm_189.2.1 ∈ gtb ∧ Jvm.Cond.selects pm_189.2.1.cls pm_189.2.1 pm_189.2.1 ∈ gtb := ⟨(gw (List.mem_append_right _ (List.mem_of_getElem? (i := 1157) rfl)) rfl), (gw (List.mem_append_left _ (List.mem_of_getElem? (i := 33) rfl)) rfl)⟩
set_option maxRecDepth 100000 in
theorem ml_212 : MPr [14, 117, 1, 189, 3, 1, 9] := ⟨"OneAtATimeModel", pm_189, ("OneAtATimeModel", kT9, 29), rfl, rfl, rfl, rfl, (gw (List.mem_append_right _ (List.mem_of_getElem? (i := 1155) rfl)) rfl), mi_189, mf_189, rfl, Nat.le_of_ble_eq_true rfl⟩
set_option maxRecDepth 100000 in
theorem ml_213 : MPr [14, 129, 0, 1005, 2, 1, 0] := ⟨"OneAtATimeModel", rfl, (gw (List.mem_append_right _ (List.mem_of_getElem? (i := 1159) rfl)) rfl), mw_1005⟩
set_option maxRecDepth 100000 in
theorem ml_214 : MPr [14, 148, 1, 1000, 1, 1, 30] := ⟨"OneAtATimeModel", rfl, (gw (List.mem_append_right _ (List.mem_of_getElem? (i := 1165) rfl)) rfl)⟩
set_option maxRecDepth 100000 in
theorem ml_215 : MPr [14, 154, 1, 1001, 2, 1, 30] := ⟨"OneAtATimeModel", rfl, (gw (List.mem_append_right _ (List.mem_of_getElem? (i := 1166) rfl)) rfl)⟩
set_option maxRecDepth 100000 in
theorem mf_192 : MFr pm_192 2 := ⟨(gw (List.mem_append_right _ (List.mem_of_getElem? (i := 1174) rfl)) rfl), ini_14, by decide +kernel, by decide +kernel⟩
set_option maxRecDepth 100000 in
theorem mi_192 : Jvm.Cond.instanceMethod pm_192.2.1 ∈ gtb ∧ Jvm.Cond.selects pm_192.2.1.cls pm_192.2.1 pm_192.2.1 ∈ gtb := ⟨(gw (List.mem_append_right _ (List.mem_of_getElem? (i := 1173) rfl)) rfl), (gw (List.mem_append_left _ (List.mem_of_getElem? (i := 36) rfl)) rfl)⟩
set_option maxRecDepth 100000 in
theorem ml_216 : MPr [14, 141, 1, 192, 3, 0, 9] := ⟨"OneAtATimeModel", pm_192, ("OneAtATimeModel", kT9, 29), rfl, rfl, rfl, rfl, (gw (List.mem_append_right _ (List.mem_of_getElem? (i := 1171) rfl)) rfl), mi_192, mf_192, rfl, Nat.le_of_ble_eq_true rfl⟩
set_option maxRecDepth 100000 in
theorem mf_196 : MFr pm_196 1 := ⟨(gw (List.mem_append_right _ (List.mem_of_getElem? (i := 1193) rfl)) rfl), ini_14, by decide +kernel, by decide +kernel⟩
set_option maxRecDepth 100000 in
theorem mi_196 : Jvm.Cond.instanceMethod pm_196.2.1 ∈ gtb ∧ Jvm.Cond.selects pm_196.2.1.cls pm_196.2.1 pm_196.2.1 ∈ gtb := ⟨(gw (List.mem_append_right _ (List.mem_of_getElem? (i := 1192) rfl)) rfl), (gw (List.mem_append_left _ (List.mem_of_getElem? (i := 40) rfl)) rfl)⟩
set_option maxRecDepth 100000 in
theorem ml_217 : MPr [14, 107, 1, 196, 2, 0, 9] := ⟨"OneAtATimeModel", pm_196, ("OneAtATimeModel", kT9, 29), rfl, rfl, rfl, rfl, (gw (List.mem_append_right _ (List.mem_of_getElem? (i := 1190) rfl)) rfl), mi_196, mf_196, rfl, Nat.le_of_ble_eq_true rfl⟩
set_option maxRecDepth 100000 in
theorem mf_201 : MFr pm_201 2 := ⟨(gw (List.mem_append_right _ (List.mem_of_getElem? (i := 1214) rfl)) rfl), ini_14, by decide +kernel, by decide +kernel⟩
set_option maxRecDepth 100000 in
theorem mi_201 : Jvm.Cond.instanceMethod pm_201.2.1 ∈ gtb ∧ Jvm.Cond.selects pm_201.2.1.cls pm_201.2.1 pm_201.2.1 ∈ gtb := ⟨(gw (List.mem_append_right _ (List.mem_of_getElem? (i := 1213) rfl)) rfl), (gw (List.mem_append_left _ (List.mem_of_getElem? (i := 42) rfl)) rfl)⟩
set_option maxRecDepth 100000 in
theorem ml_218 : MPr [14, 226, 1, 201, 3, 1, 9] := ⟨"OneAtATimeModel", pm_201, ("OneAtATimeModel", kT9, 29), rfl, rfl, rfl, rfl, (gw (List.mem_append_right _ (List.mem_of_getElem? (i := 1211) rfl)) rfl), mi_201, mf_201, rfl, Nat.le_of_ble_eq_true rfl⟩
set_option maxRecDepth 100000 in
theorem mf_202 : MFr pm_202 1 := ⟨(gw (List.mem_append_right _ (List.mem_of_getElem? (i := 1218) rfl)) rfl), ini_14, by decide +kernel, by decide +kernel⟩
set_option maxRecDepth 100000 in
theorem mi_202 : Jvm.Cond.instanceMethod pm_202.2.1 ∈ gtb ∧ Jvm.Cond.selects pm_202.2.1.cls pm_202.2.1 pm_202.2.1 ∈ gtb := ⟨(gw (List.mem_append_right _ (List.mem_of_getElem? (i := 1217) rfl)) rfl), (gw (List.mem_append_left _ (List.mem_of_getElem? (i := 43) rfl)) rfl)⟩
set_option maxRecDepth 100000 in
theorem ml_219 : MPr [14, 200, 1, 202, 2, 1, 9] := ⟨"OneAtATimeModel", pm_202, ("OneAtATimeModel", kT9, 29), rfl, rfl, rfl, rfl, (gw (List.mem_append_right _ (List.mem_of_getElem? (i := 1215) rfl)) rfl), mi_202, mf_202, rfl, Nat.le_of_ble_eq_true rfl⟩
set_option maxRecDepth 100000 in
theorem mf_206 : MFr pm_206 1 := ⟨(gw (List.mem_append_right _ (List.mem_of_getElem? (i := 1234) rfl)) rfl), ini_14, by decide +kernel, by decide +kernel⟩
set_option maxRecDepth 100000 in
theorem mi_206 : Jvm.Cond.instanceMethod pm_206.2.1 ∈ gtb ∧ Jvm.Cond.selects pm_206.2.1.cls pm_206.2.1 pm_206.2.1 ∈ gtb := ⟨(gw (List.mem_append_right _ (List.mem_of_getElem? (i := 1233) rfl)) rfl), (gw (List.mem_append_left _ (List.mem_of_getElem? (i := 47) rfl)) rfl)⟩
set_option maxRecDepth 100000 in
theorem ml_220 : MPr [14, 209, 1, 206, 2, 1, 9] := ⟨"OneAtATimeModel", pm_206, ("OneAtATimeModel", kT9, 29), rfl, rfl, rfl, rfl, (gw (List.mem_append_right _ (List.mem_of_getElem? (i := 1231) rfl)) rfl), mi_206, mf_206, rfl, Nat.le_of_ble_eq_true rfl⟩
set_option maxRecDepth 100000 in
theorem mf_210 : MFr pm_210 1 := ⟨(gw (List.mem_append_right _ (List.mem_of_getElem? (i := 1249) rfl)) rfl), ini_14, by decide +kernel, by decide +kernel⟩
set_option maxRecDepth 100000 in
theorem mi_210 : Jvm.Cond.instanceMethod pm_210.2.1 ∈ gtb ∧ Jvm.Cond.selects pm_210.2.1.cls pm_210.2.1 pm_210.2.1 ∈ gtb := ⟨(gw (List.mem_append_right _ (List.mem_of_getElem? (i := 1248) rfl)) rfl), (gw (List.mem_append_left _ (List.mem_of_getElem? (i := 50) rfl)) rfl)⟩
set_option maxRecDepth 100000 in
theorem ml_221 : MPr [14, 212, 1, 210, 2, 1, 9] := ⟨"OneAtATimeModel", pm_210, ("OneAtATimeModel", kT9, 29), rfl, rfl, rfl, rfl, (gw (List.mem_append_right _ (List.mem_of_getElem? (i := 1246) rfl)) rfl), mi_210, mf_210, rfl, Nat.le_of_ble_eq_true rfl⟩
set_option maxRecDepth 100000 in
theorem mf_211 : MFr pm_211 1 := ⟨(gw (List.mem_append_right _ (List.mem_of_getElem? (i := 1254) rfl)) rfl), ini_14, by decide +kernel, by decide +kernel⟩
set_option maxRecDepth 100000 in
theorem mi_211 : Jvm.Cond.instanceMethod pm_211.2.1 ∈ gtb ∧ Jvm.Cond.selects pm_211.2.1.cls pm_211.2.1 pm_211.2.1 ∈ gtb := ⟨(gw (List.mem_append_right _ (List.mem_of_getElem? (i := 1253) rfl)) rfl), (gw (List.mem_append_left _ (List.mem_of_getElem? (i := 51) rfl)) rfl)⟩
set_option maxRecDepth 100000 in
theorem ml_222 : MPr [14, 215, 1, 211, 2, 1, 9] := ⟨"OneAtATimeModel", pm_211, ("OneAtATimeModel", kT9, 29), rfl, rfl, rfl, rfl, (gw (List.mem_append_right _ (List.mem_of_getElem? (i := 1251) rfl)) rfl), mi_211, mf_211, rfl, Nat.le_of_ble_eq_true rfl⟩
set_option maxRecDepth 100000 in
theorem mf_213 : MFr pm_213 1 := ⟨(gw (List.mem_append_right _ (List.mem_of_getElem? (i := 1262) rfl)) rfl), ini_14, by decide +kernel, by decide +kernel⟩
set_option maxRecDepth 100000 in
theorem mi_213 : Jvm.Cond.instanceMethod pm_213.2.1 ∈ gtb ∧ Jvm.Cond.selects pm_213.2.1.cls pm_213.2.1 pm_213.2.1 ∈ gtb := ⟨(gw (List.mem_append_right _ (List.mem_of_getElem? (i := 1261) rfl)) rfl), (gw (List.mem_append_left _ (List.mem_of_getElem? (i := 53) rfl)) rfl)⟩
set_option maxRecDepth 100000 in
theorem ml_223 : MPr [14, 218, 1, 213, 2, 1, 9] := ⟨"OneAtATimeModel", pm_213, ("OneAtATimeModel", kT9, 29), rfl, rfl, rfl, rfl, (gw (List.mem_append_right _ (List.mem_of_getElem? (i := 1259) rfl)) rfl), mi_213, mf_213, rfl, Nat.le_of_ble_eq_true rfl⟩
set_option maxRecDepth 100000 in
theorem mf_214 : MFr pm_214 1 := ⟨(gw (List.mem_append_right _ (List.mem_of_getElem? (i := 1266) rfl)) rfl), ini_14, by decide +kernel, by decide +kernel⟩
set_option maxRecDepth 100000 in
theorem mi_214 : Jvm.Cond.instanceMethod pm_214.2.1 ∈ gtb ∧ Jvm.Cond.selects pm_214.2.1.cls pm_214.2.1 pm_214.2.1 ∈ gtb := ⟨(gw (List.mem_append_right _ (List.mem_of_getElem? (i := 1265) rfl)) rfl), (gw (List.mem_append_left _ (List.mem_of_getElem? (i := 54) rfl)) rfl)⟩
set_option maxRecDepth 100000 in
theorem ml_224 : MPr [14, 221, 1, 214, 2, 1, 9] := ⟨"OneAtATimeModel", pm_214, ("OneAtATimeModel", kT9, 29), rfl, rfl, rfl, rfl, (gw (List.mem_append_right _ (List.mem_of_getElem? (i := 1263) rfl)) rfl), mi_214, mf_214, rfl, Nat.le_of_ble_eq_true rfl⟩
set_option maxRecDepth 100000 in
theorem mf_203 : MFr pm_203 1 := ⟨(gw (List.mem_append_right _ (List.mem_of_getElem? (i := 1222) rfl)) rfl), ini_14, by decide +kernel, by decide +kernel⟩
set_option maxRecDepth 100000 in
theorem mi_203 : Jvm.Cond.instanceMethod pm_203.2.1 ∈ gtb ∧ Jvm.Cond.selects pm_203.2.1.cls pm_203.2.1 pm_203.2.1 ∈ gtb := ⟨(gw (List.mem_append_right _ (List.mem_of_getElem? (i := 1221) rfl)) rfl), (gw (List.mem_append_left _ (List.mem_of_getElem? (i := 44) rfl)) rfl)⟩
set_option maxRecDepth 100000 in
theorem ml_225 : MPr [14, 191, 1, 203, 2, 0, 9] := ⟨"OneAtATimeModel", pm_203, ("OneAtATimeModel", kT9, 29), rfl, rfl, rfl, rfl, (gw (List.mem_append_right _ (List.mem_of_getElem? (i := 1219) rfl)) rfl), mi_203, mf_203, rfl, Nat.le_of_ble_eq_true rfl⟩
set_option maxRecDepth 100000 in
theorem mf_204 : MFr pm_204 1 := ⟨(gw (List.mem_append_right _ (List.mem_of_getElem? (i := 1226) rfl)) rfl), ini_14, by decide +kernel, by decide +kernel⟩
set_option maxRecDepth 100000 in
theorem mi_204 : Jvm.Cond.instanceMethod pm_204.2.1 ∈ gtb ∧ Jvm.Cond.selects pm_204.2.1.cls pm_204.2.1 pm_204.2.1 ∈ gtb := ⟨(gw (List.mem_append_right _ (List.mem_of_getElem? (i := 1225) rfl)) rfl), (gw (List.mem_append_left _ (List.mem_of_getElem? (i := 45) rfl)) rfl)⟩
set_option maxRecDepth 100000 in
theorem ml_226 : MPr [14, 101, 1, 204, 2, 1, 9] := ⟨"OneAtATimeModel", pm_204, ("OneAtATimeModel", kT9, 29), rfl, rfl, rfl, rfl, (gw (List.mem_append_right _ (List.mem_of_getElem? (i := 1223) rfl)) rfl), mi_204, mf_204, rfl, Nat.le_of_ble_eq_true rfl⟩
set_option maxRecDepth 100000 in
theorem mf_205 : MFr pm_205 2 := ⟨(gw (List.mem_append_right _ (List.mem_of_getElem? (i := 1230) rfl)) rfl), ini_14, by decide +kernel, by decide +kernel⟩
set_option maxRecDepth 100000 in
theorem mi_205 : Jvm.Cond.instanceMethod pm_205.2.1 ∈ gtb ∧ Jvm.Cond.selects pm_205.2.1.cls pm_205.2.1 pm_205.2.1 ∈ gtb := ⟨(gw (List.mem_append_right _ (List.mem_of_getElem? (i := 1229) rfl)) rfl), (gw (List.mem_append_left _ (List.mem_of_getElem? (i := 46) rfl)) rfl)⟩
set_option maxRecDepth 100000 in
theorem ml_227 : MPr [14, 104, 1, 205, 3, 1, 9] := ⟨"OneAtATimeModel", pm_205, ("OneAtATimeModel", kT9, 29), rfl, rfl, rfl, rfl, (gw (List.mem_append_right _ (List.mem_of_getElem? (i := 1227) rfl)) rfl), mi_205, mf_205, rfl, Nat.le_of_ble_eq_true rfl⟩
set_option maxRecDepth 100000 in
theorem mf_207 : MFr pm_207 1 := ⟨(gw (List.mem_append_right _ (List.mem_of_getElem? (i := 1238) rfl)) rfl), ini_14, by decide +kernel, by decide +kernel⟩
set_option maxRecDepth 100000 in
theorem mi_207 : Jvm.Cond.instanceMethod pm_207.2.1 ∈ gtb ∧ Jvm.Cond.selects pm_207.2.1.cls pm_207.2.1 pm_207.2.1 ∈ gtb := ⟨(gw (List.mem_append_right _ (List.mem_of_getElem? (i := 1237) rfl)) rfl), (gw (List.mem_append_left _ (List.mem_of_getElem? (i := 48) rfl)) rfl)⟩
set_option maxRecDepth 100000 in
theorem ml_228 : MPr [14, 75, 1, 207, 2, 1, 9] := ⟨"OneAtATimeModel", pm_207, ("OneAtATimeModel", kT9, 29), rfl, rfl, rfl, rfl, (gw (List.mem_append_right _ (List.mem_of_getElem? (i := 1235) rfl)) rfl), mi_207, mf_207, rfl, Nat.le_of_ble_eq_true rfl⟩
set_option maxRecDepth 100000 in
theorem mf_208 : MFr pm_208 2 := ⟨(gw (List.mem_append_right _ (List.mem_of_getElem? (i := 1242) rfl)) rfl), ini_14, by decide +kernel, by decide +kernel⟩
set_option maxRecDepth 100000 in
theorem mi_208 : Jvm.Cond.instanceMethod pm_208.2.1 ∈ gtb ∧ Jvm.Cond.selects pm_208.2.1.cls pm_208.2.1 pm_208.2.1 ∈ gtb := ⟨(gw (List.mem_append_right _ (List.mem_of_getElem? (i := 1241) rfl)) rfl), (gw (List.mem_append_left _ (List.mem_of_getElem? (i := 49) rfl)) rfl)⟩
set_option maxRecDepth 100000 in
theorem ml_229 : MPr [14, 194, 1, 208, 3, 1, 9] := ⟨"OneAtATimeModel", pm_208, ("OneAtATimeModel", kT9, 29), rfl, rfl, rfl, rfl, (gw (List.mem_append_right _ (List.mem_of_getElem? (i := 1239) rfl)) rfl), mi_208, mf_208, rfl, Nat.le_of_ble_eq_true rfl⟩
set_option maxRecDepth 100000 in
theorem mf_209 : MFr pm_209 1 := ⟨(gw (List.mem_append_right _ (List.mem_of_getElem? (i := 1245) rfl)) rfl), ini_14, by decide +kernel, by decide +kernel⟩
set_option maxRecDepth 100000 in
theorem mi_209 : Jvm.Cond.static pm_209.2.1 ∈ gtb := (gw (List.mem_append_right _ (List.mem_of_getElem? (i := 1244) rfl)) rfl)
set_option maxRecDepth 100000 in
theorem ml_230 : MPr [14, 79, 0, 209, 1, 1, 0] := ⟨"OneAtATimeModel", pm_209, rfl, rfl, (gw (List.mem_append_right _ (List.mem_of_getElem? (i := 1243) rfl)) rfl), mi_209, mf_209, rfl, Nat.le_of_ble_eq_true rfl⟩
set_option maxRecDepth 100000 in
theorem ml_231 : MPr [14, 197, 0, 1004, 2, 1, 0] := ⟨"OneAtATimeModel", rfl, (gw (List.mem_append_right _ (List.mem_of_getElem? (i := 1250) rfl)) rfl), mw_1004⟩
set_option maxRecDepth 100000 in
theorem mf_212 : MFr pm_212 2 := ⟨(gw (List.mem_append_right _ (List.mem_of_getElem? (i := 1258) rfl)) rfl), ini_14, by decide +kernel, by decide +kernel⟩
set_option maxRecDepth 100000 in
theorem mi_212 : Jvm.Cond.instanceMethod pm_212.2.1 ∈ gtb ∧ Jvm.Cond.selects pm_212.2.1.cls pm_212.2.1 pm_212.2.1 ∈ gtb := ⟨(gw (List.mem_append_right _ (List.mem_of_getElem? (i := 1257) rfl)) rfl), (gw (List.mem_append_left _ (List.mem_of_getElem? (i := 52) rfl)) rfl)⟩
set_option maxRecDepth 100000 in
theorem ml_232 : MPr [14, 203, 1, 212, 3, 1, 9] := ⟨"OneAtATimeModel", pm_212, ("OneAtATimeModel", kT9, 29), rfl, rfl, rfl, rfl, (gw (List.mem_append_right _ (List.mem_of_getElem? (i := 1255) rfl)) rfl), mi_212, mf_212, rfl, Nat.le_of_ble_eq_true rfl⟩
set_option maxRecDepth 100000 in
theorem mf_215 : MFr pm_215 1 := ⟨(gw (List.mem_append_right _ (List.mem_of_getElem? (i := 1270) rfl)) rfl), ini_14, by decide +kernel, by decide +kernel⟩
set_option maxRecDepth 100000 in
theorem mi_215 : Jvm.Cond.instanceMethod pm_215.2.1 ∈ gtb ∧ Jvm.Cond.selects pm_215.2.1.cls pm_215.2.1 pm_215.2.1 ∈ gtb := ⟨(gw (List.mem_append_right _ (List.mem_of_getElem? (i := 1269) rfl)) rfl), (gw (List.mem_append_left _ (List.mem_of_getElem? (i := 55) rfl)) rfl)⟩
set_option maxRecDepth 100000 in
theorem ml_233 : MPr [14, 206, 1, 215, 2, 1, 9] := ⟨"OneAtATimeModel", pm_215, ("OneAtATimeModel", kT9, 29), rfl, rfl, rfl, rfl, (gw (List.mem_append_right _ (List.mem_of_getElem? (i := 1267) rfl)) rfl), mi_215, mf_215, rfl, Nat.le_of_ble_eq_true rfl⟩
set_option maxRecDepth 100000 in
theorem mf_216 : MFr pm_216 2 := ⟨(gw (List.mem_append_right _ (List.mem_of_getElem? (i := 1273) rfl)) rfl), ini_14, by decide +kernel, by decide +kernel⟩
set_option maxRecDepth 100000 in
theorem mi_216 : Jvm.Cond.static pm_216.2.1 ∈ gtb := (gw (List.mem_append_right _ (List.mem_of_getElem? (i := 1272) rfl)) rfl)
set_option maxRecDepth 100000 in
theorem ml_234 : MPr [14, 1, 0, 216, 2, 1, 0] := ⟨"OneAtATimeModel", pm_216, rfl, rfl, (gw (List.mem_append_right _ (List.mem_of_getElem? (i := 1271) rfl)) rfl), mi_216, mf_216, rfl, Nat.le_of_ble_eq_true rfl⟩
set_option maxRecDepth 100000 in
theorem mf_221 : MFr pm_221 2 := ⟨(gw (List.mem_append_right _ (List.mem_of_getElem? (i := 1294) rfl)) rfl), ini_14, by decide +kernel, by decide +kernel⟩
set_option maxRecDepth 100000 in
theorem mi_221 : Jvm.Cond.instanceMethod pm_221.2.1 ∈ gtb ∧ Jvm.Cond.selects pm_221.2.1.cls pm_221.2.1 pm_221.2.1 ∈ gtb := ⟨(gw (List.mem_append_right _ (List.mem_of_getElem? (i := 1293) rfl)) rfl), (gw (List.mem_append_left _ (List.mem_of_getElem? (i := 56) rfl)) rfl)⟩
set_option maxRecDepth 100000 in
theorem ml_235 : MPr [14, 231, 1, 221, 3, 1, 9] := ⟨"OneAtATimeModel", pm_221, ("OneAtATimeModel", kT9, 29), rfl, rfl, rfl, rfl, (gw (List.mem_append_right _ (List.mem_of_getElem? (i := 1291) rfl)) rfl), mi_221, mf_221, rfl, Nat.le_of_ble_eq_true rfl⟩
set_option maxRecDepth 100000 in
theorem mf_224 : MFr pm_224 2 := ⟨(gw (List.mem_append_right _ (List.mem_of_getElem? (i := 1306) rfl)) rfl), ini_14, by decide +kernel, by decide +kernel⟩
set_option maxRecDepth 100000 in
theorem mi_224 : Jvm.Cond.instanceMethod pm_224.2.1 ∈ gtb ∧ Jvm.Cond.selects pm_224.2.1.cls pm_224.2.1 pm_224.2.1 ∈ gtb := ⟨(gw (List.mem_append_right _ (List.mem_of_getElem? (i := 1305) rfl)) rfl), (gw (List.mem_append_left _ (List.mem_of_getElem? (i := 57) rfl)) rfl)⟩
set_option maxRecDepth 100000 in
theorem ml_236 : MPr [14, 234, 1, 224, 3, 1, 9] := ⟨"OneAtATimeModel", pm_224, ("OneAtATimeModel", kT9, 29), rfl, rfl, rfl, rfl, (gw (List.mem_append_right _ (List.mem_of_getElem? (i := 1303) rfl)) rfl), mi_224, mf_224, rfl, Nat.le_of_ble_eq_true rfl⟩
set_option maxRecDepth 100000 in
theorem mf_225 : MFr pm_225 2 := ⟨(gw (List.mem_append_right _ (List.mem_of_getElem? (i := 1310) rfl)) rfl), ini_14, by decide +kernel, by decide +kernel⟩
set_option maxRecDepth 100000 in
theorem mi_225 : Jvm.Cond.instanceMethod pm_225.2.1 ∈ gtb ∧ Jvm.Cond.selects pm_225.2.1.cls pm_225.2.1 pm_225.2.1 ∈ gtb := ⟨(gw (List.mem_append_right _ (List.mem_of_getElem? (i := 1309) rfl)) rfl), (gw (List.mem_append_left _ (List.mem_of_getElem? (i := 58) rfl)) rfl)⟩
set_option maxRecDepth 100000 in
theorem ml_237 : MPr [14, 237, 1, 225, 3, 1, 9] := ⟨"OneAtATimeModel", pm_225, ("OneAtATimeModel", kT9, 29), rfl, rfl, rfl, rfl, (gw (List.mem_append_right _ (List.mem_of_getElem? (i := 1307) rfl)) rfl), mi_225, mf_225, rfl, Nat.le_of_ble_eq_true rfl⟩
set_option maxRecDepth 100000 in
theorem mf_226 : MFr pm_226 2 := ⟨(gw (List.mem_append_right _ (List.mem_of_getElem? (i := 1314) rfl)) rfl), ini_14, by decide +kernel, by decide +kernel⟩
set_option maxRecDepth 100000 in
theorem mi_226 : Jvm.Cond.instanceMethod pm_226.2.1 ∈ gtb ∧ Jvm.Cond.selects pm_226.2.1.cls pm_226.2.1 pm_226.2.1 ∈ gtb := ⟨(gw (List.mem_append_right _ (List.mem_of_getElem? (i := 1312) rfl)) rfl), (gw (List.mem_append_right _ (List.mem_of_getElem? (i := 1313) rfl)) rfl)⟩
set_option maxRecDepth 100000 in
theorem ml_238 : MPr [14, 240, 1, 226, 3, 1, 9] := ⟨"OneAtATimeModel", pm_226, ("OneAtATimeModel", kT9, 29), rfl, rfl, rfl, rfl, (gw (List.mem_append_right _ (List.mem_of_getElem? (i := 1319) rfl)) rfl), mi_226, mf_226, rfl, Nat.le_of_ble_eq_true rfl⟩
set_option maxRecDepth 100000 in
theorem mf_229 : MFr pm_229 2 := ⟨(gw (List.mem_append_right _ (List.mem_of_getElem? (i := 1327) rfl)) rfl), ini_14, by decide +kernel, by decide +kernel⟩
set_option maxRecDepth 100000 in
theorem mi_229 : Jvm.Cond.instanceMethod pm_229.2.1 ∈ gtb ∧ Jvm.Cond.selects pm_229.2.1.cls pm_229.2.1 pm_229.2.1 ∈ gtb := ⟨(gw (List.mem_append_right _ (List.mem_of_getElem? (i := 1326) rfl)) rfl), (gw (List.mem_append_left _ (List.mem_of_getElem? (i := 59) rfl)) rfl)⟩
set_option maxRecDepth 100000 in
theorem ml_239 : MPr [14, 243, 1, 229, 3, 1, 9] := ⟨"OneAtATimeModel", pm_229, ("OneAtATimeModel", kT9, 29), rfl, rfl, rfl, rfl, (gw (List.mem_append_right _ (List.mem_of_getElem? (i := 1324) rfl)) rfl), mi_229, mf_229, rfl, Nat.le_of_ble_eq_true rfl⟩
set_option maxRecDepth 100000 in
theorem mf_231 : MFr pm_231 3 := ⟨(gw (List.mem_append_right _ (List.mem_of_getElem? (i := 1335) rfl)) rfl), ini_14, by decide +kernel, by decide +kernel⟩
set_option maxRecDepth 100000 in
theorem mi_231 : Jvm.Cond.instanceMethod pm_231.2.1 ∈ gtb ∧ Jvm.Cond.selects pm_231.2.1.cls pm_231.2.1 pm_231.2.1 ∈ gtb := ⟨(gw (List.mem_append_right _ (List.mem_of_getElem? (i := 1334) rfl)) rfl), (gw (List.mem_append_left _ (List.mem_of_getElem? (i := 60) rfl)) rfl)⟩
set_option maxRecDepth 100000 in
theorem ml_240 : MPr [14, 246, 1, 231, 4, 1, 9] := ⟨"OneAtATimeModel", pm_231, ("OneAtATimeModel", kT9, 29), rfl, rfl, rfl, rfl, (gw (List.mem_append_right _ (List.mem_of_getElem? (i := 1332) rfl)) rfl), mi_231, mf_231, rfl, Nat.le_of_ble_eq_true rfl⟩
set_option maxRecDepth 100000 in
theorem mf_238 : MFr pm_238 1 := ⟨(gw (List.mem_append_right _ (List.mem_of_getElem? (i := 1363) rfl)) rfl), ini_14, by decide +kernel, by decide +kernel⟩
set_option maxRecDepth 100000 in
theorem mi_238 : Jvm.Cond.instanceMethod pm_238.2.1 ∈ gtb ∧ Jvm.Cond.selects pm_238.2.1.cls pm_238.2.1 pm_238.2.1 ∈ gtb := ⟨(gw (List.mem_append_right _ (List.mem_of_getElem? (i := 1362) rfl)) rfl), (gw (List.mem_append_left _ (List.mem_of_getElem? (i := 61) rfl)) rfl)⟩
set_option maxRecDepth 100000 in
theorem ml_241 : MPr [14, 250, 1, 238, 2, 1, 9] := ⟨"OneAtATimeModel", pm_238, ("OneAtATimeModel", kT9, 29), rfl, rfl, rfl, rfl, (gw (List.mem_append_right _ (List.mem_of_getElem? (i := 1360) rfl)) rfl), mi_238, mf_238, rfl, Nat.le_of_ble_eq_true rfl⟩
set_option maxRecDepth 100000 in
theorem mf_243 : MFr pm_243 1 := ⟨(gw (List.mem_append_right _ (List.mem_of_getElem? (i := 1382) rfl)) rfl), ini_14, by decide +kernel, by decide +kernel⟩
set_option maxRecDepth 100000 in
theorem mi_243 : Jvm.Cond.static pm_243.2.1 ∈ gtb := (gw (List.mem_append_right _ (List.mem_of_getElem? (i := 1381) rfl)) rfl)
set_option maxRecDepth 100000 in
theorem ml_242 : MPr [14, 253, 0, 243, 1, 1, 0] := ⟨"OneAtATimeModel", pm_243, rfl, rfl, (gw (List.mem_append_right _ (List.mem_of_getElem? (i := 1380) rfl)) rfl), mi_243, mf_243, rfl, Nat.le_of_ble_eq_true rfl⟩
set_option maxRecDepth 100000 in
theorem mf_245 : MFr pm_245 3 := ⟨(gw (List.mem_append_right _ (List.mem_of_getElem? (i := 1390) rfl)) rfl), ini_14, by decide +kernel, by decide +kernel⟩
set_option maxRecDepth 100000 in
theorem mi_245 : Jvm.Cond.instanceMethod pm_245.2.1 ∈ gtb ∧ Jvm.Cond.selects pm_245.2.1.cls pm_245.2.1 pm_245.2.1 ∈ gtb := ⟨(gw (List.mem_append_right _ (List.mem_of_getElem? (i := 1389) rfl)) rfl), (gw (List.mem_append_left _ (List.mem_of_getElem? (i := 62) rfl)) rfl)⟩
set_option maxRecDepth 100000 in
theorem ml_243 : MPr [14, 256, 1, 245, 4, 1, 9] := ⟨"OneAtATimeModel", pm_245, ("OneAtATimeModel", kT9, 29), rfl, rfl, rfl, rfl, (gw (List.mem_append_right _ (List.mem_of_getElem? (i := 1387) rfl)) rfl), mi_245, mf_245, rfl, Nat.le_of_ble_eq_true rfl⟩
set_option maxRecDepth 100000 in
theorem mf_247 : MFr pm_247 0 := ⟨(gw (List.mem_append_right _ (List.mem_of_getElem? (i := 1400) rfl)) rfl), ini_14, by decide +kernel, by decide +kernel⟩
set_option maxRecDepth 100000 in
theorem mi_247 : Jvm.Cond.instanceMethod pm_247.2.1 ∈ gtb ∧ Jvm.Cond.selects pm_247.2.1.cls pm_247.2.1 pm_247.2.1 ∈ gtb := ⟨(gw (List.mem_append_right _ (List.mem_of_getElem? (i := 1399) rfl)) rfl), (gw (List.mem_append_left _ (List.mem_of_getElem? (i := 63) rfl)) rfl)⟩
set_option maxRecDepth 100000 in
theorem ml_244 : MPr [14, 280, 1, 247, 1, 0, 9] := ⟨"OneAtATimeModel", pm_247, ("OneAtATimeModel", kT9, 29), rfl, rfl, rfl, rfl, (gw (List.mem_append_right _ (List.mem_of_getElem? (i := 1397) rfl)) rfl), mi_247, mf_247, rfl, Nat.le_of_ble_eq_true rfl⟩
set_option maxRecDepth 100000 in
theorem mf_248 : MFr pm_248 4 := ⟨(gw (List.mem_append_right _ (List.mem_of_getElem? (i := 1404) rfl)) rfl), ini_14, by decide +kernel, by decide +kernel⟩
set_option maxRecDepth 100000 in
theorem mi_248 : Jvm.Cond.instanceMethod pm_248.2.1 ∈ gtb ∧ Jvm.Cond.selects pm_248.2.1.cls pm_248.2.1 pm_248.2.1 ∈ gtb := ⟨(gw (List.mem_append_right _ (List.mem_of_getElem? (i := 1403) rfl)) rfl), (gw (List.mem_append_left _ (List.mem_of_getElem? (i := 64) rfl)) rfl)⟩
set_option maxRecDepth 100000 in
theorem ml_245 : MPr [14, 272, 1, 248, 5, 1, 9] := ⟨"OneAtATimeModel", pm_248, ("OneAtATimeModel", kT9, 29), rfl, rfl, rfl, rfl, (gw (List.mem_append_right _ (List.mem_of_getElem? (i := 1401) rfl)) rfl), mi_248, mf_248, rfl, Nat.le_of_ble_eq_true rfl⟩
set_option maxRecDepth 100000 in
theorem mf_249 : MFr pm_249 2 := ⟨(gw (List.mem_append_right _ (List.mem_of_getElem? (i := 1408) rfl)) rfl), ini_14, by decide +kernel, by decide +kernel⟩
set_option maxRecDepth 100000 in
theorem mi_249 : Jvm.Cond.instanceMethod pm_249.2.1 ∈ gtb ∧ Jvm.Cond.selects pm_249.2.1.cls pm_249.2.1 pm_249.2.1 ∈ gtb := ⟨(gw (List.mem_append_right _ (List.mem_of_getElem? (i := 1407) rfl)) rfl), (gw (List.mem_append_left _ (List.mem_of_getElem? (i := 65) rfl)) rfl)⟩
set_option maxRecDepth 100000 in
theorem ml_246 : MPr [14, 266, 1, 249, 3, 1, 9] := ⟨"OneAtATimeModel", pm_249, ("OneAtATimeModel", kT9, 29), rfl, rfl, rfl, rfl, (gw (List.mem_append_right _ (List.mem_of_getElem? (i := 1405) rfl)) rfl), mi_249, mf_249, rfl, Nat.le_of_ble_eq_true rfl⟩
set_option maxRecDepth 100000 in
theorem mf_251 : MFr pm_251 1 := ⟨(gw (List.mem_append_right _ (List.mem_of_getElem? (i := 1415) rfl)) rfl), ini_14, by decide +kernel, by decide +kernel⟩
set_option maxRecDepth 100000 in
theorem mi_251 : Jvm.Cond.static pm_251.2.1 ∈ gtb := (gw (List.mem_append_right _ (List.mem_of_getElem? (i := 1414) rfl)) rfl)
set_option maxRecDepth 100000 in
theorem ml_247 : MPr [14, 290, 0, 251, 1, 1, 0] := ⟨"OneAtATimeModel", pm_251, rfl, rfl, (gw (List.mem_append_right _ (List.mem_of_getElem? (i := 1413) rfl)) rfl), mi_251, mf_251, rfl, Nat.le_of_ble_eq_true rfl⟩
set_option maxRecDepth 100000 in
theorem mf_252 : MFr pm_252 1 := ⟨(gw (List.mem_append_right _ (List.mem_of_getElem? (i := 1419) rfl)) rfl), ini_14, by decide +kernel, by decide +kernel⟩
set_option maxRecDepth 100000 in
theorem mi_252 : Jvm.Cond.instanceMethod pm_252.2.1 ∈ gtb ∧ Jvm.Cond.selects pm_252.2.1.cls pm_252.2.1 pm_252.2.1 ∈ gtb := ⟨(gw (List.mem_append_right _ (List.mem_of_getElem? (i := 1418) rfl)) rfl), (gw (List.mem_append_left _ (List.mem_of_getElem? (i := 66) rfl)) rfl)⟩
set_option maxRecDepth 100000 in
theorem ml_248 : MPr [14, 294, 1, 252, 2, 1, 9] := ⟨"OneAtATimeModel", pm_252, ("OneAtATimeModel", kT9, 29), rfl, rfl, rfl, rfl, (gw (List.mem_append_right _ (List.mem_of_getElem? (i := 1416) rfl)) rfl), mi_252, mf_252, rfl, Nat.le_of_ble_eq_true rfl⟩
set_option maxRecDepth 100000 in
theorem mf_253 : MFr pm_253 2 := ⟨(gw (List.mem_append_right _ (List.mem_of_getElem? (i := 1423) rfl)) rfl), ini_14, by decide +kernel, by decide +kernel⟩
set_option maxRecDepth 100000 in
theorem mi_253 : Jvm.Cond.instanceMethod pm_253.2.1 ∈ gtb ∧ Jvm.Cond.selects pm_253.2.1.cls pm_253.2.1 pm_253.2.1 ∈ gtb := ⟨(gw (List.mem_append_right _ (List.mem_of_getElem? (i := 1422) rfl)) rfl), (gw (List.mem_append_left _ (List.mem_of_getElem? (i := 67) rfl)) rfl)⟩
set_option maxRecDepth 100000 in
theorem ml_249 : MPr [14, 297, 1, 253, 3, 0, 9] := ⟨"OneAtATimeModel", pm_253, ("OneAtATimeModel", kT9, 29), rfl, rfl, rfl, rfl, (gw (List.mem_append_right _ (List.mem_of_getElem? (i := 1420) rfl)) rfl), mi_253, mf_253, rfl, Nat.le_of_ble_eq_true rfl⟩
set_option maxRecDepth 100000 in
theorem mf_254 : MFr pm_254 3 := ⟨(gw (List.mem_append_right _ (List.mem_of_getElem? (i := 1427) rfl)) rfl), ini_14, by decide +kernel, by decide +kernel⟩
set_option maxRecDepth 100000 in
theorem mi_254 : Jvm.Cond.instanceMethod pm_254.2.1 ∈ gtb ∧ Jvm.Cond.selects pm_254.2.1.cls pm_254.2.1 pm_254.2.1 ∈ gtb := ⟨(gw (List.mem_append_right _ (List.mem_of_getElem? (i := 1426) rfl)) rfl), (gw (List.mem_append_left _ (List.mem_of_getElem? (i := 68) rfl)) rfl)⟩
set_option maxRecDepth 100000 in
theorem ml_250 : MPr [14, 283, 1, 254, 4, 0, 9] := ⟨"OneAtATimeModel", pm_254, ("OneAtATimeModel", kT9, 29), rfl, rfl, rfl, rfl, (gw (List.mem_append_right _ (List.mem_of_getElem? (i := 1424) rfl)) rfl), mi_254, mf_254, rfl, Nat.le_of_ble_eq_true rfl⟩
set_option maxRecDepth 100000 in
theorem mf_255 : MFr pm_255 3 := ⟨(gw (List.mem_append_right _ (List.mem_of_getElem? (i := 1431) rfl)) rfl), ini_14, by decide +kernel, by decide +kernel⟩
set_option maxRecDepth 100000 in
theorem mi_255 : Jvm.Cond.instanceMethod pm_255.2.1 ∈ gtb ∧ Jvm.Cond.selects pm_255.2.1.cls pm_255.2.1 pm_255.2.1 ∈ gtb := ⟨(gw (List.mem_append_right _ (List.mem_of_getElem? (i := 1430) rfl)) rfl), (gw (List.mem_append_left _ (List.mem_of_getElem? (i := 69) rfl)) rfl)⟩
set_option maxRecDepth 100000 in
theorem ml_251 : MPr [14, 287, 1, 255, 4, 0, 9] := ⟨"OneAtATimeModel", pm_255, ("OneAtATimeModel", kT9, 29), rfl, rfl, rfl, rfl, (gw (List.mem_append_right _ (List.mem_of_getElem? (i := 1428) rfl)) rfl), mi_255, mf_255, rfl, Nat.le_of_ble_eq_true rfl⟩
set_option maxRecDepth 100000 in
theorem mf_257 : MFr pm_257 1 := ⟨(gw (List.mem_append_right _ (List.mem_of_getElem? (i := 1442) rfl)) rfl), ini_14, by decide +kernel, by decide +kernel⟩
set_option maxRecDepth 100000 in
theorem mi_257 : Jvm.Cond.instanceMethod pm_257.2.1 ∈ gtb ∧ Jvm.Cond.selects pm_257.2.1.cls pm_257.2.1 pm_257.2.1 ∈ gtb := ⟨(gw (List.mem_append_right _ (List.mem_of_getElem? (i := 1441) rfl)) rfl), (gw (List.mem_append_left _ (List.mem_of_getElem? (i := 70) rfl)) rfl)⟩
set_option maxRecDepth 100000 in
theorem ml_252 : MPr [14, 307, 1, 257, 2, 1, 9] := ⟨"OneAtATimeModel", pm_257, ("OneAtATimeModel", kT9, 29), rfl, rfl, rfl, rfl, (gw (List.mem_append_right _ (List.mem_of_getElem? (i := 1439) rfl)) rfl), mi_257, mf_257, rfl, Nat.le_of_ble_eq_true rfl⟩
set_option maxRecDepth 100000 in
theorem mf_261 : MFr pm_261 2 := ⟨(gw (List.mem_append_right _ (List.mem_of_getElem? (i := 1457) rfl)) rfl), ini_14, by decide +kernel, by decide +kernel⟩
set_option maxRecDepth 100000 in
theorem mi_261 : Jvm.Cond.static pm_261.2.1 ∈ gtb := (gw (List.mem_append_right _ (List.mem_of_getElem? (i := 1456) rfl)) rfl)
set_option maxRecDepth 100000 in
theorem ml_253 : MPr [14, 324, 0, 261, 2, 1, 0] := ⟨"OneAtATimeModel", pm_261, rfl, rfl, (gw (List.mem_append_right _ (List.mem_of_getElem? (i := 1455) rfl)) rfl), mi_261, mf_261, rfl, Nat.le_of_ble_eq_true rfl⟩
set_option maxRecDepth 100000 in
theorem mf_262 : MFr pm_262 2 := ⟨(gw (List.mem_append_right _ (List.mem_of_getElem? (i := 1461) rfl)) rfl), ini_14, by decide +kernel, by decide +kernel⟩
set_option maxRecDepth 100000 in
theorem mi_262 : Jvm.Cond.instanceMethod pm_262.2.1 ∈ gtb ∧ Jvm.Cond.selects pm_262.2.1.cls pm_262.2.1 pm_262.2.1 ∈ gtb := ⟨(gw (List.mem_append_right _ (List.mem_of_getElem? (i := 1460) rfl)) rfl), (gw (List.mem_append_left _ (List.mem_of_getElem? (i := 71) rfl)) rfl)⟩
set_option maxRecDepth 100000 in
theorem ml_254 : MPr [14, 313, 1, 262, 3, 1, 9] := ⟨"OneAtATimeModel", pm_262, ("OneAtATimeModel", kT9, 29), rfl, rfl, rfl, rfl, (gw (List.mem_append_right _ (List.mem_of_getElem? (i := 1458) rfl)) rfl), mi_262, mf_262, rfl, Nat.le_of_ble_eq_true rfl⟩
set_option maxRecDepth 100000 in
theorem mf_264 : MFr pm_264 3 := ⟨(gw (List.mem_append_right _ (List.mem_of_getElem? (i := 1469) rfl)) rfl), ini_14, by decide +kernel, by decide +kernel⟩
set_option maxRecDepth 100000 in
theorem mi_264 : Jvm.Cond.instanceMethod pm_264.2.1 ∈ gtb ∧ Jvm.Cond.selects pm_264.2.1.cls pm_264.2.1 pm_264.2.1 ∈ gtb := ⟨(gw (List.mem_append_right _ (List.mem_of_getElem? (i := 1468) rfl)) rfl), (gw (List.mem_append_left _ (List.mem_of_getElem? (i := 73) rfl)) rfl)⟩
set_option maxRecDepth 100000 in
theorem ml_255 : MPr [14, 316, 1, 264, 4, 0, 9] := ⟨"OneAtATimeModel", pm_264, ("OneAtATimeModel", kT9, 29), rfl, rfl, rfl, rfl, (gw (List.mem_append_right _ (List.mem_of_getElem? (i := 1466) rfl)) rfl), mi_264, mf_264, rfl, Nat.le_of_ble_eq_true rfl⟩
set_option maxRecDepth 100000 in
theorem mf_263 : MFr pm_263 3 := ⟨(gw (List.mem_append_right _ (List.mem_of_getElem? (i := 1465) rfl)) rfl), ini_14, by decide +kernel, by decide +kernel⟩
set_option maxRecDepth 100000 in
theorem mi_263 : Jvm.Cond.instanceMethod pm_263.2.1 ∈ gtb ∧ Jvm.Cond.selects pm_263.2.1.cls pm_263.2.1 pm_263.2.1 ∈ gtb := ⟨(gw (List.mem_append_right _ (List.mem_of_getElem? (i := 1464) rfl)) rfl), (gw (List.mem_append_left _ (List.mem_of_getElem? (i := 72) rfl)) rfl)⟩
set_option maxRecDepth 100000 in
theorem ml_256 : MPr [14, 310, 1, 263, 4, 1, 9] := ⟨"OneAtATimeModel", pm_263, ("OneAtATimeModel", kT9, 29), rfl, rfl, rfl, rfl, (gw (List.mem_append_right _ (List.mem_of_getElem? (i := 1462) rfl)) rfl), mi_263, mf_263, rfl, Nat.le_of_ble_eq_true rfl⟩
set_option maxRecDepth 100000 in
theorem mf_265 : MFr pm_265 5 := ⟨(gw (List.mem_append_right _ (List.mem_of_getElem? (i := 1473) rfl)) rfl), ini_14, by decide +kernel, by decide +kernel⟩
set_option maxRecDepth 100000 in
theorem mi_265 : Jvm.Cond.instanceMethod pm_265.2.1 ∈ gtb ∧ Jvm.Cond.selects pm_265.2.1.cls pm_265.2.1 pm_265.2.1 ∈ gtb := ⟨(gw (List.mem_append_right _ (List.mem_of_getElem? (i := 1472) rfl)) rfl), (gw (List.mem_append_left _ (List.mem_of_getElem? (i := 74) rfl)) rfl)⟩
set_option maxRecDepth 100000 in
theorem ml_257 : MPr [14, 320, 1, 265, 6, 1, 9] := ⟨"OneAtATimeModel", pm_265, ("OneAtATimeModel", kT9, 29), rfl, rfl, rfl, rfl, (gw (List.mem_append_right _ (List.mem_of_getElem? (i := 1470) rfl)) rfl), mi_265, mf_265, rfl, Nat.le_of_ble_eq_true rfl⟩
set_option maxRecDepth 100000 in
theorem mf_268 : MFr pm_268 2 := ⟨(gw (List.mem_append_right _ (List.mem_of_getElem? (i := 1485) rfl)) rfl), ini_14, by decide +kernel, by decide +kernel⟩
set_option maxRecDepth 100000 in
theorem mi_268 : Jvm.Cond.instanceMethod pm_268.2.1 ∈ gtb ∧ Jvm.Cond.selects pm_268.2.1.cls pm_268.2.1 pm_268.2.1 ∈ gtb := ⟨(gw (List.mem_append_right _ (List.mem_of_getElem? (i := 1484) rfl)) rfl), (gw (List.mem_append_left _ (List.mem_of_getElem? (i := 75) rfl)) rfl)⟩
set_option maxRecDepth 100000 in
theorem ml_258 : MPr [14, 327, 1, 268, 3, 1, 9] := ⟨"OneAtATimeModel", pm_268, ("OneAtATimeModel", kT9, 29), rfl, rfl, rfl, rfl, (gw (List.mem_append_right _ (List.mem_of_getElem? (i := 1482) rfl)) rfl), mi_268, mf_268, rfl, Nat.le_of_ble_eq_true rfl⟩
set_option maxRecDepth 100000 in
theorem mf_273 : MFr pm_273 1 := ⟨(gw (List.mem_append_right _ (List.mem_of_getElem? (i := 1505) rfl)) rfl), ini_14, by decide +kernel, by decide +kernel⟩
set_option maxRecDepth 100000 in
theorem mi_273 : Jvm.Cond.instanceMethod pm_273.2.1 ∈ gtb ∧ Jvm.Cond.selects pm_273.2.1.cls pm_273.2.1 pm_273.2.1 ∈ gtb := ⟨(gw (List.mem_append_right _ (List.mem_of_getElem? (i := 1504) rfl)) rfl), (gw (List.mem_append_left _ (List.mem_of_getElem? (i := 76) rfl)) rfl)⟩
set_option maxRecDepth 100000 in
theorem ml_259 : MPr [14, 330, 1, 273, 2, 0, 9] := ⟨"OneAtATimeModel", pm_273, ("OneAtATimeModel", kT9, 29), rfl, rfl, rfl, rfl, (gw (List.mem_append_right _ (List.mem_of_getElem? (i := 1502) rfl)) rfl), mi_273, mf_273, rfl, Nat.le_of_ble_eq_true rfl⟩
set_option maxRecDepth 100000 in
theorem mf_280 : MFr pm_280 1 := ⟨(gw (List.mem_append_right _ (List.mem_of_getElem? (i := 1533) rfl)) rfl), ini_14, by decide +kernel, by decide +kernel⟩
set_option maxRecDepth 100000 in
theorem mi_280 : Jvm.Cond.instanceMethod pm_280.2.1 ∈ gtb ∧ Jvm.Cond.selects pm_280.2.1.cls pm_280.2.1 pm_280.2.1 ∈ gtb := ⟨(gw (List.mem_append_right _ (List.mem_of_getElem? (i := 1532) rfl)) rfl), (gw (List.mem_append_left _ (List.mem_of_getElem? (i := 77) rfl)) rfl)⟩
set_option maxRecDepth 100000 in
theorem ml_260 : MPr [14, 333, 1, 280, 2, 1, 9] := ⟨"OneAtATimeModel", pm_280, ("OneAtATimeModel", kT9, 29), rfl, rfl, rfl, rfl, (gw (List.mem_append_right _ (List.mem_of_getElem? (i := 1530) rfl)) rfl), mi_280, mf_280, rfl, Nat.le_of_ble_eq_true rfl⟩
set_option maxRecDepth 100000 in
theorem mf_281 : MFr pm_281 4 := ⟨(gw (List.mem_append_right _ (List.mem_of_getElem? (i := 1537) rfl)) rfl), ini_14, by decide +kernel, by decide +kernel⟩
set_option maxRecDepth 100000 in
theorem mi_281 : Jvm.Cond.instanceMethod pm_281.2.1 ∈ gtb ∧ Jvm.Cond.selects pm_281.2.1.cls pm_281.2.1 pm_281.2.1 ∈ gtb := ⟨(gw (List.mem_append_right _ (List.mem_of_getElem? (i := 1536) rfl)) rfl), (gw (List.mem_append_left _ (List.mem_of_getElem? (i := 78) rfl)) rfl)⟩
set_option maxRecDepth 100000 in
theorem ml_261 : MPr [14, 336, 1, 281, 5, 1, 9] := ⟨"OneAtATimeModel", pm_281, ("OneAtATimeModel", kT9, 29), rfl, rfl, rfl, rfl, (gw (List.mem_append_right _ (List.mem_of_getElem? (i := 1534) rfl)) rfl), mi_281, mf_281, rfl, Nat.le_of_ble_eq_true rfl⟩
set_option maxRecDepth 100000 in
theorem mf_283 : MFr pm_283 1 := ⟨(gw (List.mem_append_right _ (List.mem_of_getElem? (i := 1546) rfl)) rfl), ini_14, by decide +kernel, by decide +kernel⟩
set_option maxRecDepth 100000 in
theorem mi_283 : Jvm.Cond.instanceMethod pm_283.2.1 ∈ gtb ∧ Jvm.Cond.selects pm_283.2.1.cls pm_283.2.1 pm_283.2.1 ∈ gtb := ⟨(gw (List.mem_append_right _ (List.mem_of_getElem? (i := 1545) rfl)) rfl), (gw (List.mem_append_left _ (List.mem_of_getElem? (i := 79) rfl)) rfl)⟩
set_option maxRecDepth 100000 in
theorem ml_262 : MPr [14, 345, 1, 283, 2, 0, 9] := ⟨"OneAtATimeModel", pm_283, ("OneAtATimeModel", kT9, 29), rfl, rfl, rfl, rfl, (gw (List.mem_append_right _ (List.mem_of_getElem? (i := 1543) rfl)) rfl), mi_283, mf_283, rfl, Nat.le_of_ble_eq_true rfl⟩
set_option maxRecDepth 100000 in
theorem mf_284 : MFr pm_284 1 := ⟨(gw (List.mem_append_right _ (List.mem_of_getElem? (i := 1550) rfl)) rfl), ini_14, by decide +kernel, by decide +kernel⟩
set_option maxRecDepth 100000 in
theorem mi_284 : Jvm.Cond.instanceMethod pm_284.2.1 ∈ gtb ∧ Jvm.Cond.selects pm_284.2.1.cls pm_284.2.1 pm_284.2.1 ∈ gtb := ⟨(gw (List.mem_append_right _ (List.mem_of_getElem? (i := 1549) rfl)) rfl), (gw (List.mem_append_left _ (List.mem_of_getElem? (i := 80) rfl)) rfl)⟩
set_option maxRecDepth 100000 in
theorem ml_263 : MPr [14, 340, 1, 284, 2, 0, 9] := ⟨"OneAtATimeModel", pm_284, ("OneAtATimeModel", kT9, 29), rfl, rfl, rfl, rfl, (gw (List.mem_append_right _ (List.mem_of_getElem? (i := 1547) rfl)) rfl), mi_284, mf_284, rfl, Nat.le_of_ble_eq_true rfl⟩
set_option maxRecDepth 100000 in
theorem mf_0 : MFr pm_0 0 := ⟨(gw (List.mem_append_right _ (List.mem_of_getElem? (i := 25) rfl)) rfl), ini_0, by decide +kernel, by decide +kernel⟩
set_option maxRecDepth 100000 in
theorem mi_0 : Jvm.Cond.instanceMethod pm_0.2.1 ∈ gtb := (gw (List.mem_append_right _ (List.mem_of_getElem? (i := 24) rfl)) rfl)
set_option maxRecDepth 100000 in
theorem ml_264 : MPr [15, 9, 2, 0, 1, 0, 0] := ⟨"OneAtATimeLaw", pm_0, rfl, rfl, rfl, (gw (List.mem_append_right _ (List.mem_of_getElem? (i := 23) rfl)) rfl), mi_0, mf_0, rfl, Nat.le_of_ble_eq_true rfl⟩
set_option maxRecDepth 100000 in
theorem mf_175 : MFr pm_175 0 := ⟨(gw (List.mem_append_right _ (List.mem_of_getElem? (i := 1013) rfl)) rfl), ini_14, by decide +kernel, by decide +kernel⟩
set_option maxRecDepth 100000 in
theorem mi_175 : Jvm.Cond.instanceMethod pm_175.2.1 ∈ gtb := (gw (List.mem_append_right _ (List.mem_of_getElem? (i := 1012) rfl)) rfl)
set_option maxRecDepth 100000 in
theorem ml_265 : MPr [15, 12, 2, 175, 1, 0, 0] := ⟨"OneAtATimeLaw", pm_175, rfl, rfl, rfl, (gw (List.mem_append_right _ (List.mem_of_getElem? (i := 1011) rfl)) rfl), mi_175, mf_175, rfl, Nat.le_of_ble_eq_true rfl⟩
set_option maxRecDepth 100000 in
theorem mf_10 : MFr pm_10 5 := ⟨(gw (List.mem_append_right _ (List.mem_of_getElem? (i := 266) rfl)) rfl), ini_0, by decide +kernel, by decide +kernel⟩
set_option maxRecDepth 100000 in
theorem mi_10 : Jvm.Cond.instanceMethod pm_10.2.1 ∈ gtb ∧ Jvm.Cond.selects pm_10.2.1.cls pm_10.2.1 pm_10.2.1 ∈ gtb := ⟨(gw (List.mem_append_right _ (List.mem_of_getElem? (i := 264) rfl)) rfl), (gw (List.mem_append_right _ (List.mem_of_getElem? (i := 265) rfl)) rfl)⟩
set_option maxRecDepth 100000 in
theorem ml_266 : MPr [15, 13, 1, 10, 6, 1, 8] := ⟨"OneAtATimeLaw", pm_10, ("OneAtATime", kT8, 9), rfl, rfl, rfl, rfl, (gw (List.mem_append_right _ (List.mem_of_getElem? (i := 263) rfl)) rfl), mi_10, mf_10, rfl, Nat.le_of_ble_eq_true rfl⟩
set_option maxRecDepth 100000 in
theorem mf_185 : MFr pm_185 5 := ⟨(gw (List.mem_append_right _ (List.mem_of_getElem? (i := 1142) rfl)) rfl), ini_14, by decide +kernel, by decide +kernel⟩
set_option maxRecDepth 100000 in
theorem mi_185 : Jvm.Cond.instanceMethod pm_185.2.1 ∈ gtb ∧ Jvm.Cond.selects pm_185.2.1.cls pm_185.2.1 pm_185.2.1 ∈ gtb := ⟨(gw (List.mem_append_right _ (List.mem_of_getElem? (i := 1140) rfl)) rfl), (gw (List.mem_append_right _ (List.mem_of_getElem? (i := 1141) rfl)) rfl)⟩
set_option maxRecDepth 100000 in
theorem ml_267 : MPr [15, 17, 1, 185, 6, 1, 9] := ⟨"OneAtATimeLaw", pm_185, ("OneAtATimeModel", kT9, 29), rfl, rfl, rfl, rfl, (gw (List.mem_append_right _ (List.mem_of_getElem? (i := 1139) rfl)) rfl), mi_185, mf_185, rfl, Nat.le_of_ble_eq_true rfl⟩
set_option maxRecDepth 100000 in
theorem mf_14 : MFr pm_14 1 := ⟨(gw (List.mem_append_right _ (List.mem_of_getElem? (i := 282) rfl)) rfl), ini_0, by decide +kernel, by decide +kernel⟩
set_option maxRecDepth 100000 in
theorem mi_14 : Jvm.Cond.instanceMethod pm_14.2.1 ∈ gtb ∧ Jvm.Cond.selects pm_14.2.1.cls pm_14.2.1 pm_14.2.1 ∈ gtb := ⟨(gw (List.mem_append_right _ (List.mem_of_getElem? (i := 280) rfl)) rfl), (gw (List.mem_append_right _ (List.mem_of_getElem? (i := 281) rfl)) rfl)⟩
set_option maxRecDepth 100000 in
theorem ml_268 : MPr [15, 18, 1, 14, 2, 1, 8] := ⟨"OneAtATimeLaw", pm_14, ("OneAtATime", kT8, 9), rfl, rfl, rfl, rfl, (gw (List.mem_append_right _ (List.mem_of_getElem? (i := 279) rfl)) rfl), mi_14, mf_14, rfl, Nat.le_of_ble_eq_true rfl⟩
set_option maxRecDepth 100000 in
theorem mf_186 : MFr pm_186 1 := ⟨(gw (List.mem_append_right _ (List.mem_of_getElem? (i := 1146) rfl)) rfl), ini_14, by decide +kernel, by decide +kernel⟩
set_option maxRecDepth 100000 in
theorem mi_186 : Jvm.Cond.instanceMethod pm_186.2.1 ∈ gtb ∧ Jvm.Cond.selects pm_186.2.1.cls pm_186.2.1 pm_186.2.1 ∈ gtb := ⟨(gw (List.mem_append_right _ (List.mem_of_getElem? (i := 1144) rfl)) rfl), (gw (List.mem_append_right _ (List.mem_of_getElem? (i := 1145) rfl)) rfl)⟩
set_option maxRecDepth 100000 in
theorem ml_269 : MPr [15, 22, 1, 186, 2, 1, 9] := ⟨"OneAtATimeLaw", pm_186, ("OneAtATimeModel", kT9, 29), rfl, rfl, rfl, rfl, (gw (List.mem_append_right _ (List.mem_of_getElem? (i := 1143) rfl)) rfl), mi_186, mf_186, rfl, Nat.le_of_ble_eq_true rfl⟩
set_option maxRecDepth 100000 in
theorem mf_15 : MFr pm_15 1 := ⟨(gw (List.mem_append_right _ (List.mem_of_getElem? (i := 286) rfl)) rfl), ini_0, by decide +kernel, by decide +kernel⟩
set_option maxRecDepth 100000 in
theorem mi_15 : Jvm.Cond.instanceMethod pm_15.2.1 ∈ gtb ∧ Jvm.Cond.selects pm_15.2.1.cls pm_15.2.1 pm_15.2.1 ∈ gtb := ⟨(gw (List.mem_append_right _ (List.mem_of_getElem? (i := 284) rfl)) rfl), (gw (List.mem_append_right _ (List.mem_of_getElem? (i := 285) rfl)) rfl)⟩
set_option maxRecDepth 100000 in
theorem ml_270 : MPr [15, 23, 1, 15, 2, 1, 8] := ⟨"OneAtATimeLaw", pm_15, ("OneAtATime", kT8, 9), rfl, rfl, rfl, rfl, (gw (List.mem_append_right _ (List.mem_of_getElem? (i := 283) rfl)) rfl), mi_15, mf_15, rfl, Nat.le_of_ble_eq_true rfl⟩
set_option maxRecDepth 100000 in
theorem mf_187 : MFr pm_187 1 := ⟨(gw (List.mem_append_right _ (List.mem_of_getElem? (i := 1150) rfl)) rfl), ini_14, by decide +kernel, by decide +kernel⟩
set_option maxRecDepth 100000 in
theorem mi_187 : Jvm.Cond.instanceMethod pm_187.2.1 ∈ gtb ∧ Jvm.Cond.selects pm_187.2.1.cls pm_187.2.1 pm_187.2.1 ∈ gtb := ⟨(gw (List.mem_append_right _ (List.mem_of_getElem? (i := 1148) rfl)) rfl), (gw (List.mem_append_right _ (List.mem_of_getElem? (i := 1149) rfl)) rfl)⟩
set_option maxRecDepth 100000 in
theorem ml_271 : MPr [15, 26, 1, 187, 2, 1, 9] := ⟨"OneAtATimeLaw", pm_187, ("OneAtATimeModel", kT9, 29), rfl, rfl, rfl, rfl, (gw (List.mem_append_right _ (List.mem_of_getElem? (i := 1147) rfl)) rfl), mi_187, mf_187, rfl, Nat.le_of_ble_eq_true rfl⟩
set_option maxRecDepth 100000 in
theorem mf_37 : MFr pm_37 1 := ⟨(gw (List.mem_append_right _ (List.mem_of_getElem? (i := 427) rfl)) rfl), ini_0, by decide +kernel, by decide +kernel⟩
set_option maxRecDepth 100000 in
theorem mi_37 : Jvm.Cond.instanceMethod pm_37.2.1 ∈ gtb ∧ Jvm.Cond.selects pm_37.2.1.cls pm_37.2.1 pm_37.2.1 ∈ gtb := ⟨(gw (List.mem_append_right _ (List.mem_of_getElem? (i := 425) rfl)) rfl), (gw (List.mem_append_right _ (List.mem_of_getElem? (i := 426) rfl)) rfl)⟩
set_option maxRecDepth 100000 in
theorem ml_272 : MPr [15, 27, 1, 37, 2, 1, 8] := ⟨"OneAtATimeLaw", pm_37, ("OneAtATime", kT8, 9), rfl, rfl, rfl, rfl, (gw (List.mem_append_right _ (List.mem_of_getElem? (i := 424) rfl)) rfl), mi_37, mf_37, rfl, Nat.le_of_ble_eq_true rfl⟩
set_option maxRecDepth 100000 in
theorem mf_198 : MFr pm_198 1 := ⟨(gw (List.mem_append_right _ (List.mem_of_getElem? (i := 1201) rfl)) rfl), ini_14, by decide +kernel, by decide +kernel⟩
set_option maxRecDepth 100000 in
theorem mi_198 : Jvm.Cond.instanceMethod pm_198.2.1 ∈ gtb ∧ Jvm.Cond.selects pm_198.2.1.cls pm_198.2.1 pm_198.2.1 ∈ gtb := ⟨(gw (List.mem_append_right _ (List.mem_of_getElem? (i := 1199) rfl)) rfl), (gw (List.mem_append_right _ (List.mem_of_getElem? (i := 1200) rfl)) rfl)⟩
set_option maxRecDepth 100000 in
theorem ml_273 : MPr [15, 30, 1, 198, 2, 1, 9] := ⟨"OneAtATimeLaw", pm_198, ("OneAtATimeModel", kT9, 29), rfl, rfl, rfl, rfl, (gw (List.mem_append_right _ (List.mem_of_getElem? (i := 1198) rfl)) rfl), mi_198, mf_198, rfl, Nat.le_of_ble_eq_true rfl⟩
set_option maxRecDepth 100000 in
theorem mf_38 : MFr pm_38 1 := ⟨(gw (List.mem_append_right _ (List.mem_of_getElem? (i := 431) rfl)) rfl), ini_0, by decide +kernel, by decide +kernel⟩
set_option maxRecDepth 100000 in
theorem mi_38 : Jvm.Cond.instanceMethod pm_38.2.1 ∈ gtb ∧ Jvm.Cond.selects pm_38.2.1.cls pm_38.2.1 pm_38.2.1 ∈ gtb := ⟨(gw (List.mem_append_right _ (List.mem_of_getElem? (i := 429) rfl)) rfl), (gw (List.mem_append_right _ (List.mem_of_getElem? (i := 430) rfl)) rfl)⟩
set_option maxRecDepth 100000 in
theorem ml_274 : MPr [15, 31, 1, 38, 2, 1, 8] := ⟨"OneAtATimeLaw", pm_38, ("OneAtATime", kT8, 9), rfl, rfl, rfl, rfl, (gw (List.mem_append_right _ (List.mem_of_getElem? (i := 428) rfl)) rfl), mi_38, mf_38, rfl, Nat.le_of_ble_eq_true rfl⟩
set_option maxRecDepth 100000 in
theorem mf_199 : MFr pm_199 1 := ⟨(gw (List.mem_append_right _ (List.mem_of_getElem? (i := 1205) rfl)) rfl), ini_14, by decide +kernel, by decide +kernel⟩
set_option maxRecDepth 100000 in
theorem mi_199 : Jvm.Cond.instanceMethod pm_199.2.1 ∈ gtb ∧ Jvm.Cond.selects pm_199.2.1.cls pm_199.2.1 pm_199.2.1 ∈ gtb := ⟨(gw (List.mem_append_right _ (List.mem_of_getElem? (i := 1203) rfl)) rfl), (gw (List.mem_append_right _ (List.mem_of_getElem? (i := 1204) rfl)) rfl)⟩
set_option maxRecDepth 100000 in
theorem ml_275 : MPr [15, 34, 1, 199, 2, 1, 9] := ⟨"OneAtATimeLaw", pm_199, ("OneAtATimeModel", kT9, 29), rfl, rfl, rfl, rfl, (gw (List.mem_append_right _ (List.mem_of_getElem? (i := 1202) rfl)) rfl), mi_199, mf_199, rfl, Nat.le_of_ble_eq_true rfl⟩
set_option maxRecDepth 100000 in
theorem mf_40 : MFr pm_40 2 := ⟨(gw (List.mem_append_right _ (List.mem_of_getElem? (i := 439) rfl)) rfl), ini_0, by decide +kernel, by decide +kernel⟩
set_option maxRecDepth 100000 in
theorem mi_40 : Jvm.Cond.instanceMethod pm_40.2.1 ∈ gtb ∧ Jvm.Cond.selects pm_40.2.1.cls pm_40.2.1 pm_40.2.1 ∈ gtb := ⟨(gw (List.mem_append_right _ (List.mem_of_getElem? (i := 437) rfl)) rfl), (gw (List.mem_append_right _ (List.mem_of_getElem? (i := 438) rfl)) rfl)⟩
set_option maxRecDepth 100000 in
theorem ml_276 : MPr [15, 35, 1, 40, 3, 1, 8] := ⟨"OneAtATimeLaw", pm_40, ("OneAtATime", kT8, 9), rfl, rfl, rfl, rfl, (gw (List.mem_append_right _ (List.mem_of_getElem? (i := 436) rfl)) rfl), mi_40, mf_40, rfl, Nat.le_of_ble_eq_true rfl⟩
set_option maxRecDepth 100000 in
theorem mf_217 : MFr pm_217 2 := ⟨(gw (List.mem_append_right _ (List.mem_of_getElem? (i := 1277) rfl)) rfl), ini_14, by decide +kernel, by decide +kernel⟩
set_option maxRecDepth 100000 in
theorem mi_217 : Jvm.Cond.instanceMethod pm_217.2.1 ∈ gtb ∧ Jvm.Cond.selects pm_217.2.1.cls pm_217.2.1 pm_217.2.1 ∈ gtb := ⟨(gw (List.mem_append_right _ (List.mem_of_getElem? (i := 1275) rfl)) rfl), (gw (List.mem_append_right _ (List.mem_of_getElem? (i := 1276) rfl)) rfl)⟩
set_option maxRecDepth 100000 in
theorem ml_277 : MPr [15, 39, 1, 217, 3, 1, 9] := ⟨"OneAtATimeLaw", pm_217, ("OneAtATimeModel", kT9, 29), rfl, rfl, rfl, rfl, (gw (List.mem_append_right _ (List.mem_of_getElem? (i := 1274) rfl)) rfl), mi_217, mf_217, rfl, Nat.le_of_ble_eq_true rfl⟩
set_option maxRecDepth 100000 in
theorem mf_51 : MFr pm_51 2 := ⟨(gw (List.mem_append_right _ (List.mem_of_getElem? (i := 486) rfl)) rfl), ini_0, by decide +kernel, by decide +kernel⟩
set_option maxRecDepth 100000 in
theorem mi_51 : Jvm.Cond.instanceMethod pm_51.2.1 ∈ gtb ∧ Jvm.Cond.selects pm_51.2.1.cls pm_51.2.1 pm_51.2.1 ∈ gtb := ⟨(gw (List.mem_append_right _ (List.mem_of_getElem? (i := 484) rfl)) rfl), (gw (List.mem_append_right _ (List.mem_of_getElem? (i := 485) rfl)) rfl)⟩
set_option maxRecDepth 100000 in
theorem ml_278 : MPr [15, 40, 1, 51, 3, 1, 8] := ⟨"OneAtATimeLaw", pm_51, ("OneAtATime", kT8, 9), rfl, rfl, rfl, rfl, (gw (List.mem_append_right _ (List.mem_of_getElem? (i := 483) rfl)) rfl), mi_51, mf_51, rfl, Nat.le_of_ble_eq_true rfl⟩
set_option maxRecDepth 100000 in
theorem mf_200 : MFr pm_200 2 := ⟨(gw (List.mem_append_right _ (List.mem_of_getElem? (i := 1209) rfl)) rfl), ini_14, by decide +kernel, by decide +kernel⟩
set_option maxRecDepth 100000 in
theorem mi_200 : Jvm.Cond.instanceMethod pm_200.2.1 ∈ gtb ∧ Jvm.Cond.selects pm_200.2.1.cls pm_200.2.1 pm_200.2.1 ∈ gtb := ⟨(gw (List.mem_append_right _ (List.mem_of_getElem? (i := 1207) rfl)) rfl), (gw (List.mem_append_right _ (List.mem_of_getElem? (i := 1208) rfl)) rfl)⟩
set_option maxRecDepth 100000 in
theorem ml_279 : MPr [15, 43, 1, 200, 3, 1, 9] := ⟨"OneAtATimeLaw", pm_200, ("OneAtATimeModel", kT9, 29), rfl, rfl, rfl, rfl, (gw (List.mem_append_right _ (List.mem_of_getElem? (i := 1206) rfl)) rfl), mi_200, mf_200, rfl, Nat.le_of_ble_eq_true rfl⟩
set_option maxRecDepth 100000 in
theorem mf_65 : MFr pm_65 2 := ⟨(gw (List.mem_append_right _ (List.mem_of_getElem? (i := 542) rfl)) rfl), ini_0, by decide +kernel, by decide +kernel⟩
set_option maxRecDepth 100000 in
theorem mi_65 : Jvm.Cond.instanceMethod pm_65.2.1 ∈ gtb ∧ Jvm.Cond.selects pm_65.2.1.cls pm_65.2.1 pm_65.2.1 ∈ gtb := ⟨(gw (List.mem_append_right _ (List.mem_of_getElem? (i := 540) rfl)) rfl), (gw (List.mem_append_right _ (List.mem_of_getElem? (i := 541) rfl)) rfl)⟩
set_option maxRecDepth 100000 in
theorem ml_280 : MPr [15, 44, 1, 65, 3, 1, 8] := ⟨"OneAtATimeLaw", pm_65, ("OneAtATime", kT8, 9), rfl, rfl, rfl, rfl, (gw (List.mem_append_right _ (List.mem_of_getElem? (i := 539) rfl)) rfl), mi_65, mf_65, rfl, Nat.le_of_ble_eq_true rfl⟩
set_option maxRecDepth 100000 in
theorem mf_218 : MFr pm_218 2 := ⟨(gw (List.mem_append_right _ (List.mem_of_getElem? (i := 1282) rfl)) rfl), ini_14, by decide +kernel, by decide +kernel⟩
set_option maxRecDepth 100000 in
theorem mi_218 : Jvm.Cond.instanceMethod pm_218.2.1 ∈ gtb ∧ Jvm.Cond.selects pm_218.2.1.cls pm_218.2.1 pm_218.2.1 ∈ gtb := ⟨(gw (List.mem_append_right _ (List.mem_of_getElem? (i := 1280) rfl)) rfl), (gw (List.mem_append_right _ (List.mem_of_getElem? (i := 1281) rfl)) rfl)⟩
set_option maxRecDepth 100000 in
theorem ml_281 : MPr [15, 47, 1, 218, 3, 1, 9] := ⟨"OneAtATimeLaw", pm_218, ("OneAtATimeModel", kT9, 29), rfl, rfl, rfl, rfl, (gw (List.mem_append_right _ (List.mem_of_getElem? (i := 1279) rfl)) rfl), mi_218, mf_218, rfl, Nat.le_of_ble_eq_true rfl⟩
set_option maxRecDepth 100000 in
theorem mf_66 : MFr pm_66 2 := ⟨(gw (List.mem_append_right _ (List.mem_of_getElem? (i := 546) rfl)) rfl), ini_0, by decide +kernel, by decide +kernel⟩
set_option maxRecDepth 100000 in
theorem mi_66 : Jvm.Cond.instanceMethod pm_66.2.1 ∈ gtb ∧ Jvm.Cond.selects pm_66.2.1.cls pm_66.2.1 pm_66.2.1 ∈ gtb := ⟨(gw (List.mem_append_right _ (List.mem_of_getElem? (i := 544) rfl)) rfl), (gw (List.mem_append_right _ (List.mem_of_getElem? (i := 545) rfl)) rfl)⟩
set_option maxRecDepth 100000 in
theorem ml_282 : MPr [15, 48, 1, 66, 3, 1, 8] := ⟨"OneAtATimeLaw", pm_66, ("OneAtATime", kT8, 9), rfl, rfl, rfl, rfl, (gw (List.mem_append_right _ (List.mem_of_getElem? (i := 543) rfl)) rfl), mi_66, mf_66, rfl, Nat.le_of_ble_eq_true rfl⟩
set_option maxRecDepth 100000 in
theorem mf_219 : MFr pm_219 2 := ⟨(gw (List.mem_append_right _ (List.mem_of_getElem? (i := 1286) rfl)) rfl), ini_14, by decide +kernel, by decide +kernel⟩
set_option maxRecDepth 100000 in
theorem mi_219 : Jvm.Cond.instanceMethod pm_219.2.1 ∈ gtb ∧ Jvm.Cond.selects pm_219.2.1.cls pm_219.2.1 pm_219.2.1 ∈ gtb := ⟨(gw (List.mem_append_right _ (List.mem_of_getElem? (i := 1284) rfl)) rfl), (gw (List.mem_append_right _ (List.mem_of_getElem? (i := 1285) rfl)) rfl)⟩
set_option maxRecDepth 100000 in
theorem ml_283 : MPr [15, 51, 1, 219, 3, 1, 9] := ⟨"OneAtATimeLaw", pm_219, ("OneAtATimeModel", kT9, 29), rfl, rfl, rfl, rfl, (gw (List.mem_append_right _ (List.mem_of_getElem? (i := 1283) rfl)) rfl), mi_219, mf_219, rfl, Nat.le_of_ble_eq_true rfl⟩
set_option maxRecDepth 100000 in
theorem mf_67 : MFr pm_67 3 := ⟨(gw (List.mem_append_right _ (List.mem_of_getElem? (i := 550) rfl)) rfl), ini_0, by decide +kernel, by decide +kernel⟩
set_option maxRecDepth 100000 in
theorem mi_67 : Jvm.Cond.instanceMethod pm_67.2.1 ∈ gtb ∧ Jvm.Cond.selects pm_67.2.1.cls pm_67.2.1 pm_67.2.1 ∈ gtb := ⟨(gw (List.mem_append_right _ (List.mem_of_getElem? (i := 548) rfl)) rfl), (gw (List.mem_append_right _ (List.mem_of_getElem? (i := 549) rfl)) rfl)⟩
set_option maxRecDepth 100000 in
theorem ml_284 : MPr [15, 52, 1, 67, 4, 1, 8] := ⟨"OneAtATimeLaw", pm_67, ("OneAtATime", kT8, 9), rfl, rfl, rfl, rfl, (gw (List.mem_append_right _ (List.mem_of_getElem? (i := 547) rfl)) rfl), mi_67, mf_67, rfl, Nat.le_of_ble_eq_true rfl⟩
set_option maxRecDepth 100000 in
theorem mf_220 : MFr pm_220 3 := ⟨(gw (List.mem_append_right _ (List.mem_of_getElem? (i := 1290) rfl)) rfl), ini_14, by decide +kernel, by decide +kernel⟩
set_option maxRecDepth 100000 in
theorem mi_220 : Jvm.Cond.instanceMethod pm_220.2.1 ∈ gtb ∧ Jvm.Cond.selects pm_220.2.1.cls pm_220.2.1 pm_220.2.1 ∈ gtb := ⟨(gw (List.mem_append_right _ (List.mem_of_getElem? (i := 1288) rfl)) rfl), (gw (List.mem_append_right _ (List.mem_of_getElem? (i := 1289) rfl)) rfl)⟩
set_option maxRecDepth 100000 in
theorem ml_285 : MPr [15, 56, 1, 220, 4, 1, 9] := ⟨"OneAtATimeLaw", pm_220, ("OneAtATimeModel", kT9, 29), rfl, rfl, rfl, rfl, (gw (List.mem_append_right _ (List.mem_of_getElem? (i := 1287) rfl)) rfl), mi_220, mf_220, rfl, Nat.le_of_ble_eq_true rfl⟩
set_option maxRecDepth 100000 in
theorem mf_69 : MFr pm_69 2 := ⟨(gw (List.mem_append_right _ (List.mem_of_getElem? (i := 558) rfl)) rfl), ini_0, by decide +kernel, by decide +kernel⟩
set_option maxRecDepth 100000 in
theorem mi_69 : Jvm.Cond.instanceMethod pm_69.2.1 ∈ gtb ∧ Jvm.Cond.selects pm_69.2.1.cls pm_69.2.1 pm_69.2.1 ∈ gtb := ⟨(gw (List.mem_append_right _ (List.mem_of_getElem? (i := 556) rfl)) rfl), (gw (List.mem_append_right _ (List.mem_of_getElem? (i := 557) rfl)) rfl)⟩
set_option maxRecDepth 100000 in
theorem ml_286 : MPr [15, 57, 1, 69, 3, 1, 8] := ⟨"OneAtATimeLaw", pm_69, ("OneAtATime", kT8, 9), rfl, rfl, rfl, rfl, (gw (List.mem_append_right _ (List.mem_of_getElem? (i := 555) rfl)) rfl), mi_69, mf_69, rfl, Nat.le_of_ble_eq_true rfl⟩
set_option maxRecDepth 100000 in
theorem mf_222 : MFr pm_222 2 := ⟨(gw (List.mem_append_right _ (List.mem_of_getElem? (i := 1298) rfl)) rfl), ini_14, by decide +kernel, by decide +kernel⟩
set_option maxRecDepth 100000 in
theorem mi_222 : Jvm.Cond.instanceMethod pm_222.2.1 ∈ gtb ∧ Jvm.Cond.selects pm_222.2.1.cls pm_222.2.1 pm_222.2.1 ∈ gtb := ⟨(gw (List.mem_append_right _ (List.mem_of_getElem? (i := 1296) rfl)) rfl), (gw (List.mem_append_right _ (List.mem_of_getElem? (i := 1297) rfl)) rfl)⟩
set_option maxRecDepth 100000 in
theorem ml_287 : MPr [15, 60, 1, 222, 3, 1, 9] := ⟨"OneAtATimeLaw", pm_222, ("OneAtATimeModel", kT9, 29), rfl, rfl, rfl, rfl, (gw (List.mem_append_right _ (List.mem_of_getElem? (i := 1295) rfl)) rfl), mi_222, mf_222, rfl, Nat.le_of_ble_eq_true rfl⟩
set_option maxRecDepth 100000 in
theorem mf_71 : MFr pm_71 2 := ⟨(gw (List.mem_append_right _ (List.mem_of_getElem? (i := 566) rfl)) rfl), ini_0, by decide +kernel, by decide +kernel⟩
set_option maxRecDepth 100000 in
theorem mi_71 : Jvm.Cond.instanceMethod pm_71.2.1 ∈ gtb ∧ Jvm.Cond.selects pm_71.2.1.cls pm_71.2.1 pm_71.2.1 ∈ gtb := ⟨(gw (List.mem_append_right _ (List.mem_of_getElem? (i := 564) rfl)) rfl), (gw (List.mem_append_right _ (List.mem_of_getElem? (i := 565) rfl)) rfl)⟩
set_option maxRecDepth 100000 in
theorem ml_288 : MPr [15, 61, 1, 71, 3, 1, 8] := ⟨"OneAtATimeLaw", pm_71, ("OneAtATime", kT8, 9), rfl, rfl, rfl, rfl, (gw (List.mem_append_right _ (List.mem_of_getElem? (i := 563) rfl)) rfl), mi_71, mf_71, rfl, Nat.le_of_ble_eq_true rfl⟩
set_option maxRecDepth 100000 in
theorem mf_223 : MFr pm_223 2 := ⟨(gw (List.mem_append_right _ (List.mem_of_getElem? (i := 1302) rfl)) rfl), ini_14, by decide +kernel, by decide +kernel⟩
set_option maxRecDepth 100000 in
theorem mi_223 : Jvm.Cond.instanceMethod pm_223.2.1 ∈ gtb ∧ Jvm.Cond.selects pm_223.2.1.cls pm_223.2.1 pm_223.2.1 ∈ gtb := ⟨(gw (List.mem_append_right _ (List.mem_of_getElem? (i := 1300) rfl)) rfl), (gw (List.mem_append_right _ (List.mem_of_getElem? (i := 1301) rfl)) rfl)⟩
set_option maxRecDepth 100000 in
theorem ml_289 : MPr [15, 64, 1, 223, 3, 1, 9] := ⟨"OneAtATimeLaw", pm_223, ("OneAtATimeModel", kT9, 29), rfl, rfl, rfl, rfl, (gw (List.mem_append_right _ (List.mem_of_getElem? (i := 1299) rfl)) rfl), mi_223, mf_223, rfl, Nat.le_of_ble_eq_true rfl⟩
set_option maxRecDepth 100000 in
theorem mf_73 : MFr pm_73 2 := ⟨(gw (List.mem_append_right _ (List.mem_of_getElem? (i := 575) rfl)) rfl), ini_0, by decide +kernel, by decide +kernel⟩
set_option maxRecDepth 100000 in
theorem mi_73 : Jvm.Cond.instanceMethod pm_73.2.1 ∈ gtb ∧ Jvm.Cond.selects pm_73.2.1.cls pm_73.2.1 pm_73.2.1 ∈ gtb := ⟨(gw (List.mem_append_right _ (List.mem_of_getElem? (i := 573) rfl)) rfl), (gw (List.mem_append_right _ (List.mem_of_getElem? (i := 574) rfl)) rfl)⟩
set_option maxRecDepth 100000 in
theorem ml_290 : MPr [15, 65, 1, 73, 3, 1, 8] := ⟨"OneAtATimeLaw", pm_73, ("OneAtATime", kT8, 9), rfl, rfl, rfl, rfl, (gw (List.mem_append_right _ (List.mem_of_getElem? (i := 572) rfl)) rfl), mi_73, mf_73, rfl, Nat.le_of_ble_eq_true rfl⟩
set_option maxRecDepth 100000 in
theorem ml_291 : MPr [15, 68, 1, 226, 3, 1, 9] := ⟨"OneAtATimeLaw", pm_226, ("OneAtATimeModel", kT9, 29), rfl, rfl, rfl, rfl, (gw (List.mem_append_right _ (List.mem_of_getElem? (i := 1311) rfl)) rfl), mi_226, mf_226, rfl, Nat.le_of_ble_eq_true rfl⟩
set_option maxRecDepth 100000 in
theorem mf_75 : MFr pm_75 1 := ⟨(gw (List.mem_append_right _ (List.mem_of_getElem? (i := 583) rfl)) rfl), ini_0, by decide +kernel, by decide +kernel⟩
set_option maxRecDepth 100000 in
theorem mi_75 : Jvm.Cond.instanceMethod pm_75.2.1 ∈ gtb ∧ Jvm.Cond.selects pm_75.2.1.cls pm_75.2.1 pm_75.2.1 ∈ gtb := ⟨(gw (List.mem_append_right _ (List.mem_of_getElem? (i := 581) rfl)) rfl), (gw (List.mem_append_right _ (List.mem_of_getElem? (i := 582) rfl)) rfl)⟩
set_option maxRecDepth 100000 in
theorem ml_292 : MPr [15, 69, 1, 75, 2, 1, 8] := ⟨"OneAtATimeLaw", pm_75, ("OneAtATime", kT8, 9), rfl, rfl, rfl, rfl, (gw (List.mem_append_right _ (List.mem_of_getElem? (i := 580) rfl)) rfl), mi_75, mf_75, rfl, Nat.le_of_ble_eq_true rfl⟩
set_option maxRecDepth 100000 in
theorem mf_227 : MFr pm_227 1 := ⟨(gw (List.mem_append_right _ (List.mem_of_getElem? (i := 1318) rfl)) rfl), ini_14, by decide +kernel, by decide +kernel⟩
set_option maxRecDepth 100000 in
theorem mi_227 : Jvm.Cond.instanceMethod pm_227.2.1 ∈ gtb ∧ Jvm.Cond.selects pm_227.2.1.cls pm_227.2.1 pm_227.2.1 ∈ gtb := ⟨(gw (List.mem_append_right _ (List.mem_of_getElem? (i := 1316) rfl)) rfl), (gw (List.mem_append_right _ (List.mem_of_getElem? (i := 1317) rfl)) rfl)⟩
set_option maxRecDepth 100000 in
theorem ml_293 : MPr [15, 72, 1, 227, 2, 1, 9] := ⟨"OneAtATimeLaw", pm_227, ("OneAtATimeModel", kT9, 29), rfl, rfl, rfl, rfl, (gw (List.mem_append_right _ (List.mem_of_getElem? (i := 1315) rfl)) rfl), mi_227, mf_227, rfl, Nat.le_of_ble_eq_true rfl⟩
set_option maxRecDepth 100000 in
theorem mf_77 : MFr pm_77 2 := ⟨(gw (List.mem_append_right _ (List.mem_of_getElem? (i := 590) rfl)) rfl), ini_0, by decide +kernel, by decide +kernel⟩
set_option maxRecDepth 100000 in
theorem mi_77 : Jvm.Cond.instanceMethod pm_77.2.1 ∈ gtb ∧ Jvm.Cond.selects pm_77.2.1.cls pm_77.2.1 pm_77.2.1 ∈ gtb := ⟨(gw (List.mem_append_right _ (List.mem_of_getElem? (i := 588) rfl)) rfl), (gw (List.mem_append_right _ (List.mem_of_getElem? (i := 589) rfl)) rfl)⟩
set_option maxRecDepth 100000 in
theorem ml_294 : MPr [15, 73, 1, 77, 3, 1, 8] := ⟨"OneAtATimeLaw", pm_77, ("OneAtATime", kT8, 9), rfl, rfl, rfl, rfl, (gw (List.mem_append_right _ (List.mem_of_getElem? (i := 587) rfl)) rfl), mi_77, mf_77, rfl, Nat.le_of_ble_eq_true rfl⟩
set_option maxRecDepth 100000 in
theorem mf_228 : MFr pm_228 2 := ⟨(gw (List.mem_append_right _ (List.mem_of_getElem? (i := 1323) rfl)) rfl), ini_14, by decide +kernel, by decide +kernel⟩
set_option maxRecDepth 100000 in
theorem mi_228 : Jvm.Cond.instanceMethod pm_228.2.1 ∈ gtb ∧ Jvm.Cond.selects pm_228.2.1.cls pm_228.2.1 pm_228.2.1 ∈ gtb := ⟨(gw (List.mem_append_right _ (List.mem_of_getElem? (i := 1321) rfl)) rfl), (gw (List.mem_append_right _ (List.mem_of_getElem? (i := 1322) rfl)) rfl)⟩
set_option maxRecDepth 100000 in
theorem ml_295 : MPr [15, 76, 1, 228, 3, 1, 9] := ⟨"OneAtATimeLaw", pm_228, ("OneAtATimeModel", kT9, 29), rfl, rfl, rfl, rfl, (gw (List.mem_append_right _ (List.mem_of_getElem? (i := 1320) rfl)) rfl), mi_228, mf_228, rfl, Nat.le_of_ble_eq_true rfl⟩
set_option maxRecDepth 100000 in
theorem mf_81 : MFr pm_81 3 := ⟨(gw (List.mem_append_right _ (List.mem_of_getElem? (i := 604) rfl)) rfl), ini_0, by decide +kernel, by decide +kernel⟩
set_option maxRecDepth 100000 in
theorem mi_81 : Jvm.Cond.instanceMethod pm_81.2.1 ∈ gtb ∧ Jvm.Cond.selects pm_81.2.1.cls pm_81.2.1 pm_81.2.1 ∈ gtb := ⟨(gw (List.mem_append_right _ (List.mem_of_getElem? (i := 602) rfl)) rfl), (gw (List.mem_append_right _ (List.mem_of_getElem? (i := 603) rfl)) rfl)⟩
set_option maxRecDepth 100000 in
theorem ml_296 : MPr [15, 77, 1, 81, 4, 1, 8] := ⟨"OneAtATimeLaw", pm_81, ("OneAtATime", kT8, 9), rfl, rfl, rfl, rfl, (gw (List.mem_append_right _ (List.mem_of_getElem? (i := 601) rfl)) rfl), mi_81, mf_81, rfl, Nat.le_of_ble_eq_true rfl⟩
set_option maxRecDepth 100000 in
theorem mf_230 : MFr pm_230 3 := ⟨(gw (List.mem_append_right _ (List.mem_of_getElem? (i := 1331) rfl)) rfl), ini_14, by decide +kernel, by decide +kernel⟩
set_option maxRecDepth 100000 in
theorem mi_230 : Jvm.Cond.instanceMethod pm_230.2.1 ∈ gtb ∧ Jvm.Cond.selects pm_230.2.1.cls pm_230.2.1 pm_230.2.1 ∈ gtb := ⟨(gw (List.mem_append_right _ (List.mem_of_getElem? (i := 1329) rfl)) rfl), (gw (List.mem_append_right _ (List.mem_of_getElem? (i := 1330) rfl)) rfl)⟩
set_option maxRecDepth 100000 in
theorem ml_297 : MPr [15, 80, 1, 230, 4, 1, 9] := ⟨"OneAtATimeLaw", pm_230, ("OneAtATimeModel", kT9, 29), rfl, rfl, rfl, rfl, (gw (List.mem_append_right _ (List.mem_of_getElem? (i := 1328) rfl)) rfl), mi_230, mf_230, rfl, Nat.le_of_ble_eq_true rfl⟩
set_option maxRecDepth 100000 in
theorem mf_84 : MFr pm_84 3 := ⟨(gw (List.mem_append_right _ (List.mem_of_getElem? (i := 614) rfl)) rfl), ini_0, by decide +kernel, by decide +kernel⟩
set_option maxRecDepth 100000 in
theorem mi_84 : Jvm.Cond.instanceMethod pm_84.2.1 ∈ gtb ∧ Jvm.Cond.selects pm_84.2.1.cls pm_84.2.1 pm_84.2.1 ∈ gtb := ⟨(gw (List.mem_append_right _ (List.mem_of_getElem? (i := 612) rfl)) rfl), (gw (List.mem_append_right _ (List.mem_of_getElem? (i := 613) rfl)) rfl)⟩
set_option maxRecDepth 100000 in
theorem ml_298 : MPr [15, 81, 1, 84, 4, 1, 8] := ⟨"OneAtATimeLaw", pm_84, ("OneAtATime", kT8, 9), rfl, rfl, rfl, rfl, (gw (List.mem_append_right _ (List.mem_of_getElem? (i := 611) rfl)) rfl), mi_84, mf_84, rfl, Nat.le_of_ble_eq_true rfl⟩
set_option maxRecDepth 100000 in
theorem mf_232 : MFr pm_232 3 := ⟨(gw (List.mem_append_right _ (List.mem_of_getElem? (i := 1339) rfl)) rfl), ini_14, by decide +kernel, by decide +kernel⟩
set_option maxRecDepth 100000 in
theorem mi_232 : Jvm.Cond.instanceMethod pm_232.2.1 ∈ gtb ∧ Jvm.Cond.selects pm_232.2.1.cls pm_232.2.1 pm_232.2.1 ∈ gtb := ⟨(gw (List.mem_append_right _ (List.mem_of_getElem? (i := 1337) rfl)) rfl), (gw (List.mem_append_right _ (List.mem_of_getElem? (i := 1338) rfl)) rfl)⟩
set_option maxRecDepth 100000 in
theorem ml_299 : MPr [15, 84, 1, 232, 4, 1, 9] := ⟨"OneAtATimeLaw", pm_232, ("OneAtATimeModel", kT9, 29), rfl, rfl, rfl, rfl, (gw (List.mem_append_right _ (List.mem_of_getElem? (i := 1336) rfl)) rfl), mi_232, mf_232, rfl, Nat.le_of_ble_eq_true rfl⟩
set_option maxRecDepth 100000 in
theorem mf_86 : MFr pm_86 3 := ⟨(gw (List.mem_append_right _ (List.mem_of_getElem? (i := 621) rfl)) rfl), ini_0, by decide +kernel, by decide +kernel⟩
set_option maxRecDepth 100000 in
theorem mi_86 : Jvm.Cond.instanceMethod pm_86.2.1 ∈ gtb ∧ Jvm.Cond.selects pm_86.2.1.cls pm_86.2.1 pm_86.2.1 ∈ gtb := ⟨(gw (List.mem_append_right _ (List.mem_of_getElem? (i := 619) rfl)) rfl), (gw (List.mem_append_right _ (List.mem_of_getElem? (i := 620) rfl)) rfl)⟩
set_option maxRecDepth 100000 in
theorem ml_300 : MPr [15, 85, 1, 86, 4, 1, 8] := ⟨"OneAtATimeLaw", pm_86, ("OneAtATime", kT8, 9), rfl, rfl, rfl, rfl, (gw (List.mem_append_right _ (List.mem_of_getElem? (i := 618) rfl)) rfl), mi_86, mf_86, rfl, Nat.le_of_ble_eq_true rfl⟩
set_option maxRecDepth 100000 in
theorem mf_233 : MFr pm_233 3 := ⟨(gw (List.mem_append_right _ (List.mem_of_getElem? (i := 1343) rfl)) rfl), ini_14, by decide +kernel, by decide +kernel⟩
set_option maxRecDepth 100000 in
theorem mi_233 : Jvm.Cond.instanceMethod pm_233.2.1 ∈ gtb ∧ Jvm.Cond.selects pm_233.2.1.cls pm_233.2.1 pm_233.2.1 ∈ gtb := ⟨(gw (List.mem_append_right _ (List.mem_of_getElem? (i := 1341) rfl)) rfl), (gw (List.mem_append_right _ (List.mem_of_getElem? (i := 1342) rfl)) rfl)⟩
set_option maxRecDepth 100000 in
theorem ml_301 : MPr [15, 88, 1, 233, 4, 1, 9] := ⟨"OneAtATimeLaw", pm_233, ("OneAtATimeModel", kT9, 29), rfl, rfl, rfl, rfl, (gw (List.mem_append_right _ (List.mem_of_getElem? (i := 1340) rfl)) rfl), mi_233, mf_233, rfl, Nat.le_of_ble_eq_true rfl⟩
set_option maxRecDepth 100000 in
theorem mf_88 : MFr pm_88 2 := ⟨(gw (List.mem_append_right _ (List.mem_of_getElem? (i := 629) rfl)) rfl), ini_0, by decide +kernel, by decide +kernel⟩
set_option maxRecDepth 100000 in
theorem mi_88 : Jvm.Cond.instanceMethod pm_88.2.1 ∈ gtb ∧ Jvm.Cond.selects pm_88.2.1.cls pm_88.2.1 pm_88.2.1 ∈ gtb := ⟨(gw (List.mem_append_right _ (List.mem_of_getElem? (i := 627) rfl)) rfl), (gw (List.mem_append_right _ (List.mem_of_getElem? (i := 628) rfl)) rfl)⟩
set_option maxRecDepth 100000 in
theorem ml_302 : MPr [15, 89, 1, 88, 3, 1, 8] := ⟨"OneAtATimeLaw", pm_88, ("OneAtATime", kT8, 9), rfl, rfl, rfl, rfl, (gw (List.mem_append_right _ (List.mem_of_getElem? (i := 626) rfl)) rfl), mi_88, mf_88, rfl, Nat.le_of_ble_eq_true rfl⟩
set_option maxRecDepth 100000 in
theorem mf_239 : MFr pm_239 2 := ⟨(gw (List.mem_append_right _ (List.mem_of_getElem? (i := 1367) rfl)) rfl), ini_14, by decide +kernel, by decide +kernel⟩
set_option maxRecDepth 100000 in
theorem mi_239 : Jvm.Cond.instanceMethod pm_239.2.1 ∈ gtb ∧ Jvm.Cond.selects pm_239.2.1.cls pm_239.2.1 pm_239.2.1 ∈ gtb := ⟨(gw (List.mem_append_right _ (List.mem_of_getElem? (i := 1365) rfl)) rfl), (gw (List.mem_append_right _ (List.mem_of_getElem? (i := 1366) rfl)) rfl)⟩
set_option maxRecDepth 100000 in
theorem ml_303 : MPr [15, 92, 1, 239, 3, 1, 9] := ⟨"OneAtATimeLaw", pm_239, ("OneAtATimeModel", kT9, 29), rfl, rfl, rfl, rfl, (gw (List.mem_append_right _ (List.mem_of_getElem? (i := 1364) rfl)) rfl), mi_239, mf_239, rfl, Nat.le_of_ble_eq_true rfl⟩
set_option maxRecDepth 100000 in
theorem mf_89 : MFr pm_89 2 := ⟨(gw (List.mem_append_right _ (List.mem_of_getElem? (i := 634) rfl)) rfl), ini_0, by decide +kernel, by decide +kernel⟩
set_option maxRecDepth 100000 in
theorem mi_89 : Jvm.Cond.instanceMethod pm_89.2.1 ∈ gtb ∧ Jvm.Cond.selects pm_89.2.1.cls pm_89.2.1 pm_89.2.1 ∈ gtb := ⟨(gw (List.mem_append_right _ (List.mem_of_getElem? (i := 632) rfl)) rfl), (gw (List.mem_append_right _ (List.mem_of_getElem? (i := 633) rfl)) rfl)⟩
set_option maxRecDepth 100000 in
theorem ml_304 : MPr [15, 93, 1, 89, 3, 1, 8] := ⟨"OneAtATimeLaw", pm_89, ("OneAtATime", kT8, 9), rfl, rfl, rfl, rfl, (gw (List.mem_append_right _ (List.mem_of_getElem? (i := 631) rfl)) rfl), mi_89, mf_89, rfl, Nat.le_of_ble_eq_true rfl⟩
set_option maxRecDepth 100000 in
theorem mf_235 : MFr pm_235 2 := ⟨(gw (List.mem_append_right _ (List.mem_of_getElem? (i := 1351) rfl)) rfl), ini_14, by decide +kernel, by decide +kernel⟩
set_option maxRecDepth 100000 in
theorem mi_235 : Jvm.Cond.instanceMethod pm_235.2.1 ∈ gtb ∧ Jvm.Cond.selects pm_235.2.1.cls pm_235.2.1 pm_235.2.1 ∈ gtb := ⟨(gw (List.mem_append_right _ (List.mem_of_getElem? (i := 1349) rfl)) rfl), (gw (List.mem_append_right _ (List.mem_of_getElem? (i := 1350) rfl)) rfl)⟩
set_option maxRecDepth 100000 in
theorem ml_305 : MPr [15, 96, 1, 235, 3, 1, 9] := ⟨"OneAtATimeLaw", pm_235, ("OneAtATimeModel", kT9, 29), rfl, rfl, rfl, rfl, (gw (List.mem_append_right _ (List.mem_of_getElem? (i := 1348) rfl)) rfl), mi_235, mf_235, rfl, Nat.le_of_ble_eq_true rfl⟩
set_option maxRecDepth 100000 in
theorem mf_90 : MFr pm_90 3 := ⟨(gw (List.mem_append_right _ (List.mem_of_getElem? (i := 639) rfl)) rfl), ini_0, by decide +kernel, by decide +kernel⟩
set_option maxRecDepth 100000 in
theorem mi_90 : Jvm.Cond.instanceMethod pm_90.2.1 ∈ gtb ∧ Jvm.Cond.selects pm_90.2.1.cls pm_90.2.1 pm_90.2.1 ∈ gtb := ⟨(gw (List.mem_append_right _ (List.mem_of_getElem? (i := 637) rfl)) rfl), (gw (List.mem_append_right _ (List.mem_of_getElem? (i := 638) rfl)) rfl)⟩
set_option maxRecDepth 100000 in
theorem ml_306 : MPr [15, 97, 1, 90, 4, 1, 8] := ⟨"OneAtATimeLaw", pm_90, ("OneAtATime", kT8, 9), rfl, rfl, rfl, rfl, (gw (List.mem_append_right _ (List.mem_of_getElem? (i := 636) rfl)) rfl), mi_90, mf_90, rfl, Nat.le_of_ble_eq_true rfl⟩
set_option maxRecDepth 100000 in
theorem mf_236 : MFr pm_236 3 := ⟨(gw (List.mem_append_right _ (List.mem_of_getElem? (i := 1355) rfl)) rfl), ini_14, by decide +kernel, by decide +kernel⟩
set_option maxRecDepth 100000 in
theorem mi_236 : Jvm.Cond.instanceMethod pm_236.2.1 ∈ gtb ∧ Jvm.Cond.selects pm_236.2.1.cls pm_236.2.1 pm_236.2.1 ∈ gtb := ⟨(gw (List.mem_append_right _ (List.mem_of_getElem? (i := 1353) rfl)) rfl), (gw (List.mem_append_right _ (List.mem_of_getElem? (i := 1354) rfl)) rfl)⟩
set_option maxRecDepth 100000 in
theorem ml_307 : MPr [15, 100, 1, 236, 4, 1, 9] := ⟨"OneAtATimeLaw", pm_236, ("OneAtATimeModel", kT9, 29), rfl, rfl, rfl, rfl, (gw (List.mem_append_right _ (List.mem_of_getElem? (i := 1352) rfl)) rfl), mi_236, mf_236, rfl, Nat.le_of_ble_eq_true rfl⟩
set_option maxRecDepth 100000 in
theorem mf_92 : MFr pm_92 1 := ⟨(gw (List.mem_append_right _ (List.mem_of_getElem? (i := 648) rfl)) rfl), ini_0, by decide +kernel, by decide +kernel⟩
set_option maxRecDepth 100000 in
theorem mi_92 : Jvm.Cond.instanceMethod pm_92.2.1 ∈ gtb ∧ Jvm.Cond.selects pm_92.2.1.cls pm_92.2.1 pm_92.2.1 ∈ gtb := ⟨(gw (List.mem_append_right _ (List.mem_of_getElem? (i := 646) rfl)) rfl), (gw (List.mem_append_right _ (List.mem_of_getElem? (i := 647) rfl)) rfl)⟩
set_option maxRecDepth 100000 in
theorem ml_308 : MPr [15, 101, 1, 92, 2, 1, 8] := ⟨"OneAtATimeLaw", pm_92, ("OneAtATime", kT8, 9), rfl, rfl, rfl, rfl, (gw (List.mem_append_right _ (List.mem_of_getElem? (i := 645) rfl)) rfl), mi_92, mf_92, rfl, Nat.le_of_ble_eq_true rfl⟩
set_option maxRecDepth 100000 in
theorem mf_237 : MFr pm_237 1 := ⟨(gw (List.mem_append_right _ (List.mem_of_getElem? (i := 1359) rfl)) rfl), ini_14, by decide +kernel, by decide +kernel⟩
set_option maxRecDepth 100000 in
theorem mi_237 : Jvm.Cond.instanceMethod pm_237.2.1 ∈ gtb ∧ Jvm.Cond.selects pm_237.2.1.cls pm_237.2.1 pm_237.2.1 ∈ gtb := ⟨(gw (List.mem_append_right _ (List.mem_of_getElem? (i := 1357) rfl)) rfl), (gw (List.mem_append_right _ (List.mem_of_getElem? (i := 1358) rfl)) rfl)⟩
set_option maxRecDepth 100000 in
theorem ml_309 : MPr [15, 104, 1, 237, 2, 1, 9] := ⟨"OneAtATimeLaw", pm_237, ("OneAtATimeModel", kT9, 29), rfl, rfl, rfl, rfl, (gw (List.mem_append_right _ (List.mem_of_getElem? (i := 1356) rfl)) rfl), mi_237, mf_237, rfl, Nat.le_of_ble_eq_true rfl⟩
set_option maxRecDepth 100000 in
theorem mf_96 : MFr pm_96 3 := ⟨(gw (List.mem_append_right _ (List.mem_of_getElem? (i := 664) rfl)) rfl), ini_0, by decide +kernel, by decide +kernel⟩
set_option maxRecDepth 100000 in
theorem mi_96 : Jvm.Cond.instanceMethod pm_96.2.1 ∈ gtb ∧ Jvm.Cond.selects pm_96.2.1.cls pm_96.2.1 pm_96.2.1 ∈ gtb := ⟨(gw (List.mem_append_right _ (List.mem_of_getElem? (i := 662) rfl)) rfl), (gw (List.mem_append_right _ (List.mem_of_getElem? (i := 663) rfl)) rfl)⟩
set_option maxRecDepth 100000 in
theorem ml_310 : MPr [15, 105, 1, 96, 4, 1, 8] := ⟨"OneAtATimeLaw", pm_96, ("OneAtATime", kT8, 9), rfl, rfl, rfl, rfl, (gw (List.mem_append_right _ (List.mem_of_getElem? (i := 661) rfl)) rfl), mi_96, mf_96, rfl, Nat.le_of_ble_eq_true rfl⟩
set_option maxRecDepth 100000 in
theorem mf_234 : MFr pm_234 3 := ⟨(gw (List.mem_append_right _ (List.mem_of_getElem? (i := 1347) rfl)) rfl), ini_14, by decide +kernel, by decide +kernel⟩
set_option maxRecDepth 100000 in
theorem mi_234 : Jvm.Cond.instanceMethod pm_234.2.1 ∈ gtb ∧ Jvm.Cond.selects pm_234.2.1.cls pm_234.2.1 pm_234.2.1 ∈ gtb := ⟨(gw (List.mem_append_right _ (List.mem_of_getElem? (i := 1345) rfl)) rfl), (gw (List.mem_append_right _ (List.mem_of_getElem? (i := 1346) rfl)) rfl)⟩
set_option maxRecDepth 100000 in
theorem ml_311 : MPr [15, 108, 1, 234, 4, 1, 9] := ⟨"OneAtATimeLaw", pm_234, ("OneAtATimeModel", kT9, 29), rfl, rfl, rfl, rfl, (gw (List.mem_append_right _ (List.mem_of_getElem? (i := 1344) rfl)) rfl), mi_234, mf_234, rfl, Nat.le_of_ble_eq_true rfl⟩
set_option maxRecDepth 100000 in
theorem mf_98 : MFr pm_98 1 := ⟨(gw (List.mem_append_right _ (List.mem_of_getElem? (i := 671) rfl)) rfl), ini_0, by decide +kernel, by decide +kernel⟩
set_option maxRecDepth 100000 in
theorem mi_98 : Jvm.Cond.instanceMethod pm_98.2.1 ∈ gtb ∧ Jvm.Cond.selects pm_98.2.1.cls pm_98.2.1 pm_98.2.1 ∈ gtb := ⟨(gw (List.mem_append_right _ (List.mem_of_getElem? (i := 669) rfl)) rfl), (gw (List.mem_append_right _ (List.mem_of_getElem? (i := 670) rfl)) rfl)⟩
set_option maxRecDepth 100000 in
theorem ml_312 : MPr [15, 109, 1, 98, 2, 1, 8] := ⟨"OneAtATimeLaw", pm_98, ("OneAtATime", kT8, 9), rfl, rfl, rfl, rfl, (gw (List.mem_append_right _ (List.mem_of_getElem? (i := 668) rfl)) rfl), mi_98, mf_98, rfl, Nat.le_of_ble_eq_true rfl⟩
set_option maxRecDepth 100000 in
theorem mf_240 : MFr pm_240 1 := ⟨(gw (List.mem_append_right _ (List.mem_of_getElem? (i := 1371) rfl)) rfl), ini_14, by decide +kernel, by decide +kernel⟩
set_option maxRecDepth 100000 in
theorem mi_240 : Jvm.Cond.instanceMethod pm_240.2.1 ∈ gtb ∧ Jvm.Cond.selects pm_240.2.1.cls pm_240.2.1 pm_240.2.1 ∈ gtb := ⟨(gw (List.mem_append_right _ (List.mem_of_getElem? (i := 1369) rfl)) rfl), (gw (List.mem_append_right _ (List.mem_of_getElem? (i := 1370) rfl)) rfl)⟩
set_option maxRecDepth 100000 in
theorem ml_313 : MPr [15, 112, 1, 240, 2, 1, 9] := ⟨"OneAtATimeLaw", pm_240, ("OneAtATimeModel", kT9, 29), rfl, rfl, rfl, rfl, (gw (List.mem_append_right _ (List.mem_of_getElem? (i := 1368) rfl)) rfl), mi_240, mf_240, rfl, Nat.le_of_ble_eq_true rfl⟩
set_option maxRecDepth 100000 in
theorem mf_99 : MFr pm_99 1 := ⟨(gw (List.mem_append_right _ (List.mem_of_getElem? (i := 675) rfl)) rfl), ini_0, by decide +kernel, by decide +kernel⟩
set_option maxRecDepth 100000 in
theorem mi_99 : Jvm.Cond.instanceMethod pm_99.2.1 ∈ gtb ∧ Jvm.Cond.selects pm_99.2.1.cls pm_99.2.1 pm_99.2.1 ∈ gtb := ⟨(gw (List.mem_append_right _ (List.mem_of_getElem? (i := 673) rfl)) rfl), (gw (List.mem_append_right _ (List.mem_of_getElem? (i := 674) rfl)) rfl)⟩
set_option maxRecDepth 100000 in
theorem ml_314 : MPr [15, 113, 1, 99, 2, 1, 8] := ⟨"OneAtATimeLaw", pm_99, ("OneAtATime", kT8, 9), rfl, rfl, rfl, rfl, (gw (List.mem_append_right _ (List.mem_of_getElem? (i := 672) rfl)) rfl), mi_99, mf_99, rfl, Nat.le_of_ble_eq_true rfl⟩
set_option maxRecDepth 100000 in
theorem mf_241 : MFr pm_241 1 := ⟨(gw (List.mem_append_right _ (List.mem_of_getElem? (i := 1375) rfl)) rfl), ini_14, by decide +kernel, by decide +kernel⟩
set_option maxRecDepth 100000 in
theorem mi_241 : Jvm.Cond.instanceMethod pm_241.2.1 ∈ gtb ∧ Jvm.Cond.selects pm_241.2.1.cls pm_241.2.1 pm_241.2.1 ∈ gtb := ⟨(gw (List.mem_append_right _ (List.mem_of_getElem? (i := 1373) rfl)) rfl), (gw (List.mem_append_right _ (List.mem_of_getElem? (i := 1374) rfl)) rfl)⟩
set_option maxRecDepth 100000 in
theorem ml_315 : MPr [15, 116, 1, 241, 2, 1, 9] := ⟨"OneAtATimeLaw", pm_241, ("OneAtATimeModel", kT9, 29), rfl, rfl, rfl, rfl, (gw (List.mem_append_right _ (List.mem_of_getElem? (i := 1372) rfl)) rfl), mi_241, mf_241, rfl, Nat.le_of_ble_eq_true rfl⟩
set_option maxRecDepth 100000 in
theorem mf_100 : MFr pm_100 1 := ⟨(gw (List.mem_append_right _ (List.mem_of_getElem? (i := 679) rfl)) rfl), ini_0, by decide +kernel, by decide +kernel⟩
set_option maxRecDepth 100000 in
theorem mi_100 : Jvm.Cond.instanceMethod pm_100.2.1 ∈ gtb ∧ Jvm.Cond.selects pm_100.2.1.cls pm_100.2.1 pm_100.2.1 ∈ gtb := ⟨(gw (List.mem_append_right _ (List.mem_of_getElem? (i := 677) rfl)) rfl), (gw (List.mem_append_right _ (List.mem_of_getElem? (i := 678) rfl)) rfl)⟩
set_option maxRecDepth 100000 in
theorem ml_316 : MPr [15, 117, 1, 100, 2, 1, 8] := ⟨"OneAtATimeLaw", pm_100, ("OneAtATime", kT8, 9), rfl, rfl, rfl, rfl, (gw (List.mem_append_right _ (List.mem_of_getElem? (i := 676) rfl)) rfl), mi_100, mf_100, rfl, Nat.le_of_ble_eq_true rfl⟩
set_option maxRecDepth 100000 in
theorem mf_242 : MFr pm_242 1 := ⟨(gw (List.mem_append_right _ (List.mem_of_getElem? (i := 1379) rfl)) rfl), ini_14, by decide +kernel, by decide +kernel⟩
set_option maxRecDepth 100000 in
theorem mi_242 : Jvm.Cond.instanceMethod pm_242.2.1 ∈ gtb ∧ Jvm.Cond.selects pm_242.2.1.cls pm_242.2.1 pm_242.2.1 ∈ gtb := ⟨(gw (List.mem_append_right _ (List.mem_of_getElem? (i := 1377) rfl)) rfl), (gw (List.mem_append_right _ (List.mem_of_getElem? (i := 1378) rfl)) rfl)⟩
set_option maxRecDepth 100000 in
theorem ml_317 : MPr [15, 120, 1, 242, 2, 1, 9] := ⟨"OneAtATimeLaw", pm_242, ("OneAtATimeModel", kT9, 29), rfl, rfl, rfl, rfl, (gw (List.mem_append_right _ (List.mem_of_getElem? (i := 1376) rfl)) rfl), mi_242, mf_242, rfl, Nat.le_of_ble_eq_true rfl⟩
set_option maxRecDepth 100000 in
theorem mf_102 : MFr pm_102 2 := ⟨(gw (List.mem_append_right _ (List.mem_of_getElem? (i := 687) rfl)) rfl), ini_0, by decide +kernel, by decide +kernel⟩
set_option maxRecDepth 100000 in
theorem mi_102 : Jvm.Cond.instanceMethod pm_102.2.1 ∈ gtb ∧ Jvm.Cond.selects pm_102.2.1.cls pm_102.2.1 pm_102.2.1 ∈ gtb := ⟨(gw (List.mem_append_right _ (List.mem_of_getElem? (i := 685) rfl)) rfl), (gw (List.mem_append_right _ (List.mem_of_getElem? (i := 686) rfl)) rfl)⟩
set_option maxRecDepth 100000 in
theorem ml_318 : MPr [15, 121, 1, 102, 3, 1, 8] := ⟨"OneAtATimeLaw", pm_102, ("OneAtATime", kT8, 9), rfl, rfl, rfl, rfl, (gw (List.mem_append_right _ (List.mem_of_getElem? (i := 684) rfl)) rfl), mi_102, mf_102, rfl, Nat.le_of_ble_eq_true rfl⟩
set_option maxRecDepth 100000 in
theorem mf_244 : MFr pm_244 2 := ⟨(gw (List.mem_append_right _ (List.mem_of_getElem? (i := 1386) rfl)) rfl), ini_14, by decide +kernel, by decide +kernel⟩
set_option maxRecDepth 100000 in
theorem mi_244 : Jvm.Cond.instanceMethod pm_244.2.1 ∈ gtb ∧ Jvm.Cond.selects pm_244.2.1.cls pm_244.2.1 pm_244.2.1 ∈ gtb := ⟨(gw (List.mem_append_right _ (List.mem_of_getElem? (i := 1384) rfl)) rfl), (gw (List.mem_append_right _ (List.mem_of_getElem? (i := 1385) rfl)) rfl)⟩
set_option maxRecDepth 100000 in
theorem ml_319 : MPr [15, 124, 1, 244, 3, 1, 9] := ⟨"OneAtATimeLaw", pm_244, ("OneAtATimeModel", kT9, 29), rfl, rfl, rfl, rfl, (gw (List.mem_append_right _ (List.mem_of_getElem? (i := 1383) rfl)) rfl), mi_244, mf_244, rfl, Nat.le_of_ble_eq_true rfl⟩
set_option maxRecDepth 100000 in
theorem mf_108 : MFr pm_108 3 := ⟨(gw (List.mem_append_right _ (List.mem_of_getElem? (i := 715) rfl)) rfl), ini_0, by decide +kernel, by decide +kernel⟩
set_option maxRecDepth 100000 in
theorem mi_108 : Jvm.Cond.instanceMethod pm_108.2.1 ∈ gtb ∧ Jvm.Cond.selects pm_108.2.1.cls pm_108.2.1 pm_108.2.1 ∈ gtb := ⟨(gw (List.mem_append_right _ (List.mem_of_getElem? (i := 713) rfl)) rfl), (gw (List.mem_append_right _ (List.mem_of_getElem? (i := 714) rfl)) rfl)⟩
set_option maxRecDepth 100000 in
theorem ml_320 : MPr [15, 125, 1, 108, 4, 1, 8] := ⟨"OneAtATimeLaw", pm_108, ("OneAtATime", kT8, 9), rfl, rfl, rfl, rfl, (gw (List.mem_append_right _ (List.mem_of_getElem? (i := 712) rfl)) rfl), mi_108, mf_108, rfl, Nat.le_of_ble_eq_true rfl⟩
set_option maxRecDepth 100000 in
theorem mf_246 : MFr pm_246 3 := ⟨(gw (List.mem_append_right _ (List.mem_of_getElem? (i := 1394) rfl)) rfl), ini_14, by decide +kernel, by decide +kernel⟩
set_option maxRecDepth 100000 in
theorem mi_246 : Jvm.Cond.instanceMethod pm_246.2.1 ∈ gtb ∧ Jvm.Cond.selects pm_246.2.1.cls pm_246.2.1 pm_246.2.1 ∈ gtb := ⟨(gw (List.mem_append_right _ (List.mem_of_getElem? (i := 1392) rfl)) rfl), (gw (List.mem_append_right _ (List.mem_of_getElem? (i := 1393) rfl)) rfl)⟩
set_option maxRecDepth 100000 in
theorem ml_321 : MPr [15, 128, 1, 246, 4, 1, 9] := ⟨"OneAtATimeLaw", pm_246, ("OneAtATimeModel", kT9, 29), rfl, rfl, rfl, rfl, (gw (List.mem_append_right _ (List.mem_of_getElem? (i := 1391) rfl)) rfl), mi_246, mf_246, rfl, Nat.le_of_ble_eq_true rfl⟩
set_option maxRecDepth 100000 in
theorem mf_117 : MFr pm_117 2 := ⟨(gw (List.mem_append_right _ (List.mem_of_getElem? (i := 763) rfl)) rfl), ini_0, by decide +kernel, by decide +kernel⟩
set_option maxRecDepth 100000 in
theorem mi_117 : Jvm.Cond.instanceMethod pm_117.2.1 ∈ gtb ∧ Jvm.Cond.selects pm_117.2.1.cls pm_117.2.1 pm_117.2.1 ∈ gtb := ⟨(gw (List.mem_append_right _ (List.mem_of_getElem? (i := 761) rfl)) rfl), (gw (List.mem_append_right _ (List.mem_of_getElem? (i := 762) rfl)) rfl)⟩
set_option maxRecDepth 100000 in
theorem ml_322 : MPr [15, 131, 1, 117, 3, 1, 8] := ⟨"OneAtATimeLaw", pm_117, ("OneAtATime", kT8, 9), rfl, rfl, rfl, rfl, (gw (List.mem_append_right _ (List.mem_of_getElem? (i := 760) rfl)) rfl), mi_117, mf_117, rfl, Nat.le_of_ble_eq_true rfl⟩
set_option maxRecDepth 100000 in
theorem mf_250 : MFr pm_250 2 := ⟨(gw (List.mem_append_right _ (List.mem_of_getElem? (i := 1412) rfl)) rfl), ini_14, by decide +kernel, by decide +kernel⟩
set_option maxRecDepth 100000 in
theorem mi_250 : Jvm.Cond.instanceMethod pm_250.2.1 ∈ gtb ∧ Jvm.Cond.selects pm_250.2.1.cls pm_250.2.1 pm_250.2.1 ∈ gtb := ⟨(gw (List.mem_append_right _ (List.mem_of_getElem? (i := 1410) rfl)) rfl), (gw (List.mem_append_right _ (List.mem_of_getElem? (i := 1411) rfl)) rfl)⟩
set_option maxRecDepth 100000 in
theorem ml_323 : MPr [15, 135, 1, 250, 3, 1, 9] := ⟨"OneAtATimeLaw", pm_250, ("OneAtATimeModel", kT9, 29), rfl, rfl, rfl, rfl, (gw (List.mem_append_right _ (List.mem_of_getElem? (i := 1409) rfl)) rfl), mi_250, mf_250, rfl, Nat.le_of_ble_eq_true rfl⟩
set_option maxRecDepth 100000 in
theorem mf_124 : MFr pm_124 1 := ⟨(gw (List.mem_append_right _ (List.mem_of_getElem? (i := 792) rfl)) rfl), ini_0, by decide +kernel, by decide +kernel⟩
set_option maxRecDepth 100000 in
theorem mi_124 : Jvm.Cond.instanceMethod pm_124.2.1 ∈ gtb ∧ Jvm.Cond.selects pm_124.2.1.cls pm_124.2.1 pm_124.2.1 ∈ gtb := ⟨(gw (List.mem_append_right _ (List.mem_of_getElem? (i := 790) rfl)) rfl), (gw (List.mem_append_right _ (List.mem_of_getElem? (i := 791) rfl)) rfl)⟩
set_option maxRecDepth 100000 in
theorem ml_324 : MPr [15, 136, 1, 124, 2, 1, 8] := ⟨"OneAtATimeLaw", pm_124, ("OneAtATime", kT8, 9), rfl, rfl, rfl, rfl, (gw (List.mem_append_right _ (List.mem_of_getElem? (i := 789) rfl)) rfl), mi_124, mf_124, rfl, Nat.le_of_ble_eq_true rfl⟩
set_option maxRecDepth 100000 in
theorem mf_258 : MFr pm_258 1 := ⟨(gw (List.mem_append_right _ (List.mem_of_getElem? (i := 1446) rfl)) rfl), ini_14, by decide +kernel, by decide +kernel⟩
set_option maxRecDepth 100000 in
theorem mi_258 : Jvm.Cond.instanceMethod pm_258.2.1 ∈ gtb ∧ Jvm.Cond.selects pm_258.2.1.cls pm_258.2.1 pm_258.2.1 ∈ gtb := ⟨(gw (List.mem_append_right _ (List.mem_of_getElem? (i := 1444) rfl)) rfl), (gw (List.mem_append_right _ (List.mem_of_getElem? (i := 1445) rfl)) rfl)⟩
set_option maxRecDepth 100000 in
theorem ml_325 : MPr [15, 139, 1, 258, 2, 1, 9] := ⟨"OneAtATimeLaw", pm_258, ("OneAtATimeModel", kT9, 29), rfl, rfl, rfl, rfl, (gw (List.mem_append_right _ (List.mem_of_getElem? (i := 1443) rfl)) rfl), mi_258, mf_258, rfl, Nat.le_of_ble_eq_true rfl⟩
set_option maxRecDepth 100000 in
theorem mf_126 : MFr pm_126 3 := ⟨(gw (List.mem_append_right _ (List.mem_of_getElem? (i := 801) rfl)) rfl), ini_0, by decide +kernel, by decide +kernel⟩
set_option maxRecDepth 100000 in
theorem mi_126 : Jvm.Cond.instanceMethod pm_126.2.1 ∈ gtb ∧ Jvm.Cond.selects pm_126.2.1.cls pm_126.2.1 pm_126.2.1 ∈ gtb := ⟨(gw (List.mem_append_right _ (List.mem_of_getElem? (i := 799) rfl)) rfl), (gw (List.mem_append_right _ (List.mem_of_getElem? (i := 800) rfl)) rfl)⟩
set_option maxRecDepth 100000 in
theorem ml_326 : MPr [15, 140, 1, 126, 4, 1, 8] := ⟨"OneAtATimeLaw", pm_126, ("OneAtATime", kT8, 9), rfl, rfl, rfl, rfl, (gw (List.mem_append_right _ (List.mem_of_getElem? (i := 798) rfl)) rfl), mi_126, mf_126, rfl, Nat.le_of_ble_eq_true rfl⟩
set_option maxRecDepth 100000 in
theorem mf_259 : MFr pm_259 3 := ⟨(gw (List.mem_append_right _ (List.mem_of_getElem? (i := 1450) rfl)) rfl), ini_14, by decide +kernel, by decide +kernel⟩
set_option maxRecDepth 100000 in
theorem mi_259 : Jvm.Cond.instanceMethod pm_259.2.1 ∈ gtb ∧ Jvm.Cond.selects pm_259.2.1.cls pm_259.2.1 pm_259.2.1 ∈ gtb := ⟨(gw (List.mem_append_right _ (List.mem_of_getElem? (i := 1448) rfl)) rfl), (gw (List.mem_append_right _ (List.mem_of_getElem? (i := 1449) rfl)) rfl)⟩
set_option maxRecDepth 100000 in
theorem ml_327 : MPr [15, 143, 1, 259, 4, 1, 9] := ⟨"OneAtATimeLaw", pm_259, ("OneAtATimeModel", kT9, 29), rfl, rfl, rfl, rfl, (gw (List.mem_append_right _ (List.mem_of_getElem? (i := 1447) rfl)) rfl), mi_259, mf_259, rfl, Nat.le_of_ble_eq_true rfl⟩
set_option maxRecDepth 100000 in
theorem mf_128 : MFr pm_128 2 := ⟨(gw (List.mem_append_right _ (List.mem_of_getElem? (i := 809) rfl)) rfl), ini_0, by decide +kernel, by decide +kernel⟩
set_option maxRecDepth 100000 in
theorem mi_128 : Jvm.Cond.instanceMethod pm_128.2.1 ∈ gtb ∧ Jvm.Cond.selects pm_128.2.1.cls pm_128.2.1 pm_128.2.1 ∈ gtb := ⟨(gw (List.mem_append_right _ (List.mem_of_getElem? (i := 807) rfl)) rfl), (gw (List.mem_append_right _ (List.mem_of_getElem? (i := 808) rfl)) rfl)⟩
set_option maxRecDepth 100000 in
theorem ml_328 : MPr [15, 144, 1, 128, 3, 3, 8] := ⟨"OneAtATimeLaw", pm_128, ("OneAtATime", kT8, 9), rfl, rfl, rfl, rfl, (gw (List.mem_append_right _ (List.mem_of_getElem? (i := 806) rfl)) rfl), mi_128, mf_128, rfl, Nat.le_of_ble_eq_true rfl⟩
set_option maxRecDepth 100000 in
theorem mf_256 : MFr pm_256 2 := ⟨(gw (List.mem_append_right _ (List.mem_of_getElem? (i := 1435) rfl)) rfl), ini_14, by decide +kernel, by decide +kernel⟩
set_option maxRecDepth 100000 in
theorem mi_256 : Jvm.Cond.instanceMethod pm_256.2.1 ∈ gtb ∧ Jvm.Cond.selects pm_256.2.1.cls pm_256.2.1 pm_256.2.1 ∈ gtb := ⟨(gw (List.mem_append_right _ (List.mem_of_getElem? (i := 1433) rfl)) rfl), (gw (List.mem_append_right _ (List.mem_of_getElem? (i := 1434) rfl)) rfl)⟩
set_option maxRecDepth 100000 in
theorem ml_329 : MPr [15, 148, 1, 256, 3, 3, 9] := ⟨"OneAtATimeLaw", pm_256, ("OneAtATimeModel", kT9, 29), rfl, rfl, rfl, rfl, (gw (List.mem_append_right _ (List.mem_of_getElem? (i := 1432) rfl)) rfl), mi_256, mf_256, rfl, Nat.le_of_ble_eq_true rfl⟩
set_option maxRecDepth 100000 in
theorem mf_135 : MFr pm_135 4 := ⟨(gw (List.mem_append_right _ (List.mem_of_getElem? (i := 844) rfl)) rfl), ini_0, by decide +kernel, by decide +kernel⟩
set_option maxRecDepth 100000 in
theorem mi_135 : Jvm.Cond.instanceMethod pm_135.2.1 ∈ gtb ∧ Jvm.Cond.selects pm_135.2.1.cls pm_135.2.1 pm_135.2.1 ∈ gtb := ⟨(gw (List.mem_append_right _ (List.mem_of_getElem? (i := 842) rfl)) rfl), (gw (List.mem_append_right _ (List.mem_of_getElem? (i := 843) rfl)) rfl)⟩
set_option maxRecDepth 100000 in
theorem ml_330 : MPr [15, 149, 1, 135, 5, 1, 8] := ⟨"OneAtATimeLaw", pm_135, ("OneAtATime", kT8, 9), rfl, rfl, rfl, rfl, (gw (List.mem_append_right _ (List.mem_of_getElem? (i := 841) rfl)) rfl), mi_135, mf_135, rfl, Nat.le_of_ble_eq_true rfl⟩
set_option maxRecDepth 100000 in
theorem mf_260 : MFr pm_260 4 := ⟨(gw (List.mem_append_right _ (List.mem_of_getElem? (i := 1454) rfl)) rfl), ini_14, by decide +kernel, by decide +kernel⟩
set_option maxRecDepth 100000 in
theorem mi_260 : Jvm.Cond.instanceMethod pm_260.2.1 ∈ gtb ∧ Jvm.Cond.selects pm_260.2.1.cls pm_260.2.1 pm_260.2.1 ∈ gtb := ⟨(gw (List.mem_append_right _ (List.mem_of_getElem? (i := 1452) rfl)) rfl), (gw (List.mem_append_right _ (List.mem_of_getElem? (i := 1453) rfl)) rfl)⟩
set_option maxRecDepth 100000 in
theorem ml_331 : MPr [15, 153, 1, 260, 5, 1, 9] := ⟨"OneAtATimeLaw", pm_260, ("OneAtATimeModel", kT9, 29), rfl, rfl, rfl, rfl, (gw (List.mem_append_right _ (List.mem_of_getElem? (i := 1451) rfl)) rfl), mi_260, mf_260, rfl, Nat.le_of_ble_eq_true rfl⟩
set_option maxRecDepth 100000 in
theorem mf_143 : MFr pm_143 3 := ⟨(gw (List.mem_append_right _ (List.mem_of_getElem? (i := 872) rfl)) rfl), ini_0, by decide +kernel, by decide +kernel⟩
set_option maxRecDepth 100000 in
theorem mi_143 : Jvm.Cond.instanceMethod pm_143.2.1 ∈ gtb ∧ Jvm.Cond.selects pm_143.2.1.cls pm_143.2.1 pm_143.2.1 ∈ gtb := ⟨(gw (List.mem_append_right _ (List.mem_of_getElem? (i := 870) rfl)) rfl), (gw (List.mem_append_right _ (List.mem_of_getElem? (i := 871) rfl)) rfl)⟩
set_option maxRecDepth 100000 in
theorem ml_332 : MPr [15, 154, 1, 143, 4, 1, 8] := ⟨"OneAtATimeLaw", pm_143, ("OneAtATime", kT8, 9), rfl, rfl, rfl, rfl, (gw (List.mem_append_right _ (List.mem_of_getElem? (i := 869) rfl)) rfl), mi_143, mf_143, rfl, Nat.le_of_ble_eq_true rfl⟩
set_option maxRecDepth 100000 in
theorem mf_266 : MFr pm_266 3 := ⟨(gw (List.mem_append_right _ (List.mem_of_getElem? (i := 1477) rfl)) rfl), ini_14, by decide +kernel, by decide +kernel⟩
set_option maxRecDepth 100000 in
theorem mi_266 : Jvm.Cond.instanceMethod pm_266.2.1 ∈ gtb ∧ Jvm.Cond.selects pm_266.2.1.cls pm_266.2.1 pm_266.2.1 ∈ gtb := ⟨(gw (List.mem_append_right _ (List.mem_of_getElem? (i := 1475) rfl)) rfl), (gw (List.mem_append_right _ (List.mem_of_getElem? (i := 1476) rfl)) rfl)⟩
set_option maxRecDepth 100000 in
theorem ml_333 : MPr [15, 157, 1, 266, 4, 1, 9] := ⟨"OneAtATimeLaw", pm_266, ("OneAtATimeModel", kT9, 29), rfl, rfl, rfl, rfl, (gw (List.mem_append_right _ (List.mem_of_getElem? (i := 1474) rfl)) rfl), mi_266, mf_266, rfl, Nat.le_of_ble_eq_true rfl⟩
set_option maxRecDepth 100000 in
theorem mf_145 : MFr pm_145 3 := ⟨(gw (List.mem_append_right _ (List.mem_of_getElem? (i := 879) rfl)) rfl), ini_0, by decide +kernel, by decide +kernel⟩
set_option maxRecDepth 100000 in
theorem mi_145 : Jvm.Cond.instanceMethod pm_145.2.1 ∈ gtb ∧ Jvm.Cond.selects pm_145.2.1.cls pm_145.2.1 pm_145.2.1 ∈ gtb := ⟨(gw (List.mem_append_right _ (List.mem_of_getElem? (i := 877) rfl)) rfl), (gw (List.mem_append_right _ (List.mem_of_getElem? (i := 878) rfl)) rfl)⟩
set_option maxRecDepth 100000 in
theorem ml_334 : MPr [15, 158, 1, 145, 4, 1, 8] := ⟨"OneAtATimeLaw", pm_145, ("OneAtATime", kT8, 9), rfl, rfl, rfl, rfl, (gw (List.mem_append_right _ (List.mem_of_getElem? (i := 876) rfl)) rfl), mi_145, mf_145, rfl, Nat.le_of_ble_eq_true rfl⟩
set_option maxRecDepth 100000 in
theorem mf_267 : MFr pm_267 3 := ⟨(gw (List.mem_append_right _ (List.mem_of_getElem? (i := 1481) rfl)) rfl), ini_14, by decide +kernel, by decide +kernel⟩
set_option maxRecDepth 100000 in
theorem mi_267 : Jvm.Cond.instanceMethod pm_267.2.1 ∈ gtb ∧ Jvm.Cond.selects pm_267.2.1.cls pm_267.2.1 pm_267.2.1 ∈ gtb := ⟨(gw (List.mem_append_right _ (List.mem_of_getElem? (i := 1479) rfl)) rfl), (gw (List.mem_append_right _ (List.mem_of_getElem? (i := 1480) rfl)) rfl)⟩
set_option maxRecDepth 100000 in
theorem ml_335 : MPr [15, 161, 1, 267, 4, 1, 9] := ⟨"OneAtATimeLaw", pm_267, ("OneAtATimeModel", kT9, 29), rfl, rfl, rfl, rfl, (gw (List.mem_append_right _ (List.mem_of_getElem? (i := 1478) rfl)) rfl), mi_267, mf_267, rfl, Nat.le_of_ble_eq_true rfl⟩
set_option maxRecDepth 100000 in
theorem mf_148 : MFr pm_148 1 := ⟨(gw (List.mem_append_right _ (List.mem_of_getElem? (i := 890) rfl)) rfl), ini_0, by decide +kernel, by decide +kernel⟩
set_option maxRecDepth 100000 in
theorem mi_148 : Jvm.Cond.instanceMethod pm_148.2.1 ∈ gtb ∧ Jvm.Cond.selects pm_148.2.1.cls pm_148.2.1 pm_148.2.1 ∈ gtb := ⟨(gw (List.mem_append_right _ (List.mem_of_getElem? (i := 888) rfl)) rfl), (gw (List.mem_append_right _ (List.mem_of_getElem? (i := 889) rfl)) rfl)⟩
set_option maxRecDepth 100000 in
theorem ml_336 : MPr [15, 162, 1, 148, 2, 1, 8] := ⟨"OneAtATimeLaw", pm_148, ("OneAtATime", kT8, 9), rfl, rfl, rfl, rfl, (gw (List.mem_append_right _ (List.mem_of_getElem? (i := 887) rfl)) rfl), mi_148, mf_148, rfl, Nat.le_of_ble_eq_true rfl⟩
set_option maxRecDepth 100000 in
theorem mf_269 : MFr pm_269 1 := ⟨(gw (List.mem_append_right _ (List.mem_of_getElem? (i := 1489) rfl)) rfl), ini_14, by decide +kernel, by decide +kernel⟩
set_option maxRecDepth 100000 in
theorem mi_269 : Jvm.Cond.instanceMethod pm_269.2.1 ∈ gtb ∧ Jvm.Cond.selects pm_269.2.1.cls pm_269.2.1 pm_269.2.1 ∈ gtb := ⟨(gw (List.mem_append_right _ (List.mem_of_getElem? (i := 1487) rfl)) rfl), (gw (List.mem_append_right _ (List.mem_of_getElem? (i := 1488) rfl)) rfl)⟩
set_option maxRecDepth 100000 in
theorem ml_337 : MPr [15, 165, 1, 269, 2, 1, 9] := ⟨"OneAtATimeLaw", pm_269, ("OneAtATimeModel", kT9, 29), rfl, rfl, rfl, rfl, (gw (List.mem_append_right _ (List.mem_of_getElem? (i := 1486) rfl)) rfl), mi_269, mf_269, rfl, Nat.le_of_ble_eq_true rfl⟩
set_option maxRecDepth 100000 in
theorem mf_150 : MFr pm_150 3 := ⟨(gw (List.mem_append_right _ (List.mem_of_getElem? (i := 898) rfl)) rfl), ini_0, by decide +kernel, by decide +kernel⟩
set_option maxRecDepth 100000 in
theorem mi_150 : Jvm.Cond.instanceMethod pm_150.2.1 ∈ gtb ∧ Jvm.Cond.selects pm_150.2.1.cls pm_150.2.1 pm_150.2.1 ∈ gtb := ⟨(gw (List.mem_append_right _ (List.mem_of_getElem? (i := 896) rfl)) rfl), (gw (List.mem_append_right _ (List.mem_of_getElem? (i := 897) rfl)) rfl)⟩
set_option maxRecDepth 100000 in
theorem ml_338 : MPr [15, 166, 1, 150, 4, 1, 8] := ⟨"OneAtATimeLaw", pm_150, ("OneAtATime", kT8, 9), rfl, rfl, rfl, rfl, (gw (List.mem_append_right _ (List.mem_of_getElem? (i := 895) rfl)) rfl), mi_150, mf_150, rfl, Nat.le_of_ble_eq_true rfl⟩
set_option maxRecDepth 100000 in
theorem mf_270 : MFr pm_270 3 := ⟨(gw (List.mem_append_right _ (List.mem_of_getElem? (i := 1493) rfl)) rfl), ini_14, by decide +kernel, by decide +kernel⟩
set_option maxRecDepth 100000 in
theorem mi_270 : Jvm.Cond.instanceMethod pm_270.2.1 ∈ gtb ∧ Jvm.Cond.selects pm_270.2.1.cls pm_270.2.1 pm_270.2.1 ∈ gtb := ⟨(gw (List.mem_append_right _ (List.mem_of_getElem? (i := 1491) rfl)) rfl), (gw (List.mem_append_right _ (List.mem_of_getElem? (i := 1492) rfl)) rfl)⟩
set_option maxRecDepth 100000 in
theorem ml_339 : MPr [15, 169, 1, 270, 4, 1, 9] := ⟨"OneAtATimeLaw", pm_270, ("OneAtATimeModel", kT9, 29), rfl, rfl, rfl, rfl, (gw (List.mem_append_right _ (List.mem_of_getElem? (i := 1490) rfl)) rfl), mi_270, mf_270, rfl, Nat.le_of_ble_eq_true rfl⟩
set_option maxRecDepth 100000 in
theorem mf_152 : MFr pm_152 1 := ⟨(gw (List.mem_append_right _ (List.mem_of_getElem? (i := 905) rfl)) rfl), ini_0, by decide +kernel, by decide +kernel⟩
set_option maxRecDepth 100000 in
theorem mi_152 : Jvm.Cond.instanceMethod pm_152.2.1 ∈ gtb ∧ Jvm.Cond.selects pm_152.2.1.cls pm_152.2.1 pm_152.2.1 ∈ gtb := ⟨(gw (List.mem_append_right _ (List.mem_of_getElem? (i := 903) rfl)) rfl), (gw (List.mem_append_right _ (List.mem_of_getElem? (i := 904) rfl)) rfl)⟩
set_option maxRecDepth 100000 in
theorem ml_340 : MPr [15, 170, 1, 152, 2, 1, 8] := ⟨"OneAtATimeLaw", pm_152, ("OneAtATime", kT8, 9), rfl, rfl, rfl, rfl, (gw (List.mem_append_right _ (List.mem_of_getElem? (i := 902) rfl)) rfl), mi_152, mf_152, rfl, Nat.le_of_ble_eq_true rfl⟩
set_option maxRecDepth 100000 in
theorem mf_271 : MFr pm_271 1 := ⟨(gw (List.mem_append_right _ (List.mem_of_getElem? (i := 1497) rfl)) rfl), ini_14, by decide +kernel, by decide +kernel⟩
set_option maxRecDepth 100000 in
theorem mi_271 : Jvm.Cond.instanceMethod pm_271.2.1 ∈ gtb ∧ Jvm.Cond.selects pm_271.2.1.cls pm_271.2.1 pm_271.2.1 ∈ gtb := ⟨(gw (List.mem_append_right _ (List.mem_of_getElem? (i := 1495) rfl)) rfl), (gw (List.mem_append_right _ (List.mem_of_getElem? (i := 1496) rfl)) rfl)⟩
set_option maxRecDepth 100000 in
theorem ml_341 : MPr [15, 173, 1, 271, 2, 1, 9] := ⟨"OneAtATimeLaw", pm_271, ("OneAtATimeModel", kT9, 29), rfl, rfl, rfl, rfl, (gw (List.mem_append_right _ (List.mem_of_getElem? (i := 1494) rfl)) rfl), mi_271, mf_271, rfl, Nat.le_of_ble_eq_true rfl⟩
set_option maxRecDepth 100000 in
theorem mf_154 : MFr pm_154 2 := ⟨(gw (List.mem_append_right _ (List.mem_of_getElem? (i := 913) rfl)) rfl), ini_0, by decide +kernel, by decide +kernel⟩
set_option maxRecDepth 100000 in
theorem mi_154 : Jvm.Cond.instanceMethod pm_154.2.1 ∈ gtb ∧ Jvm.Cond.selects pm_154.2.1.cls pm_154.2.1 pm_154.2.1 ∈ gtb := ⟨(gw (List.mem_append_right _ (List.mem_of_getElem? (i := 911) rfl)) rfl), (gw (List.mem_append_right _ (List.mem_of_getElem? (i := 912) rfl)) rfl)⟩
set_option maxRecDepth 100000 in
theorem ml_342 : MPr [15, 174, 1, 154, 3, 1, 8] := ⟨"OneAtATimeLaw", pm_154, ("OneAtATime", kT8, 9), rfl, rfl, rfl, rfl, (gw (List.mem_append_right _ (List.mem_of_getElem? (i := 910) rfl)) rfl), mi_154, mf_154, rfl, Nat.le_of_ble_eq_true rfl⟩
set_option maxRecDepth 100000 in
theorem mf_272 : MFr pm_272 2 := ⟨(gw (List.mem_append_right _ (List.mem_of_getElem? (i := 1501) rfl)) rfl), ini_14, by decide +kernel, by decide +kernel⟩
set_option maxRecDepth 100000 in
theorem mi_272 : Jvm.Cond.instanceMethod pm_272.2.1 ∈ gtb ∧ Jvm.Cond.selects pm_272.2.1.cls pm_272.2.1 pm_272.2.1 ∈ gtb := ⟨(gw (List.mem_append_right _ (List.mem_of_getElem? (i := 1499) rfl)) rfl), (gw (List.mem_append_right _ (List.mem_of_getElem? (i := 1500) rfl)) rfl)⟩
set_option maxRecDepth 100000 in
theorem ml_343 : MPr [15, 177, 1, 272, 3, 1, 9] := ⟨"OneAtATimeLaw", pm_272, ("OneAtATimeModel", kT9, 29), rfl, rfl, rfl, rfl, (gw (List.mem_append_right _ (List.mem_of_getElem? (i := 1498) rfl)) rfl), mi_272, mf_272, rfl, Nat.le_of_ble_eq_true rfl⟩
set_option maxRecDepth 100000 in
theorem mf_155 : MFr pm_155 3 := ⟨(gw (List.mem_append_right _ (List.mem_of_getElem? (i := 919) rfl)) rfl), ini_0, by decide +kernel, by decide +kernel⟩
set_option maxRecDepth 100000 in
theorem mi_155 : Jvm.Cond.instanceMethod pm_155.2.1 ∈ gtb ∧ Jvm.Cond.selects pm_155.2.1.cls pm_155.2.1 pm_155.2.1 ∈ gtb := ⟨(gw (List.mem_append_right _ (List.mem_of_getElem? (i := 917) rfl)) rfl), (gw (List.mem_append_right _ (List.mem_of_getElem? (i := 918) rfl)) rfl)⟩
set_option maxRecDepth 100000 in
theorem ml_344 : MPr [15, 178, 1, 155, 4, 1, 8] := ⟨"OneAtATimeLaw", pm_155, ("OneAtATime", kT8, 9), rfl, rfl, rfl, rfl, (gw (List.mem_append_right _ (List.mem_of_getElem? (i := 916) rfl)) rfl), mi_155, mf_155, rfl, Nat.le_of_ble_eq_true rfl⟩
set_option maxRecDepth 100000 in
theorem mf_274 : MFr pm_274 3 := ⟨(gw (List.mem_append_right _ (List.mem_of_getElem? (i := 1509) rfl)) rfl), ini_14, by decide +kernel, by decide +kernel⟩
set_option maxRecDepth 100000 in
theorem mi_274 : Jvm.Cond.instanceMethod pm_274.2.1 ∈ gtb ∧ Jvm.Cond.selects pm_274.2.1.cls pm_274.2.1 pm_274.2.1 ∈ gtb := ⟨(gw (List.mem_append_right _ (List.mem_of_getElem? (i := 1507) rfl)) rfl), (gw (List.mem_append_right _ (List.mem_of_getElem? (i := 1508) rfl)) rfl)⟩
set_option maxRecDepth 100000 in
theorem ml_345 : MPr [15, 181, 1, 274, 4, 1, 9] := ⟨"OneAtATimeLaw", pm_274, ("OneAtATimeModel", kT9, 29), rfl, rfl, rfl, rfl, (gw (List.mem_append_right _ (List.mem_of_getElem? (i := 1506) rfl)) rfl), mi_274, mf_274, rfl, Nat.le_of_ble_eq_true rfl⟩
set_option maxRecDepth 100000 in
theorem mf_157 : MFr pm_157 1 := ⟨(gw (List.mem_append_right _ (List.mem_of_getElem? (i := 926) rfl)) rfl), ini_0, by decide +kernel, by decide +kernel⟩
set_option maxRecDepth 100000 in
theorem mi_157 : Jvm.Cond.instanceMethod pm_157.2.1 ∈ gtb ∧ Jvm.Cond.selects pm_157.2.1.cls pm_157.2.1 pm_157.2.1 ∈ gtb := ⟨(gw (List.mem_append_right _ (List.mem_of_getElem? (i := 924) rfl)) rfl), (gw (List.mem_append_right _ (List.mem_of_getElem? (i := 925) rfl)) rfl)⟩
set_option maxRecDepth 100000 in
theorem ml_346 : MPr [15, 182, 1, 157, 2, 1, 8] := ⟨"OneAtATimeLaw", pm_157, ("OneAtATime", kT8, 9), rfl, rfl, rfl, rfl, (gw (List.mem_append_right _ (List.mem_of_getElem? (i := 923) rfl)) rfl), mi_157, mf_157, rfl, Nat.le_of_ble_eq_true rfl⟩
set_option maxRecDepth 100000 in
theorem mf_275 : MFr pm_275 1 := ⟨(gw (List.mem_append_right _ (List.mem_of_getElem? (i := 1513) rfl)) rfl), ini_14, by decide +kernel, by decide +kernel⟩
set_option maxRecDepth 100000 in
theorem mi_275 : Jvm.Cond.instanceMethod pm_275.2.1 ∈ gtb ∧ Jvm.Cond.selects pm_275.2.1.cls pm_275.2.1 pm_275.2.1 ∈ gtb := ⟨(gw (List.mem_append_right _ (List.mem_of_getElem? (i := 1511) rfl)) rfl), (gw (List.mem_append_right _ (List.mem_of_getElem? (i := 1512) rfl)) rfl)⟩
set_option maxRecDepth 100000 in
theorem ml_347 : MPr [15, 185, 1, 275, 2, 1, 9] := ⟨"OneAtATimeLaw", pm_275, ("OneAtATimeModel", kT9, 29), rfl, rfl, rfl, rfl, (gw (List.mem_append_right _ (List.mem_of_getElem? (i := 1510) rfl)) rfl), mi_275, mf_275, rfl, Nat.le_of_ble_eq_true rfl⟩
set_option maxRecDepth 100000 in
theorem mf_158 : MFr pm_158 2 := ⟨(gw (List.mem_append_right _ (List.mem_of_getElem? (i := 932) rfl)) rfl), ini_0, by decide +kernel, by decide +kernel⟩
set_option maxRecDepth 100000 in
theorem mi_158 : Jvm.Cond.instanceMethod pm_158.2.1 ∈ gtb ∧ Jvm.Cond.selects pm_158.2.1.cls pm_158.2.1 pm_158.2.1 ∈ gtb := ⟨(gw (List.mem_append_right _ (List.mem_of_getElem? (i := 930) rfl)) rfl), (gw (List.mem_append_right _ (List.mem_of_getElem? (i := 931) rfl)) rfl)⟩
set_option maxRecDepth 100000 in
theorem ml_348 : MPr [15, 186, 1, 158, 3, 1, 8] := ⟨"OneAtATimeLaw", pm_158, ("OneAtATime", kT8, 9), rfl, rfl, rfl, rfl, (gw (List.mem_append_right _ (List.mem_of_getElem? (i := 929) rfl)) rfl), mi_158, mf_158, rfl, Nat.le_of_ble_eq_true rfl⟩
set_option maxRecDepth 100000 in
theorem mf_276 : MFr pm_276 2 := ⟨(gw (List.mem_append_right _ (List.mem_of_getElem? (i := 1517) rfl)) rfl), ini_14, by decide +kernel, by decide +kernel⟩
set_option maxRecDepth 100000 in
theorem mi_276 : Jvm.Cond.instanceMethod pm_276.2.1 ∈ gtb ∧ Jvm.Cond.selects pm_276.2.1.cls pm_276.2.1 pm_276.2.1 ∈ gtb := ⟨(gw (List.mem_append_right _ (List.mem_of_getElem? (i := 1515) rfl)) rfl), (gw (List.mem_append_right _ (List.mem_of_getElem? (i := 1516) rfl)) rfl)⟩
set_option maxRecDepth 100000 in
theorem ml_349 : MPr [15, 189, 1, 276, 3, 1, 9] := ⟨"OneAtATimeLaw", pm_276, ("OneAtATimeModel", kT9, 29), rfl, rfl, rfl, rfl, (gw (List.mem_append_right _ (List.mem_of_getElem? (i := 1514) rfl)) rfl), mi_276, mf_276, rfl, Nat.le_of_ble_eq_true rfl⟩
set_option maxRecDepth 100000 in
theorem mf_159 : MFr pm_159 2 := ⟨(gw (List.mem_append_right _ (List.mem_of_getElem? (i := 936) rfl)) rfl), ini_0, by decide +kernel, by decide +kernel⟩
set_option maxRecDepth 100000 in
theorem mi_159 : Jvm.Cond.instanceMethod pm_159.2.1 ∈ gtb ∧ Jvm.Cond.selects pm_159.2.1.cls pm_159.2.1 pm_159.2.1 ∈ gtb := ⟨(gw (List.mem_append_right _ (List.mem_of_getElem? (i := 934) rfl)) rfl), (gw (List.mem_append_right _ (List.mem_of_getElem? (i := 935) rfl)) rfl)⟩
set_option maxRecDepth 100000 in
theorem ml_350 : MPr [15, 190, 1, 159, 3, 1, 8] := ⟨"OneAtATimeLaw", pm_159, ("OneAtATime", kT8, 9), rfl, rfl, rfl, rfl, (gw (List.mem_append_right _ (List.mem_of_getElem? (i := 933) rfl)) rfl), mi_159, mf_159, rfl, Nat.le_of_ble_eq_true rfl⟩
set_option maxRecDepth 100000 in
theorem mf_277 : MFr pm_277 2 := ⟨(gw (List.mem_append_right _ (List.mem_of_getElem? (i := 1521) rfl)) rfl), ini_14, by decide +kernel, by decide +kernel⟩
set_option maxRecDepth 100000 in
theorem mi_277 : Jvm.Cond.instanceMethod pm_277.2.1 ∈ gtb ∧ Jvm.Cond.selects pm_277.2.1.cls pm_277.2.1 pm_277.2.1 ∈ gtb := ⟨(gw (List.mem_append_right _ (List.mem_of_getElem? (i := 1519) rfl)) rfl), (gw (List.mem_append_right _ (List.mem_of_getElem? (i := 1520) rfl)) rfl)⟩
set_option maxRecDepth 100000 in
theorem ml_351 : MPr [15, 193, 1, 277, 3, 1, 9] := ⟨"OneAtATimeLaw", pm_277, ("OneAtATimeModel", kT9, 29), rfl, rfl, rfl, rfl, (gw (List.mem_append_right _ (List.mem_of_getElem? (i := 1518) rfl)) rfl), mi_277, mf_277, rfl, Nat.le_of_ble_eq_true rfl⟩
set_option maxRecDepth 100000 in
theorem mf_160 : MFr pm_160 2 := ⟨(gw (List.mem_append_right _ (List.mem_of_getElem? (i := 941) rfl)) rfl), ini_0, by decide +kernel, by decide +kernel⟩
set_option maxRecDepth 100000 in
theorem mi_160 : Jvm.Cond.instanceMethod pm_160.2.1 ∈ gtb ∧ Jvm.Cond.selects pm_160.2.1.cls pm_160.2.1 pm_160.2.1 ∈ gtb := ⟨(gw (List.mem_append_right _ (List.mem_of_getElem? (i := 939) rfl)) rfl), (gw (List.mem_append_right _ (List.mem_of_getElem? (i := 940) rfl)) rfl)⟩
set_option maxRecDepth 100000 in
theorem ml_352 : MPr [15, 194, 1, 160, 3, 1, 8] := ⟨"OneAtATimeLaw", pm_160, ("OneAtATime", kT8, 9), rfl, rfl, rfl, rfl, (gw (List.mem_append_right _ (List.mem_of_getElem? (i := 938) rfl)) rfl), mi_160, mf_160, rfl, Nat.le_of_ble_eq_true rfl⟩
set_option maxRecDepth 100000 in
theorem mf_278 : MFr pm_278 2 := ⟨(gw (List.mem_append_right _ (List.mem_of_getElem? (i := 1525) rfl)) rfl), ini_14, by decide +kernel, by decide +kernel⟩
set_option maxRecDepth 100000 in
theorem mi_278 : Jvm.Cond.instanceMethod pm_278.2.1 ∈ gtb ∧ Jvm.Cond.selects pm_278.2.1.cls pm_278.2.1 pm_278.2.1 ∈ gtb := ⟨(gw (List.mem_append_right _ (List.mem_of_getElem? (i := 1523) rfl)) rfl), (gw (List.mem_append_right _ (List.mem_of_getElem? (i := 1524) rfl)) rfl)⟩
set_option maxRecDepth 100000 in
theorem ml_353 : MPr [15, 197, 1, 278, 3, 1, 9] := ⟨"OneAtATimeLaw", pm_278, ("OneAtATimeModel", kT9, 29), rfl, rfl, rfl, rfl, (gw (List.mem_append_right _ (List.mem_of_getElem? (i := 1522) rfl)) rfl), mi_278, mf_278, rfl, Nat.le_of_ble_eq_true rfl⟩
set_option maxRecDepth 100000 in
theorem mf_161 : MFr pm_161 2 := ⟨(gw (List.mem_append_right _ (List.mem_of_getElem? (i := 945) rfl)) rfl), ini_0, by decide +kernel, by decide +kernel⟩
set_option maxRecDepth 100000 in
theorem mi_161 : Jvm.Cond.instanceMethod pm_161.2.1 ∈ gtb ∧ Jvm.Cond.selects pm_161.2.1.cls pm_161.2.1 pm_161.2.1 ∈ gtb := ⟨(gw (List.mem_append_right _ (List.mem_of_getElem? (i := 943) rfl)) rfl), (gw (List.mem_append_right _ (List.mem_of_getElem? (i := 944) rfl)) rfl)⟩
set_option maxRecDepth 100000 in
theorem ml_354 : MPr [15, 198, 1, 161, 3, 1, 8] := ⟨"OneAtATimeLaw", pm_161, ("OneAtATime", kT8, 9), rfl, rfl, rfl, rfl, (gw (List.mem_append_right _ (List.mem_of_getElem? (i := 942) rfl)) rfl), mi_161, mf_161, rfl, Nat.le_of_ble_eq_true rfl⟩
set_option maxRecDepth 100000 in
theorem mf_279 : MFr pm_279 2 := ⟨(gw (List.mem_append_right _ (List.mem_of_getElem? (i := 1529) rfl)) rfl), ini_14, by decide +kernel, by decide +kernel⟩
set_option maxRecDepth 100000 in
theorem mi_279 : Jvm.Cond.instanceMethod pm_279.2.1 ∈ gtb ∧ Jvm.Cond.selects pm_279.2.1.cls pm_279.2.1 pm_279.2.1 ∈ gtb := ⟨(gw (List.mem_append_right _ (List.mem_of_getElem? (i := 1527) rfl)) rfl), (gw (List.mem_append_right _ (List.mem_of_getElem? (i := 1528) rfl)) rfl)⟩
set_option maxRecDepth 100000 in
theorem ml_355 : MPr [15, 201, 1, 279, 3, 1, 9] := ⟨"OneAtATimeLaw", pm_279, ("OneAtATimeModel", kT9, 29), rfl, rfl, rfl, rfl, (gw (List.mem_append_right _ (List.mem_of_getElem? (i := 1526) rfl)) rfl), mi_279, mf_279, rfl, Nat.le_of_ble_eq_true rfl⟩
set_option maxRecDepth 100000 in
theorem mf_164 : MFr pm_164 1 := ⟨(gw (List.mem_append_right _ (List.mem_of_getElem? (i := 959) rfl)) rfl), ini_0, by decide +kernel, by decide +kernel⟩
set_option maxRecDepth 100000 in
theorem mi_164 : Jvm.Cond.instanceMethod pm_164.2.1 ∈ gtb ∧ Jvm.Cond.selects pm_164.2.1.cls pm_164.2.1 pm_164.2.1 ∈ gtb := ⟨(gw (List.mem_append_right _ (List.mem_of_getElem? (i := 957) rfl)) rfl), (gw (List.mem_append_right _ (List.mem_of_getElem? (i := 958) rfl)) rfl)⟩
set_option maxRecDepth 100000 in
theorem ml_356 : MPr [15, 202, 1, 164, 2, 1, 8] := ⟨"OneAtATimeLaw", pm_164, ("OneAtATime", kT8, 9), rfl, rfl, rfl, rfl, (gw (List.mem_append_right _ (List.mem_of_getElem? (i := 956) rfl)) rfl), mi_164, mf_164, rfl, Nat.le_of_ble_eq_true rfl⟩
set_option maxRecDepth 100000 in
theorem mf_177 : MFr pm_177 1 := ⟨(gw (List.mem_append_right _ (List.mem_of_getElem? (i := 1111) rfl)) rfl), ini_14, by decide +kernel, by decide +kernel⟩
set_option maxRecDepth 100000 in
theorem mi_177 : Jvm.Cond.instanceMethod pm_177.2.1 ∈ gtb ∧ Jvm.Cond.selects pm_177.2.1.cls pm_177.2.1 pm_177.2.1 ∈ gtb := ⟨(gw (List.mem_append_right _ (List.mem_of_getElem? (i := 1109) rfl)) rfl), (gw (List.mem_append_right _ (List.mem_of_getElem? (i := 1110) rfl)) rfl)⟩
set_option maxRecDepth 100000 in
theorem ml_357 : MPr [15, 205, 1, 177, 2, 1, 9] := ⟨"OneAtATimeLaw", pm_177, ("OneAtATimeModel", kT9, 29), rfl, rfl, rfl, rfl, (gw (List.mem_append_right _ (List.mem_of_getElem? (i := 1108) rfl)) rfl), mi_177, mf_177, rfl, Nat.le_of_ble_eq_true rfl⟩
set_option maxRecDepth 100000 in
theorem mf_165 : MFr pm_165 0 := ⟨(gw (List.mem_append_right _ (List.mem_of_getElem? (i := 963) rfl)) rfl), ini_0, by decide +kernel, by decide +kernel⟩
set_option maxRecDepth 100000 in
theorem mi_165 : Jvm.Cond.instanceMethod pm_165.2.1 ∈ gtb ∧ Jvm.Cond.selects pm_165.2.1.cls pm_165.2.1 pm_165.2.1 ∈ gtb := ⟨(gw (List.mem_append_right _ (List.mem_of_getElem? (i := 961) rfl)) rfl), (gw (List.mem_append_right _ (List.mem_of_getElem? (i := 962) rfl)) rfl)⟩
set_option maxRecDepth 100000 in
theorem ml_358 : MPr [15, 206, 1, 165, 1, 1, 8] := ⟨"OneAtATimeLaw", pm_165, ("OneAtATime", kT8, 9), rfl, rfl, rfl, rfl, (gw (List.mem_append_right _ (List.mem_of_getElem? (i := 960) rfl)) rfl), mi_165, mf_165, rfl, Nat.le_of_ble_eq_true rfl⟩
set_option maxRecDepth 100000 in
theorem mf_176 : MFr pm_176 0 := ⟨(gw (List.mem_append_right _ (List.mem_of_getElem? (i := 1107) rfl)) rfl), ini_14, by decide +kernel, by decide +kernel⟩
set_option maxRecDepth 100000 in
theorem mi_176 : Jvm.Cond.instanceMethod pm_176.2.1 ∈ gtb ∧ Jvm.Cond.selects pm_176.2.1.cls pm_176.2.1 pm_176.2.1 ∈ gtb := ⟨(gw (List.mem_append_right _ (List.mem_of_getElem? (i := 1105) rfl)) rfl), (gw (List.mem_append_right _ (List.mem_of_getElem? (i := 1106) rfl)) rfl)⟩
set_option maxRecDepth 100000 in
theorem ml_359 : MPr [15, 210, 1, 176, 1, 1, 9] := ⟨"OneAtATimeLaw", pm_176, ("OneAtATimeModel", kT9, 29), rfl, rfl, rfl, rfl, (gw (List.mem_append_right _ (List.mem_of_getElem? (i := 1104) rfl)) rfl), mi_176, mf_176, rfl, Nat.le_of_ble_eq_true rfl⟩
set_option maxRecDepth 100000 in
theorem mf_169 : MFr pm_169 2 := ⟨(gw (List.mem_append_right _ (List.mem_of_getElem? (i := 979) rfl)) rfl), ini_0, by decide +kernel, by decide +kernel⟩
set_option maxRecDepth 100000 in
theorem mi_169 : Jvm.Cond.instanceMethod pm_169.2.1 ∈ gtb ∧ Jvm.Cond.selects pm_169.2.1.cls pm_169.2.1 pm_169.2.1 ∈ gtb := ⟨(gw (List.mem_append_right _ (List.mem_of_getElem? (i := 977) rfl)) rfl), (gw (List.mem_append_right _ (List.mem_of_getElem? (i := 978) rfl)) rfl)⟩
set_option maxRecDepth 100000 in
theorem ml_360 : MPr [15, 211, 1, 169, 3, 1, 8] := ⟨"OneAtATimeLaw", pm_169, ("OneAtATime", kT8, 9), rfl, rfl, rfl, rfl, (gw (List.mem_append_right _ (List.mem_of_getElem? (i := 976) rfl)) rfl), mi_169, mf_169, rfl, Nat.le_of_ble_eq_true rfl⟩
set_option maxRecDepth 100000 in
theorem mf_282 : MFr pm_282 2 := ⟨(gw (List.mem_append_right _ (List.mem_of_getElem? (i := 1541) rfl)) rfl), ini_14, by decide +kernel, by decide +kernel⟩
set_option maxRecDepth 100000 in
theorem mi_282 : Jvm.Cond.instanceMethod pm_282.2.1 ∈ gtb ∧ Jvm.Cond.selects pm_282.2.1.cls pm_282.2.1 pm_282.2.1 ∈ gtb := ⟨(gw (List.mem_append_right _ (List.mem_of_getElem? (i := 1539) rfl)) rfl), (gw (List.mem_append_right _ (List.mem_of_getElem? (i := 1540) rfl)) rfl)⟩
set_option maxRecDepth 100000 in
theorem ml_361 : MPr [15, 214, 1, 282, 3, 1, 9] := ⟨"OneAtATimeLaw", pm_282, ("OneAtATimeModel", kT9, 29), rfl, rfl, rfl, rfl, (gw (List.mem_append_right _ (List.mem_of_getElem? (i := 1538) rfl)) rfl), mi_282, mf_282, rfl, Nat.le_of_ble_eq_true rfl⟩
set_option maxRecDepth 100000 in
theorem mf_174 : MFr pm_174 1 := ⟨(gw (List.mem_append_right _ (List.mem_of_getElem? (i := 1007) rfl)) rfl), ini_0, by decide +kernel, by decide +kernel⟩
set_option maxRecDepth 100000 in
theorem mi_174 : Jvm.Cond.instanceMethod pm_174.2.1 ∈ gtb ∧ Jvm.Cond.selects pm_174.2.1.cls pm_174.2.1 pm_174.2.1 ∈ gtb := ⟨(gw (List.mem_append_right _ (List.mem_of_getElem? (i := 1005) rfl)) rfl), (gw (List.mem_append_right _ (List.mem_of_getElem? (i := 1006) rfl)) rfl)⟩
set_option maxRecDepth 100000 in
theorem ml_362 : MPr [15, 215, 1, 174, 2, 1, 8] := ⟨"OneAtATimeLaw", pm_174, ("OneAtATime", kT8, 9), rfl, rfl, rfl, rfl, (gw (List.mem_append_right _ (List.mem_of_getElem? (i := 1004) rfl)) rfl), mi_174, mf_174, rfl, Nat.le_of_ble_eq_true rfl⟩
set_option maxRecDepth 100000 in
theorem mf_285 : MFr pm_285 1 := ⟨(gw (List.mem_append_right _ (List.mem_of_getElem? (i := 1559) rfl)) rfl), ini_14, by decide +kernel, by decide +kernel⟩
set_option maxRecDepth 100000 in
theorem mi_285 : Jvm.Cond.instanceMethod pm_285.2.1 ∈ gtb ∧ Jvm.Cond.selects pm_285.2.1.cls pm_285.2.1 pm_285.2.1 ∈ gtb := ⟨(gw (List.mem_append_right _ (List.mem_of_getElem? (i := 1557) rfl)) rfl), (gw (List.mem_append_right _ (List.mem_of_getElem? (i := 1558) rfl)) rfl)⟩
set_option maxRecDepth 100000 in
theorem ml_363 : MPr [15, 218, 1, 285, 2, 1, 9] := ⟨"OneAtATimeLaw", pm_285, ("OneAtATimeModel", kT9, 29), rfl, rfl, rfl, rfl, (gw (List.mem_append_right _ (List.mem_of_getElem? (i := 1556) rfl)) rfl), mi_285, mf_285, rfl, Nat.le_of_ble_eq_true rfl⟩
set_option maxRecDepth 100000 in
theorem mt_ok : ∀ e ∈ mtL, MPr e := List.forall_mem_cons.mpr ⟨ml_0, List.forall_mem_cons.mpr ⟨ml_1, List.forall_mem_cons.mpr ⟨ml_2, List.forall_mem_cons.mpr ⟨ml_3, List.forall_mem_cons.mpr ⟨ml_4, List.forall_mem_cons.mpr ⟨ml_5, List.forall_mem_cons.mpr ⟨ml_6, List.forall_mem_cons.mpr ⟨ml_7, List.forall_mem_cons.mpr ⟨ml_8, List.forall_mem_cons.mpr ⟨ml_9, List.forall_mem_cons.mpr ⟨ml_10, List.forall_mem_cons.mpr ⟨ml_11, List.forall_mem_cons.mpr ⟨ml_12, List.forall_mem_cons.mpr ⟨ml_13, List.forall_mem_cons.mpr ⟨ml_14, List.forall_mem_cons.mpr ⟨ml_15, List.forall_mem_cons.mpr ⟨ml_16, List.forall_mem_cons.mpr ⟨ml_17, List.forall_mem_cons.mpr ⟨ml_18, List.forall_mem_cons.mpr ⟨ml_19, List.forall_mem_cons.mpr ⟨ml_20, List.forall_mem_cons.mpr ⟨ml_21, List.forall_mem_cons.mpr ⟨ml_22, List.forall_mem_cons.mpr ⟨ml_23, List.forall_mem_cons.mpr ⟨ml_24, List.forall_mem_cons.mpr ⟨ml_25, List.forall_mem_cons.mpr ⟨ml_26, List.forall_mem_cons.mpr ⟨ml_27, List.forall_mem_cons.mpr ⟨ml_28, List.forall_mem_cons.mpr ⟨ml_29, List.forall_mem_cons.mpr ⟨ml_30, List.forall_mem_cons.mpr ⟨ml_31, List.forall_mem_cons.mpr ⟨ml_32, List.forall_mem_cons.mpr ⟨ml_33, List.forall_mem_cons.mpr ⟨ml_34, List.forall_mem_cons.mpr ⟨ml_35, List.forall_mem_cons.mpr ⟨ml_36, List.forall_mem_cons.mpr ⟨ml_37, List.forall_mem_cons.mpr ⟨ml_38, List.forall_mem_cons.mpr ⟨ml_39, List.forall_mem_cons.mpr ⟨ml_40, List.forall_mem_cons.mpr ⟨ml_41, List.forall_mem_cons.mpr ⟨ml_42, List.forall_mem_cons.mpr ⟨ml_43, List.forall_mem_cons.mpr ⟨ml_44, List.forall_mem_cons.mpr ⟨ml_45, List.forall_mem_cons.mpr ⟨ml_46, List.forall_mem_cons.mpr ⟨ml_47, List.forall_mem_cons.mpr ⟨ml_48, List.forall_mem_cons.mpr ⟨ml_49, List.forall_mem_cons.mpr ⟨ml_50, List.forall_mem_cons.mpr ⟨ml_51, List.forall_mem_cons.mpr ⟨ml_52, List.forall_mem_cons.mpr ⟨ml_53, List.forall_mem_cons.mpr ⟨ml_54, List.forall_mem_cons.mpr ⟨ml_55, List.forall_mem_cons.mpr ⟨ml_56, List.forall_mem_cons.mpr ⟨ml_57, List.forall_mem_cons.mpr ⟨ml_58, List.forall_mem_cons.mpr ⟨ml_59, List.forall_mem_cons.mpr ⟨ml_60, List.forall_mem_cons.mpr ⟨ml_61, List.forall_mem_cons.mpr ⟨ml_62, List.forall_mem_cons.mpr ⟨ml_63, List.forall_mem_cons.mpr ⟨ml_64, List.forall_mem_cons.mpr ⟨ml_65, List.forall_mem_cons.mpr ⟨ml_66, List.forall_mem_cons.mpr ⟨ml_67, List.forall_mem_cons.mpr ⟨ml_68, List.forall_mem_cons.mpr ⟨ml_69, List.forall_mem_cons.mpr ⟨ml_70, List.forall_mem_cons.mpr ⟨ml_71, List.forall_mem_cons.mpr ⟨ml_72, List.forall_mem_cons.mpr ⟨ml_73, List.forall_mem_cons.mpr ⟨ml_74, List.forall_mem_cons.mpr ⟨ml_75, List.forall_mem_cons.mpr ⟨ml_76, List.forall_mem_cons.mpr ⟨ml_77, List.forall_mem_cons.mpr ⟨ml_78, List.forall_mem_cons.mpr ⟨ml_79, List.forall_mem_cons.mpr ⟨ml_80, List.forall_mem_cons.mpr ⟨ml_81, List.forall_mem_cons.mpr ⟨ml_82, List.forall_mem_cons.mpr ⟨ml_83, List.forall_mem_cons.mpr ⟨ml_84, List.forall_mem_cons.mpr ⟨ml_85, List.forall_mem_cons.mpr ⟨ml_86, List.forall_mem_cons.mpr ⟨ml_87, List.forall_mem_cons.mpr ⟨ml_88, List.forall_mem_cons.mpr ⟨ml_89, List.forall_mem_cons.mpr ⟨ml_90, List.forall_mem_cons.mpr ⟨ml_91, List.forall_mem_cons.mpr ⟨ml_92, List.forall_mem_cons.mpr ⟨ml_93, List.forall_mem_cons.mpr ⟨ml_94, List.forall_mem_cons.mpr ⟨ml_95, List.forall_mem_cons.mpr ⟨ml_96, List.forall_mem_cons.mpr ⟨ml_97, List.forall_mem_cons.mpr ⟨ml_98, List.forall_mem_cons.mpr ⟨ml_99, List.forall_mem_cons.mpr ⟨ml_100, List.forall_mem_cons.mpr ⟨ml_101, List.forall_mem_cons.mpr ⟨ml_102, List.forall_mem_cons.mpr ⟨ml_103, List.forall_mem_cons.mpr ⟨ml_104, List.forall_mem_cons.mpr ⟨ml_105, List.forall_mem_cons.mpr ⟨ml_106, List.forall_mem_cons.mpr ⟨ml_107, List.forall_mem_cons.mpr ⟨ml_108, List.forall_mem_cons.mpr ⟨ml_109, List.forall_mem_cons.mpr ⟨ml_110, List.forall_mem_cons.mpr ⟨ml_111, List.forall_mem_cons.mpr ⟨ml_112, List.forall_mem_cons.mpr ⟨ml_113, List.forall_mem_cons.mpr ⟨ml_114, List.forall_mem_cons.mpr ⟨ml_115, List.forall_mem_cons.mpr ⟨ml_116, List.forall_mem_cons.mpr ⟨ml_117, List.forall_mem_cons.mpr ⟨ml_118, List.forall_mem_cons.mpr ⟨ml_119, List.forall_mem_cons.mpr ⟨ml_120, List.forall_mem_cons.mpr ⟨ml_121, List.forall_mem_cons.mpr ⟨ml_122, List.forall_mem_cons.mpr ⟨ml_123, List.forall_mem_cons.mpr ⟨ml_124, List.forall_mem_cons.mpr ⟨ml_125, List.forall_mem_cons.mpr ⟨ml_126, List.forall_mem_cons.mpr ⟨ml_127, List.forall_mem_cons.mpr ⟨ml_128, List.forall_mem_cons.mpr ⟨ml_129, List.forall_mem_cons.mpr ⟨ml_130, List.forall_mem_cons.mpr ⟨ml_131, List.forall_mem_cons.mpr ⟨ml_132, List.forall_mem_cons.mpr ⟨ml_133, List.forall_mem_cons.mpr ⟨ml_134, List.forall_mem_cons.mpr ⟨ml_135, List.forall_mem_cons.mpr ⟨ml_136, List.forall_mem_cons.mpr ⟨ml_137, List.forall_mem_cons.mpr ⟨ml_138, List.forall_mem_cons.mpr ⟨ml_139, List.forall_mem_cons.mpr ⟨ml_140, List.forall_mem_cons.mpr ⟨ml_141, List.forall_mem_cons.mpr ⟨ml_142, List.forall_mem_cons.mpr ⟨ml_143, List.forall_mem_cons.mpr ⟨ml_144, List.forall_mem_cons.mpr ⟨ml_145, List.forall_mem_cons.mpr ⟨ml_146, List.forall_mem_cons.mpr ⟨ml_147, List.forall_mem_cons.mpr ⟨ml_148, List.forall_mem_cons.mpr ⟨ml_149, List.forall_mem_cons.mpr ⟨ml_150, List.forall_mem_cons.mpr ⟨ml_151, List.forall_mem_cons.mpr ⟨ml_152, List.forall_mem_cons.mpr ⟨ml_153, List.forall_mem_cons.mpr ⟨ml_154, List.forall_mem_cons.mpr ⟨ml_155, List.forall_mem_cons.mpr ⟨ml_156, List.forall_mem_cons.mpr ⟨ml_157, List.forall_mem_cons.mpr ⟨ml_158, List.forall_mem_cons.mpr ⟨ml_159, List.forall_mem_cons.mpr ⟨ml_160, List.forall_mem_cons.mpr ⟨ml_161, List.forall_mem_cons.mpr ⟨ml_162, List.forall_mem_cons.mpr ⟨ml_163, List.forall_mem_cons.mpr ⟨ml_164, List.forall_mem_cons.mpr ⟨ml_165, List.forall_mem_cons.mpr ⟨ml_166, List.forall_mem_cons.mpr ⟨ml_167, List.forall_mem_cons.mpr ⟨ml_168, List.forall_mem_cons.mpr ⟨ml_169, List.forall_mem_cons.mpr ⟨ml_170, List.forall_mem_cons.mpr ⟨ml_171, List.forall_mem_cons.mpr ⟨ml_172, List.forall_mem_cons.mpr ⟨ml_173, List.forall_mem_cons.mpr ⟨ml_174, List.forall_mem_cons.mpr ⟨ml_175, List.forall_mem_cons.mpr ⟨ml_176, List.forall_mem_cons.mpr ⟨ml_177, List.forall_mem_cons.mpr ⟨ml_178, List.forall_mem_cons.mpr ⟨ml_179, List.forall_mem_cons.mpr ⟨ml_180, List.forall_mem_cons.mpr ⟨ml_181, List.forall_mem_cons.mpr ⟨ml_182, List.forall_mem_cons.mpr ⟨ml_183, List.forall_mem_cons.mpr ⟨ml_184, List.forall_mem_cons.mpr ⟨ml_185, List.forall_mem_cons.mpr ⟨ml_186, List.forall_mem_cons.mpr ⟨ml_187, List.forall_mem_cons.mpr ⟨ml_188, List.forall_mem_cons.mpr ⟨ml_189, List.forall_mem_cons.mpr ⟨ml_190, List.forall_mem_cons.mpr ⟨ml_191, List.forall_mem_cons.mpr ⟨ml_192, List.forall_mem_cons.mpr ⟨ml_193, List.forall_mem_cons.mpr ⟨ml_194, List.forall_mem_cons.mpr ⟨ml_195, List.forall_mem_cons.mpr ⟨ml_196, List.forall_mem_cons.mpr ⟨ml_197, List.forall_mem_cons.mpr ⟨ml_198, List.forall_mem_cons.mpr ⟨ml_199, List.forall_mem_cons.mpr ⟨ml_200, List.forall_mem_cons.mpr ⟨ml_201, List.forall_mem_cons.mpr ⟨ml_202, List.forall_mem_cons.mpr ⟨ml_203, List.forall_mem_cons.mpr ⟨ml_204, List.forall_mem_cons.mpr ⟨ml_205, List.forall_mem_cons.mpr ⟨ml_206, List.forall_mem_cons.mpr ⟨ml_207, List.forall_mem_cons.mpr ⟨ml_208, List.forall_mem_cons.mpr ⟨ml_209, List.forall_mem_cons.mpr ⟨ml_210, List.forall_mem_cons.mpr ⟨ml_211, List.forall_mem_cons.mpr ⟨ml_212, List.forall_mem_cons.mpr ⟨ml_213, List.forall_mem_cons.mpr ⟨ml_214, List.forall_mem_cons.mpr ⟨ml_215, List.forall_mem_cons.mpr ⟨ml_216, List.forall_mem_cons.mpr ⟨ml_217, List.forall_mem_cons.mpr ⟨ml_218, List.forall_mem_cons.mpr ⟨ml_219, List.forall_mem_cons.mpr ⟨ml_220, List.forall_mem_cons.mpr ⟨ml_221, List.forall_mem_cons.mpr ⟨ml_222, List.forall_mem_cons.mpr ⟨ml_223, List.forall_mem_cons.mpr ⟨ml_224, List.forall_mem_cons.mpr ⟨ml_225, List.forall_mem_cons.mpr ⟨ml_226, List.forall_mem_cons.mpr ⟨ml_227, List.forall_mem_cons.mpr ⟨ml_228, List.forall_mem_cons.mpr ⟨ml_229, List.forall_mem_cons.mpr ⟨ml_230, List.forall_mem_cons.mpr ⟨ml_231, List.forall_mem_cons.mpr ⟨ml_232, List.forall_mem_cons.mpr ⟨ml_233, List.forall_mem_cons.mpr ⟨ml_234, List.forall_mem_cons.mpr ⟨ml_235, List.forall_mem_cons.mpr ⟨ml_236, List.forall_mem_cons.mpr ⟨ml_237, List.forall_mem_cons.mpr ⟨ml_238, List.forall_mem_cons.mpr ⟨ml_239, List.forall_mem_cons.mpr ⟨ml_240, List.forall_mem_cons.mpr ⟨ml_241, List.forall_mem_cons.mpr ⟨ml_242, List.forall_mem_cons.mpr ⟨ml_243, List.forall_mem_cons.mpr ⟨ml_244, List.forall_mem_cons.mpr ⟨ml_245, List.forall_mem_cons.mpr ⟨ml_246, List.forall_mem_cons.mpr ⟨ml_247, List.forall_mem_cons.mpr ⟨ml_248, List.forall_mem_cons.mpr ⟨ml_249, List.forall_mem_cons.mpr ⟨ml_250, List.forall_mem_cons.mpr ⟨ml_251, List.forall_mem_cons.mpr ⟨ml_252, List.forall_mem_cons.mpr ⟨ml_253, List.forall_mem_cons.mpr ⟨ml_254, List.forall_mem_cons.mpr ⟨ml_255, List.forall_mem_cons.mpr ⟨ml_256, List.forall_mem_cons.mpr ⟨ml_257, List.forall_mem_cons.mpr ⟨ml_258, List.forall_mem_cons.mpr ⟨ml_259, List.forall_mem_cons.mpr ⟨ml_260, List.forall_mem_cons.mpr ⟨ml_261, List.forall_mem_cons.mpr ⟨ml_262, List.forall_mem_cons.mpr ⟨ml_263, List.forall_mem_cons.mpr ⟨ml_264, List.forall_mem_cons.mpr ⟨ml_265, List.forall_mem_cons.mpr ⟨ml_266, List.forall_mem_cons.mpr ⟨ml_267, List.forall_mem_cons.mpr ⟨ml_268, List.forall_mem_cons.mpr ⟨ml_269, List.forall_mem_cons.mpr ⟨ml_270, List.forall_mem_cons.mpr ⟨ml_271, List.forall_mem_cons.mpr ⟨ml_272, List.forall_mem_cons.mpr ⟨ml_273, List.forall_mem_cons.mpr ⟨ml_274, List.forall_mem_cons.mpr ⟨ml_275, List.forall_mem_cons.mpr ⟨ml_276, List.forall_mem_cons.mpr ⟨ml_277, List.forall_mem_cons.mpr ⟨ml_278, List.forall_mem_cons.mpr ⟨ml_279, List.forall_mem_cons.mpr ⟨ml_280, List.forall_mem_cons.mpr ⟨ml_281, List.forall_mem_cons.mpr ⟨ml_282, List.forall_mem_cons.mpr ⟨ml_283, List.forall_mem_cons.mpr ⟨ml_284, List.forall_mem_cons.mpr ⟨ml_285, List.forall_mem_cons.mpr ⟨ml_286, List.forall_mem_cons.mpr ⟨ml_287, List.forall_mem_cons.mpr ⟨ml_288, List.forall_mem_cons.mpr ⟨ml_289, List.forall_mem_cons.mpr ⟨ml_290, List.forall_mem_cons.mpr ⟨ml_291, List.forall_mem_cons.mpr ⟨ml_292, List.forall_mem_cons.mpr ⟨ml_293, List.forall_mem_cons.mpr ⟨ml_294, List.forall_mem_cons.mpr ⟨ml_295, List.forall_mem_cons.mpr ⟨ml_296, List.forall_mem_cons.mpr ⟨ml_297, List.forall_mem_cons.mpr ⟨ml_298, List.forall_mem_cons.mpr ⟨ml_299, List.forall_mem_cons.mpr ⟨ml_300, List.forall_mem_cons.mpr ⟨ml_301, List.forall_mem_cons.mpr ⟨ml_302, List.forall_mem_cons.mpr ⟨ml_303, List.forall_mem_cons.mpr ⟨ml_304, List.forall_mem_cons.mpr ⟨ml_305, List.forall_mem_cons.mpr ⟨ml_306, List.forall_mem_cons.mpr ⟨ml_307, List.forall_mem_cons.mpr ⟨ml_308, List.forall_mem_cons.mpr ⟨ml_309, List.forall_mem_cons.mpr ⟨ml_310, List.forall_mem_cons.mpr ⟨ml_311, List.forall_mem_cons.mpr ⟨ml_312, List.forall_mem_cons.mpr ⟨ml_313, List.forall_mem_cons.mpr ⟨ml_314, List.forall_mem_cons.mpr ⟨ml_315, List.forall_mem_cons.mpr ⟨ml_316, List.forall_mem_cons.mpr ⟨ml_317, List.forall_mem_cons.mpr ⟨ml_318, List.forall_mem_cons.mpr ⟨ml_319, List.forall_mem_cons.mpr ⟨ml_320, List.forall_mem_cons.mpr ⟨ml_321, List.forall_mem_cons.mpr ⟨ml_322, List.forall_mem_cons.mpr ⟨ml_323, List.forall_mem_cons.mpr ⟨ml_324, List.forall_mem_cons.mpr ⟨ml_325, List.forall_mem_cons.mpr ⟨ml_326, List.forall_mem_cons.mpr ⟨ml_327, List.forall_mem_cons.mpr ⟨ml_328, List.forall_mem_cons.mpr ⟨ml_329, List.forall_mem_cons.mpr ⟨ml_330, List.forall_mem_cons.mpr ⟨ml_331, List.forall_mem_cons.mpr ⟨ml_332, List.forall_mem_cons.mpr ⟨ml_333, List.forall_mem_cons.mpr ⟨ml_334, List.forall_mem_cons.mpr ⟨ml_335, List.forall_mem_cons.mpr ⟨ml_336, List.forall_mem_cons.mpr ⟨ml_337, List.forall_mem_cons.mpr ⟨ml_338, List.forall_mem_cons.mpr ⟨ml_339, List.forall_mem_cons.mpr ⟨ml_340, List.forall_mem_cons.mpr ⟨ml_341, List.forall_mem_cons.mpr ⟨ml_342, List.forall_mem_cons.mpr ⟨ml_343, List.forall_mem_cons.mpr ⟨ml_344, List.forall_mem_cons.mpr ⟨ml_345, List.forall_mem_cons.mpr ⟨ml_346, List.forall_mem_cons.mpr ⟨ml_347, List.forall_mem_cons.mpr ⟨ml_348, List.forall_mem_cons.mpr ⟨ml_349, List.forall_mem_cons.mpr ⟨ml_350, List.forall_mem_cons.mpr ⟨ml_351, List.forall_mem_cons.mpr ⟨ml_352, List.forall_mem_cons.mpr ⟨ml_353, List.forall_mem_cons.mpr ⟨ml_354, List.forall_mem_cons.mpr ⟨ml_355, List.forall_mem_cons.mpr ⟨ml_356, List.forall_mem_cons.mpr ⟨ml_357, List.forall_mem_cons.mpr ⟨ml_358, List.forall_mem_cons.mpr ⟨ml_359, List.forall_mem_cons.mpr ⟨ml_360, List.forall_mem_cons.mpr ⟨ml_361, List.forall_mem_cons.mpr ⟨ml_362, List.forall_mem_cons.mpr ⟨ml_363, fun _ h => absurd h List.not_mem_nil⟩⟩⟩⟩⟩⟩⟩⟩⟩⟩⟩⟩⟩⟩⟩⟩⟩⟩⟩⟩⟩⟩⟩⟩⟩⟩⟩⟩⟩⟩⟩⟩⟩⟩⟩⟩⟩⟩⟩⟩⟩⟩⟩⟩⟩⟩⟩⟩⟩⟩⟩⟩⟩⟩⟩⟩⟩⟩⟩⟩⟩⟩⟩⟩⟩⟩⟩⟩⟩⟩⟩⟩⟩⟩⟩⟩⟩⟩⟩⟩⟩⟩⟩⟩⟩⟩⟩⟩⟩⟩⟩⟩⟩⟩⟩⟩⟩⟩⟩⟩⟩⟩⟩⟩⟩⟩⟩⟩⟩⟩⟩⟩⟩⟩⟩⟩⟩⟩⟩⟩⟩⟩⟩⟩⟩⟩⟩⟩⟩⟩⟩⟩⟩⟩⟩⟩⟩⟩⟩⟩⟩⟩⟩⟩⟩⟩⟩⟩⟩⟩⟩⟩⟩⟩⟩⟩⟩⟩⟩⟩⟩⟩⟩⟩⟩⟩⟩⟩⟩⟩⟩⟩⟩⟩⟩⟩⟩⟩⟩⟩⟩⟩⟩⟩⟩⟩⟩⟩⟩⟩⟩⟩⟩⟩⟩⟩⟩⟩⟩⟩⟩⟩⟩⟩⟩⟩⟩⟩⟩⟩⟩⟩⟩⟩⟩⟩⟩⟩⟩⟩⟩⟩⟩⟩⟩⟩⟩⟩⟩⟩⟩⟩⟩⟩⟩⟩⟩⟩⟩⟩⟩⟩⟩⟩⟩⟩⟩⟩⟩⟩⟩⟩⟩⟩⟩⟩⟩⟩⟩⟩⟩⟩⟩⟩⟩⟩⟩⟩⟩⟩⟩⟩⟩⟩⟩⟩⟩⟩⟩⟩⟩⟩⟩⟩⟩⟩⟩⟩⟩⟩⟩⟩⟩⟩⟩⟩⟩⟩⟩⟩⟩⟩⟩⟩⟩⟩⟩⟩⟩⟩⟩⟩⟩⟩⟩⟩⟩⟩⟩⟩⟩⟩⟩⟩⟩⟩⟩⟩⟩⟩⟩⟩⟩⟩⟩⟩⟩⟩⟩⟩⟩⟩⟩⟩⟩⟩⟩⟩⟩⟩⟩⟩⟩⟩⟩⟩⟩⟩⟩⟩⟩⟩⟩⟩
end
