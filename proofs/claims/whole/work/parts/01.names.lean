-- ===== PART A: goes FIRST, ahead of the names: the tables' words, and 'selects' of the private methods out of them =====
/-- a private method of a class that the tables say can be made, by its rows of tables_1 -/
def lw_okq (q : MethodName × Nat) : Prop := (q.1.cls ≠ "java/lang/invoke/MethodHandle" ∧ q.1.cls ≠ "java/lang/invoke/VarHandle") ∧ Cond.instantiable q.1.cls q.2 ∈ tables_1 ∧ Cond.privateMethod q.1 ∈ tables_1 ∧ Cond.instanceMethod q.1 ∈ tables_1
theorem lw_p0 : lw_okq (⟨"CatNeed", "isThing", "(I)Z"⟩, 12) := ⟨⟨by decide +kernel, by decide +kernel⟩, List.mem_of_getElem? (i := 19) (by decide +kernel), List.mem_of_getElem? (i := 553) (by decide +kernel), List.mem_of_getElem? (i := 554) (by decide +kernel)⟩
theorem lw_p1 : lw_okq (⟨"CatNeed", "isCat", "(I)Z"⟩, 12) := ⟨⟨by decide +kernel, by decide +kernel⟩, List.mem_of_getElem? (i := 19) (by decide +kernel), List.mem_of_getElem? (i := 573) (by decide +kernel), List.mem_of_getElem? (i := 574) (by decide +kernel)⟩
theorem lw_p2 : lw_okq (⟨"CatNeed", "isNeed", "(I)Z"⟩, 12) := ⟨⟨by decide +kernel, by decide +kernel⟩, List.mem_of_getElem? (i := 19) (by decide +kernel), List.mem_of_getElem? (i := 581) (by decide +kernel), List.mem_of_getElem? (i := 582) (by decide +kernel)⟩
theorem lw_p3 : lw_okq (⟨"CatNeed$State", "isDue", "(LCatNeed$Told;II)Z"⟩, 11) := ⟨⟨by decide +kernel, by decide +kernel⟩, List.mem_of_getElem? (i := 130) (by decide +kernel), List.mem_of_getElem? (i := 597) (by decide +kernel), List.mem_of_getElem? (i := 598) (by decide +kernel)⟩
theorem lw_p4 : lw_okq (⟨"CatNeed", "stands", "()Z"⟩, 12) := ⟨⟨by decide +kernel, by decide +kernel⟩, List.mem_of_getElem? (i := 19) (by decide +kernel), List.mem_of_getElem? (i := 614) (by decide +kernel), List.mem_of_getElem? (i := 615) (by decide +kernel)⟩
theorem lw_p5 : lw_okq (⟨"CatNeed", "inForce", "()LCatNeed$Rule;"⟩, 12) := ⟨⟨by decide +kernel, by decide +kernel⟩, List.mem_of_getElem? (i := 19) (by decide +kernel), List.mem_of_getElem? (i := 626) (by decide +kernel), List.mem_of_getElem? (i := 627) (by decide +kernel)⟩
theorem lw_p6 : lw_okq (⟨"CatNeed", "ruleBy", "(I)LCatNeed$Rule;"⟩, 12) := ⟨⟨by decide +kernel, by decide +kernel⟩, List.mem_of_getElem? (i := 19) (by decide +kernel), List.mem_of_getElem? (i := 630) (by decide +kernel), List.mem_of_getElem? (i := 631) (by decide +kernel)⟩
theorem lw_p7 : lw_okq (⟨"CatNeed$State", "foreseen", "(LCatNeed$Told;I)I"⟩, 11) := ⟨⟨by decide +kernel, by decide +kernel⟩, List.mem_of_getElem? (i := 130) (by decide +kernel), List.mem_of_getElem? (i := 638) (by decide +kernel), List.mem_of_getElem? (i := 639) (by decide +kernel)⟩
theorem lw_p8 : lw_okq (⟨"CatNeed$State", "favoured", "(LCatNeed$Told;ILCatNeed$Rule;)I"⟩, 11) := ⟨⟨by decide +kernel, by decide +kernel⟩, List.mem_of_getElem? (i := 130) (by decide +kernel), List.mem_of_getElem? (i := 642) (by decide +kernel), List.mem_of_getElem? (i := 643) (by decide +kernel)⟩
theorem lw_p9 : lw_okq (⟨"CatNeed$State", "goTowards", "(LCatNeed$Told;II)V"⟩, 11) := ⟨⟨by decide +kernel, by decide +kernel⟩, List.mem_of_getElem? (i := 130) (by decide +kernel), List.mem_of_getElem? (i := 678) (by decide +kernel), List.mem_of_getElem? (i := 679) (by decide +kernel)⟩
theorem lw_p10 : lw_okq (⟨"CatNeed$State", "settle", "(LCatNeed$Told;I)V"⟩, 11) := ⟨⟨by decide +kernel, by decide +kernel⟩, List.mem_of_getElem? (i := 130) (by decide +kernel), List.mem_of_getElem? (i := 683) (by decide +kernel), List.mem_of_getElem? (i := 684) (by decide +kernel)⟩
theorem lw_p11 : lw_okq (⟨"CatNeed", "goOn", "(ILCatNeed$Rule;)V"⟩, 12) := ⟨⟨by decide +kernel, by decide +kernel⟩, List.mem_of_getElem? (i := 19) (by decide +kernel), List.mem_of_getElem? (i := 716) (by decide +kernel), List.mem_of_getElem? (i := 717) (by decide +kernel)⟩
theorem lw_p12 : lw_okq (⟨"CatNeed", "worthMet", "(I)I"⟩, 12) := ⟨⟨by decide +kernel, by decide +kernel⟩, List.mem_of_getElem? (i := 19) (by decide +kernel), List.mem_of_getElem? (i := 737) (by decide +kernel), List.mem_of_getElem? (i := 738) (by decide +kernel)⟩
theorem lw_p13 : lw_okq (⟨"CatNeed", "losesNone", "(II)Z"⟩, 12) := ⟨⟨by decide +kernel, by decide +kernel⟩, List.mem_of_getElem? (i := 19) (by decide +kernel), List.mem_of_getElem? (i := 758) (by decide +kernel), List.mem_of_getElem? (i := 759) (by decide +kernel)⟩
theorem lw_p14 : lw_okq (⟨"CatNeed", "weigh", "(IIII)V"⟩, 12) := ⟨⟨by decide +kernel, by decide +kernel⟩, List.mem_of_getElem? (i := 19) (by decide +kernel), List.mem_of_getElem? (i := 766) (by decide +kernel), List.mem_of_getElem? (i := 767) (by decide +kernel)⟩
theorem lw_p15 : lw_okq (⟨"CatNeed", "isRest", "(I)Z"⟩, 12) := ⟨⟨by decide +kernel, by decide +kernel⟩, List.mem_of_getElem? (i := 19) (by decide +kernel), List.mem_of_getElem? (i := 777) (by decide +kernel), List.mem_of_getElem? (i := 778) (by decide +kernel)⟩
def lw_privs_1 : List (MethodName × Nat) := [(⟨"CatNeed", "isThing", "(I)Z"⟩, 12), (⟨"CatNeed", "isCat", "(I)Z"⟩, 12), (⟨"CatNeed", "isNeed", "(I)Z"⟩, 12), (⟨"CatNeed$State", "isDue", "(LCatNeed$Told;II)Z"⟩, 11), (⟨"CatNeed", "stands", "()Z"⟩, 12), (⟨"CatNeed", "inForce", "()LCatNeed$Rule;"⟩, 12), (⟨"CatNeed", "ruleBy", "(I)LCatNeed$Rule;"⟩, 12), (⟨"CatNeed$State", "foreseen", "(LCatNeed$Told;I)I"⟩, 11), (⟨"CatNeed$State", "favoured", "(LCatNeed$Told;ILCatNeed$Rule;)I"⟩, 11), (⟨"CatNeed$State", "goTowards", "(LCatNeed$Told;II)V"⟩, 11), (⟨"CatNeed$State", "settle", "(LCatNeed$Told;I)V"⟩, 11), (⟨"CatNeed", "goOn", "(ILCatNeed$Rule;)V"⟩, 12), (⟨"CatNeed", "worthMet", "(I)I"⟩, 12), (⟨"CatNeed", "losesNone", "(II)Z"⟩, 12), (⟨"CatNeed", "weigh", "(IIII)V"⟩, 12), (⟨"CatNeed", "isRest", "(I)Z"⟩, 12)]
theorem lw_r1 : ∀ q ∈ lw_privs_1, lw_okq q := List.forall_mem_cons.mpr ⟨lw_p0, List.forall_mem_cons.mpr ⟨lw_p1, List.forall_mem_cons.mpr ⟨lw_p2, List.forall_mem_cons.mpr ⟨lw_p3, List.forall_mem_cons.mpr ⟨lw_p4, List.forall_mem_cons.mpr ⟨lw_p5, List.forall_mem_cons.mpr ⟨lw_p6, List.forall_mem_cons.mpr ⟨lw_p7, List.forall_mem_cons.mpr ⟨lw_p8, List.forall_mem_cons.mpr ⟨lw_p9, List.forall_mem_cons.mpr ⟨lw_p10, List.forall_mem_cons.mpr ⟨lw_p11, List.forall_mem_cons.mpr ⟨lw_p12, List.forall_mem_cons.mpr ⟨lw_p13, List.forall_mem_cons.mpr ⟨lw_p14, List.forall_mem_cons.mpr ⟨lw_p15, fun _ h => absurd h List.not_mem_nil⟩⟩⟩⟩⟩⟩⟩⟩⟩⟩⟩⟩⟩⟩⟩⟩
theorem lw_p16 : lw_okq (⟨"CatNeed", "share", "(I)J"⟩, 12) := ⟨⟨by decide +kernel, by decide +kernel⟩, List.mem_of_getElem? (i := 19) (by decide +kernel), List.mem_of_getElem? (i := 797) (by decide +kernel), List.mem_of_getElem? (i := 798) (by decide +kernel)⟩
theorem lw_p17 : lw_okq (⟨"CatNeed", "notesHold", "(LCatNeed$Rule;)Z"⟩, 12) := ⟨⟨by decide +kernel, by decide +kernel⟩, List.mem_of_getElem? (i := 19) (by decide +kernel), List.mem_of_getElem? (i := 814) (by decide +kernel), List.mem_of_getElem? (i := 815) (by decide +kernel)⟩
theorem lw_p18 : lw_okq (⟨"CatNeed", "rulesThatHold", "()I"⟩, 12) := ⟨⟨by decide +kernel, by decide +kernel⟩, List.mem_of_getElem? (i := 19) (by decide +kernel), List.mem_of_getElem? (i := 831) (by decide +kernel), List.mem_of_getElem? (i := 832) (by decide +kernel)⟩
theorem lw_p19 : lw_okq (⟨"CatNeed", "countAlike", "(II)V"⟩, 12) := ⟨⟨by decide +kernel, by decide +kernel⟩, List.mem_of_getElem? (i := 19) (by decide +kernel), List.mem_of_getElem? (i := 839) (by decide +kernel), List.mem_of_getElem? (i := 840) (by decide +kernel)⟩
theorem lw_p20 : lw_okq (⟨"CatNeed", "mostAlike", "(I)I"⟩, 12) := ⟨⟨by decide +kernel, by decide +kernel⟩, List.mem_of_getElem? (i := 19) (by decide +kernel), List.mem_of_getElem? (i := 843) (by decide +kernel), List.mem_of_getElem? (i := 844) (by decide +kernel)⟩
theorem lw_p21 : lw_okq (⟨"CatNeedModel", "put", "(I)V"⟩, 66) := ⟨⟨by decide +kernel, by decide +kernel⟩, List.mem_of_getElem? (i := 876) (by decide +kernel), List.mem_of_getElem? (i := 1085) (by decide +kernel), List.mem_of_getElem? (i := 1086) (by decide +kernel)⟩
theorem lw_p22 : lw_okq (⟨"CatNeedModel", "readsAll", "()V"⟩, 66) := ⟨⟨by decide +kernel, by decide +kernel⟩, List.mem_of_getElem? (i := 876) (by decide +kernel), List.mem_of_getElem? (i := 1097) (by decide +kernel), List.mem_of_getElem? (i := 1098) (by decide +kernel)⟩
theorem lw_p23 : lw_okq (⟨"CatNeedModel", "starts", "()V"⟩, 66) := ⟨⟨by decide +kernel, by decide +kernel⟩, List.mem_of_getElem? (i := 876) (by decide +kernel), List.mem_of_getElem? (i := 1101) (by decide +kernel), List.mem_of_getElem? (i := 1102) (by decide +kernel)⟩
theorem lw_p24 : lw_okq (⟨"CatNeedModel", "roomClause", "(I)V"⟩, 66) := ⟨⟨by decide +kernel, by decide +kernel⟩, List.mem_of_getElem? (i := 876) (by decide +kernel), List.mem_of_getElem? (i := 1105) (by decide +kernel), List.mem_of_getElem? (i := 1106) (by decide +kernel)⟩
theorem lw_p25 : lw_okq (⟨"CatNeedModel", "blanks", "()V"⟩, 66) := ⟨⟨by decide +kernel, by decide +kernel⟩, List.mem_of_getElem? (i := 876) (by decide +kernel), List.mem_of_getElem? (i := 1109) (by decide +kernel), List.mem_of_getElem? (i := 1110) (by decide +kernel)⟩
theorem lw_p26 : lw_okq (⟨"CatNeedModel", "sign", "()I"⟩, 66) := ⟨⟨by decide +kernel, by decide +kernel⟩, List.mem_of_getElem? (i := 876) (by decide +kernel), List.mem_of_getElem? (i := 1113) (by decide +kernel), List.mem_of_getElem? (i := 1114) (by decide +kernel)⟩
theorem lw_p27 : lw_okq (⟨"CatNeedModel", "stood", "(Ljava/lang/String;)Z"⟩, 66) := ⟨⟨by decide +kernel, by decide +kernel⟩, List.mem_of_getElem? (i := 876) (by decide +kernel), List.mem_of_getElem? (i := 1124) (by decide +kernel), List.mem_of_getElem? (i := 1125) (by decide +kernel)⟩
theorem lw_p28 : lw_okq (⟨"CatNeedModel", "fails", "(II)V"⟩, 66) := ⟨⟨by decide +kernel, by decide +kernel⟩, List.mem_of_getElem? (i := 876) (by decide +kernel), List.mem_of_getElem? (i := 1130) (by decide +kernel), List.mem_of_getElem? (i := 1131) (by decide +kernel)⟩
theorem lw_p29 : lw_okq (⟨"CatNeedModel", "isFull", "(II)Z"⟩, 66) := ⟨⟨by decide +kernel, by decide +kernel⟩, List.mem_of_getElem? (i := 876) (by decide +kernel), List.mem_of_getElem? (i := 1134) (by decide +kernel), List.mem_of_getElem? (i := 1135) (by decide +kernel)⟩
theorem lw_p30 : lw_okq (⟨"CatNeedModel", "roomPart", "(I)V"⟩, 66) := ⟨⟨by decide +kernel, by decide +kernel⟩, List.mem_of_getElem? (i := 876) (by decide +kernel), List.mem_of_getElem? (i := 1138) (by decide +kernel), List.mem_of_getElem? (i := 1139) (by decide +kernel)⟩
theorem lw_p31 : lw_okq (⟨"CatNeedModel", "amount", "(II)I"⟩, 66) := ⟨⟨by decide +kernel, by decide +kernel⟩, List.mem_of_getElem? (i := 876) (by decide +kernel), List.mem_of_getElem? (i := 1142) (by decide +kernel), List.mem_of_getElem? (i := 1143) (by decide +kernel)⟩
def lw_privs_2 : List (MethodName × Nat) := [(⟨"CatNeed", "share", "(I)J"⟩, 12), (⟨"CatNeed", "notesHold", "(LCatNeed$Rule;)Z"⟩, 12), (⟨"CatNeed", "rulesThatHold", "()I"⟩, 12), (⟨"CatNeed", "countAlike", "(II)V"⟩, 12), (⟨"CatNeed", "mostAlike", "(I)I"⟩, 12), (⟨"CatNeedModel", "put", "(I)V"⟩, 66), (⟨"CatNeedModel", "readsAll", "()V"⟩, 66), (⟨"CatNeedModel", "starts", "()V"⟩, 66), (⟨"CatNeedModel", "roomClause", "(I)V"⟩, 66), (⟨"CatNeedModel", "blanks", "()V"⟩, 66), (⟨"CatNeedModel", "sign", "()I"⟩, 66), (⟨"CatNeedModel", "stood", "(Ljava/lang/String;)Z"⟩, 66), (⟨"CatNeedModel", "fails", "(II)V"⟩, 66), (⟨"CatNeedModel", "isFull", "(II)Z"⟩, 66), (⟨"CatNeedModel", "roomPart", "(I)V"⟩, 66), (⟨"CatNeedModel", "amount", "(II)I"⟩, 66)]
theorem lw_r2 : ∀ q ∈ lw_privs_2, lw_okq q := List.forall_mem_cons.mpr ⟨lw_p16, List.forall_mem_cons.mpr ⟨lw_p17, List.forall_mem_cons.mpr ⟨lw_p18, List.forall_mem_cons.mpr ⟨lw_p19, List.forall_mem_cons.mpr ⟨lw_p20, List.forall_mem_cons.mpr ⟨lw_p21, List.forall_mem_cons.mpr ⟨lw_p22, List.forall_mem_cons.mpr ⟨lw_p23, List.forall_mem_cons.mpr ⟨lw_p24, List.forall_mem_cons.mpr ⟨lw_p25, List.forall_mem_cons.mpr ⟨lw_p26, List.forall_mem_cons.mpr ⟨lw_p27, List.forall_mem_cons.mpr ⟨lw_p28, List.forall_mem_cons.mpr ⟨lw_p29, List.forall_mem_cons.mpr ⟨lw_p30, List.forall_mem_cons.mpr ⟨lw_p31, fun _ h => absurd h List.not_mem_nil⟩⟩⟩⟩⟩⟩⟩⟩⟩⟩⟩⟩⟩⟩⟩⟩
theorem lw_p32 : lw_okq (⟨"CatNeedModel", "digits", "(I)I"⟩, 66) := ⟨⟨by decide +kernel, by decide +kernel⟩, List.mem_of_getElem? (i := 876) (by decide +kernel), List.mem_of_getElem? (i := 1147) (by decide +kernel), List.mem_of_getElem? (i := 1148) (by decide +kernel)⟩
theorem lw_p33 : lw_okq (⟨"CatNeedModel", "isDigit", "()Z"⟩, 66) := ⟨⟨by decide +kernel, by decide +kernel⟩, List.mem_of_getElem? (i := 876) (by decide +kernel), List.mem_of_getElem? (i := 1151) (by decide +kernel), List.mem_of_getElem? (i := 1152) (by decide +kernel)⟩
theorem lw_p34 : lw_okq (⟨"CatNeedModel", "goesOn", "()Z"⟩, 66) := ⟨⟨by decide +kernel, by decide +kernel⟩, List.mem_of_getElem? (i := 876) (by decide +kernel), List.mem_of_getElem? (i := 1160) (by decide +kernel), List.mem_of_getElem? (i := 1161) (by decide +kernel)⟩
theorem lw_p35 : lw_okq (⟨"CatNeedModel", "begins", "()V"⟩, 66) := ⟨⟨by decide +kernel, by decide +kernel⟩, List.mem_of_getElem? (i := 876) (by decide +kernel), List.mem_of_getElem? (i := 1167) (by decide +kernel), List.mem_of_getElem? (i := 1168) (by decide +kernel)⟩
theorem lw_p36 : lw_okq (⟨"CatNeedModel", "ruleClause", "(I)V"⟩, 66) := ⟨⟨by decide +kernel, by decide +kernel⟩, List.mem_of_getElem? (i := 876) (by decide +kernel), List.mem_of_getElem? (i := 1175) (by decide +kernel), List.mem_of_getElem? (i := 1176) (by decide +kernel)⟩
theorem lw_p37 : lw_okq (⟨"CatNeedModel", "sum", "()V"⟩, 66) := ⟨⟨by decide +kernel, by decide +kernel⟩, List.mem_of_getElem? (i := 876) (by decide +kernel), List.mem_of_getElem? (i := 1180) (by decide +kernel), List.mem_of_getElem? (i := 1181) (by decide +kernel)⟩
theorem lw_p38 : lw_okq (⟨"CatNeedModel", "term", "()V"⟩, 66) := ⟨⟨by decide +kernel, by decide +kernel⟩, List.mem_of_getElem? (i := 876) (by decide +kernel), List.mem_of_getElem? (i := 1184) (by decide +kernel), List.mem_of_getElem? (i := 1185) (by decide +kernel)⟩
theorem lw_p39 : lw_okq (⟨"CatNeedModel", "value", "()V"⟩, 66) := ⟨⟨by decide +kernel, by decide +kernel⟩, List.mem_of_getElem? (i := 876) (by decide +kernel), List.mem_of_getElem? (i := 1188) (by decide +kernel), List.mem_of_getElem? (i := 1189) (by decide +kernel)⟩
theorem lw_p40 : lw_okq (⟨"CatNeedModel", "isCounted", "(I)V"⟩, 66) := ⟨⟨by decide +kernel, by decide +kernel⟩, List.mem_of_getElem? (i := 876) (by decide +kernel), List.mem_of_getElem? (i := 1192) (by decide +kernel), List.mem_of_getElem? (i := 1193) (by decide +kernel)⟩
theorem lw_p41 : lw_okq (⟨"CatNeedModel", "entry", "(II)V"⟩, 66) := ⟨⟨by decide +kernel, by decide +kernel⟩, List.mem_of_getElem? (i := 876) (by decide +kernel), List.mem_of_getElem? (i := 1196) (by decide +kernel), List.mem_of_getElem? (i := 1197) (by decide +kernel)⟩
theorem lw_p42 : lw_okq (⟨"CatNeedModel", "takes", "(Ljava/lang/String;)Z"⟩, 66) := ⟨⟨by decide +kernel, by decide +kernel⟩, List.mem_of_getElem? (i := 876) (by decide +kernel), List.mem_of_getElem? (i := 1213) (by decide +kernel), List.mem_of_getElem? (i := 1214) (by decide +kernel)⟩
theorem lw_p43 : lw_okq (⟨"CatNeedModel", "test", "()V"⟩, 66) := ⟨⟨by decide +kernel, by decide +kernel⟩, List.mem_of_getElem? (i := 876) (by decide +kernel), List.mem_of_getElem? (i := 1217) (by decide +kernel), List.mem_of_getElem? (i := 1218) (by decide +kernel)⟩
theorem lw_p44 : lw_okq (⟨"CatNeedModel", "fact", "()Z"⟩, 66) := ⟨⟨by decide +kernel, by decide +kernel⟩, List.mem_of_getElem? (i := 876) (by decide +kernel), List.mem_of_getElem? (i := 1221) (by decide +kernel), List.mem_of_getElem? (i := 1222) (by decide +kernel)⟩
theorem lw_p45 : lw_okq (⟨"CatNeedModel", "opens", "(I)V"⟩, 66) := ⟨⟨by decide +kernel, by decide +kernel⟩, List.mem_of_getElem? (i := 876) (by decide +kernel), List.mem_of_getElem? (i := 1226) (by decide +kernel), List.mem_of_getElem? (i := 1227) (by decide +kernel)⟩
theorem lw_p46 : lw_okq (⟨"CatNeedModel", "compared", "()V"⟩, 66) := ⟨⟨by decide +kernel, by decide +kernel⟩, List.mem_of_getElem? (i := 876) (by decide +kernel), List.mem_of_getElem? (i := 1230) (by decide +kernel), List.mem_of_getElem? (i := 1231) (by decide +kernel)⟩
theorem lw_p47 : lw_okq (⟨"CatNeedModel", "answers", "(I)V"⟩, 66) := ⟨⟨by decide +kernel, by decide +kernel⟩, List.mem_of_getElem? (i := 876) (by decide +kernel), List.mem_of_getElem? (i := 1234) (by decide +kernel), List.mem_of_getElem? (i := 1235) (by decide +kernel)⟩
def lw_privs_3 : List (MethodName × Nat) := [(⟨"CatNeedModel", "digits", "(I)I"⟩, 66), (⟨"CatNeedModel", "isDigit", "()Z"⟩, 66), (⟨"CatNeedModel", "goesOn", "()Z"⟩, 66), (⟨"CatNeedModel", "begins", "()V"⟩, 66), (⟨"CatNeedModel", "ruleClause", "(I)V"⟩, 66), (⟨"CatNeedModel", "sum", "()V"⟩, 66), (⟨"CatNeedModel", "term", "()V"⟩, 66), (⟨"CatNeedModel", "value", "()V"⟩, 66), (⟨"CatNeedModel", "isCounted", "(I)V"⟩, 66), (⟨"CatNeedModel", "entry", "(II)V"⟩, 66), (⟨"CatNeedModel", "takes", "(Ljava/lang/String;)Z"⟩, 66), (⟨"CatNeedModel", "test", "()V"⟩, 66), (⟨"CatNeedModel", "fact", "()Z"⟩, 66), (⟨"CatNeedModel", "opens", "(I)V"⟩, 66), (⟨"CatNeedModel", "compared", "()V"⟩, 66), (⟨"CatNeedModel", "answers", "(I)V"⟩, 66)]
theorem lw_r3 : ∀ q ∈ lw_privs_3, lw_okq q := List.forall_mem_cons.mpr ⟨lw_p32, List.forall_mem_cons.mpr ⟨lw_p33, List.forall_mem_cons.mpr ⟨lw_p34, List.forall_mem_cons.mpr ⟨lw_p35, List.forall_mem_cons.mpr ⟨lw_p36, List.forall_mem_cons.mpr ⟨lw_p37, List.forall_mem_cons.mpr ⟨lw_p38, List.forall_mem_cons.mpr ⟨lw_p39, List.forall_mem_cons.mpr ⟨lw_p40, List.forall_mem_cons.mpr ⟨lw_p41, List.forall_mem_cons.mpr ⟨lw_p42, List.forall_mem_cons.mpr ⟨lw_p43, List.forall_mem_cons.mpr ⟨lw_p44, List.forall_mem_cons.mpr ⟨lw_p45, List.forall_mem_cons.mpr ⟨lw_p46, List.forall_mem_cons.mpr ⟨lw_p47, fun _ h => absurd h List.not_mem_nil⟩⟩⟩⟩⟩⟩⟩⟩⟩⟩⟩⟩⟩⟩⟩⟩
theorem lw_p48 : lw_okq (⟨"CatNeedModel", "top", "()I"⟩, 66) := ⟨⟨by decide +kernel, by decide +kernel⟩, List.mem_of_getElem? (i := 876) (by decide +kernel), List.mem_of_getElem? (i := 1238) (by decide +kernel), List.mem_of_getElem? (i := 1239) (by decide +kernel)⟩
theorem lw_p49 : lw_okq (⟨"CatNeedModel", "isThing", "(I)Z"⟩, 66) := ⟨⟨by decide +kernel, by decide +kernel⟩, List.mem_of_getElem? (i := 876) (by decide +kernel), List.mem_of_getElem? (i := 1253) (by decide +kernel), List.mem_of_getElem? (i := 1254) (by decide +kernel)⟩
theorem lw_p50 : lw_okq (⟨"CatNeedModel", "metOf", "(I)I"⟩, 66) := ⟨⟨by decide +kernel, by decide +kernel⟩, List.mem_of_getElem? (i := 876) (by decide +kernel), List.mem_of_getElem? (i := 1257) (by decide +kernel), List.mem_of_getElem? (i := 1258) (by decide +kernel)⟩
theorem lw_p51 : lw_okq (⟨"CatNeedModel", "lostOf", "(I)I"⟩, 66) := ⟨⟨by decide +kernel, by decide +kernel⟩, List.mem_of_getElem? (i := 876) (by decide +kernel), List.mem_of_getElem? (i := 1261) (by decide +kernel), List.mem_of_getElem? (i := 1262) (by decide +kernel)⟩
theorem lw_p52 : lw_okq (⟨"CatNeedModel", "catsOn", "(I)I"⟩, 66) := ⟨⟨by decide +kernel, by decide +kernel⟩, List.mem_of_getElem? (i := 876) (by decide +kernel), List.mem_of_getElem? (i := 1265) (by decide +kernel), List.mem_of_getElem? (i := 1266) (by decide +kernel)⟩
theorem lw_p53 : lw_okq (⟨"CatNeedModel", "isCat", "(I)Z"⟩, 66) := ⟨⟨by decide +kernel, by decide +kernel⟩, List.mem_of_getElem? (i := 876) (by decide +kernel), List.mem_of_getElem? (i := 1273) (by decide +kernel), List.mem_of_getElem? (i := 1274) (by decide +kernel)⟩
theorem lw_p54 : lw_okq (⟨"CatNeedModel", "isNeed", "(I)Z"⟩, 66) := ⟨⟨by decide +kernel, by decide +kernel⟩, List.mem_of_getElem? (i := 876) (by decide +kernel), List.mem_of_getElem? (i := 1281) (by decide +kernel), List.mem_of_getElem? (i := 1282) (by decide +kernel)⟩
theorem lw_p55 : lw_okq (⟨"CatNeedModel", "movesAll", "(IZ)V"⟩, 66) := ⟨⟨by decide +kernel, by decide +kernel⟩, List.mem_of_getElem? (i := 876) (by decide +kernel), List.mem_of_getElem? (i := 1292) (by decide +kernel), List.mem_of_getElem? (i := 1293) (by decide +kernel)⟩
theorem lw_p56 : lw_okq (⟨"CatNeedModel", "moves", "(I)I"⟩, 66) := ⟨⟨by decide +kernel, by decide +kernel⟩, List.mem_of_getElem? (i := 876) (by decide +kernel), List.mem_of_getElem? (i := 1296) (by decide +kernel), List.mem_of_getElem? (i := 1297) (by decide +kernel)⟩
theorem lw_p57 : lw_okq (⟨"CatNeedModel", "movesRow", "([I)V"⟩, 66) := ⟨⟨by decide +kernel, by decide +kernel⟩, List.mem_of_getElem? (i := 876) (by decide +kernel), List.mem_of_getElem? (i := 1300) (by decide +kernel), List.mem_of_getElem? (i := 1301) (by decide +kernel)⟩
theorem lw_p58 : lw_okq (⟨"CatNeedModel", "isRoom", "()Z"⟩, 66) := ⟨⟨by decide +kernel, by decide +kernel⟩, List.mem_of_getElem? (i := 876) (by decide +kernel), List.mem_of_getElem? (i := 1308) (by decide +kernel), List.mem_of_getElem? (i := 1309) (by decide +kernel)⟩
theorem lw_p59 : lw_okq (⟨"CatNeedModel", "keepsAct", "()V"⟩, 66) := ⟨⟨by decide +kernel, by decide +kernel⟩, List.mem_of_getElem? (i := 876) (by decide +kernel), List.mem_of_getElem? (i := 1312) (by decide +kernel), List.mem_of_getElem? (i := 1313) (by decide +kernel)⟩
theorem lw_p60 : lw_okq (⟨"CatNeedModel", "goes", "()I"⟩, 66) := ⟨⟨by decide +kernel, by decide +kernel⟩, List.mem_of_getElem? (i := 876) (by decide +kernel), List.mem_of_getElem? (i := 1316) (by decide +kernel), List.mem_of_getElem? (i := 1317) (by decide +kernel)⟩
theorem lw_p61 : lw_okq (⟨"CatNeedModel", "choice", "(I)I"⟩, 66) := ⟨⟨by decide +kernel, by decide +kernel⟩, List.mem_of_getElem? (i := 876) (by decide +kernel), List.mem_of_getElem? (i := 1320) (by decide +kernel), List.mem_of_getElem? (i := 1321) (by decide +kernel)⟩
theorem lw_p62 : lw_okq (⟨"CatNeedModel", "isDue", "(II)Z"⟩, 66) := ⟨⟨by decide +kernel, by decide +kernel⟩, List.mem_of_getElem? (i := 876) (by decide +kernel), List.mem_of_getElem? (i := 1324) (by decide +kernel), List.mem_of_getElem? (i := 1325) (by decide +kernel)⟩
theorem lw_p63 : lw_okq (⟨"CatNeedModel", "likes", "(II)J"⟩, 66) := ⟨⟨by decide +kernel, by decide +kernel⟩, List.mem_of_getElem? (i := 876) (by decide +kernel), List.mem_of_getElem? (i := 1328) (by decide +kernel), List.mem_of_getElem? (i := 1329) (by decide +kernel)⟩
def lw_privs_4 : List (MethodName × Nat) := [(⟨"CatNeedModel", "top", "()I"⟩, 66), (⟨"CatNeedModel", "isThing", "(I)Z"⟩, 66), (⟨"CatNeedModel", "metOf", "(I)I"⟩, 66), (⟨"CatNeedModel", "lostOf", "(I)I"⟩, 66), (⟨"CatNeedModel", "catsOn", "(I)I"⟩, 66), (⟨"CatNeedModel", "isCat", "(I)Z"⟩, 66), (⟨"CatNeedModel", "isNeed", "(I)Z"⟩, 66), (⟨"CatNeedModel", "movesAll", "(IZ)V"⟩, 66), (⟨"CatNeedModel", "moves", "(I)I"⟩, 66), (⟨"CatNeedModel", "movesRow", "([I)V"⟩, 66), (⟨"CatNeedModel", "isRoom", "()Z"⟩, 66), (⟨"CatNeedModel", "keepsAct", "()V"⟩, 66), (⟨"CatNeedModel", "goes", "()I"⟩, 66), (⟨"CatNeedModel", "choice", "(I)I"⟩, 66), (⟨"CatNeedModel", "isDue", "(II)Z"⟩, 66), (⟨"CatNeedModel", "likes", "(II)J"⟩, 66)]
theorem lw_r4 : ∀ q ∈ lw_privs_4, lw_okq q := List.forall_mem_cons.mpr ⟨lw_p48, List.forall_mem_cons.mpr ⟨lw_p49, List.forall_mem_cons.mpr ⟨lw_p50, List.forall_mem_cons.mpr ⟨lw_p51, List.forall_mem_cons.mpr ⟨lw_p52, List.forall_mem_cons.mpr ⟨lw_p53, List.forall_mem_cons.mpr ⟨lw_p54, List.forall_mem_cons.mpr ⟨lw_p55, List.forall_mem_cons.mpr ⟨lw_p56, List.forall_mem_cons.mpr ⟨lw_p57, List.forall_mem_cons.mpr ⟨lw_p58, List.forall_mem_cons.mpr ⟨lw_p59, List.forall_mem_cons.mpr ⟨lw_p60, List.forall_mem_cons.mpr ⟨lw_p61, List.forall_mem_cons.mpr ⟨lw_p62, List.forall_mem_cons.mpr ⟨lw_p63, fun _ h => absurd h List.not_mem_nil⟩⟩⟩⟩⟩⟩⟩⟩⟩⟩⟩⟩⟩⟩⟩⟩
theorem lw_p64 : lw_okq (⟨"CatNeedModel", "dueIn", "(I)I"⟩, 66) := ⟨⟨by decide +kernel, by decide +kernel⟩, List.mem_of_getElem? (i := 876) (by decide +kernel), List.mem_of_getElem? (i := 1332) (by decide +kernel), List.mem_of_getElem? (i := 1333) (by decide +kernel)⟩
theorem lw_p65 : lw_okq (⟨"CatNeedModel", "wanted", "()J"⟩, 66) := ⟨⟨by decide +kernel, by decide +kernel⟩, List.mem_of_getElem? (i := 876) (by decide +kernel), List.mem_of_getElem? (i := 1339) (by decide +kernel), List.mem_of_getElem? (i := 1340) (by decide +kernel)⟩
theorem lw_p66 : lw_okq (⟨"CatNeedModel", "answer", "(III)J"⟩, 66) := ⟨⟨by decide +kernel, by decide +kernel⟩, List.mem_of_getElem? (i := 876) (by decide +kernel), List.mem_of_getElem? (i := 1343) (by decide +kernel), List.mem_of_getElem? (i := 1344) (by decide +kernel)⟩
theorem lw_p67 : lw_okq (⟨"CatNeedModel", "walks", "(II)V"⟩, 66) := ⟨⟨by decide +kernel, by decide +kernel⟩, List.mem_of_getElem? (i := 876) (by decide +kernel), List.mem_of_getElem? (i := 1353) (by decide +kernel), List.mem_of_getElem? (i := 1354) (by decide +kernel)⟩
theorem lw_p68 : lw_okq (⟨"CatNeedModel", "keepsAll", "()V"⟩, 66) := ⟨⟨by decide +kernel, by decide +kernel⟩, List.mem_of_getElem? (i := 876) (by decide +kernel), List.mem_of_getElem? (i := 1380) (by decide +kernel), List.mem_of_getElem? (i := 1381) (by decide +kernel)⟩
theorem lw_p69 : lw_okq (⟨"CatNeedModel", "carriesAll", "(IZ)V"⟩, 66) := ⟨⟨by decide +kernel, by decide +kernel⟩, List.mem_of_getElem? (i := 876) (by decide +kernel), List.mem_of_getElem? (i := 1384) (by decide +kernel), List.mem_of_getElem? (i := 1385) (by decide +kernel)⟩
theorem lw_p70 : lw_okq (⟨"CatNeedModel", "carryRow", "([I)V"⟩, 66) := ⟨⟨by decide +kernel, by decide +kernel⟩, List.mem_of_getElem? (i := 876) (by decide +kernel), List.mem_of_getElem? (i := 1388) (by decide +kernel), List.mem_of_getElem? (i := 1389) (by decide +kernel)⟩
theorem lw_p71 : lw_okq (⟨"CatNeedModel", "goFor", "(I)V"⟩, 66) := ⟨⟨by decide +kernel, by decide +kernel⟩, List.mem_of_getElem? (i := 876) (by decide +kernel), List.mem_of_getElem? (i := 1392) (by decide +kernel), List.mem_of_getElem? (i := 1393) (by decide +kernel)⟩
theorem lw_p72 : lw_okq (⟨"CatNeedModel", "sumOf", "([I)I"⟩, 66) := ⟨⟨by decide +kernel, by decide +kernel⟩, List.mem_of_getElem? (i := 876) (by decide +kernel), List.mem_of_getElem? (i := 1396) (by decide +kernel), List.mem_of_getElem? (i := 1397) (by decide +kernel)⟩
theorem lw_p73 : lw_okq (⟨"CatNeedModel", "laysBack", "()V"⟩, 66) := ⟨⟨by decide +kernel, by decide +kernel⟩, List.mem_of_getElem? (i := 876) (by decide +kernel), List.mem_of_getElem? (i := 1400) (by decide +kernel), List.mem_of_getElem? (i := 1401) (by decide +kernel)⟩
theorem lw_p74 : lw_okq (⟨"CatNeedModel", "worthMet", "(I)I"⟩, 66) := ⟨⟨by decide +kernel, by decide +kernel⟩, List.mem_of_getElem? (i := 876) (by decide +kernel), List.mem_of_getElem? (i := 1417) (by decide +kernel), List.mem_of_getElem? (i := 1418) (by decide +kernel)⟩
theorem lw_p75 : lw_okq (⟨"CatNeedModel", "isNoneLost", "(II)Z"⟩, 66) := ⟨⟨by decide +kernel, by decide +kernel⟩, List.mem_of_getElem? (i := 876) (by decide +kernel), List.mem_of_getElem? (i := 1430) (by decide +kernel), List.mem_of_getElem? (i := 1431) (by decide +kernel)⟩
theorem lw_p76 : lw_okq (⟨"CatNeedModel", "laysKnown", "(III)V"⟩, 66) := ⟨⟨by decide +kernel, by decide +kernel⟩, List.mem_of_getElem? (i := 876) (by decide +kernel), List.mem_of_getElem? (i := 1440) (by decide +kernel), List.mem_of_getElem? (i := 1441) (by decide +kernel)⟩
theorem lw_p77 : lw_okq (⟨"CatNeedModel", "earns", "(I)I"⟩, 66) := ⟨⟨by decide +kernel, by decide +kernel⟩, List.mem_of_getElem? (i := 876) (by decide +kernel), List.mem_of_getElem? (i := 1444) (by decide +kernel), List.mem_of_getElem? (i := 1445) (by decide +kernel)⟩
theorem lw_p78 : lw_okq (⟨"CatNeedModel", "isRest", "(I)Z"⟩, 66) := ⟨⟨by decide +kernel, by decide +kernel⟩, List.mem_of_getElem? (i := 876) (by decide +kernel), List.mem_of_getElem? (i := 1448) (by decide +kernel), List.mem_of_getElem? (i := 1449) (by decide +kernel)⟩
theorem lw_p79 : lw_okq (⟨"CatNeedModel", "laysAll", "()V"⟩, 66) := ⟨⟨by decide +kernel, by decide +kernel⟩, List.mem_of_getElem? (i := 876) (by decide +kernel), List.mem_of_getElem? (i := 1456) (by decide +kernel), List.mem_of_getElem? (i := 1457) (by decide +kernel)⟩
def lw_privs_5 : List (MethodName × Nat) := [(⟨"CatNeedModel", "dueIn", "(I)I"⟩, 66), (⟨"CatNeedModel", "wanted", "()J"⟩, 66), (⟨"CatNeedModel", "answer", "(III)J"⟩, 66), (⟨"CatNeedModel", "walks", "(II)V"⟩, 66), (⟨"CatNeedModel", "keepsAll", "()V"⟩, 66), (⟨"CatNeedModel", "carriesAll", "(IZ)V"⟩, 66), (⟨"CatNeedModel", "carryRow", "([I)V"⟩, 66), (⟨"CatNeedModel", "goFor", "(I)V"⟩, 66), (⟨"CatNeedModel", "sumOf", "([I)I"⟩, 66), (⟨"CatNeedModel", "laysBack", "()V"⟩, 66), (⟨"CatNeedModel", "worthMet", "(I)I"⟩, 66), (⟨"CatNeedModel", "isNoneLost", "(II)Z"⟩, 66), (⟨"CatNeedModel", "laysKnown", "(III)V"⟩, 66), (⟨"CatNeedModel", "earns", "(I)I"⟩, 66), (⟨"CatNeedModel", "isRest", "(I)Z"⟩, 66), (⟨"CatNeedModel", "laysAll", "()V"⟩, 66)]
theorem lw_r5 : ∀ q ∈ lw_privs_5, lw_okq q := List.forall_mem_cons.mpr ⟨lw_p64, List.forall_mem_cons.mpr ⟨lw_p65, List.forall_mem_cons.mpr ⟨lw_p66, List.forall_mem_cons.mpr ⟨lw_p67, List.forall_mem_cons.mpr ⟨lw_p68, List.forall_mem_cons.mpr ⟨lw_p69, List.forall_mem_cons.mpr ⟨lw_p70, List.forall_mem_cons.mpr ⟨lw_p71, List.forall_mem_cons.mpr ⟨lw_p72, List.forall_mem_cons.mpr ⟨lw_p73, List.forall_mem_cons.mpr ⟨lw_p74, List.forall_mem_cons.mpr ⟨lw_p75, List.forall_mem_cons.mpr ⟨lw_p76, List.forall_mem_cons.mpr ⟨lw_p77, List.forall_mem_cons.mpr ⟨lw_p78, List.forall_mem_cons.mpr ⟨lw_p79, fun _ h => absurd h List.not_mem_nil⟩⟩⟩⟩⟩⟩⟩⟩⟩⟩⟩⟩⟩⟩⟩⟩
theorem lw_p80 : lw_okq (⟨"CatNeedModel", "isAlike", "(II)Z"⟩, 66) := ⟨⟨by decide +kernel, by decide +kernel⟩, List.mem_of_getElem? (i := 876) (by decide +kernel), List.mem_of_getElem? (i := 1460) (by decide +kernel), List.mem_of_getElem? (i := 1461) (by decide +kernel)⟩
theorem lw_p81 : lw_okq (⟨"CatNeedModel", "worthOf", "(I)J"⟩, 66) := ⟨⟨by decide +kernel, by decide +kernel⟩, List.mem_of_getElem? (i := 876) (by decide +kernel), List.mem_of_getElem? (i := 1469) (by decide +kernel), List.mem_of_getElem? (i := 1470) (by decide +kernel)⟩
theorem lw_p82 : lw_okq (⟨"CatNeedModel", "couldRule", "(I)Z"⟩, 66) := ⟨⟨by decide +kernel, by decide +kernel⟩, List.mem_of_getElem? (i := 876) (by decide +kernel), List.mem_of_getElem? (i := 1481) (by decide +kernel), List.mem_of_getElem? (i := 1482) (by decide +kernel)⟩
theorem lw_p83 : lw_okq (⟨"CatNeedModel", "doNotesFit", "()Z"⟩, 66) := ⟨⟨by decide +kernel, by decide +kernel⟩, List.mem_of_getElem? (i := 876) (by decide +kernel), List.mem_of_getElem? (i := 1485) (by decide +kernel), List.mem_of_getElem? (i := 1486) (by decide +kernel)⟩
theorem lw_p84 : lw_okq (⟨"CatNeedModel", "mostAlike", "(II)I"⟩, 66) := ⟨⟨by decide +kernel, by decide +kernel⟩, List.mem_of_getElem? (i := 876) (by decide +kernel), List.mem_of_getElem? (i := 1497) (by decide +kernel), List.mem_of_getElem? (i := 1498) (by decide +kernel)⟩
theorem lw_p85 : lw_okq (⟨"CatNeedModel", "draws", "(I)I"⟩, 66) := ⟨⟨by decide +kernel, by decide +kernel⟩, List.mem_of_getElem? (i := 876) (by decide +kernel), List.mem_of_getElem? (i := 1510) (by decide +kernel), List.mem_of_getElem? (i := 1511) (by decide +kernel)⟩
theorem lw_p86 : lw_okq (⟨"CatNeedModel", "allDue", "()I"⟩, 66) := ⟨⟨by decide +kernel, by decide +kernel⟩, List.mem_of_getElem? (i := 876) (by decide +kernel), List.mem_of_getElem? (i := 1522) (by decide +kernel), List.mem_of_getElem? (i := 1523) (by decide +kernel)⟩
def lw_privs_6 : List (MethodName × Nat) := [(⟨"CatNeedModel", "isAlike", "(II)Z"⟩, 66), (⟨"CatNeedModel", "worthOf", "(I)J"⟩, 66), (⟨"CatNeedModel", "couldRule", "(I)Z"⟩, 66), (⟨"CatNeedModel", "doNotesFit", "()Z"⟩, 66), (⟨"CatNeedModel", "mostAlike", "(II)I"⟩, 66), (⟨"CatNeedModel", "draws", "(I)I"⟩, 66), (⟨"CatNeedModel", "allDue", "()I"⟩, 66)]
theorem lw_r6 : ∀ q ∈ lw_privs_6, lw_okq q := List.forall_mem_cons.mpr ⟨lw_p80, List.forall_mem_cons.mpr ⟨lw_p81, List.forall_mem_cons.mpr ⟨lw_p82, List.forall_mem_cons.mpr ⟨lw_p83, List.forall_mem_cons.mpr ⟨lw_p84, List.forall_mem_cons.mpr ⟨lw_p85, List.forall_mem_cons.mpr ⟨lw_p86, fun _ h => absurd h List.not_mem_nil⟩⟩⟩⟩⟩⟩⟩
def lw_privs : List (MethodName × Nat) := lw_privs_1 ++ (lw_privs_2 ++ (lw_privs_3 ++ (lw_privs_4 ++ (lw_privs_5 ++ (lw_privs_6)))))
def lw_tbl : List Cond := k2_sels lw_privs ++ tables_1
theorem lw_privs_ok : ∀ q ∈ lw_privs, lw_okq q := by
  show ∀ q ∈ lw_privs_1 ++ (lw_privs_2 ++ (lw_privs_3 ++ (lw_privs_4 ++ (lw_privs_5 ++ (lw_privs_6))))), lw_okq q
  exact List.forall_mem_append.mpr ⟨lw_r1, List.forall_mem_append.mpr ⟨lw_r2, List.forall_mem_append.mpr ⟨lw_r3, List.forall_mem_append.mpr ⟨lw_r4, List.forall_mem_append.mpr ⟨lw_r5, lw_r6⟩⟩⟩⟩⟩
def RX0 : String := "CatNeed$RoomReader"
def TX0 : u_T := fun k => match k with
  | _ => ("", "", "", false)
def tyX0 : Nat → FieldType := fun k => match k with
  | _ => .int
abbrev wsX00 : List Cond := u_ws RX0 TX0 0
theorem nmX0 : ∀ a, a < 0 → ∀ b, b < 0 → a ≠ b → (TX0 a).2.1 ≠ (TX0 b).2.1 := by decide +kernel
theorem tyX0_ok : ∀ k, k < 0 → parseFieldDescriptor (TX0 k).2.2.1 = some (tyX0 k) := by decide +kernel
abbrev cX0_read : ByteArray := prog_2_method_2_code
def yX0_read : MethodName := ⟨RX0, "read", "(LCatNeed$Tape;LCatNeed$Told;)Z"⟩
abbrev cX0_mayCome : ByteArray := prog_2_method_3_code
def yX0_mayCome : MethodName := ⟨RX0, "mayCome", "(LCatNeed$Told;I)Z"⟩
abbrev cX0_readClause : ByteArray := prog_2_method_4_code
def yX0_readClause : MethodName := ⟨RX0, "readClause", "(LCatNeed$Tape;LCatNeed$Told;I)V"⟩
def RX1 : String := "CatNeed$Rule"
def TX1 : u_T := fun k => match k with
  | 0 => ("CatNeed$Rule", "code", "[I", true)
  | 1 => ("CatNeed$Rule", "stack", "[J", true)
  | 2 => ("CatNeed$Rule", "size", "I", false)
  | _ => ("CatNeed$Rule", "tally", "I", false)
def tyX1 : Nat → FieldType := fun k => match k with
  | 0 => .array .int
  | 1 => .array .long
  | 2 => .int
  | _ => .int
abbrev wsX10 : List Cond := u_ws RX1 TX1 4
theorem nmX1 : ∀ a, a < 4 → ∀ b, b < 4 → a ≠ b → (TX1 a).2.1 ≠ (TX1 b).2.1 := by decide +kernel
theorem tyX1_ok : ∀ k, k < 4 → parseFieldDescriptor (TX1 k).2.2.1 = some (tyX1 k) := by decide +kernel
abbrev cX1_init : ByteArray := prog_3_method_1_code
def yX1_init : MethodName := ⟨RX1, "<init>", "()V"⟩
abbrev cX1_clear : ByteArray := prog_3_method_2_code
def yX1_clear : MethodName := ⟨RX1, "clear", "()V"⟩
abbrev cX1_add : ByteArray := prog_3_method_3_code
def yX1_add : MethodName := ⟨RX1, "add", "(I)V"⟩
abbrev cX1_valueFor : ByteArray := prog_3_method_4_code
def yX1_valueFor : MethodName := ⟨RX1, "valueFor", "(LCatNeed$Told;LCatNeed$State;II)J"⟩
abbrev cX1_joined : ByteArray := prog_3_method_5_code
def yX1_joined : MethodName := ⟨RX1, "joined", "(IJJ)J"⟩
def RX2 : String := "CatNeed$RuleReader"
def TX2 : u_T := fun k => match k with
  | _ => ("", "", "", false)
def tyX2 : Nat → FieldType := fun k => match k with
  | _ => .int
abbrev wsX20 : List Cond := u_ws RX2 TX2 0
theorem nmX2 : ∀ a, a < 0 → ∀ b, b < 0 → a ≠ b → (TX2 a).2.1 ≠ (TX2 b).2.1 := by decide +kernel
theorem tyX2_ok : ∀ k, k < 0 → parseFieldDescriptor (TX2 k).2.2.1 = some (tyX2 k) := by decide +kernel
abbrev cX2_read : ByteArray := prog_4_method_2_code
def yX2_read : MethodName := ⟨RX2, "read", "(LCatNeed$Tape;LCatNeed$Rule;)Z"⟩
abbrev cX2_readTest : ByteArray := prog_4_method_3_code
def yX2_readTest : MethodName := ⟨RX2, "readTest", "(LCatNeed$Tape;LCatNeed$Rule;I)V"⟩
abbrev cX2_readFact : ByteArray := prog_4_method_4_code
def yX2_readFact : MethodName := ⟨RX2, "readFact", "(LCatNeed$Tape;LCatNeed$Rule;I)V"⟩
abbrev cX2_readComparison : ByteArray := prog_4_method_5_code
def yX2_readComparison : MethodName := ⟨RX2, "readComparison", "(LCatNeed$Tape;LCatNeed$Rule;)I"⟩
abbrev cX2_readSum : ByteArray := prog_4_method_6_code
def yX2_readSum : MethodName := ⟨RX2, "readSum", "(LCatNeed$Tape;LCatNeed$Rule;)V"⟩
abbrev cX2_readValue : ByteArray := prog_4_method_7_code
def yX2_readValue : MethodName := ⟨RX2, "readValue", "(LCatNeed$Tape;LCatNeed$Rule;)V"⟩
abbrev cX2_tallyOne : ByteArray := prog_4_method_8_code
def yX2_tallyOne : MethodName := ⟨RX2, "tallyOne", "(LCatNeed$Tape;LCatNeed$Rule;I)V"⟩
def RX3 : String := "CatNeed$State"
def TX3 : u_T := fun k => match k with
  | 0 => ("CatNeed$State", "minute", "I", false)
  | 1 => ("CatNeed$State", "thingPlace", "[I", true)
  | 2 => ("CatNeed$State", "catPlace", "[I", true)
  | 3 => ("CatNeed$State", "catOn", "[I", true)
  | 4 => ("CatNeed$State", "knows", "[I", true)
  | 5 => ("CatNeed$State", "struck", "I", false)
  | 6 => ("CatNeed$State", "met", "[I", true)
  | 7 => ("CatNeed$State", "lost", "[I", true)
  | 8 => ("CatNeed$State", "away", "I", false)
  | 9 => ("CatNeed$State", "metNow", "I", false)
  | _ => ("CatNeed$State", "lostNow", "I", false)
def tyX3 : Nat → FieldType := fun k => match k with
  | 0 => .int
  | 1 => .array .int
  | 2 => .array .int
  | 3 => .array .int
  | 4 => .array .int
  | 5 => .int
  | 6 => .array .int
  | 7 => .array .int
  | 8 => .int
  | 9 => .int
  | _ => .int
abbrev wsX30 : List Cond := u_ws RX3 TX3 11
theorem nmX3 : ∀ a, a < 11 → ∀ b, b < 11 → a ≠ b → (TX3 a).2.1 ≠ (TX3 b).2.1 := by decide +kernel
theorem tyX3_ok : ∀ k, k < 11 → parseFieldDescriptor (TX3 k).2.2.1 = some (tyX3 k) := by decide +kernel
abbrev cX3_init : ByteArray := prog_5_method_1_code
def yX3_init : MethodName := ⟨RX3, "<init>", "()V"⟩
abbrev cX3_begin : ByteArray := prog_5_method_2_code
def yX3_begin : MethodName := ⟨RX3, "begin", "(LCatNeed$Told;)V"⟩
abbrev cX3_copyFrom : ByteArray := prog_5_method_3_code
def yX3_copyFrom : MethodName := ⟨RX3, "copyFrom", "(LCatNeed$State;)V"⟩
abbrev cX3_pass : ByteArray := prog_5_method_4_code
def yX3_pass : MethodName := ⟨RX3, "pass", "(LCatNeed$Told;LCatNeed$Rule;)V"⟩
abbrev cX3_foreseen : ByteArray := prog_5_method_5_code
def yX3_foreseen : MethodName := ⟨RX3, "foreseen", "(LCatNeed$Told;I)I"⟩
abbrev cX3_favoured : ByteArray := prog_5_method_6_code
def yX3_favoured : MethodName := ⟨RX3, "favoured", "(LCatNeed$Told;ILCatNeed$Rule;)I"⟩
abbrev cX3_goTowards : ByteArray := prog_5_method_7_code
def yX3_goTowards : MethodName := ⟨RX3, "goTowards", "(LCatNeed$Told;II)V"⟩
abbrev cX3_settle : ByteArray := prog_5_method_8_code
def yX3_settle : MethodName := ⟨RX3, "settle", "(LCatNeed$Told;I)V"⟩
abbrev cX3_isStruck : ByteArray := prog_5_method_9_code
def yX3_isStruck : MethodName := ⟨RX3, "isStruck", "(I)Z"⟩
abbrev cX3_isDue : ByteArray := prog_5_method_10_code
def yX3_isDue : MethodName := ⟨RX3, "isDue", "(LCatNeed$Told;II)Z"⟩
abbrev cX3_dueNow : ByteArray := prog_5_method_11_code
def yX3_dueNow : MethodName := ⟨RX3, "dueNow", "(LCatNeed$Told;)I"⟩
abbrev cX3_dueIn : ByteArray := prog_5_method_12_code
def yX3_dueIn : MethodName := ⟨RX3, "dueIn", "(LCatNeed$Told;I)I"⟩
abbrev cX3_needsRound : ByteArray := prog_5_method_13_code
def yX3_needsRound : MethodName := ⟨RX3, "needsRound", "(LCatNeed$Told;I)Z"⟩
abbrev cX3_catsOn : ByteArray := prog_5_method_14_code
def yX3_catsOn : MethodName := ⟨RX3, "catsOn", "(LCatNeed$Told;I)I"⟩
abbrev cX3_catsAsNumber : ByteArray := prog_5_method_15_code
def yX3_catsAsNumber : MethodName := ⟨RX3, "catsAsNumber", "(LCatNeed$Told;)I"⟩
abbrev cX3_metOf : ByteArray := prog_5_method_16_code
def yX3_metOf : MethodName := ⟨RX3, "metOf", "(LCatNeed$Told;I)I"⟩
abbrev cX3_lostOf : ByteArray := prog_5_method_17_code
def yX3_lostOf : MethodName := ⟨RX3, "lostOf", "(LCatNeed$Told;I)I"⟩
abbrev cX3_metInAll : ByteArray := prog_5_method_18_code
def yX3_metInAll : MethodName := ⟨RX3, "metInAll", "(LCatNeed$Told;)I"⟩
abbrev cX3_lostInAll : ByteArray := prog_5_method_19_code
def yX3_lostInAll : MethodName := ⟨RX3, "lostInAll", "(LCatNeed$Told;)I"⟩
abbrev cX3_gain : ByteArray := prog_5_method_20_code
def yX3_gain : MethodName := ⟨RX3, "gain", "(LCatNeed$Told;I)I"⟩
abbrev cX3_sendAway : ByteArray := prog_5_method_21_code
def yX3_sendAway : MethodName := ⟨RX3, "sendAway", "(I)V"⟩
abbrev cX3_shift : ByteArray := prog_5_method_22_code
def yX3_shift : MethodName := ⟨RX3, "shift", "(LCatNeed$Told;II)V"⟩
abbrev cX3_wordValue : ByteArray := prog_5_method_23_code
def yX3_wordValue : MethodName := ⟨RX3, "wordValue", "(LCatNeed$Told;III)J"⟩
def RX4 : String := "CatNeed$Tape"
def TX4 : u_T := fun k => match k with
  | 0 => ("CatNeed$Tape", "signs", "[I", true)
  | 1 => ("CatNeed$Tape", "size", "I", false)
  | 2 => ("CatNeed$Tape", "at", "I", false)
  | _ => ("CatNeed$Tape", "fault", "I", false)
def tyX4 : Nat → FieldType := fun k => match k with
  | 0 => .array .int
  | 1 => .int
  | 2 => .int
  | _ => .int
abbrev wsX40 : List Cond := u_ws RX4 TX4 4
theorem nmX4 : ∀ a, a < 4 → ∀ b, b < 4 → a ≠ b → (TX4 a).2.1 ≠ (TX4 b).2.1 := by decide +kernel
theorem tyX4_ok : ∀ k, k < 4 → parseFieldDescriptor (TX4 k).2.2.1 = some (tyX4 k) := by decide +kernel
abbrev cX4_init : ByteArray := prog_6_method_1_code
def yX4_init : MethodName := ⟨RX4, "<init>", "()V"⟩
abbrev cX4_put : ByteArray := prog_6_method_2_code
def yX4_put : MethodName := ⟨RX4, "put", "(I)V"⟩
abbrev cX4_rewind : ByteArray := prog_6_method_3_code
def yX4_rewind : MethodName := ⟨RX4, "rewind", "()V"⟩
abbrev cX4_fail : ByteArray := prog_6_method_4_code
def yX4_fail : MethodName := ⟨RX4, "fail", "(II)V"⟩
abbrev cX4_skipBlanks : ByteArray := prog_6_method_5_code
def yX4_skipBlanks : MethodName := ⟨RX4, "skipBlanks", "()V"⟩
abbrev cX4_takeSign : ByteArray := prog_6_method_6_code
def yX4_takeSign : MethodName := ⟨RX4, "takeSign", "(Ljava/lang/String;)I"⟩
abbrev cX4_takeNext : ByteArray := prog_6_method_7_code
def yX4_takeNext : MethodName := ⟨RX4, "takeNext", "(C)Z"⟩
abbrev cX4_takeWord : ByteArray := prog_6_method_8_code
def yX4_takeWord : MethodName := ⟨RX4, "takeWord", "(Ljava/lang/String;)I"⟩
abbrev cX4_digitNext : ByteArray := prog_6_method_9_code
def yX4_digitNext : MethodName := ⟨RX4, "digitNext", "()Z"⟩
abbrev cX4_takeNumber : ByteArray := prog_6_method_10_code
def yX4_takeNumber : MethodName := ⟨RX4, "takeNumber", "(II)I"⟩
abbrev cX4_takeSemicolon : ByteArray := prog_6_method_11_code
def yX4_takeSemicolon : MethodName := ⟨RX4, "takeSemicolon", "()Z"⟩
def RX5 : String := "CatNeed$Told"
def TX5 : u_T := fun k => match k with
  | 0 => ("CatNeed$Told", "length", "I", false)
  | 1 => ("CatNeed$Told", "things", "I", false)
  | 2 => ("CatNeed$Told", "cats", "I", false)
  | 3 => ("CatNeed$Told", "needs", "I", false)
  | 4 => ("CatNeed$Told", "thingPlace", "[I", true)
  | 5 => ("CatNeed$Told", "worth", "[I", true)
  | 6 => ("CatNeed$Told", "catPlace", "[I", true)
  | 7 => ("CatNeed$Told", "pace", "[I", true)
  | 8 => ("CatNeed$Told", "knows", "[I", true)
  | 9 => ("CatNeed$Told", "needThing", "[I", true)
  | 10 => ("CatNeed$Told", "every", "[I", true)
  | _ => ("CatNeed$Told", "at", "[I", true)
def tyX5 : Nat → FieldType := fun k => match k with
  | 0 => .int
  | 1 => .int
  | 2 => .int
  | 3 => .int
  | 4 => .array .int
  | 5 => .array .int
  | 6 => .array .int
  | 7 => .array .int
  | 8 => .array .int
  | 9 => .array .int
  | 10 => .array .int
  | _ => .array .int
abbrev wsX50 : List Cond := u_ws RX5 TX5 12
theorem nmX5 : ∀ a, a < 12 → ∀ b, b < 12 → a ≠ b → (TX5 a).2.1 ≠ (TX5 b).2.1 := by decide +kernel
theorem tyX5_ok : ∀ k, k < 12 → parseFieldDescriptor (TX5 k).2.2.1 = some (tyX5 k) := by decide +kernel
abbrev cX5_init : ByteArray := prog_7_method_1_code
def yX5_init : MethodName := ⟨RX5, "<init>", "()V"⟩
abbrev cX5_clear : ByteArray := prog_7_method_2_code
def yX5_clear : MethodName := ⟨RX5, "clear", "()V"⟩
abbrev cX5_addThing : ByteArray := prog_7_method_3_code
def yX5_addThing : MethodName := ⟨RX5, "addThing", "(II)V"⟩
abbrev cX5_addCat : ByteArray := prog_7_method_4_code
def yX5_addCat : MethodName := ⟨RX5, "addCat", "(III)V"⟩
abbrev cX5_addNeed : ByteArray := prog_7_method_5_code
def yX5_addNeed : MethodName := ⟨RX5, "addNeed", "(III)V"⟩
abbrev cX5_copyFrom : ByteArray := prog_7_method_6_code
def yX5_copyFrom : MethodName := ⟨RX5, "copyFrom", "(LCatNeed$Told;)V"⟩
abbrev cX5_worthOfNeeds : ByteArray := prog_7_method_7_code
def yX5_worthOfNeeds : MethodName := ⟨RX5, "worthOfNeeds", "(I)I"⟩
def RX6 : String := "CatNeed$Whole"
def TX6 : u_T := fun k => match k with
  | 0 => ("CatNeed$Whole", "told", "LCatNeed$Told;", true)
  | 1 => ("CatNeed$Whole", "now", "LCatNeed$State;", true)
  | 2 => ("CatNeed$Whole", "past", "[LCatNeed$State;", true)
  | 3 => ("CatNeed$Whole", "acts", "I", false)
  | 4 => ("CatNeed$Whole", "noteMinute", "[I", true)
  | 5 => ("CatNeed$Whole", "noteCat", "[I", true)
  | 6 => ("CatNeed$Whole", "noteThing", "[I", true)
  | 7 => ("CatNeed$Whole", "notes", "I", false)
  | 8 => ("CatNeed$Whole", "force", "I", false)
  | _ => ("CatNeed$Whole", "x", "I", false)
def tyX6 : Nat → FieldType := fun k => match k with
  | 0 => .object "CatNeed$Told"
  | 1 => .object "CatNeed$State"
  | 2 => .array (.object "CatNeed$State")
  | 3 => .int
  | 4 => .array .int
  | 5 => .array .int
  | 6 => .array .int
  | 7 => .int
  | 8 => .int
  | _ => .int
abbrev wsX60 : List Cond := u_ws RX6 TX6 10
theorem nmX6 : ∀ a, a < 10 → ∀ b, b < 10 → a ≠ b → (TX6 a).2.1 ≠ (TX6 b).2.1 := by decide +kernel
theorem tyX6_ok : ∀ k, k < 10 → parseFieldDescriptor (TX6 k).2.2.1 = some (tyX6 k) := by decide +kernel
abbrev cX6_init : ByteArray := prog_8_method_1_code
def yX6_init : MethodName := ⟨RX6, "<init>", "()V"⟩
abbrev cX6_enter : ByteArray := prog_8_method_2_code
def yX6_enter : MethodName := ⟨RX6, "enter", "(LCatNeed$Told;)V"⟩
abbrev cX6_copyFrom : ByteArray := prog_8_method_3_code
def yX6_copyFrom : MethodName := ⟨RX6, "copyFrom", "(LCatNeed$Whole;)V"⟩
abbrev cX6_keep : ByteArray := prog_8_method_4_code
def yX6_keep : MethodName := ⟨RX6, "keep", "()V"⟩
abbrev cX6_takeBack : ByteArray := prog_8_method_5_code
def yX6_takeBack : MethodName := ⟨RX6, "takeBack", "()Z"⟩
abbrev cX6_write : ByteArray := prog_8_method_6_code
def yX6_write : MethodName := ⟨RX6, "write", "(III)Z"⟩
abbrev cX6_lastNoted : ByteArray := prog_8_method_7_code
def yX6_lastNoted : MethodName := ⟨RX6, "lastNoted", "()I"⟩
abbrev cX6_notesAgree : ByteArray := prog_8_method_8_code
def yX6_notesAgree : MethodName := ⟨RX6, "notesAgree", "(ILCatNeed$State;)Z"⟩
def RX7 : String := "CatNeed"
def TX7 : u_T := fun k => match k with
  | 0 => ("CatNeed", "tape", "LCatNeed$Tape;", true)
  | 1 => ("CatNeed", "rules", "[LCatNeed$Rule;", true)
  | 2 => ("CatNeed", "ruleCount", "I", false)
  | 3 => ("CatNeed", "draft", "LCatNeed$Told;", true)
  | 4 => ("CatNeed", "here", "LCatNeed$Whole;", true)
  | 5 => ("CatNeed", "images", "[LCatNeed$Whole;", true)
  | 6 => ("CatNeed", "imagesMade", "I", false)
  | 7 => ("CatNeed", "trial", "LCatNeed$State;", true)
  | 8 => ("CatNeed", "track", "[I", true)
  | 9 => ("CatNeed", "oneHas", "[I", true)
  | 10 => ("CatNeed", "otherHas", "[I", true)
  | _ => ("CatNeed", "alike", "[I", true)
def tyX7 : Nat → FieldType := fun k => match k with
  | 0 => .object "CatNeed$Tape"
  | 1 => .array (.object "CatNeed$Rule")
  | 2 => .int
  | 3 => .object "CatNeed$Told"
  | 4 => .object "CatNeed$Whole"
  | 5 => .array (.object "CatNeed$Whole")
  | 6 => .int
  | 7 => .object "CatNeed$State"
  | 8 => .array .int
  | 9 => .array .int
  | 10 => .array .int
  | _ => .array .int
abbrev wsX70 : List Cond := u_ws RX7 TX7 12
theorem nmX7 : ∀ a, a < 12 → ∀ b, b < 12 → a ≠ b → (TX7 a).2.1 ≠ (TX7 b).2.1 := by decide +kernel
theorem tyX7_ok : ∀ k, k < 12 → parseFieldDescriptor (TX7 k).2.2.1 = some (tyX7 k) := by decide +kernel
abbrev cX7_init : ByteArray := prog_1_method_1_code
def yX7_init : MethodName := ⟨RX7, "<init>", "()V"⟩
abbrev cX7_feed : ByteArray := prog_1_method_2_code
def yX7_feed : MethodName := ⟨RX7, "feed", "(IIIII)I"⟩
abbrev cX7_end : ByteArray := prog_1_method_3_code
def yX7_end : MethodName := ⟨RX7, "end", "(I)I"⟩
abbrev cX7_room : ByteArray := prog_1_method_4_code
def yX7_room : MethodName := ⟨RX7, "room", "()I"⟩
abbrev cX7_rule : ByteArray := prog_1_method_5_code
def yX7_rule : MethodName := ⟨RX7, "rule", "()I"⟩
abbrev cX7_force : ByteArray := prog_1_method_6_code
def yX7_force : MethodName := ⟨RX7, "force", "(I)I"⟩
abbrev cX7_thing : ByteArray := prog_1_method_7_code
def yX7_thing : MethodName := ⟨RX7, "thing", "(II)I"⟩
abbrev cX7_cat : ByteArray := prog_1_method_8_code
def yX7_cat : MethodName := ⟨RX7, "cat", "(II)I"⟩
abbrev cX7_need : ByteArray := prog_1_method_9_code
def yX7_need : MethodName := ⟨RX7, "need", "(II)I"⟩
abbrev cX7_count : ByteArray := prog_1_method_10_code
def yX7_count : MethodName := ⟨RX7, "count", "(I)I"⟩
abbrev cX7_minute : ByteArray := prog_1_method_11_code
def yX7_minute : MethodName := ⟨RX7, "minute", "()I"⟩
abbrev cX7_lift : ByteArray := prog_1_method_12_code
def yX7_lift : MethodName := ⟨RX7, "lift", "(I)I"⟩
abbrev cX7_move : ByteArray := prog_1_method_13_code
def yX7_move : MethodName := ⟨RX7, "move", "(II)I"⟩
abbrev cX7_strike : ByteArray := prog_1_method_14_code
def yX7_strike : MethodName := ⟨RX7, "strike", "(I)I"⟩
abbrev cX7_teach : ByteArray := prog_1_method_15_code
def yX7_teach : MethodName := ⟨RX7, "teach", "(II)I"⟩
abbrev cX7_undo : ByteArray := prog_1_method_16_code
def yX7_undo : MethodName := ⟨RX7, "undo", "()I"⟩
abbrev cX7_ahead : ByteArray := prog_1_method_17_code
def yX7_ahead : MethodName := ⟨RX7, "ahead", "(III)I"⟩
abbrev cX7_due : ByteArray := prog_1_method_18_code
def yX7_due : MethodName := ⟨RX7, "due", "(I)I"⟩
abbrev cX7_served : ByteArray := prog_1_method_19_code
def yX7_served : MethodName := ⟨RX7, "served", "(I)I"⟩
abbrev cX7_shut : ByteArray := prog_1_method_20_code
def yX7_shut : MethodName := ⟨RX7, "shut", "(II)I"⟩
abbrev cX7_moved : ByteArray := prog_1_method_21_code
def yX7_moved : MethodName := ⟨RX7, "moved", "(III)I"⟩
abbrev cX7_tray : ByteArray := prog_1_method_22_code
def yX7_tray : MethodName := ⟨RX7, "tray", "(II)I"⟩
abbrev cX7_rests : ByteArray := prog_1_method_23_code
def yX7_rests : MethodName := ⟨RX7, "rests", "(IIII)I"⟩
abbrev cX7_ring : ByteArray := prog_1_method_24_code
def yX7_ring : MethodName := ⟨RX7, "ring", "(I)I"⟩
abbrev cX7_pence : ByteArray := prog_1_method_25_code
def yX7_pence : MethodName := ⟨RX7, "pence", "(II)I"⟩
abbrev cX7_note : ByteArray := prog_1_method_26_code
def yX7_note : MethodName := ⟨RX7, "note", "(III)I"⟩
abbrev cX7_knowing : ByteArray := prog_1_method_27_code
def yX7_knowing : MethodName := ⟨RX7, "knowing", "(II)I"⟩
abbrev cX7_ruled : ByteArray := prog_1_method_28_code
def yX7_ruled : MethodName := ⟨RX7, "ruled", "(I)I"⟩
abbrev cX7_look : ByteArray := prog_1_method_29_code
def yX7_look : MethodName := ⟨RX7, "look", "(II)I"⟩
abbrev cX7_seed : ByteArray := prog_1_method_30_code
def yX7_seed : MethodName := ⟨RX7, "seed", "(I)I"⟩
abbrev cX7_visits : ByteArray := prog_1_method_31_code
def yX7_visits : MethodName := ⟨RX7, "visits", "(IIII)I"⟩
abbrev cX7_image : ByteArray := prog_1_method_32_code
def yX7_image : MethodName := ⟨RX7, "image", "(I)I"⟩
abbrev cX7_back : ByteArray := prog_1_method_33_code
def yX7_back : MethodName := ⟨RX7, "back", "(I)I"⟩
abbrev cX7_stands : ByteArray := prog_1_method_34_code
def yX7_stands : MethodName := ⟨RX7, "stands", "()Z"⟩
abbrev cX7_isThing : ByteArray := prog_1_method_35_code
def yX7_isThing : MethodName := ⟨RX7, "isThing", "(I)Z"⟩
abbrev cX7_isCat : ByteArray := prog_1_method_36_code
def yX7_isCat : MethodName := ⟨RX7, "isCat", "(I)Z"⟩
abbrev cX7_isNeed : ByteArray := prog_1_method_37_code
def yX7_isNeed : MethodName := ⟨RX7, "isNeed", "(I)Z"⟩
abbrev cX7_ruleBy : ByteArray := prog_1_method_38_code
def yX7_ruleBy : MethodName := ⟨RX7, "ruleBy", "(I)LCatNeed$Rule;"⟩
abbrev cX7_inForce : ByteArray := prog_1_method_39_code
def yX7_inForce : MethodName := ⟨RX7, "inForce", "()LCatNeed$Rule;"⟩
abbrev cX7_goOn : ByteArray := prog_1_method_40_code
def yX7_goOn : MethodName := ⟨RX7, "goOn", "(ILCatNeed$Rule;)V"⟩
abbrev cX7_worthMet : ByteArray := prog_1_method_41_code
def yX7_worthMet : MethodName := ⟨RX7, "worthMet", "(I)I"⟩
abbrev cX7_losesNone : ByteArray := prog_1_method_42_code
def yX7_losesNone : MethodName := ⟨RX7, "losesNone", "(II)Z"⟩
abbrev cX7_knowsBy : ByteArray := prog_1_method_43_code
def yX7_knowsBy : MethodName := ⟨RX7, "knowsBy", "(I)I"⟩
abbrev cX7_weigh : ByteArray := prog_1_method_44_code
def yX7_weigh : MethodName := ⟨RX7, "weigh", "(IIII)V"⟩
abbrev cX7_isRest : ByteArray := prog_1_method_45_code
def yX7_isRest : MethodName := ⟨RX7, "isRest", "(I)Z"⟩
abbrev cX7_share : ByteArray := prog_1_method_46_code
def yX7_share : MethodName := ⟨RX7, "share", "(I)J"⟩
abbrev cX7_notesHold : ByteArray := prog_1_method_47_code
def yX7_notesHold : MethodName := ⟨RX7, "notesHold", "(LCatNeed$Rule;)Z"⟩
abbrev cX7_rulesThatHold : ByteArray := prog_1_method_48_code
def yX7_rulesThatHold : MethodName := ⟨RX7, "rulesThatHold", "()I"⟩
abbrev cX7_countAlike : ByteArray := prog_1_method_49_code
def yX7_countAlike : MethodName := ⟨RX7, "countAlike", "(II)V"⟩
abbrev cX7_mostAlike : ByteArray := prog_1_method_50_code
def yX7_mostAlike : MethodName := ⟨RX7, "mostAlike", "(I)I"⟩
abbrev cX7_drawn : ByteArray := prog_1_method_51_code
def yX7_drawn : MethodName := ⟨RX7, "drawn", "(I)I"⟩
def RX8 : String := "CatNeedModel"
def TX8 : u_T := fun k => match k with
  | 0 => ("CatNeedModel", "thrown", "I", false)
  | 1 => ("CatNeedModel", "scalar", "[I", true)
  | 2 => ("CatNeedModel", "at", "[I", true)
  | 3 => ("CatNeedModel", "on", "[I", true)
  | 4 => ("CatNeedModel", "knows", "[I", true)
  | 5 => ("CatNeedModel", "lies", "[I", true)
  | 6 => ("CatNeedModel", "met", "[I", true)
  | 7 => ("CatNeedModel", "lost", "[I", true)
  | 8 => ("CatNeedModel", "worth", "[I", true)
  | 9 => ("CatNeedModel", "pace", "[I", true)
  | 10 => ("CatNeedModel", "needOf", "[I", true)
  | 11 => ("CatNeedModel", "every", "[I", true)
  | 12 => ("CatNeedModel", "dueAt", "[I", true)
  | 13 => ("CatNeedModel", "noteMinute", "[I", true)
  | 14 => ("CatNeedModel", "noteWho", "[I", true)
  | 15 => ("CatNeedModel", "noteThing", "[I", true)
  | 16 => ("CatNeedModel", "toldAt", "[I", true)
  | 17 => ("CatNeedModel", "toldKnows", "[I", true)
  | 18 => ("CatNeedModel", "toldLies", "[I", true)
  | 19 => ("CatNeedModel", "newScalar", "[I", true)
  | 20 => ("CatNeedModel", "newLies", "[I", true)
  | 21 => ("CatNeedModel", "newWorth", "[I", true)
  | 22 => ("CatNeedModel", "newAt", "[I", true)
  | 23 => ("CatNeedModel", "newPace", "[I", true)
  | 24 => ("CatNeedModel", "newKnows", "[I", true)
  | 25 => ("CatNeedModel", "newOf", "[I", true)
  | 26 => ("CatNeedModel", "newEvery", "[I", true)
  | 27 => ("CatNeedModel", "newDue", "[I", true)
  | 28 => ("CatNeedModel", "taped", "I", false)
  | 29 => ("CatNeedModel", "p", "I", false)
  | 30 => ("CatNeedModel", "fault", "I", false)
  | 31 => ("CatNeedModel", "slot", "I", false)
  | 32 => ("CatNeedModel", "rules", "I", false)
  | 33 => ("CatNeedModel", "entries", "I", false)
  | 34 => ("CatNeedModel", "deep", "I", false)
  | 35 => ("CatNeedModel", "counted", "I", false)
  | 36 => ("CatNeedModel", "opened", "I", false)
  | 37 => ("CatNeedModel", "words", "I", false)
  | 38 => ("CatNeedModel", "tape", "[B", true)
  | 39 => ("CatNeedModel", "sort", "[I", true)
  | 40 => ("CatNeedModel", "number", "[I", true)
  | 41 => ("CatNeedModel", "clauses", "[I", true)
  | 42 => ("CatNeedModel", "sumAt", "[I", true)
  | 43 => ("CatNeedModel", "testAt", "[I", true)
  | 44 => ("CatNeedModel", "endAt", "[I", true)
  | 45 => ("CatNeedModel", "open", "[I", true)
  | 46 => ("CatNeedModel", "asked", "[J", true)
  | 47 => ("CatNeedModel", "stack", "[J", true)
  | 48 => ("CatNeedModel", "shutNow", "I", false)
  | 49 => ("CatNeedModel", "visitNow", "I", false)
  | 50 => ("CatNeedModel", "visitHas", "I", false)
  | 51 => ("CatNeedModel", "metNow", "I", false)
  | 52 => ("CatNeedModel", "lostNow", "I", false)
  | 53 => ("CatNeedModel", "past", "[I", true)
  | 54 => ("CatNeedModel", "pastOf", "[I", true)
  | 55 => ("CatNeedModel", "pastMany", "I", false)
  | 56 => ("CatNeedModel", "pastAt", "I", false)
  | 57 => ("CatNeedModel", "takesBack", "Z", false)
  | 58 => ("CatNeedModel", "firstHas", "[I", true)
  | 59 => ("CatNeedModel", "secondHas", "[I", true)
  | 60 => ("CatNeedModel", "lay", "[I", true)
  | 61 => ("CatNeedModel", "shows", "[I", true)
  | 62 => ("CatNeedModel", "images", "[I", true)
  | 63 => ("CatNeedModel", "isMade", "[Z", true)
  | 64 => ("CatNeedModel", "imageAt", "I", false)
  | _ => ("CatNeedModel", "goesBack", "Z", false)
def tyX8 : Nat → FieldType := fun k => match k with
  | 0 => .int
  | 1 => .array .int
  | 2 => .array .int
  | 3 => .array .int
  | 4 => .array .int
  | 5 => .array .int
  | 6 => .array .int
  | 7 => .array .int
  | 8 => .array .int
  | 9 => .array .int
  | 10 => .array .int
  | 11 => .array .int
  | 12 => .array .int
  | 13 => .array .int
  | 14 => .array .int
  | 15 => .array .int
  | 16 => .array .int
  | 17 => .array .int
  | 18 => .array .int
  | 19 => .array .int
  | 20 => .array .int
  | 21 => .array .int
  | 22 => .array .int
  | 23 => .array .int
  | 24 => .array .int
  | 25 => .array .int
  | 26 => .array .int
  | 27 => .array .int
  | 28 => .int
  | 29 => .int
  | 30 => .int
  | 31 => .int
  | 32 => .int
  | 33 => .int
  | 34 => .int
  | 35 => .int
  | 36 => .int
  | 37 => .int
  | 38 => .array .byte
  | 39 => .array .int
  | 40 => .array .int
  | 41 => .array .int
  | 42 => .array .int
  | 43 => .array .int
  | 44 => .array .int
  | 45 => .array .int
  | 46 => .array .long
  | 47 => .array .long
  | 48 => .int
  | 49 => .int
  | 50 => .int
  | 51 => .int
  | 52 => .int
  | 53 => .array .int
  | 54 => .array .int
  | 55 => .int
  | 56 => .int
  | 57 => .boolean
  | 58 => .array .int
  | 59 => .array .int
  | 60 => .array .int
  | 61 => .array .int
  | 62 => .array .int
  | 63 => .array .boolean
  | 64 => .int
  | _ => .boolean
abbrev wsX80 : List Cond := u_ws RX8 TX8 66
theorem nmX8 : ∀ a, a < 66 → ∀ b, b < 66 → a ≠ b → (TX8 a).2.1 ≠ (TX8 b).2.1 := by decide +kernel
theorem tyX8_ok : ∀ k, k < 66 → parseFieldDescriptor (TX8 k).2.2.1 = some (tyX8 k) := by decide +kernel
abbrev cX8_init : ByteArray := prog_10_method_1_code
def yX8_init : MethodName := ⟨RX8, "<init>", "()V"⟩
abbrev cX8_in : ByteArray := prog_10_method_3_code
def yX8_in : MethodName := ⟨RX8, "in", "(JJJ)Z"⟩
abbrev cX8_bits : ByteArray := prog_10_method_4_code
def yX8_bits : MethodName := ⟨RX8, "bits", "(I)I"⟩
abbrev cX8_has : ByteArray := prog_10_method_5_code
def yX8_has : MethodName := ⟨RX8, "has", "(II)Z"⟩
abbrev cX8_isRoom : ByteArray := prog_10_method_6_code
def yX8_isRoom : MethodName := ⟨RX8, "isRoom", "()Z"⟩
abbrev cX8_isThing : ByteArray := prog_10_method_7_code
def yX8_isThing : MethodName := ⟨RX8, "isThing", "(I)Z"⟩
abbrev cX8_isCat : ByteArray := prog_10_method_8_code
def yX8_isCat : MethodName := ⟨RX8, "isCat", "(I)Z"⟩
abbrev cX8_isNeed : ByteArray := prog_10_method_9_code
def yX8_isNeed : MethodName := ⟨RX8, "isNeed", "(I)Z"⟩
abbrev cX8_feed : ByteArray := prog_10_method_10_code
def yX8_feed : MethodName := ⟨RX8, "feed", "(IIIII)I"⟩
abbrev cX8_put : ByteArray := prog_10_method_11_code
def yX8_put : MethodName := ⟨RX8, "put", "(I)V"⟩
abbrev cX8_end : ByteArray := prog_10_method_12_code
def yX8_end : MethodName := ⟨RX8, "end", "(I)I"⟩
abbrev cX8_wordOf : ByteArray := prog_10_method_13_code
def yX8_wordOf : MethodName := ⟨RX8, "wordOf", "(I)Ljava/lang/String;"⟩
abbrev cX8_fails : ByteArray := prog_10_method_14_code
def yX8_fails : MethodName := ⟨RX8, "fails", "(II)V"⟩
abbrev cX8_sign : ByteArray := prog_10_method_15_code
def yX8_sign : MethodName := ⟨RX8, "sign", "()I"⟩
abbrev cX8_blanks : ByteArray := prog_10_method_16_code
def yX8_blanks : MethodName := ⟨RX8, "blanks", "()V"⟩
abbrev cX8_isDigit : ByteArray := prog_10_method_17_code
def yX8_isDigit : MethodName := ⟨RX8, "isDigit", "()Z"⟩
abbrev cX8_stood : ByteArray := prog_10_method_18_code
def yX8_stood : MethodName := ⟨RX8, "stood", "(Ljava/lang/String;)Z"⟩
abbrev cX8_takes : ByteArray := prog_10_method_19_code
def yX8_takes : MethodName := ⟨RX8, "takes", "(Ljava/lang/String;)Z"⟩
abbrev cX8_entry : ByteArray := prog_10_method_20_code
def yX8_entry : MethodName := ⟨RX8, "entry", "(II)V"⟩
abbrev cX8_isCounted : ByteArray := prog_10_method_21_code
def yX8_isCounted : MethodName := ⟨RX8, "isCounted", "(I)V"⟩
abbrev cX8_digits : ByteArray := prog_10_method_22_code
def yX8_digits : MethodName := ⟨RX8, "digits", "(I)I"⟩
abbrev cX8_value : ByteArray := prog_10_method_23_code
def yX8_value : MethodName := ⟨RX8, "value", "()V"⟩
abbrev cX8_term : ByteArray := prog_10_method_24_code
def yX8_term : MethodName := ⟨RX8, "term", "()V"⟩
abbrev cX8_sum : ByteArray := prog_10_method_25_code
def yX8_sum : MethodName := ⟨RX8, "sum", "()V"⟩
abbrev cX8_compared : ByteArray := prog_10_method_26_code
def yX8_compared : MethodName := ⟨RX8, "compared", "()V"⟩
abbrev cX8_top : ByteArray := prog_10_method_27_code
def yX8_top : MethodName := ⟨RX8, "top", "()I"⟩
abbrev cX8_opens : ByteArray := prog_10_method_28_code
def yX8_opens : MethodName := ⟨RX8, "opens", "(I)V"⟩
abbrev cX8_answers : ByteArray := prog_10_method_29_code
def yX8_answers : MethodName := ⟨RX8, "answers", "(I)V"⟩
abbrev cX8_fact : ByteArray := prog_10_method_30_code
def yX8_fact : MethodName := ⟨RX8, "fact", "()Z"⟩
abbrev cX8_test : ByteArray := prog_10_method_31_code
def yX8_test : MethodName := ⟨RX8, "test", "()V"⟩
abbrev cX8_amount : ByteArray := prog_10_method_32_code
def yX8_amount : MethodName := ⟨RX8, "amount", "(II)I"⟩
abbrev cX8_roomWord : ByteArray := prog_10_method_33_code
def yX8_roomWord : MethodName := ⟨RX8, "roomWord", "(I)Ljava/lang/String;"⟩
abbrev cX8_roomPart : ByteArray := prog_10_method_34_code
def yX8_roomPart : MethodName := ⟨RX8, "roomPart", "(I)V"⟩
abbrev cX8_isFull : ByteArray := prog_10_method_35_code
def yX8_isFull : MethodName := ⟨RX8, "isFull", "(II)Z"⟩
abbrev cX8_roomClause : ByteArray := prog_10_method_36_code
def yX8_roomClause : MethodName := ⟨RX8, "roomClause", "(I)V"⟩
abbrev cX8_copies : ByteArray := prog_10_method_37_code
def yX8_copies : MethodName := ⟨RX8, "copies", "([I[I)V"⟩
abbrev cX8_goesOn : ByteArray := prog_10_method_38_code
def yX8_goesOn : MethodName := ⟨RX8, "goesOn", "()Z"⟩
abbrev cX8_starts : ByteArray := prog_10_method_39_code
def yX8_starts : MethodName := ⟨RX8, "starts", "()V"⟩
abbrev cX8_readsAll : ByteArray := prog_10_method_40_code
def yX8_readsAll : MethodName := ⟨RX8, "readsAll", "()V"⟩
abbrev cX8_begins : ByteArray := prog_10_method_41_code
def yX8_begins : MethodName := ⟨RX8, "begins", "()V"⟩
abbrev cX8_room : ByteArray := prog_10_method_42_code
def yX8_room : MethodName := ⟨RX8, "room", "()I"⟩
abbrev cX8_ruleClause : ByteArray := prog_10_method_43_code
def yX8_ruleClause : MethodName := ⟨RX8, "ruleClause", "(I)V"⟩
abbrev cX8_rule : ByteArray := prog_10_method_44_code
def yX8_rule : MethodName := ⟨RX8, "rule", "()I"⟩
abbrev cX8_force : ByteArray := prog_10_method_45_code
def yX8_force : MethodName := ⟨RX8, "force", "(I)I"⟩
abbrev cX8_wanted : ByteArray := prog_10_method_46_code
def yX8_wanted : MethodName := ⟨RX8, "wanted", "()J"⟩
abbrev cX8_truth : ByteArray := prog_10_method_47_code
def yX8_truth : MethodName := ⟨RX8, "truth", "(Z)J"⟩
abbrev cX8_both : ByteArray := prog_10_method_48_code
def yX8_both : MethodName := ⟨RX8, "both", "(IJJ)J"⟩
abbrev cX8_answer : ByteArray := prog_10_method_49_code
def yX8_answer : MethodName := ⟨RX8, "answer", "(III)J"⟩
abbrev cX8_isDue : ByteArray := prog_10_method_50_code
def yX8_isDue : MethodName := ⟨RX8, "isDue", "(II)Z"⟩
abbrev cX8_catsOn : ByteArray := prog_10_method_51_code
def yX8_catsOn : MethodName := ⟨RX8, "catsOn", "(I)I"⟩
abbrev cX8_metOf : ByteArray := prog_10_method_52_code
def yX8_metOf : MethodName := ⟨RX8, "metOf", "(I)I"⟩
abbrev cX8_lostOf : ByteArray := prog_10_method_53_code
def yX8_lostOf : MethodName := ⟨RX8, "lostOf", "(I)I"⟩
abbrev cX8_thing : ByteArray := prog_10_method_54_code
def yX8_thing : MethodName := ⟨RX8, "thing", "(II)I"⟩
abbrev cX8_cat : ByteArray := prog_10_method_55_code
def yX8_cat : MethodName := ⟨RX8, "cat", "(II)I"⟩
abbrev cX8_need : ByteArray := prog_10_method_56_code
def yX8_need : MethodName := ⟨RX8, "need", "(II)I"⟩
abbrev cX8_dueIn : ByteArray := prog_10_method_57_code
def yX8_dueIn : MethodName := ⟨RX8, "dueIn", "(I)I"⟩
abbrev cX8_likes : ByteArray := prog_10_method_58_code
def yX8_likes : MethodName := ⟨RX8, "likes", "(II)J"⟩
abbrev cX8_choice : ByteArray := prog_10_method_59_code
def yX8_choice : MethodName := ⟨RX8, "choice", "(I)I"⟩
abbrev cX8_walks : ByteArray := prog_10_method_60_code
def yX8_walks : MethodName := ⟨RX8, "walks", "(II)V"⟩
abbrev cX8_goes : ByteArray := prog_10_method_61_code
def yX8_goes : MethodName := ⟨RX8, "goes", "()I"⟩
abbrev cX8_goFor : ByteArray := prog_10_method_62_code
def yX8_goFor : MethodName := ⟨RX8, "goFor", "(I)V"⟩
abbrev cX8_sumOf : ByteArray := prog_10_method_63_code
def yX8_sumOf : MethodName := ⟨RX8, "sumOf", "([I)I"⟩
abbrev cX8_moves : ByteArray := prog_10_method_64_code
def yX8_moves : MethodName := ⟨RX8, "moves", "(I)I"⟩
abbrev cX8_movesRow : ByteArray := prog_10_method_65_code
def yX8_movesRow : MethodName := ⟨RX8, "movesRow", "([I)V"⟩
abbrev cX8_movesAll : ByteArray := prog_10_method_66_code
def yX8_movesAll : MethodName := ⟨RX8, "movesAll", "(IZ)V"⟩
abbrev cX8_keepsAct : ByteArray := prog_10_method_67_code
def yX8_keepsAct : MethodName := ⟨RX8, "keepsAct", "()V"⟩
abbrev cX8_undo : ByteArray := prog_10_method_68_code
def yX8_undo : MethodName := ⟨RX8, "undo", "()I"⟩
abbrev cX8_minute : ByteArray := prog_10_method_69_code
def yX8_minute : MethodName := ⟨RX8, "minute", "()I"⟩
abbrev cX8_lift : ByteArray := prog_10_method_70_code
def yX8_lift : MethodName := ⟨RX8, "lift", "(I)I"⟩
abbrev cX8_move : ByteArray := prog_10_method_71_code
def yX8_move : MethodName := ⟨RX8, "move", "(II)I"⟩
abbrev cX8_strike : ByteArray := prog_10_method_72_code
def yX8_strike : MethodName := ⟨RX8, "strike", "(I)I"⟩
abbrev cX8_teach : ByteArray := prog_10_method_73_code
def yX8_teach : MethodName := ⟨RX8, "teach", "(II)I"⟩
abbrev cX8_keepsAll : ByteArray := prog_10_method_74_code
def yX8_keepsAll : MethodName := ⟨RX8, "keepsAll", "()V"⟩
abbrev cX8_laysBack : ByteArray := prog_10_method_75_code
def yX8_laysBack : MethodName := ⟨RX8, "laysBack", "()V"⟩
abbrev cX8_ahead : ByteArray := prog_10_method_76_code
def yX8_ahead : MethodName := ⟨RX8, "ahead", "(III)I"⟩
abbrev cX8_due : ByteArray := prog_10_method_77_code
def yX8_due : MethodName := ⟨RX8, "due", "(I)I"⟩
abbrev cX8_served : ByteArray := prog_10_method_78_code
def yX8_served : MethodName := ⟨RX8, "served", "(I)I"⟩
abbrev cX8_worthMet : ByteArray := prog_10_method_79_code
def yX8_worthMet : MethodName := ⟨RX8, "worthMet", "(I)I"⟩
abbrev cX8_shut : ByteArray := prog_10_method_80_code
def yX8_shut : MethodName := ⟨RX8, "shut", "(II)I"⟩
abbrev cX8_moved : ByteArray := prog_10_method_81_code
def yX8_moved : MethodName := ⟨RX8, "moved", "(III)I"⟩
abbrev cX8_isNoneLost : ByteArray := prog_10_method_82_code
def yX8_isNoneLost : MethodName := ⟨RX8, "isNoneLost", "(II)Z"⟩
abbrev cX8_tray : ByteArray := prog_10_method_83_code
def yX8_tray : MethodName := ⟨RX8, "tray", "(II)I"⟩
abbrev cX8_earns : ByteArray := prog_10_method_84_code
def yX8_earns : MethodName := ⟨RX8, "earns", "(I)I"⟩
abbrev cX8_laysKnown : ByteArray := prog_10_method_85_code
def yX8_laysKnown : MethodName := ⟨RX8, "laysKnown", "(III)V"⟩
abbrev cX8_isRest : ByteArray := prog_10_method_86_code
def yX8_isRest : MethodName := ⟨RX8, "isRest", "(I)Z"⟩
abbrev cX8_rests : ByteArray := prog_10_method_87_code
def yX8_rests : MethodName := ⟨RX8, "rests", "(IIII)I"⟩
abbrev cX8_laysAll : ByteArray := prog_10_method_88_code
def yX8_laysAll : MethodName := ⟨RX8, "laysAll", "()V"⟩
abbrev cX8_isAlike : ByteArray := prog_10_method_89_code
def yX8_isAlike : MethodName := ⟨RX8, "isAlike", "(II)Z"⟩
abbrev cX8_ring : ByteArray := prog_10_method_90_code
def yX8_ring : MethodName := ⟨RX8, "ring", "(I)I"⟩
abbrev cX8_worthOf : ByteArray := prog_10_method_91_code
def yX8_worthOf : MethodName := ⟨RX8, "worthOf", "(I)J"⟩
abbrev cX8_pence : ByteArray := prog_10_method_92_code
def yX8_pence : MethodName := ⟨RX8, "pence", "(II)I"⟩
abbrev cX8_note : ByteArray := prog_10_method_93_code
def yX8_note : MethodName := ⟨RX8, "note", "(III)I"⟩
abbrev cX8_doNotesFit : ByteArray := prog_10_method_94_code
def yX8_doNotesFit : MethodName := ⟨RX8, "doNotesFit", "()Z"⟩
abbrev cX8_couldRule : ByteArray := prog_10_method_95_code
def yX8_couldRule : MethodName := ⟨RX8, "couldRule", "(I)Z"⟩
abbrev cX8_ruled : ByteArray := prog_10_method_96_code
def yX8_ruled : MethodName := ⟨RX8, "ruled", "(I)I"⟩
abbrev cX8_knowing : ByteArray := prog_10_method_97_code
def yX8_knowing : MethodName := ⟨RX8, "knowing", "(II)I"⟩
abbrev cX8_mostAlike : ByteArray := prog_10_method_98_code
def yX8_mostAlike : MethodName := ⟨RX8, "mostAlike", "(II)I"⟩
abbrev cX8_look : ByteArray := prog_10_method_99_code
def yX8_look : MethodName := ⟨RX8, "look", "(II)I"⟩
abbrev cX8_seed : ByteArray := prog_10_method_100_code
def yX8_seed : MethodName := ⟨RX8, "seed", "(I)I"⟩
abbrev cX8_draws : ByteArray := prog_10_method_101_code
def yX8_draws : MethodName := ⟨RX8, "draws", "(I)I"⟩
abbrev cX8_visits : ByteArray := prog_10_method_102_code
def yX8_visits : MethodName := ⟨RX8, "visits", "(IIII)I"⟩
abbrev cX8_allDue : ByteArray := prog_10_method_103_code
def yX8_allDue : MethodName := ⟨RX8, "allDue", "()I"⟩
abbrev cX8_count : ByteArray := prog_10_method_104_code
def yX8_count : MethodName := ⟨RX8, "count", "(I)I"⟩
abbrev cX8_carryRow : ByteArray := prog_10_method_105_code
def yX8_carryRow : MethodName := ⟨RX8, "carryRow", "([I)V"⟩
abbrev cX8_carriesAll : ByteArray := prog_10_method_106_code
def yX8_carriesAll : MethodName := ⟨RX8, "carriesAll", "(IZ)V"⟩
abbrev cX8_image : ByteArray := prog_10_method_107_code
def yX8_image : MethodName := ⟨RX8, "image", "(I)I"⟩
abbrev cX8_back : ByteArray := prog_10_method_108_code
def yX8_back : MethodName := ⟨RX8, "back", "(I)I"⟩
def RJ11 : String := "java/lang/Character"
def TJ11 : u_T := fun k => match k with
  | _ => ("", "", "", false)
def tyJ11 : Nat → FieldType := fun k => match k with
  | _ => .int
abbrev wsJ110 : List Cond := u_ws RJ11 TJ11 0
theorem nmJ11 : ∀ a, a < 0 → ∀ b, b < 0 → a ≠ b → (TJ11 a).2.1 ≠ (TJ11 b).2.1 := by decide +kernel
theorem tyJ11_ok : ∀ k, k < 0 → parseFieldDescriptor (TJ11 k).2.2.1 = some (tyJ11 k) := by decide +kernel
abbrev cJ11_isValidCodePoint_9a6ad : ByteArray := prog_11_method_11_code
def yJ11_isValidCodePoint_9a6ad : MethodName := ⟨RJ11, "isValidCodePoint", "(I)Z"⟩
abbrev cJ11_highSurrogate_5068e : ByteArray := prog_11_method_28_code
def yJ11_highSurrogate_5068e : MethodName := ⟨RJ11, "highSurrogate", "(I)C"⟩
abbrev cJ11_lowSurrogate_5068e : ByteArray := prog_11_method_29_code
def yJ11_lowSurrogate_5068e : MethodName := ⟨RJ11, "lowSurrogate", "(I)C"⟩
def RJ6 : String := "java/lang/Integer"
def TJ6 : u_T := fun k => match k with
  | _ => ("", "", "", false)
def tyJ6 : Nat → FieldType := fun k => match k with
  | _ => .int
abbrev wsJ60 : List Cond := u_ws RJ6 TJ6 0
theorem nmJ6 : ∀ a, a < 0 → ∀ b, b < 0 → a ≠ b → (TJ6 a).2.1 ≠ (TJ6 b).2.1 := by decide +kernel
theorem tyJ6_ok : ∀ k, k < 0 → parseFieldDescriptor (TJ6 k).2.2.1 = some (tyJ6 k) := by decide +kernel
abbrev cJ6_bitCount_0f7a4 : ByteArray := prog_12_method_49_code
def yJ6_bitCount_0f7a4 : MethodName := ⟨RJ6, "bitCount", "(I)I"⟩
def RJ9 : String := "java/lang/Math"
def TJ9 : u_T := fun k => match k with
  | _ => ("", "", "", false)
def tyJ9 : Nat → FieldType := fun k => match k with
  | _ => .int
abbrev wsJ90 : List Cond := u_ws RJ9 TJ9 0
theorem nmJ9 : ∀ a, a < 0 → ∀ b, b < 0 → a ≠ b → (TJ9 a).2.1 ≠ (TJ9 b).2.1 := by decide +kernel
theorem tyJ9_ok : ∀ k, k < 0 → parseFieldDescriptor (TJ9 k).2.2.1 = some (tyJ9 k) := by decide +kernel
abbrev cJ9_abs_0f7a4 : ByteArray := prog_13_method_59_code
def yJ9_abs_0f7a4 : MethodName := ⟨RJ9, "abs", "(I)I"⟩
abbrev cJ9_max_7cf53 : ByteArray := prog_13_method_65_code
def yJ9_max_7cf53 : MethodName := ⟨RJ9, "max", "(II)I"⟩
abbrev cJ9_min_7cf53 : ByteArray := prog_13_method_69_code
def yJ9_min_7cf53 : MethodName := ⟨RJ9, "min", "(II)I"⟩
def RJ0 : String := "java/lang/String"
def TJ0 : u_T := fun k => match k with
  | _ => ("", "", "", false)
def tyJ0 : Nat → FieldType := fun k => match k with
  | _ => .int
abbrev wsJ00 : List Cond := u_ws RJ0 TJ0 0
theorem nmJ0 : ∀ a, a < 0 → ∀ b, b < 0 → a ≠ b → (TJ0 a).2.1 ≠ (TJ0 b).2.1 := by decide +kernel
theorem tyJ0_ok : ∀ k, k < 0 → parseFieldDescriptor (TJ0 k).2.2.1 = some (tyJ0 k) := by decide +kernel
abbrev cJ0_length_8abf5 : ByteArray := prog_14_method_54_code
def yJ0_length_8abf5 : MethodName := ⟨RJ0, "length", "()I"⟩
abbrev cJ0_charAt_5068e : ByteArray := prog_14_method_56_code
def yJ0_charAt_5068e : MethodName := ⟨RJ0, "charAt", "(I)C"⟩
abbrev cJ0_indexOf_0f7a4 : ByteArray := prog_14_method_79_code
def yJ0_indexOf_0f7a4 : MethodName := ⟨RJ0, "indexOf", "(I)I"⟩
abbrev cJ0_indexOf_7cf53 : ByteArray := prog_14_method_80_code
def yJ0_indexOf_7cf53 : MethodName := ⟨RJ0, "indexOf", "(II)I"⟩
abbrev cJ0_coder_7d493 : ByteArray := prog_14_method_152_code
def yJ0_coder_7d493 : MethodName := ⟨RJ0, "coder", "()B"⟩
abbrev cJ0_isLatin1_aae02 : ByteArray := prog_14_method_154_code
def yJ0_isLatin1_aae02 : MethodName := ⟨RJ0, "isLatin1", "()Z"⟩
abbrev cJ0_checkIndex_df160 : ByteArray := prog_14_method_155_code
def yJ0_checkIndex_df160 : MethodName := ⟨RJ0, "checkIndex", "(II)V"⟩
abbrev cJ0_checkBoundsBeginEnd_23922 : ByteArray := prog_14_method_158_code
def yJ0_checkBoundsBeginEnd_23922 : MethodName := ⟨RJ0, "checkBoundsBeginEnd", "(III)V"⟩
def RJ1 : String := "java/lang/StringLatin1"
def TJ1 : u_T := fun k => match k with
  | _ => ("", "", "", false)
def tyJ1 : Nat → FieldType := fun k => match k with
  | _ => .int
abbrev wsJ10 : List Cond := u_ws RJ1 TJ1 0
theorem nmJ1 : ∀ a, a < 0 → ∀ b, b < 0 → a ≠ b → (TJ1 a).2.1 ≠ (TJ1 b).2.1 := by decide +kernel
theorem tyJ1_ok : ∀ k, k < 0 → parseFieldDescriptor (TJ1 k).2.2.1 = some (tyJ1 k) := by decide +kernel
abbrev cJ1_charAt_3b067 : ByteArray := prog_15_method_2_code
def yJ1_charAt_3b067 : MethodName := ⟨RJ1, "charAt", "([BI)C"⟩
abbrev cJ1_canEncode_9a6ad : ByteArray := prog_15_method_4_code
def yJ1_canEncode_9a6ad : MethodName := ⟨RJ1, "canEncode", "(I)Z"⟩
abbrev cJ1_indexOf_4cfef : ByteArray := prog_15_method_22_code
def yJ1_indexOf_4cfef : MethodName := ⟨RJ1, "indexOf", "([BIII)I"⟩
abbrev cJ1_indexOfChar_4cfef : ByteArray := prog_15_method_23_code
def yJ1_indexOfChar_4cfef : MethodName := ⟨RJ1, "indexOfChar", "([BIII)I"⟩
def RJ2 : String := "java/lang/StringUTF16"
def TJ2 : u_T := fun k => match k with
  | _ => ("", "", "", false)
def tyJ2 : Nat → FieldType := fun k => match k with
  | _ => .int
abbrev wsJ20 : List Cond := u_ws RJ2 TJ2 0
theorem nmJ2 : ∀ a, a < 0 → ∀ b, b < 0 → a ≠ b → (TJ2 a).2.1 ≠ (TJ2 b).2.1 := by decide +kernel
theorem tyJ2_ok : ∀ k, k < 0 → parseFieldDescriptor (TJ2 k).2.2.1 = some (tyJ2 k) := by decide +kernel
abbrev cJ2_getChar_3b067 : ByteArray := prog_16_method_5_code
def yJ2_getChar_3b067 : MethodName := ⟨RJ2, "getChar", "([BI)C"⟩
abbrev cJ2_length_9d52b : ByteArray := prog_16_method_6_code
def yJ2_length_9d52b : MethodName := ⟨RJ2, "length", "([B)I"⟩
abbrev cJ2_indexOf_4cfef : ByteArray := prog_16_method_40_code
def yJ2_indexOf_4cfef : MethodName := ⟨RJ2, "indexOf", "([BIII)I"⟩
abbrev cJ2_indexOfChar_4cfef : ByteArray := prog_16_method_47_code
def yJ2_indexOfChar_4cfef : MethodName := ⟨RJ2, "indexOfChar", "([BIII)I"⟩
abbrev cJ2_indexOfCharUnsafe_4cfef : ByteArray := prog_16_method_48_code
def yJ2_indexOfCharUnsafe_4cfef : MethodName := ⟨RJ2, "indexOfCharUnsafe", "([BIII)I"⟩
abbrev cJ2_indexOfSupplementary_4cfef : ByteArray := prog_16_method_49_code
def yJ2_indexOfSupplementary_4cfef : MethodName := ⟨RJ2, "indexOfSupplementary", "([BIII)I"⟩
abbrev cJ2_charAt_3b067 : ByteArray := prog_16_method_83_code
def yJ2_charAt_3b067 : MethodName := ⟨RJ2, "charAt", "([BI)C"⟩
abbrev cJ2_checkIndex_2214a : ByteArray := prog_16_method_91_code
def yJ2_checkIndex_2214a : MethodName := ⟨RJ2, "checkIndex", "(I[B)V"⟩
abbrev cJ2_checkBoundsBeginEnd_d044e : ByteArray := prog_16_method_93_code
def yJ2_checkBoundsBeginEnd_d044e : MethodName := ⟨RJ2, "checkBoundsBeginEnd", "(II[B)V"⟩
def RJ10 : String := "java/lang/System"
def TJ10 : u_T := fun k => match k with
  | _ => ("", "", "", false)
def tyJ10 : Nat → FieldType := fun k => match k with
  | _ => .int
abbrev wsJ100 : List Cond := u_ws RJ10 TJ10 0
theorem nmJ10 : ∀ a, a < 0 → ∀ b, b < 0 → a ≠ b → (TJ10 a).2.1 ≠ (TJ10 b).2.1 := by decide +kernel
theorem tyJ10_ok : ∀ k, k < 0 → parseFieldDescriptor (TJ10 k).2.2.1 = some (tyJ10 k) := by decide +kernel
def RJ3 : String := "jdk/internal/util/Preconditions"
def TJ3 : u_T := fun k => match k with
  | _ => ("", "", "", false)
def tyJ3 : Nat → FieldType := fun k => match k with
  | _ => .int
abbrev wsJ30 : List Cond := u_ws RJ3 TJ3 0
theorem nmJ3 : ∀ a, a < 0 → ∀ b, b < 0 → a ≠ b → (TJ3 a).2.1 ≠ (TJ3 b).2.1 := by decide +kernel
theorem tyJ3_ok : ∀ k, k < 0 → parseFieldDescriptor (TJ3 k).2.2.1 = some (tyJ3 k) := by decide +kernel
abbrev cJ3_checkIndex_8e157 : ByteArray := prog_18_method_11_code
def yJ3_checkIndex_8e157 : MethodName := ⟨RJ3, "checkIndex", "(IILjava/util/function/BiFunction;)I"⟩
abbrev cJ3_checkFromToIndex_8c36e : ByteArray := prog_18_method_12_code
def yJ3_checkFromToIndex_8c36e : MethodName := ⟨RJ3, "checkFromToIndex", "(IIILjava/util/function/BiFunction;)I"⟩
def RL : String := "CatNeedLaw"
abbrev cL_law : ByteArray := code
def yL_law : MethodName := ⟨RL, "law", "([I)Z"⟩
abbrev vwCl : List vw_C := [(RX1, TX1, 4), (RX3, TX3, 11), (RX4, TX4, 4), (RX5, TX5, 12), (RX6, TX6, 10), (RX7, TX7, 12), (RX8, TX8, 66)]
/-- a method: its name, its bytes, its locals, what it returns -/
abbrev aMM : Type := MethodName × ByteArray × Nat × Option FieldType
def aBIG : List Cond := lw_tbl.filter goodWord
theorem aBig {w : Cond} (i : Nat) (h : lw_tbl[i]? = some w) (hg : goodWord w = true) : w ∈ aBIG := List.mem_filter.mpr ⟨List.mem_of_getElem? h, hg⟩
theorem aBig_in {w : Cond} (h : w ∈ aBIG) : w ∈ lw_tbl := (List.mem_filter.mp h).1
theorem aBig_good {w : Cond} (h : w ∈ aBIG) : goodWord w = true := (List.mem_filter.mp h).2
def mX0_read : aMM := (yX0_read, cX0_read, 5, (some .boolean))
def mX0_mayCome : aMM := (yX0_mayCome, cX0_mayCome, 2, (some .boolean))
def mX0_readClause : aMM := (yX0_readClause, cX0_readClause, 6, none)
def mX1_init : aMM := (yX1_init, cX1_init, 1, none)
def mX1_clear : aMM := (yX1_clear, cX1_clear, 1, none)
def mX1_add : aMM := (yX1_add, cX1_add, 2, none)
def mX1_valueFor : aMM := (yX1_valueFor, cX1_valueFor, 8, (some .long))
def mX1_joined : aMM := (yX1_joined, cX1_joined, 5, (some .long))
def mX2_read : aMM := (yX2_read, cX2_read, 4, (some .boolean))
def mX2_readTest : aMM := (yX2_readTest, cX2_readTest, 6, none)
def mX2_readFact : aMM := (yX2_readFact, cX2_readFact, 7, none)
def mX2_readComparison : aMM := (yX2_readComparison, cX2_readComparison, 4, (some .int))
def mX2_readSum : aMM := (yX2_readSum, cX2_readSum, 6, none)
def mX2_readValue : aMM := (yX2_readValue, cX2_readValue, 6, none)
def mX2_tallyOne : aMM := (yX2_tallyOne, cX2_tallyOne, 3, none)
def mX3_init : aMM := (yX3_init, cX3_init, 1, none)
def mX3_begin : aMM := (yX3_begin, cX3_begin, 3, none)
def mX3_copyFrom : aMM := (yX3_copyFrom, cX3_copyFrom, 2, none)
def mX3_pass : aMM := (yX3_pass, cX3_pass, 5, none)
def mX3_foreseen : aMM := (yX3_foreseen, cX3_foreseen, 4, (some .int))
def mX3_favoured : aMM := (yX3_favoured, cX3_favoured, 10, (some .int))
def mX3_goTowards : aMM := (yX3_goTowards, cX3_goTowards, 6, none)
def mX3_settle : aMM := (yX3_settle, cX3_settle, 3, none)
def mX3_isStruck : aMM := (yX3_isStruck, cX3_isStruck, 2, (some .boolean))
def mX3_isDue : aMM := (yX3_isDue, cX3_isDue, 5, (some .boolean))
def mX3_dueNow : aMM := (yX3_dueNow, cX3_dueNow, 4, (some .int))
def mX3_dueIn : aMM := (yX3_dueIn, cX3_dueIn, 7, (some .int))
def mX3_needsRound : aMM := (yX3_needsRound, cX3_needsRound, 5, (some .boolean))
def mX3_catsOn : aMM := (yX3_catsOn, cX3_catsOn, 5, (some .int))
def mX3_catsAsNumber : aMM := (yX3_catsAsNumber, cX3_catsAsNumber, 4, (some .int))
def mX3_metOf : aMM := (yX3_metOf, cX3_metOf, 5, (some .int))
def mX3_lostOf : aMM := (yX3_lostOf, cX3_lostOf, 5, (some .int))
def mX3_metInAll : aMM := (yX3_metInAll, cX3_metInAll, 4, (some .int))
def mX3_lostInAll : aMM := (yX3_lostInAll, cX3_lostInAll, 4, (some .int))
def mX3_gain : aMM := (yX3_gain, cX3_gain, 5, (some .int))
def mX3_sendAway : aMM := (yX3_sendAway, cX3_sendAway, 2, none)
def mX3_shift : aMM := (yX3_shift, cX3_shift, 5, none)
def mX3_wordValue : aMM := (yX3_wordValue, cX3_wordValue, 5, (some .long))
def mX4_init : aMM := (yX4_init, cX4_init, 1, none)
def mX4_put : aMM := (yX4_put, cX4_put, 3, none)
def mX4_rewind : aMM := (yX4_rewind, cX4_rewind, 1, none)
def mX4_fail : aMM := (yX4_fail, cX4_fail, 3, none)
def mX4_skipBlanks : aMM := (yX4_skipBlanks, cX4_skipBlanks, 1, none)
def mX4_takeSign : aMM := (yX4_takeSign, cX4_takeSign, 3, (some .int))
def mX4_takeNext : aMM := (yX4_takeNext, cX4_takeNext, 3, (some .boolean))
def mX4_takeWord : aMM := (yX4_takeWord, cX4_takeWord, 6, (some .int))
def mX4_digitNext : aMM := (yX4_digitNext, cX4_digitNext, 1, (some .boolean))
def mX4_takeNumber : aMM := (yX4_takeNumber, cX4_takeNumber, 5, (some .int))
def mX4_takeSemicolon : aMM := (yX4_takeSemicolon, cX4_takeSemicolon, 1, (some .boolean))
def mX5_init : aMM := (yX5_init, cX5_init, 1, none)
def mX5_clear : aMM := (yX5_clear, cX5_clear, 1, none)
def mX5_addThing : aMM := (yX5_addThing, cX5_addThing, 3, none)
def mX5_addCat : aMM := (yX5_addCat, cX5_addCat, 4, none)
def mX5_addNeed : aMM := (yX5_addNeed, cX5_addNeed, 4, none)
def mX5_copyFrom : aMM := (yX5_copyFrom, cX5_copyFrom, 2, none)
def mX5_worthOfNeeds : aMM := (yX5_worthOfNeeds, cX5_worthOfNeeds, 4, (some .int))
def mX6_init : aMM := (yX6_init, cX6_init, 2, none)
def mX6_enter : aMM := (yX6_enter, cX6_enter, 2, none)
def mX6_copyFrom : aMM := (yX6_copyFrom, cX6_copyFrom, 3, none)
def mX6_keep : aMM := (yX6_keep, cX6_keep, 3, none)
def mX6_takeBack : aMM := (yX6_takeBack, cX6_takeBack, 1, (some .boolean))
def mX6_write : aMM := (yX6_write, cX6_write, 4, (some .boolean))
def mX6_lastNoted : aMM := (yX6_lastNoted, cX6_lastNoted, 3, (some .int))
def mX6_notesAgree : aMM := (yX6_notesAgree, cX6_notesAgree, 4, (some .boolean))
def mX7_init : aMM := (yX7_init, cX7_init, 2, none)
def mX7_feed : aMM := (yX7_feed, cX7_feed, 6, (some .int))
def mX7_end : aMM := (yX7_end, cX7_end, 2, (some .int))
def mX7_room : aMM := (yX7_room, cX7_room, 2, (some .int))
def mX7_rule : aMM := (yX7_rule, cX7_rule, 2, (some .int))
def mX7_force : aMM := (yX7_force, cX7_force, 3, (some .int))
def mX7_thing : aMM := (yX7_thing, cX7_thing, 3, (some .int))
def mX7_cat : aMM := (yX7_cat, cX7_cat, 3, (some .int))
def mX7_need : aMM := (yX7_need, cX7_need, 3, (some .int))
def mX7_count : aMM := (yX7_count, cX7_count, 2, (some .int))
def mX7_minute : aMM := (yX7_minute, cX7_minute, 1, (some .int))
def mX7_lift : aMM := (yX7_lift, cX7_lift, 3, (some .int))
def mX7_move : aMM := (yX7_move, cX7_move, 4, (some .int))
def mX7_strike : aMM := (yX7_strike, cX7_strike, 2, (some .int))
def mX7_teach : aMM := (yX7_teach, cX7_teach, 4, (some .int))
def mX7_undo : aMM := (yX7_undo, cX7_undo, 1, (some .int))
def mX7_ahead : aMM := (yX7_ahead, cX7_ahead, 4, (some .int))
def mX7_due : aMM := (yX7_due, cX7_due, 3, (some .int))
def mX7_served : aMM := (yX7_served, cX7_served, 5, (some .int))
def mX7_shut : aMM := (yX7_shut, cX7_shut, 7, (some .int))
def mX7_moved : aMM := (yX7_moved, cX7_moved, 8, (some .int))
def mX7_tray : aMM := (yX7_tray, cX7_tray, 7, (some .int))
def mX7_rests : aMM := (yX7_rests, cX7_rests, 8, (some .int))
def mX7_ring : aMM := (yX7_ring, cX7_ring, 5, (some .int))
def mX7_pence : aMM := (yX7_pence, cX7_pence, 13, (some .int))
def mX7_note : aMM := (yX7_note, cX7_note, 4, (some .int))
def mX7_knowing : aMM := (yX7_knowing, cX7_knowing, 6, (some .int))
def mX7_ruled : aMM := (yX7_ruled, cX7_ruled, 4, (some .int))
def mX7_look : aMM := (yX7_look, cX7_look, 6, (some .int))
def mX7_seed : aMM := (yX7_seed, cX7_seed, 3, (some .int))
def mX7_visits : aMM := (yX7_visits, cX7_visits, 12, (some .int))
def mX7_image : aMM := (yX7_image, cX7_image, 2, (some .int))
def mX7_back : aMM := (yX7_back, cX7_back, 2, (some .int))
def mX7_stands : aMM := (yX7_stands, cX7_stands, 1, (some .boolean))
def mX7_isThing : aMM := (yX7_isThing, cX7_isThing, 2, (some .boolean))
def mX7_isCat : aMM := (yX7_isCat, cX7_isCat, 2, (some .boolean))
def mX7_isNeed : aMM := (yX7_isNeed, cX7_isNeed, 2, (some .boolean))
def mX7_ruleBy : aMM := (yX7_ruleBy, cX7_ruleBy, 2, (some (.object "CatNeed$Rule")))
def mX7_inForce : aMM := (yX7_inForce, cX7_inForce, 1, (some (.object "CatNeed$Rule")))
def mX7_goOn : aMM := (yX7_goOn, cX7_goOn, 4, none)
def mX7_worthMet : aMM := (yX7_worthMet, cX7_worthMet, 5, (some .int))
def mX7_losesNone : aMM := (yX7_losesNone, cX7_losesNone, 5, (some .boolean))
def mX7_knowsBy : aMM := (yX7_knowsBy, cX7_knowsBy, 1, (some .int))
def mX7_weigh : aMM := (yX7_weigh, cX7_weigh, 7, none)
def mX7_isRest : aMM := (yX7_isRest, cX7_isRest, 5, (some .boolean))
def mX7_share : aMM := (yX7_share, cX7_share, 2, (some .long))
def mX7_notesHold : aMM := (yX7_notesHold, cX7_notesHold, 4, (some .boolean))
def mX7_rulesThatHold : aMM := (yX7_rulesThatHold, cX7_rulesThatHold, 3, (some .int))
def mX7_countAlike : aMM := (yX7_countAlike, cX7_countAlike, 5, none)
def mX7_mostAlike : aMM := (yX7_mostAlike, cX7_mostAlike, 4, (some .int))
def mX7_drawn : aMM := (yX7_drawn, cX7_drawn, 1, (some .int))
def mX8_init : aMM := (yX8_init, cX8_init, 1, none)
def mX8_in : aMM := (yX8_in, cX8_in, 6, (some .boolean))
def mX8_bits : aMM := (yX8_bits, cX8_bits, 3, (some .int))
def mX8_has : aMM := (yX8_has, cX8_has, 2, (some .boolean))
def mX8_isRoom : aMM := (yX8_isRoom, cX8_isRoom, 1, (some .boolean))
def mX8_isThing : aMM := (yX8_isThing, cX8_isThing, 2, (some .boolean))
def mX8_isCat : aMM := (yX8_isCat, cX8_isCat, 2, (some .boolean))
def mX8_isNeed : aMM := (yX8_isNeed, cX8_isNeed, 2, (some .boolean))
def mX8_feed : aMM := (yX8_feed, cX8_feed, 6, (some .int))
def mX8_put : aMM := (yX8_put, cX8_put, 3, none)
def mX8_end : aMM := (yX8_end, cX8_end, 2, (some .int))
def mX8_wordOf : aMM := (yX8_wordOf, cX8_wordOf, 1, (some (.object "java/lang/String")))
def mX8_fails : aMM := (yX8_fails, cX8_fails, 3, none)
def mX8_sign : aMM := (yX8_sign, cX8_sign, 1, (some .int))
def mX8_blanks : aMM := (yX8_blanks, cX8_blanks, 1, none)
def mX8_isDigit : aMM := (yX8_isDigit, cX8_isDigit, 1, (some .boolean))
def mX8_stood : aMM := (yX8_stood, cX8_stood, 5, (some .boolean))
def mX8_takes : aMM := (yX8_takes, cX8_takes, 3, (some .boolean))
def mX8_entry : aMM := (yX8_entry, cX8_entry, 3, none)
def mX8_isCounted : aMM := (yX8_isCounted, cX8_isCounted, 2, none)
def mX8_digits : aMM := (yX8_digits, cX8_digits, 4, (some .int))
def mX8_value : aMM := (yX8_value, cX8_value, 3, none)
def mX8_term : aMM := (yX8_term, cX8_term, 2, none)
def mX8_sum : aMM := (yX8_sum, cX8_sum, 2, none)
def mX8_compared : aMM := (yX8_compared, cX8_compared, 3, none)
def mX8_top : aMM := (yX8_top, cX8_top, 1, (some .int))
def mX8_opens : aMM := (yX8_opens, cX8_opens, 2, none)
def mX8_answers : aMM := (yX8_answers, cX8_answers, 2, none)
def mX8_fact : aMM := (yX8_fact, cX8_fact, 1, (some .boolean))
def mX8_test : aMM := (yX8_test, cX8_test, 5, none)
def mX8_amount : aMM := (yX8_amount, cX8_amount, 5, (some .int))
def mX8_roomWord : aMM := (yX8_roomWord, cX8_roomWord, 1, (some (.object "java/lang/String")))
def mX8_roomPart : aMM := (yX8_roomPart, cX8_roomPart, 3, none)
def mX8_isFull : aMM := (yX8_isFull, cX8_isFull, 3, (some .boolean))
def mX8_roomClause : aMM := (yX8_roomClause, cX8_roomClause, 4, none)
def mX8_copies : aMM := (yX8_copies, cX8_copies, 3, none)
def mX8_goesOn : aMM := (yX8_goesOn, cX8_goesOn, 2, (some .boolean))
def mX8_starts : aMM := (yX8_starts, cX8_starts, 1, none)
def mX8_readsAll : aMM := (yX8_readsAll, cX8_readsAll, 3, none)
def mX8_begins : aMM := (yX8_begins, cX8_begins, 2, none)
def mX8_room : aMM := (yX8_room, cX8_room, 2, (some .int))
def mX8_ruleClause : aMM := (yX8_ruleClause, cX8_ruleClause, 4, none)
def mX8_rule : aMM := (yX8_rule, cX8_rule, 3, (some .int))
def mX8_force : aMM := (yX8_force, cX8_force, 3, (some .int))
def mX8_wanted : aMM := (yX8_wanted, cX8_wanted, 3, (some .long))
def mX8_truth : aMM := (yX8_truth, cX8_truth, 1, (some .long))
def mX8_both : aMM := (yX8_both, cX8_both, 5, (some .long))
def mX8_answer : aMM := (yX8_answer, cX8_answer, 8, (some .long))
def mX8_isDue : aMM := (yX8_isDue, cX8_isDue, 3, (some .boolean))
def mX8_catsOn : aMM := (yX8_catsOn, cX8_catsOn, 4, (some .int))
def mX8_metOf : aMM := (yX8_metOf, cX8_metOf, 4, (some .int))
def mX8_lostOf : aMM := (yX8_lostOf, cX8_lostOf, 4, (some .int))
def mX8_thing : aMM := (yX8_thing, cX8_thing, 3, (some .int))
def mX8_cat : aMM := (yX8_cat, cX8_cat, 3, (some .int))
def mX8_need : aMM := (yX8_need, cX8_need, 3, (some .int))
def mX8_dueIn : aMM := (yX8_dueIn, cX8_dueIn, 5, (some .int))
def mX8_likes : aMM := (yX8_likes, cX8_likes, 3, (some .long))
def mX8_choice : aMM := (yX8_choice, cX8_choice, 8, (some .int))
def mX8_walks : aMM := (yX8_walks, cX8_walks, 6, none)
def mX8_goes : aMM := (yX8_goes, cX8_goes, 3, (some .int))
def mX8_goFor : aMM := (yX8_goFor, cX8_goFor, 3, none)
def mX8_sumOf : aMM := (yX8_sumOf, cX8_sumOf, 4, (some .int))
def mX8_moves : aMM := (yX8_moves, cX8_moves, 3, (some .int))
def mX8_movesRow : aMM := (yX8_movesRow, cX8_movesRow, 3, none)
def mX8_movesAll : aMM := (yX8_movesAll, cX8_movesAll, 3, none)
def mX8_keepsAct : aMM := (yX8_keepsAct, cX8_keepsAct, 2, none)
def mX8_undo : aMM := (yX8_undo, cX8_undo, 1, (some .int))
def mX8_minute : aMM := (yX8_minute, cX8_minute, 1, (some .int))
def mX8_lift : aMM := (yX8_lift, cX8_lift, 3, (some .int))
def mX8_move : aMM := (yX8_move, cX8_move, 4, (some .int))
def mX8_strike : aMM := (yX8_strike, cX8_strike, 2, (some .int))
def mX8_teach : aMM := (yX8_teach, cX8_teach, 4, (some .int))
def mX8_keepsAll : aMM := (yX8_keepsAll, cX8_keepsAll, 1, none)
def mX8_laysBack : aMM := (yX8_laysBack, cX8_laysBack, 1, none)
def mX8_ahead : aMM := (yX8_ahead, cX8_ahead, 5, (some .int))
def mX8_due : aMM := (yX8_due, cX8_due, 2, (some .int))
def mX8_served : aMM := (yX8_served, cX8_served, 4, (some .int))
def mX8_worthMet : aMM := (yX8_worthMet, cX8_worthMet, 5, (some .int))
def mX8_shut : aMM := (yX8_shut, cX8_shut, 7, (some .int))
def mX8_moved : aMM := (yX8_moved, cX8_moved, 8, (some .int))
def mX8_isNoneLost : aMM := (yX8_isNoneLost, cX8_isNoneLost, 5, (some .boolean))
def mX8_tray : aMM := (yX8_tray, cX8_tray, 6, (some .int))
def mX8_earns : aMM := (yX8_earns, cX8_earns, 4, (some .int))
def mX8_laysKnown : aMM := (yX8_laysKnown, cX8_laysKnown, 6, none)
def mX8_isRest : aMM := (yX8_isRest, cX8_isRest, 3, (some .boolean))
def mX8_rests : aMM := (yX8_rests, cX8_rests, 8, (some .int))
def mX8_laysAll : aMM := (yX8_laysAll, cX8_laysAll, 3, none)
def mX8_isAlike : aMM := (yX8_isAlike, cX8_isAlike, 4, (some .boolean))
def mX8_ring : aMM := (yX8_ring, cX8_ring, 4, (some .int))
def mX8_worthOf : aMM := (yX8_worthOf, cX8_worthOf, 2, (some .long))
def mX8_pence : aMM := (yX8_pence, cX8_pence, 15, (some .int))
def mX8_note : aMM := (yX8_note, cX8_note, 5, (some .int))
def mX8_doNotesFit : aMM := (yX8_doNotesFit, cX8_doNotesFit, 2, (some .boolean))
def mX8_couldRule : aMM := (yX8_couldRule, cX8_couldRule, 2, (some .boolean))
def mX8_ruled : aMM := (yX8_ruled, cX8_ruled, 5, (some .int))
def mX8_knowing : aMM := (yX8_knowing, cX8_knowing, 6, (some .int))
def mX8_mostAlike : aMM := (yX8_mostAlike, cX8_mostAlike, 7, (some .int))
def mX8_look : aMM := (yX8_look, cX8_look, 6, (some .int))
def mX8_seed : aMM := (yX8_seed, cX8_seed, 3, (some .int))
def mX8_draws : aMM := (yX8_draws, cX8_draws, 2, (some .int))
def mX8_visits : aMM := (yX8_visits, cX8_visits, 11, (some .int))
def mX8_allDue : aMM := (yX8_allDue, cX8_allDue, 3, (some .int))
def mX8_count : aMM := (yX8_count, cX8_count, 2, (some .int))
def mX8_carryRow : aMM := (yX8_carryRow, cX8_carryRow, 3, none)
def mX8_carriesAll : aMM := (yX8_carriesAll, cX8_carriesAll, 3, none)
def mX8_image : aMM := (yX8_image, cX8_image, 2, (some .int))
def mX8_back : aMM := (yX8_back, cX8_back, 2, (some .int))
def mJ11_isValidCodePoint_9a6ad : aMM := (yJ11_isValidCodePoint_9a6ad, cJ11_isValidCodePoint_9a6ad, 2, (some .boolean))
def mJ11_highSurrogate_5068e : aMM := (yJ11_highSurrogate_5068e, cJ11_highSurrogate_5068e, 1, (some .char))
def mJ11_lowSurrogate_5068e : aMM := (yJ11_lowSurrogate_5068e, cJ11_lowSurrogate_5068e, 1, (some .char))
def mJ6_bitCount_0f7a4 : aMM := (yJ6_bitCount_0f7a4, cJ6_bitCount_0f7a4, 1, (some .int))
def mJ9_abs_0f7a4 : aMM := (yJ9_abs_0f7a4, cJ9_abs_0f7a4, 1, (some .int))
def mJ9_max_7cf53 : aMM := (yJ9_max_7cf53, cJ9_max_7cf53, 2, (some .int))
def mJ9_min_7cf53 : aMM := (yJ9_min_7cf53, cJ9_min_7cf53, 2, (some .int))
def mJ0_length_8abf5 : aMM := (yJ0_length_8abf5, cJ0_length_8abf5, 1, (some .int))
def mJ0_charAt_5068e : aMM := (yJ0_charAt_5068e, cJ0_charAt_5068e, 2, (some .char))
def mJ0_indexOf_0f7a4 : aMM := (yJ0_indexOf_0f7a4, cJ0_indexOf_0f7a4, 2, (some .int))
def mJ0_indexOf_7cf53 : aMM := (yJ0_indexOf_7cf53, cJ0_indexOf_7cf53, 3, (some .int))
def mJ0_coder_7d493 : aMM := (yJ0_coder_7d493, cJ0_coder_7d493, 1, (some .byte))
def mJ0_isLatin1_aae02 : aMM := (yJ0_isLatin1_aae02, cJ0_isLatin1_aae02, 1, (some .boolean))
def mJ0_checkIndex_df160 : aMM := (yJ0_checkIndex_df160, cJ0_checkIndex_df160, 2, none)
def mJ0_checkBoundsBeginEnd_23922 : aMM := (yJ0_checkBoundsBeginEnd_23922, cJ0_checkBoundsBeginEnd_23922, 3, none)
def mJ1_charAt_3b067 : aMM := (yJ1_charAt_3b067, cJ1_charAt_3b067, 2, (some .char))
def mJ1_canEncode_9a6ad : aMM := (yJ1_canEncode_9a6ad, cJ1_canEncode_9a6ad, 1, (some .boolean))
def mJ1_indexOf_4cfef : aMM := (yJ1_indexOf_4cfef, cJ1_indexOf_4cfef, 4, (some .int))
def mJ1_indexOfChar_4cfef : aMM := (yJ1_indexOfChar_4cfef, cJ1_indexOfChar_4cfef, 6, (some .int))
def mJ2_getChar_3b067 : aMM := (yJ2_getChar_3b067, cJ2_getChar_3b067, 2, (some .char))
def mJ2_length_9d52b : aMM := (yJ2_length_9d52b, cJ2_length_9d52b, 1, (some .int))
def mJ2_indexOf_4cfef : aMM := (yJ2_indexOf_4cfef, cJ2_indexOf_4cfef, 4, (some .int))
def mJ2_indexOfChar_4cfef : aMM := (yJ2_indexOfChar_4cfef, cJ2_indexOfChar_4cfef, 4, (some .int))
def mJ2_indexOfCharUnsafe_4cfef : aMM := (yJ2_indexOfCharUnsafe_4cfef, cJ2_indexOfCharUnsafe_4cfef, 5, (some .int))
def mJ2_indexOfSupplementary_4cfef : aMM := (yJ2_indexOfSupplementary_4cfef, cJ2_indexOfSupplementary_4cfef, 7, (some .int))
def mJ2_charAt_3b067 : aMM := (yJ2_charAt_3b067, cJ2_charAt_3b067, 2, (some .char))
def mJ2_checkIndex_2214a : aMM := (yJ2_checkIndex_2214a, cJ2_checkIndex_2214a, 2, none)
def mJ2_checkBoundsBeginEnd_d044e : aMM := (yJ2_checkBoundsBeginEnd_d044e, cJ2_checkBoundsBeginEnd_d044e, 3, none)
def mJ3_checkIndex_8e157 : aMM := (yJ3_checkIndex_8e157, cJ3_checkIndex_8e157, 3, (some .int))
def mJ3_checkFromToIndex_8c36e : aMM := (yJ3_checkFromToIndex_8c36e, cJ3_checkFromToIndex_8c36e, 4, (some .int))
def mL_law : aMM := (yL_law, code, maxLocals, ret)
theorem aBg0 {w : Cond} (i : Nat) (h : (k2_sels lw_privs)[i]? = some w) (hg : goodWord w = true) : w ∈ aBIG := List.mem_filter.mpr ⟨List.mem_append_left _ (List.mem_of_getElem? h), hg⟩
theorem aBg1 {w : Cond} (i : Nat) (h : tables_1_1[i]? = some w) (hg : goodWord w = true) : w ∈ aBIG := List.mem_filter.mpr ⟨List.mem_append_right _ (show w ∈ tables_1 from List.mem_append_left _ (List.mem_of_getElem? h)), hg⟩
theorem aBg2 {w : Cond} (i : Nat) (h : tables_1_2[i]? = some w) (hg : goodWord w = true) : w ∈ aBIG := List.mem_filter.mpr ⟨List.mem_append_right _ (show w ∈ tables_1 from List.mem_append_right _ (List.mem_append_left _ (List.mem_of_getElem? h))), hg⟩
theorem aBg3 {w : Cond} (i : Nat) (h : tables_1_3[i]? = some w) (hg : goodWord w = true) : w ∈ aBIG := List.mem_filter.mpr ⟨List.mem_append_right _ (show w ∈ tables_1 from List.mem_append_right _ (List.mem_append_right _ (List.mem_append_left _ (List.mem_of_getElem? h)))), hg⟩
theorem aBg4 {w : Cond} (i : Nat) (h : tables_1_4[i]? = some w) (hg : goodWord w = true) : w ∈ aBIG := List.mem_filter.mpr ⟨List.mem_append_right _ (show w ∈ tables_1 from List.mem_append_right _ (List.mem_append_right _ (List.mem_append_right _ (List.mem_append_left _ (List.mem_of_getElem? h))))), hg⟩
theorem aBg5 {w : Cond} (i : Nat) (h : tables_1_5[i]? = some w) (hg : goodWord w = true) : w ∈ aBIG := List.mem_filter.mpr ⟨List.mem_append_right _ (show w ∈ tables_1 from List.mem_append_right _ (List.mem_append_right _ (List.mem_append_right _ (List.mem_append_right _ (List.mem_append_left _ (List.mem_of_getElem? h)))))), hg⟩
theorem aBg6 {w : Cond} (i : Nat) (h : tables_1_6[i]? = some w) (hg : goodWord w = true) : w ∈ aBIG := List.mem_filter.mpr ⟨List.mem_append_right _ (show w ∈ tables_1 from List.mem_append_right _ (List.mem_append_right _ (List.mem_append_right _ (List.mem_append_right _ (List.mem_append_right _ (List.mem_append_left _ (List.mem_of_getElem? h))))))), hg⟩
theorem aBg7 {w : Cond} (i : Nat) (h : tables_1_7[i]? = some w) (hg : goodWord w = true) : w ∈ aBIG := List.mem_filter.mpr ⟨List.mem_append_right _ (show w ∈ tables_1 from List.mem_append_right _ (List.mem_append_right _ (List.mem_append_right _ (List.mem_append_right _ (List.mem_append_right _ (List.mem_append_right _ (List.mem_of_getElem? h))))))), hg⟩
set_option maxRecDepth 20000 in
theorem bw0 : (Cond.selects "CatNeed" (⟨"CatNeed", "isThing", "(I)Z"⟩ : MethodName) (⟨"CatNeed", "isThing", "(I)Z"⟩ : MethodName)) ∈ aBIG := aBg0 0 rfl rfl
set_option maxRecDepth 20000 in
theorem bw1 : (Cond.selects "CatNeed" (⟨"CatNeed", "isCat", "(I)Z"⟩ : MethodName) (⟨"CatNeed", "isCat", "(I)Z"⟩ : MethodName)) ∈ aBIG := aBg0 1 rfl rfl
set_option maxRecDepth 20000 in
theorem bw2 : (Cond.selects "CatNeed" (⟨"CatNeed", "isNeed", "(I)Z"⟩ : MethodName) (⟨"CatNeed", "isNeed", "(I)Z"⟩ : MethodName)) ∈ aBIG := aBg0 2 rfl rfl
set_option maxRecDepth 20000 in
theorem bw3 : (Cond.selects "CatNeed$State" (⟨"CatNeed$State", "isDue", "(LCatNeed$Told;II)Z"⟩ : MethodName) (⟨"CatNeed$State", "isDue", "(LCatNeed$Told;II)Z"⟩ : MethodName)) ∈ aBIG := aBg0 3 rfl rfl
set_option maxRecDepth 20000 in
theorem bw4 : (Cond.selects "CatNeed" (⟨"CatNeed", "stands", "()Z"⟩ : MethodName) (⟨"CatNeed", "stands", "()Z"⟩ : MethodName)) ∈ aBIG := aBg0 4 rfl rfl
set_option maxRecDepth 20000 in
theorem bw5 : (Cond.selects "CatNeed" (⟨"CatNeed", "inForce", "()LCatNeed$Rule;"⟩ : MethodName) (⟨"CatNeed", "inForce", "()LCatNeed$Rule;"⟩ : MethodName)) ∈ aBIG := aBg0 5 rfl rfl
set_option maxRecDepth 20000 in
theorem bw6 : (Cond.selects "CatNeed" (⟨"CatNeed", "ruleBy", "(I)LCatNeed$Rule;"⟩ : MethodName) (⟨"CatNeed", "ruleBy", "(I)LCatNeed$Rule;"⟩ : MethodName)) ∈ aBIG := aBg0 6 rfl rfl
set_option maxRecDepth 20000 in
theorem bw7 : (Cond.selects "CatNeed$State" (⟨"CatNeed$State", "foreseen", "(LCatNeed$Told;I)I"⟩ : MethodName) (⟨"CatNeed$State", "foreseen", "(LCatNeed$Told;I)I"⟩ : MethodName)) ∈ aBIG := aBg0 7 rfl rfl
set_option maxRecDepth 20000 in
theorem bw8 : (Cond.selects "CatNeed$State" (⟨"CatNeed$State", "favoured", "(LCatNeed$Told;ILCatNeed$Rule;)I"⟩ : MethodName) (⟨"CatNeed$State", "favoured", "(LCatNeed$Told;ILCatNeed$Rule;)I"⟩ : MethodName)) ∈ aBIG := aBg0 8 rfl rfl
set_option maxRecDepth 20000 in
theorem bw9 : (Cond.selects "CatNeed$State" (⟨"CatNeed$State", "goTowards", "(LCatNeed$Told;II)V"⟩ : MethodName) (⟨"CatNeed$State", "goTowards", "(LCatNeed$Told;II)V"⟩ : MethodName)) ∈ aBIG := aBg0 9 rfl rfl
set_option maxRecDepth 20000 in
theorem bw10 : (Cond.selects "CatNeed$State" (⟨"CatNeed$State", "settle", "(LCatNeed$Told;I)V"⟩ : MethodName) (⟨"CatNeed$State", "settle", "(LCatNeed$Told;I)V"⟩ : MethodName)) ∈ aBIG := aBg0 10 rfl rfl
set_option maxRecDepth 20000 in
theorem bw11 : (Cond.selects "CatNeed" (⟨"CatNeed", "goOn", "(ILCatNeed$Rule;)V"⟩ : MethodName) (⟨"CatNeed", "goOn", "(ILCatNeed$Rule;)V"⟩ : MethodName)) ∈ aBIG := aBg0 11 rfl rfl
set_option maxRecDepth 20000 in
theorem bw12 : (Cond.selects "CatNeed" (⟨"CatNeed", "worthMet", "(I)I"⟩ : MethodName) (⟨"CatNeed", "worthMet", "(I)I"⟩ : MethodName)) ∈ aBIG := aBg0 12 rfl rfl
set_option maxRecDepth 20000 in
theorem bw13 : (Cond.selects "CatNeed" (⟨"CatNeed", "losesNone", "(II)Z"⟩ : MethodName) (⟨"CatNeed", "losesNone", "(II)Z"⟩ : MethodName)) ∈ aBIG := aBg0 13 rfl rfl
set_option maxRecDepth 20000 in
theorem bw14 : (Cond.selects "CatNeed" (⟨"CatNeed", "weigh", "(IIII)V"⟩ : MethodName) (⟨"CatNeed", "weigh", "(IIII)V"⟩ : MethodName)) ∈ aBIG := aBg0 14 rfl rfl
set_option maxRecDepth 20000 in
theorem bw15 : (Cond.selects "CatNeed" (⟨"CatNeed", "isRest", "(I)Z"⟩ : MethodName) (⟨"CatNeed", "isRest", "(I)Z"⟩ : MethodName)) ∈ aBIG := aBg0 15 rfl rfl
set_option maxRecDepth 20000 in
theorem bw16 : (Cond.selects "CatNeed" (⟨"CatNeed", "share", "(I)J"⟩ : MethodName) (⟨"CatNeed", "share", "(I)J"⟩ : MethodName)) ∈ aBIG := aBg0 16 rfl rfl
set_option maxRecDepth 20000 in
theorem bw17 : (Cond.selects "CatNeed" (⟨"CatNeed", "notesHold", "(LCatNeed$Rule;)Z"⟩ : MethodName) (⟨"CatNeed", "notesHold", "(LCatNeed$Rule;)Z"⟩ : MethodName)) ∈ aBIG := aBg0 17 rfl rfl
set_option maxRecDepth 20000 in
theorem bw18 : (Cond.selects "CatNeed" (⟨"CatNeed", "rulesThatHold", "()I"⟩ : MethodName) (⟨"CatNeed", "rulesThatHold", "()I"⟩ : MethodName)) ∈ aBIG := aBg0 18 rfl rfl
set_option maxRecDepth 20000 in
theorem bw19 : (Cond.selects "CatNeed" (⟨"CatNeed", "countAlike", "(II)V"⟩ : MethodName) (⟨"CatNeed", "countAlike", "(II)V"⟩ : MethodName)) ∈ aBIG := aBg0 19 rfl rfl
set_option maxRecDepth 20000 in
theorem bw20 : (Cond.selects "CatNeed" (⟨"CatNeed", "mostAlike", "(I)I"⟩ : MethodName) (⟨"CatNeed", "mostAlike", "(I)I"⟩ : MethodName)) ∈ aBIG := aBg0 20 rfl rfl
set_option maxRecDepth 20000 in
theorem bw21 : (Cond.selects "CatNeedModel" (⟨"CatNeedModel", "put", "(I)V"⟩ : MethodName) (⟨"CatNeedModel", "put", "(I)V"⟩ : MethodName)) ∈ aBIG := aBg0 21 rfl rfl
set_option maxRecDepth 20000 in
theorem bw22 : (Cond.selects "CatNeedModel" (⟨"CatNeedModel", "readsAll", "()V"⟩ : MethodName) (⟨"CatNeedModel", "readsAll", "()V"⟩ : MethodName)) ∈ aBIG := aBg0 22 rfl rfl
set_option maxRecDepth 20000 in
theorem bw23 : (Cond.selects "CatNeedModel" (⟨"CatNeedModel", "starts", "()V"⟩ : MethodName) (⟨"CatNeedModel", "starts", "()V"⟩ : MethodName)) ∈ aBIG := aBg0 23 rfl rfl
set_option maxRecDepth 20000 in
theorem bw24 : (Cond.selects "CatNeedModel" (⟨"CatNeedModel", "roomClause", "(I)V"⟩ : MethodName) (⟨"CatNeedModel", "roomClause", "(I)V"⟩ : MethodName)) ∈ aBIG := aBg0 24 rfl rfl
set_option maxRecDepth 20000 in
theorem bw25 : (Cond.selects "CatNeedModel" (⟨"CatNeedModel", "blanks", "()V"⟩ : MethodName) (⟨"CatNeedModel", "blanks", "()V"⟩ : MethodName)) ∈ aBIG := aBg0 25 rfl rfl
set_option maxRecDepth 20000 in
theorem bw26 : (Cond.selects "CatNeedModel" (⟨"CatNeedModel", "sign", "()I"⟩ : MethodName) (⟨"CatNeedModel", "sign", "()I"⟩ : MethodName)) ∈ aBIG := aBg0 26 rfl rfl
set_option maxRecDepth 20000 in
theorem bw27 : (Cond.selects "CatNeedModel" (⟨"CatNeedModel", "stood", "(Ljava/lang/String;)Z"⟩ : MethodName) (⟨"CatNeedModel", "stood", "(Ljava/lang/String;)Z"⟩ : MethodName)) ∈ aBIG := aBg0 27 rfl rfl
set_option maxRecDepth 20000 in
theorem bw28 : (Cond.selects "CatNeedModel" (⟨"CatNeedModel", "fails", "(II)V"⟩ : MethodName) (⟨"CatNeedModel", "fails", "(II)V"⟩ : MethodName)) ∈ aBIG := aBg0 28 rfl rfl
set_option maxRecDepth 20000 in
theorem bw29 : (Cond.selects "CatNeedModel" (⟨"CatNeedModel", "isFull", "(II)Z"⟩ : MethodName) (⟨"CatNeedModel", "isFull", "(II)Z"⟩ : MethodName)) ∈ aBIG := aBg0 29 rfl rfl
set_option maxRecDepth 20000 in
theorem bw30 : (Cond.selects "CatNeedModel" (⟨"CatNeedModel", "roomPart", "(I)V"⟩ : MethodName) (⟨"CatNeedModel", "roomPart", "(I)V"⟩ : MethodName)) ∈ aBIG := aBg0 30 rfl rfl
set_option maxRecDepth 20000 in
theorem bw31 : (Cond.selects "CatNeedModel" (⟨"CatNeedModel", "amount", "(II)I"⟩ : MethodName) (⟨"CatNeedModel", "amount", "(II)I"⟩ : MethodName)) ∈ aBIG := aBg0 31 rfl rfl
set_option maxRecDepth 20000 in
theorem bw32 : (Cond.selects "CatNeedModel" (⟨"CatNeedModel", "digits", "(I)I"⟩ : MethodName) (⟨"CatNeedModel", "digits", "(I)I"⟩ : MethodName)) ∈ aBIG := aBg0 32 rfl rfl
set_option maxRecDepth 20000 in
theorem bw33 : (Cond.selects "CatNeedModel" (⟨"CatNeedModel", "isDigit", "()Z"⟩ : MethodName) (⟨"CatNeedModel", "isDigit", "()Z"⟩ : MethodName)) ∈ aBIG := aBg0 33 rfl rfl
set_option maxRecDepth 20000 in
theorem bw34 : (Cond.selects "CatNeedModel" (⟨"CatNeedModel", "goesOn", "()Z"⟩ : MethodName) (⟨"CatNeedModel", "goesOn", "()Z"⟩ : MethodName)) ∈ aBIG := aBg0 34 rfl rfl
set_option maxRecDepth 20000 in
theorem bw35 : (Cond.selects "CatNeedModel" (⟨"CatNeedModel", "begins", "()V"⟩ : MethodName) (⟨"CatNeedModel", "begins", "()V"⟩ : MethodName)) ∈ aBIG := aBg0 35 rfl rfl
set_option maxRecDepth 20000 in
theorem bw36 : (Cond.selects "CatNeedModel" (⟨"CatNeedModel", "ruleClause", "(I)V"⟩ : MethodName) (⟨"CatNeedModel", "ruleClause", "(I)V"⟩ : MethodName)) ∈ aBIG := aBg0 36 rfl rfl
set_option maxRecDepth 20000 in
theorem bw37 : (Cond.selects "CatNeedModel" (⟨"CatNeedModel", "sum", "()V"⟩ : MethodName) (⟨"CatNeedModel", "sum", "()V"⟩ : MethodName)) ∈ aBIG := aBg0 37 rfl rfl
set_option maxRecDepth 20000 in
theorem bw38 : (Cond.selects "CatNeedModel" (⟨"CatNeedModel", "term", "()V"⟩ : MethodName) (⟨"CatNeedModel", "term", "()V"⟩ : MethodName)) ∈ aBIG := aBg0 38 rfl rfl
set_option maxRecDepth 20000 in
theorem bw39 : (Cond.selects "CatNeedModel" (⟨"CatNeedModel", "value", "()V"⟩ : MethodName) (⟨"CatNeedModel", "value", "()V"⟩ : MethodName)) ∈ aBIG := aBg0 39 rfl rfl
set_option maxRecDepth 20000 in
theorem bw40 : (Cond.selects "CatNeedModel" (⟨"CatNeedModel", "isCounted", "(I)V"⟩ : MethodName) (⟨"CatNeedModel", "isCounted", "(I)V"⟩ : MethodName)) ∈ aBIG := aBg0 40 rfl rfl
set_option maxRecDepth 20000 in
theorem bw41 : (Cond.selects "CatNeedModel" (⟨"CatNeedModel", "entry", "(II)V"⟩ : MethodName) (⟨"CatNeedModel", "entry", "(II)V"⟩ : MethodName)) ∈ aBIG := aBg0 41 rfl rfl
set_option maxRecDepth 20000 in
theorem bw42 : (Cond.selects "CatNeedModel" (⟨"CatNeedModel", "takes", "(Ljava/lang/String;)Z"⟩ : MethodName) (⟨"CatNeedModel", "takes", "(Ljava/lang/String;)Z"⟩ : MethodName)) ∈ aBIG := aBg0 42 rfl rfl
set_option maxRecDepth 20000 in
theorem bw43 : (Cond.selects "CatNeedModel" (⟨"CatNeedModel", "test", "()V"⟩ : MethodName) (⟨"CatNeedModel", "test", "()V"⟩ : MethodName)) ∈ aBIG := aBg0 43 rfl rfl
set_option maxRecDepth 20000 in
theorem bw44 : (Cond.selects "CatNeedModel" (⟨"CatNeedModel", "fact", "()Z"⟩ : MethodName) (⟨"CatNeedModel", "fact", "()Z"⟩ : MethodName)) ∈ aBIG := aBg0 44 rfl rfl
set_option maxRecDepth 20000 in
theorem bw45 : (Cond.selects "CatNeedModel" (⟨"CatNeedModel", "opens", "(I)V"⟩ : MethodName) (⟨"CatNeedModel", "opens", "(I)V"⟩ : MethodName)) ∈ aBIG := aBg0 45 rfl rfl
set_option maxRecDepth 20000 in
theorem bw46 : (Cond.selects "CatNeedModel" (⟨"CatNeedModel", "compared", "()V"⟩ : MethodName) (⟨"CatNeedModel", "compared", "()V"⟩ : MethodName)) ∈ aBIG := aBg0 46 rfl rfl
set_option maxRecDepth 20000 in
theorem bw47 : (Cond.selects "CatNeedModel" (⟨"CatNeedModel", "answers", "(I)V"⟩ : MethodName) (⟨"CatNeedModel", "answers", "(I)V"⟩ : MethodName)) ∈ aBIG := aBg0 47 rfl rfl
set_option maxRecDepth 20000 in
theorem bw48 : (Cond.selects "CatNeedModel" (⟨"CatNeedModel", "top", "()I"⟩ : MethodName) (⟨"CatNeedModel", "top", "()I"⟩ : MethodName)) ∈ aBIG := aBg0 48 rfl rfl
set_option maxRecDepth 20000 in
theorem bw49 : (Cond.selects "CatNeedModel" (⟨"CatNeedModel", "isThing", "(I)Z"⟩ : MethodName) (⟨"CatNeedModel", "isThing", "(I)Z"⟩ : MethodName)) ∈ aBIG := aBg0 49 rfl rfl
set_option maxRecDepth 20000 in
theorem bw50 : (Cond.selects "CatNeedModel" (⟨"CatNeedModel", "metOf", "(I)I"⟩ : MethodName) (⟨"CatNeedModel", "metOf", "(I)I"⟩ : MethodName)) ∈ aBIG := aBg0 50 rfl rfl
set_option maxRecDepth 20000 in
theorem bw51 : (Cond.selects "CatNeedModel" (⟨"CatNeedModel", "lostOf", "(I)I"⟩ : MethodName) (⟨"CatNeedModel", "lostOf", "(I)I"⟩ : MethodName)) ∈ aBIG := aBg0 51 rfl rfl
set_option maxRecDepth 20000 in
theorem bw52 : (Cond.selects "CatNeedModel" (⟨"CatNeedModel", "catsOn", "(I)I"⟩ : MethodName) (⟨"CatNeedModel", "catsOn", "(I)I"⟩ : MethodName)) ∈ aBIG := aBg0 52 rfl rfl
set_option maxRecDepth 20000 in
theorem bw53 : (Cond.selects "CatNeedModel" (⟨"CatNeedModel", "isCat", "(I)Z"⟩ : MethodName) (⟨"CatNeedModel", "isCat", "(I)Z"⟩ : MethodName)) ∈ aBIG := aBg0 53 rfl rfl
set_option maxRecDepth 20000 in
theorem bw54 : (Cond.selects "CatNeedModel" (⟨"CatNeedModel", "isNeed", "(I)Z"⟩ : MethodName) (⟨"CatNeedModel", "isNeed", "(I)Z"⟩ : MethodName)) ∈ aBIG := aBg0 54 rfl rfl
set_option maxRecDepth 20000 in
theorem bw55 : (Cond.selects "CatNeedModel" (⟨"CatNeedModel", "movesAll", "(IZ)V"⟩ : MethodName) (⟨"CatNeedModel", "movesAll", "(IZ)V"⟩ : MethodName)) ∈ aBIG := aBg0 55 rfl rfl
set_option maxRecDepth 20000 in
theorem bw56 : (Cond.selects "CatNeedModel" (⟨"CatNeedModel", "moves", "(I)I"⟩ : MethodName) (⟨"CatNeedModel", "moves", "(I)I"⟩ : MethodName)) ∈ aBIG := aBg0 56 rfl rfl
set_option maxRecDepth 20000 in
theorem bw57 : (Cond.selects "CatNeedModel" (⟨"CatNeedModel", "movesRow", "([I)V"⟩ : MethodName) (⟨"CatNeedModel", "movesRow", "([I)V"⟩ : MethodName)) ∈ aBIG := aBg0 57 rfl rfl
set_option maxRecDepth 20000 in
theorem bw58 : (Cond.selects "CatNeedModel" (⟨"CatNeedModel", "isRoom", "()Z"⟩ : MethodName) (⟨"CatNeedModel", "isRoom", "()Z"⟩ : MethodName)) ∈ aBIG := aBg0 58 rfl rfl
set_option maxRecDepth 20000 in
theorem bw59 : (Cond.selects "CatNeedModel" (⟨"CatNeedModel", "keepsAct", "()V"⟩ : MethodName) (⟨"CatNeedModel", "keepsAct", "()V"⟩ : MethodName)) ∈ aBIG := aBg0 59 rfl rfl
set_option maxRecDepth 20000 in
theorem bw60 : (Cond.selects "CatNeedModel" (⟨"CatNeedModel", "goes", "()I"⟩ : MethodName) (⟨"CatNeedModel", "goes", "()I"⟩ : MethodName)) ∈ aBIG := aBg0 60 rfl rfl
set_option maxRecDepth 20000 in
theorem bw61 : (Cond.selects "CatNeedModel" (⟨"CatNeedModel", "choice", "(I)I"⟩ : MethodName) (⟨"CatNeedModel", "choice", "(I)I"⟩ : MethodName)) ∈ aBIG := aBg0 61 rfl rfl
set_option maxRecDepth 20000 in
theorem bw62 : (Cond.selects "CatNeedModel" (⟨"CatNeedModel", "isDue", "(II)Z"⟩ : MethodName) (⟨"CatNeedModel", "isDue", "(II)Z"⟩ : MethodName)) ∈ aBIG := aBg0 62 rfl rfl
set_option maxRecDepth 20000 in
theorem bw63 : (Cond.selects "CatNeedModel" (⟨"CatNeedModel", "likes", "(II)J"⟩ : MethodName) (⟨"CatNeedModel", "likes", "(II)J"⟩ : MethodName)) ∈ aBIG := aBg0 63 rfl rfl
set_option maxRecDepth 20000 in
theorem bw64 : (Cond.selects "CatNeedModel" (⟨"CatNeedModel", "dueIn", "(I)I"⟩ : MethodName) (⟨"CatNeedModel", "dueIn", "(I)I"⟩ : MethodName)) ∈ aBIG := aBg0 64 rfl rfl
set_option maxRecDepth 20000 in
theorem bw65 : (Cond.selects "CatNeedModel" (⟨"CatNeedModel", "wanted", "()J"⟩ : MethodName) (⟨"CatNeedModel", "wanted", "()J"⟩ : MethodName)) ∈ aBIG := aBg0 65 rfl rfl
set_option maxRecDepth 20000 in
theorem bw66 : (Cond.selects "CatNeedModel" (⟨"CatNeedModel", "answer", "(III)J"⟩ : MethodName) (⟨"CatNeedModel", "answer", "(III)J"⟩ : MethodName)) ∈ aBIG := aBg0 66 rfl rfl
set_option maxRecDepth 20000 in
theorem bw67 : (Cond.selects "CatNeedModel" (⟨"CatNeedModel", "walks", "(II)V"⟩ : MethodName) (⟨"CatNeedModel", "walks", "(II)V"⟩ : MethodName)) ∈ aBIG := aBg0 67 rfl rfl
set_option maxRecDepth 20000 in
theorem bw68 : (Cond.selects "CatNeedModel" (⟨"CatNeedModel", "keepsAll", "()V"⟩ : MethodName) (⟨"CatNeedModel", "keepsAll", "()V"⟩ : MethodName)) ∈ aBIG := aBg0 68 rfl rfl
set_option maxRecDepth 20000 in
theorem bw69 : (Cond.selects "CatNeedModel" (⟨"CatNeedModel", "carriesAll", "(IZ)V"⟩ : MethodName) (⟨"CatNeedModel", "carriesAll", "(IZ)V"⟩ : MethodName)) ∈ aBIG := aBg0 69 rfl rfl
set_option maxRecDepth 20000 in
theorem bw70 : (Cond.selects "CatNeedModel" (⟨"CatNeedModel", "carryRow", "([I)V"⟩ : MethodName) (⟨"CatNeedModel", "carryRow", "([I)V"⟩ : MethodName)) ∈ aBIG := aBg0 70 rfl rfl
set_option maxRecDepth 20000 in
theorem bw71 : (Cond.selects "CatNeedModel" (⟨"CatNeedModel", "goFor", "(I)V"⟩ : MethodName) (⟨"CatNeedModel", "goFor", "(I)V"⟩ : MethodName)) ∈ aBIG := aBg0 71 rfl rfl
set_option maxRecDepth 20000 in
theorem bw72 : (Cond.selects "CatNeedModel" (⟨"CatNeedModel", "sumOf", "([I)I"⟩ : MethodName) (⟨"CatNeedModel", "sumOf", "([I)I"⟩ : MethodName)) ∈ aBIG := aBg0 72 rfl rfl
set_option maxRecDepth 20000 in
theorem bw73 : (Cond.selects "CatNeedModel" (⟨"CatNeedModel", "laysBack", "()V"⟩ : MethodName) (⟨"CatNeedModel", "laysBack", "()V"⟩ : MethodName)) ∈ aBIG := aBg0 73 rfl rfl
set_option maxRecDepth 20000 in
theorem bw74 : (Cond.selects "CatNeedModel" (⟨"CatNeedModel", "worthMet", "(I)I"⟩ : MethodName) (⟨"CatNeedModel", "worthMet", "(I)I"⟩ : MethodName)) ∈ aBIG := aBg0 74 rfl rfl
set_option maxRecDepth 20000 in
theorem bw75 : (Cond.selects "CatNeedModel" (⟨"CatNeedModel", "isNoneLost", "(II)Z"⟩ : MethodName) (⟨"CatNeedModel", "isNoneLost", "(II)Z"⟩ : MethodName)) ∈ aBIG := aBg0 75 rfl rfl
set_option maxRecDepth 20000 in
theorem bw76 : (Cond.selects "CatNeedModel" (⟨"CatNeedModel", "laysKnown", "(III)V"⟩ : MethodName) (⟨"CatNeedModel", "laysKnown", "(III)V"⟩ : MethodName)) ∈ aBIG := aBg0 76 rfl rfl
set_option maxRecDepth 20000 in
theorem bw77 : (Cond.selects "CatNeedModel" (⟨"CatNeedModel", "earns", "(I)I"⟩ : MethodName) (⟨"CatNeedModel", "earns", "(I)I"⟩ : MethodName)) ∈ aBIG := aBg0 77 rfl rfl
set_option maxRecDepth 20000 in
theorem bw78 : (Cond.selects "CatNeedModel" (⟨"CatNeedModel", "isRest", "(I)Z"⟩ : MethodName) (⟨"CatNeedModel", "isRest", "(I)Z"⟩ : MethodName)) ∈ aBIG := aBg0 78 rfl rfl
set_option maxRecDepth 20000 in
theorem bw79 : (Cond.selects "CatNeedModel" (⟨"CatNeedModel", "laysAll", "()V"⟩ : MethodName) (⟨"CatNeedModel", "laysAll", "()V"⟩ : MethodName)) ∈ aBIG := aBg0 79 rfl rfl
set_option maxRecDepth 20000 in
theorem bw80 : (Cond.selects "CatNeedModel" (⟨"CatNeedModel", "isAlike", "(II)Z"⟩ : MethodName) (⟨"CatNeedModel", "isAlike", "(II)Z"⟩ : MethodName)) ∈ aBIG := aBg0 80 rfl rfl
set_option maxRecDepth 20000 in
theorem bw81 : (Cond.selects "CatNeedModel" (⟨"CatNeedModel", "worthOf", "(I)J"⟩ : MethodName) (⟨"CatNeedModel", "worthOf", "(I)J"⟩ : MethodName)) ∈ aBIG := aBg0 81 rfl rfl
set_option maxRecDepth 20000 in
theorem bw82 : (Cond.selects "CatNeedModel" (⟨"CatNeedModel", "couldRule", "(I)Z"⟩ : MethodName) (⟨"CatNeedModel", "couldRule", "(I)Z"⟩ : MethodName)) ∈ aBIG := aBg0 82 rfl rfl
set_option maxRecDepth 20000 in
theorem bw83 : (Cond.selects "CatNeedModel" (⟨"CatNeedModel", "doNotesFit", "()Z"⟩ : MethodName) (⟨"CatNeedModel", "doNotesFit", "()Z"⟩ : MethodName)) ∈ aBIG := aBg0 83 rfl rfl
set_option maxRecDepth 20000 in
theorem bw84 : (Cond.selects "CatNeedModel" (⟨"CatNeedModel", "mostAlike", "(II)I"⟩ : MethodName) (⟨"CatNeedModel", "mostAlike", "(II)I"⟩ : MethodName)) ∈ aBIG := aBg0 84 rfl rfl
set_option maxRecDepth 20000 in
theorem bw85 : (Cond.selects "CatNeedModel" (⟨"CatNeedModel", "draws", "(I)I"⟩ : MethodName) (⟨"CatNeedModel", "draws", "(I)I"⟩ : MethodName)) ∈ aBIG := aBg0 85 rfl rfl
set_option maxRecDepth 20000 in
theorem bw86 : (Cond.selects "CatNeedModel" (⟨"CatNeedModel", "allDue", "()I"⟩ : MethodName) (⟨"CatNeedModel", "allDue", "()I"⟩ : MethodName)) ∈ aBIG := aBg0 86 rfl rfl
set_option maxRecDepth 20000 in
theorem bw87 : (Cond.initialized "CatNeedLaw") ∈ aBIG := aBg1 0 rfl rfl
set_option maxRecDepth 20000 in
theorem bw88 : (Cond.initialized "CatNeed") ∈ aBIG := aBg1 1 rfl rfl
set_option maxRecDepth 20000 in
theorem bw89 : (Cond.initialized "CatNeed$Tape") ∈ aBIG := aBg1 2 rfl rfl
set_option maxRecDepth 20000 in
theorem bw90 : (Cond.initialized "CatNeed$Told") ∈ aBIG := aBg1 3 rfl rfl
set_option maxRecDepth 20000 in
theorem bw91 : (Cond.initialized "CatNeed$Whole") ∈ aBIG := aBg1 4 rfl rfl
set_option maxRecDepth 20000 in
theorem bw92 : (Cond.initialized "CatNeed$State") ∈ aBIG := aBg1 5 rfl rfl
set_option maxRecDepth 20000 in
theorem bw93 : (Cond.initialized "CatNeed$Rule") ∈ aBIG := aBg1 6 rfl rfl
set_option maxRecDepth 20000 in
theorem bw94 : (Cond.initialized "CatNeedModel") ∈ aBIG := aBg1 7 rfl rfl
set_option maxRecDepth 20000 in
theorem bw95 : (Cond.initialized "CatNeed$RoomReader") ∈ aBIG := aBg1 8 rfl rfl
set_option maxRecDepth 20000 in
theorem bw96 : (Cond.initialized "java/lang/String") ∈ aBIG := aBg1 9 rfl rfl
set_option maxRecDepth 20000 in
theorem bw97 : (Cond.initialized "java/lang/StringLatin1") ∈ aBIG := aBg1 10 rfl rfl
set_option maxRecDepth 20000 in
theorem bw98 : (Cond.initialized "jdk/internal/util/Preconditions") ∈ aBIG := aBg1 11 rfl rfl
set_option maxRecDepth 20000 in
theorem bw99 : (Cond.initialized "java/lang/StringUTF16") ∈ aBIG := aBg1 12 rfl rfl
set_option maxRecDepth 20000 in
theorem bw100 : (Cond.initialized "java/lang/System") ∈ aBIG := aBg1 13 rfl rfl
set_option maxRecDepth 20000 in
theorem bw101 : (Cond.initialized "CatNeed$RuleReader") ∈ aBIG := aBg1 14 rfl rfl
set_option maxRecDepth 20000 in
theorem bw102 : (Cond.initialized "java/lang/Math") ∈ aBIG := aBg1 15 rfl rfl
set_option maxRecDepth 20000 in
theorem bw103 : (Cond.initialized "java/lang/Character") ∈ aBIG := aBg1 16 rfl rfl
set_option maxRecDepth 20000 in
theorem bw104 : (Cond.initialized "java/lang/Integer") ∈ aBIG := aBg1 17 rfl rfl
set_option maxRecDepth 20000 in
theorem bw105 : (Cond.classLink "CatNeedLaw" (7 : Nat) "CatNeed") ∈ aBIG := aBg1 18 rfl rfl
set_option maxRecDepth 20000 in
theorem bw106 : (Cond.instantiable "CatNeed" (12 : Nat)) ∈ aBIG := aBg1 19 rfl rfl
set_option maxRecDepth 20000 in
theorem bw107 : (Cond.methodLink "CatNeedLaw" (9 : Nat) ({ cls := "CatNeed", name := "<init>", desc := "()V" } : MethodName)) ∈ aBIG := aBg1 20 rfl rfl
set_option maxRecDepth 20000 in
theorem bw108 : (Cond.instanceMethod ({ cls := "CatNeed", name := "<init>", desc := "()V" } : MethodName)) ∈ aBIG := aBg1 21 rfl rfl
set_option maxRecDepth 20000 in
theorem bw109 : (Cond.code ({ cls := "CatNeed", name := "<init>", desc := "()V" } : MethodName) prog_1_method_1_code (2 : Nat) (none : Option FieldType)) ∈ aBIG := aBg1 22 rfl rfl
set_option maxRecDepth 20000 in
theorem bw110 : (Cond.methodLink "CatNeed" (1 : Nat) ({ cls := "java/lang/Object", name := "<init>", desc := "()V" } : MethodName)) ∈ aBIG := aBg1 23 rfl rfl
set_option maxRecDepth 20000 in
theorem bw111 : (Cond.instanceMethod ({ cls := "java/lang/Object", name := "<init>", desc := "()V" } : MethodName)) ∈ aBIG := aBg1 24 rfl rfl
set_option maxRecDepth 20000 in
theorem bw112 : (Cond.code ({ cls := "java/lang/Object", name := "<init>", desc := "()V" } : MethodName) object_method_1_code (1 : Nat) (none : Option FieldType)) ∈ aBIG := aBg1 25 rfl rfl
set_option maxRecDepth 20000 in
theorem bw113 : (Cond.classLink "CatNeed" (7 : Nat) "CatNeed$Tape") ∈ aBIG := aBg1 26 rfl rfl
set_option maxRecDepth 20000 in
theorem bw114 : (Cond.instantiable "CatNeed$Tape" (4 : Nat)) ∈ aBIG := aBg1 27 rfl rfl
set_option maxRecDepth 20000 in
theorem bw116 : (Cond.instanceMethod ({ cls := "CatNeed$Tape", name := "<init>", desc := "()V" } : MethodName)) ∈ aBIG := aBg1 29 rfl rfl
set_option maxRecDepth 20000 in
theorem bw117 : (Cond.code ({ cls := "CatNeed$Tape", name := "<init>", desc := "()V" } : MethodName) prog_6_method_1_code (1 : Nat) (none : Option FieldType)) ∈ aBIG := aBg1 30 rfl rfl
set_option maxRecDepth 20000 in
theorem bw118 : (Cond.methodLink "CatNeed$Tape" (3 : Nat) ({ cls := "java/lang/Object", name := "<init>", desc := "()V" } : MethodName)) ∈ aBIG := aBg1 31 rfl rfl
set_option maxRecDepth 20000 in
theorem bw119 : (Cond.fieldLink "CatNeed$Tape" (9 : Nat) "CatNeed$Tape" "signs" "[I") ∈ aBIG := aBg1 32 rfl rfl
set_option maxRecDepth 20000 in
theorem bw120 : (Cond.fieldLink "CatNeed$Tape" (15 : Nat) "CatNeed$Tape" "size" "I") ∈ aBIG := aBg1 33 rfl rfl
set_option maxRecDepth 20000 in
theorem bw121 : (Cond.fieldLink "CatNeed" (68 : Nat) "CatNeed$Tape" "size" "I") ∈ aBIG := aBg1 34 rfl rfl
set_option maxRecDepth 20000 in
theorem bw122 : (Cond.fieldLink "CatNeed$Tape" (19 : Nat) "CatNeed$Tape" "at" "I") ∈ aBIG := aBg1 35 rfl rfl
set_option maxRecDepth 20000 in
theorem bw123 : (Cond.fieldLink "CatNeed$RoomReader" (22 : Nat) "CatNeed$Tape" "at" "I") ∈ aBIG := aBg1 36 rfl rfl
set_option maxRecDepth 20000 in
theorem bw124 : (Cond.fieldLink "CatNeed$RuleReader" (22 : Nat) "CatNeed$Tape" "at" "I") ∈ aBIG := aBg1 37 rfl rfl
set_option maxRecDepth 20000 in
theorem bw125 : (Cond.fieldLink "CatNeed$Tape" (22 : Nat) "CatNeed$Tape" "fault" "I") ∈ aBIG := aBg1 38 rfl rfl
set_option maxRecDepth 20000 in
theorem bw126 : (Cond.fieldLink "CatNeed$RuleReader" (42 : Nat) "CatNeed$Tape" "fault" "I") ∈ aBIG := aBg1 39 rfl rfl
set_option maxRecDepth 20000 in
theorem bw127 : (Cond.fieldLink "CatNeed$RoomReader" (50 : Nat) "CatNeed$Tape" "fault" "I") ∈ aBIG := aBg1 40 rfl rfl
set_option maxRecDepth 20000 in
theorem bw128 : (Cond.fieldLink "CatNeed" (81 : Nat) "CatNeed$Tape" "fault" "I") ∈ aBIG := aBg1 41 rfl rfl
set_option maxRecDepth 20000 in
theorem bw129 : (Cond.laysFinal "CatNeed$Tape" "CatNeed$Tape" "signs" "[I") ∈ aBIG := aBg1 42 rfl rfl
set_option maxRecDepth 20000 in
theorem bw131 : (Cond.lays "CatNeed$Tape" "CatNeed$Tape" "size" "I") ∈ aBIG := aBg1 44 rfl rfl
set_option maxRecDepth 20000 in
theorem bw133 : (Cond.lays "CatNeed$Tape" "CatNeed$Tape" "at" "I") ∈ aBIG := aBg1 46 rfl rfl
set_option maxRecDepth 20000 in
theorem bw135 : (Cond.lays "CatNeed$Tape" "CatNeed$Tape" "fault" "I") ∈ aBIG := aBg1 48 rfl rfl
set_option maxRecDepth 20000 in
theorem bw138 : (Cond.arrayClass FieldType.int) ∈ aBIG := aBg1 51 rfl rfl
set_option maxRecDepth 20000 in
theorem bw139 : (Cond.classLink "CatNeed" (16 : Nat) "CatNeed$Rule") ∈ aBIG := aBg1 52 rfl rfl
set_option maxRecDepth 20000 in
theorem bw141 : (Cond.classLink "CatNeed" (26 : Nat) "CatNeed$Told") ∈ aBIG := aBg1 54 rfl rfl
set_option maxRecDepth 20000 in
theorem bw142 : (Cond.instantiable "CatNeed$Told" (12 : Nat)) ∈ aBIG := aBg1 55 rfl rfl
set_option maxRecDepth 20000 in
theorem bw144 : (Cond.instanceMethod ({ cls := "CatNeed$Told", name := "<init>", desc := "()V" } : MethodName)) ∈ aBIG := aBg1 57 rfl rfl
set_option maxRecDepth 20000 in
theorem bw145 : (Cond.code ({ cls := "CatNeed$Told", name := "<init>", desc := "()V" } : MethodName) prog_7_method_1_code (1 : Nat) (none : Option FieldType)) ∈ aBIG := aBg1 58 rfl rfl
set_option maxRecDepth 20000 in
theorem bw146 : (Cond.methodLink "CatNeed$Told" (3 : Nat) ({ cls := "java/lang/Object", name := "<init>", desc := "()V" } : MethodName)) ∈ aBIG := aBg1 59 rfl rfl
set_option maxRecDepth 20000 in
theorem bw147 : (Cond.fieldLink "CatNeed$Told" (9 : Nat) "CatNeed$Told" "length" "I") ∈ aBIG := aBg1 60 rfl rfl
set_option maxRecDepth 20000 in
theorem bw148 : (Cond.fieldLink "CatNeed$RoomReader" (53 : Nat) "CatNeed$Told" "length" "I") ∈ aBIG := aBg1 61 rfl rfl
set_option maxRecDepth 20000 in
theorem bw149 : (Cond.fieldLink "CatNeed" (161 : Nat) "CatNeed$Told" "length" "I") ∈ aBIG := aBg1 62 rfl rfl
set_option maxRecDepth 20000 in
theorem bw150 : (Cond.fieldLink "CatNeed$Told" (15 : Nat) "CatNeed$Told" "things" "I") ∈ aBIG := aBg1 63 rfl rfl
set_option maxRecDepth 20000 in
theorem bw151 : (Cond.fieldLink "CatNeed$RoomReader" (56 : Nat) "CatNeed$Told" "things" "I") ∈ aBIG := aBg1 64 rfl rfl
set_option maxRecDepth 20000 in
theorem bw152 : (Cond.fieldLink "CatNeed" (91 : Nat) "CatNeed$Told" "things" "I") ∈ aBIG := aBg1 65 rfl rfl
set_option maxRecDepth 20000 in
theorem bw153 : (Cond.fieldLink "CatNeed$State" (86 : Nat) "CatNeed$Told" "things" "I") ∈ aBIG := aBg1 66 rfl rfl
set_option maxRecDepth 20000 in
theorem bw154 : (Cond.fieldLink "CatNeed$Told" (18 : Nat) "CatNeed$Told" "cats" "I") ∈ aBIG := aBg1 67 rfl rfl
set_option maxRecDepth 20000 in
theorem bw155 : (Cond.fieldLink "CatNeed$RoomReader" (59 : Nat) "CatNeed$Told" "cats" "I") ∈ aBIG := aBg1 68 rfl rfl
set_option maxRecDepth 20000 in
theorem bw156 : (Cond.fieldLink "CatNeed$State" (57 : Nat) "CatNeed$Told" "cats" "I") ∈ aBIG := aBg1 69 rfl rfl
set_option maxRecDepth 20000 in
theorem bw157 : (Cond.fieldLink "CatNeed" (164 : Nat) "CatNeed$Told" "cats" "I") ∈ aBIG := aBg1 70 rfl rfl
set_option maxRecDepth 20000 in
theorem bw158 : (Cond.fieldLink "CatNeed$Told" (21 : Nat) "CatNeed$Told" "needs" "I") ∈ aBIG := aBg1 71 rfl rfl
set_option maxRecDepth 20000 in
theorem bw159 : (Cond.fieldLink "CatNeed$RoomReader" (62 : Nat) "CatNeed$Told" "needs" "I") ∈ aBIG := aBg1 72 rfl rfl
set_option maxRecDepth 20000 in
theorem bw160 : (Cond.fieldLink "CatNeed$State" (72 : Nat) "CatNeed$Told" "needs" "I") ∈ aBIG := aBg1 73 rfl rfl
set_option maxRecDepth 20000 in
theorem bw161 : (Cond.fieldLink "CatNeed" (167 : Nat) "CatNeed$Told" "needs" "I") ∈ aBIG := aBg1 74 rfl rfl
set_option maxRecDepth 20000 in
theorem bw162 : (Cond.fieldLink "CatNeed$Told" (24 : Nat) "CatNeed$Told" "thingPlace" "[I") ∈ aBIG := aBg1 75 rfl rfl
set_option maxRecDepth 20000 in
theorem bw163 : (Cond.fieldLink "CatNeed$State" (46 : Nat) "CatNeed$Told" "thingPlace" "[I") ∈ aBIG := aBg1 76 rfl rfl
set_option maxRecDepth 20000 in
theorem bw164 : (Cond.fieldLink "CatNeed$Told" (28 : Nat) "CatNeed$Told" "worth" "[I") ∈ aBIG := aBg1 77 rfl rfl
set_option maxRecDepth 20000 in
theorem bw165 : (Cond.fieldLink "CatNeed" (112 : Nat) "CatNeed$Told" "worth" "[I") ∈ aBIG := aBg1 78 rfl rfl
set_option maxRecDepth 20000 in
theorem bw166 : (Cond.fieldLink "CatNeed$State" (124 : Nat) "CatNeed$Told" "worth" "[I") ∈ aBIG := aBg1 79 rfl rfl
set_option maxRecDepth 20000 in
theorem bw167 : (Cond.fieldLink "CatNeed$Told" (31 : Nat) "CatNeed$Told" "catPlace" "[I") ∈ aBIG := aBg1 80 rfl rfl
set_option maxRecDepth 20000 in
theorem bw168 : (Cond.fieldLink "CatNeed$State" (55 : Nat) "CatNeed$Told" "catPlace" "[I") ∈ aBIG := aBg1 81 rfl rfl
set_option maxRecDepth 20000 in
theorem bw169 : (Cond.fieldLink "CatNeed$Told" (34 : Nat) "CatNeed$Told" "pace" "[I") ∈ aBIG := aBg1 82 rfl rfl
set_option maxRecDepth 20000 in
theorem bw170 : (Cond.fieldLink "CatNeed$State" (101 : Nat) "CatNeed$Told" "pace" "[I") ∈ aBIG := aBg1 83 rfl rfl
set_option maxRecDepth 20000 in
theorem bw171 : (Cond.fieldLink "CatNeed" (131 : Nat) "CatNeed$Told" "pace" "[I") ∈ aBIG := aBg1 84 rfl rfl
set_option maxRecDepth 20000 in
theorem bw172 : (Cond.fieldLink "CatNeed$Told" (37 : Nat) "CatNeed$Told" "knows" "[I") ∈ aBIG := aBg1 85 rfl rfl
set_option maxRecDepth 20000 in
theorem bw173 : (Cond.fieldLink "CatNeed$State" (56 : Nat) "CatNeed$Told" "knows" "[I") ∈ aBIG := aBg1 86 rfl rfl
set_option maxRecDepth 20000 in
theorem bw174 : (Cond.fieldLink "CatNeed$Told" (40 : Nat) "CatNeed$Told" "needThing" "[I") ∈ aBIG := aBg1 87 rfl rfl
set_option maxRecDepth 20000 in
theorem bw175 : (Cond.fieldLink "CatNeed$State" (83 : Nat) "CatNeed$Told" "needThing" "[I") ∈ aBIG := aBg1 88 rfl rfl
set_option maxRecDepth 20000 in
theorem bw176 : (Cond.fieldLink "CatNeed" (143 : Nat) "CatNeed$Told" "needThing" "[I") ∈ aBIG := aBg1 89 rfl rfl
set_option maxRecDepth 20000 in
theorem bw177 : (Cond.fieldLink "CatNeed$Told" (43 : Nat) "CatNeed$Told" "every" "[I") ∈ aBIG := aBg1 90 rfl rfl
set_option maxRecDepth 20000 in
theorem bw178 : (Cond.fieldLink "CatNeed" (146 : Nat) "CatNeed$Told" "every" "[I") ∈ aBIG := aBg1 91 rfl rfl
set_option maxRecDepth 20000 in
theorem bw179 : (Cond.fieldLink "CatNeed$State" (111 : Nat) "CatNeed$Told" "every" "[I") ∈ aBIG := aBg1 92 rfl rfl
set_option maxRecDepth 20000 in
theorem bw180 : (Cond.fieldLink "CatNeed$Told" (46 : Nat) "CatNeed$Told" "at" "[I") ∈ aBIG := aBg1 93 rfl rfl
set_option maxRecDepth 20000 in
theorem bw181 : (Cond.fieldLink "CatNeed" (149 : Nat) "CatNeed$Told" "at" "[I") ∈ aBIG := aBg1 94 rfl rfl
set_option maxRecDepth 20000 in
theorem bw182 : (Cond.fieldLink "CatNeed$State" (118 : Nat) "CatNeed$Told" "at" "[I") ∈ aBIG := aBg1 95 rfl rfl
set_option maxRecDepth 20000 in
theorem bw183 : (Cond.lays "CatNeed$Told" "CatNeed$Told" "length" "I") ∈ aBIG := aBg1 96 rfl rfl
set_option maxRecDepth 20000 in
theorem bw185 : (Cond.lays "CatNeed$Told" "CatNeed$Told" "things" "I") ∈ aBIG := aBg1 98 rfl rfl
set_option maxRecDepth 20000 in
theorem bw187 : (Cond.lays "CatNeed$Told" "CatNeed$Told" "cats" "I") ∈ aBIG := aBg1 100 rfl rfl
set_option maxRecDepth 20000 in
theorem bw189 : (Cond.lays "CatNeed$Told" "CatNeed$Told" "needs" "I") ∈ aBIG := aBg1 102 rfl rfl
set_option maxRecDepth 20000 in
theorem bw191 : (Cond.laysFinal "CatNeed$Told" "CatNeed$Told" "thingPlace" "[I") ∈ aBIG := aBg1 104 rfl rfl
set_option maxRecDepth 20000 in
theorem bw193 : (Cond.laysFinal "CatNeed$Told" "CatNeed$Told" "worth" "[I") ∈ aBIG := aBg1 106 rfl rfl
set_option maxRecDepth 20000 in
theorem bw195 : (Cond.laysFinal "CatNeed$Told" "CatNeed$Told" "catPlace" "[I") ∈ aBIG := aBg1 108 rfl rfl
set_option maxRecDepth 20000 in
theorem bw197 : (Cond.laysFinal "CatNeed$Told" "CatNeed$Told" "pace" "[I") ∈ aBIG := aBg1 110 rfl rfl
set_option maxRecDepth 20000 in
theorem bw199 : (Cond.laysFinal "CatNeed$Told" "CatNeed$Told" "knows" "[I") ∈ aBIG := aBg1 112 rfl rfl
set_option maxRecDepth 20000 in
theorem bw201 : (Cond.laysFinal "CatNeed$Told" "CatNeed$Told" "needThing" "[I") ∈ aBIG := aBg1 114 rfl rfl
set_option maxRecDepth 20000 in
theorem bw203 : (Cond.laysFinal "CatNeed$Told" "CatNeed$Told" "every" "[I") ∈ aBIG := aBg1 116 rfl rfl
set_option maxRecDepth 20000 in
theorem bw205 : (Cond.laysFinal "CatNeed$Told" "CatNeed$Told" "at" "[I") ∈ aBIG := aBg1 118 rfl rfl
set_option maxRecDepth 20000 in
theorem bw208 : (Cond.classLink "CatNeed" (33 : Nat) "CatNeed$Whole") ∈ aBIG := aBg1 121 rfl rfl
set_option maxRecDepth 20000 in
theorem bw209 : (Cond.instantiable "CatNeed$Whole" (10 : Nat)) ∈ aBIG := aBg1 122 rfl rfl
set_option maxRecDepth 20000 in
theorem bw210 : (Cond.methodLink "CatNeed" (35 : Nat) ({ cls := "CatNeed$Whole", name := "<init>", desc := "()V" } : MethodName)) ∈ aBIG := aBg1 123 rfl rfl
set_option maxRecDepth 20000 in
theorem bw211 : (Cond.instanceMethod ({ cls := "CatNeed$Whole", name := "<init>", desc := "()V" } : MethodName)) ∈ aBIG := aBg1 124 rfl rfl
set_option maxRecDepth 20000 in
theorem bw212 : (Cond.code ({ cls := "CatNeed$Whole", name := "<init>", desc := "()V" } : MethodName) prog_8_method_1_code (2 : Nat) (none : Option FieldType)) ∈ aBIG := aBg1 125 rfl rfl
set_option maxRecDepth 20000 in
theorem bw213 : (Cond.methodLink "CatNeed$Whole" (3 : Nat) ({ cls := "java/lang/Object", name := "<init>", desc := "()V" } : MethodName)) ∈ aBIG := aBg1 126 rfl rfl
set_option maxRecDepth 20000 in
theorem bw214 : (Cond.classLink "CatNeed$Whole" (9 : Nat) "CatNeed$Told") ∈ aBIG := aBg1 127 rfl rfl
set_option maxRecDepth 20000 in
theorem bw216 : (Cond.classLink "CatNeed$Whole" (18 : Nat) "CatNeed$State") ∈ aBIG := aBg1 129 rfl rfl
set_option maxRecDepth 20000 in
theorem bw217 : (Cond.instantiable "CatNeed$State" (11 : Nat)) ∈ aBIG := aBg1 130 rfl rfl
set_option maxRecDepth 20000 in
theorem bw219 : (Cond.instanceMethod ({ cls := "CatNeed$State", name := "<init>", desc := "()V" } : MethodName)) ∈ aBIG := aBg1 132 rfl rfl
set_option maxRecDepth 20000 in
theorem bw220 : (Cond.code ({ cls := "CatNeed$State", name := "<init>", desc := "()V" } : MethodName) prog_5_method_1_code (1 : Nat) (none : Option FieldType)) ∈ aBIG := aBg1 133 rfl rfl
set_option maxRecDepth 20000 in
theorem bw221 : (Cond.methodLink "CatNeed$State" (3 : Nat) ({ cls := "java/lang/Object", name := "<init>", desc := "()V" } : MethodName)) ∈ aBIG := aBg1 134 rfl rfl
set_option maxRecDepth 20000 in
theorem bw222 : (Cond.fieldLink "CatNeed$State" (9 : Nat) "CatNeed$State" "minute" "I") ∈ aBIG := aBg1 135 rfl rfl
set_option maxRecDepth 20000 in
theorem bw223 : (Cond.fieldLink "CatNeed" (170 : Nat) "CatNeed$State" "minute" "I") ∈ aBIG := aBg1 136 rfl rfl
set_option maxRecDepth 20000 in
theorem bw224 : (Cond.fieldLink "CatNeed$State" (15 : Nat) "CatNeed$State" "thingPlace" "[I") ∈ aBIG := aBg1 137 rfl rfl
set_option maxRecDepth 20000 in
theorem bw225 : (Cond.fieldLink "CatNeed" (109 : Nat) "CatNeed$State" "thingPlace" "[I") ∈ aBIG := aBg1 138 rfl rfl
set_option maxRecDepth 20000 in
theorem bw226 : (Cond.fieldLink "CatNeed$State" (19 : Nat) "CatNeed$State" "catPlace" "[I") ∈ aBIG := aBg1 139 rfl rfl
set_option maxRecDepth 20000 in
theorem bw227 : (Cond.fieldLink "CatNeed" (128 : Nat) "CatNeed$State" "catPlace" "[I") ∈ aBIG := aBg1 140 rfl rfl
set_option maxRecDepth 20000 in
theorem bw228 : (Cond.fieldLink "CatNeed$State" (22 : Nat) "CatNeed$State" "catOn" "[I") ∈ aBIG := aBg1 141 rfl rfl
set_option maxRecDepth 20000 in
theorem bw229 : (Cond.fieldLink "CatNeed$Whole" (74 : Nat) "CatNeed$State" "catOn" "[I") ∈ aBIG := aBg1 142 rfl rfl
set_option maxRecDepth 20000 in
theorem bw230 : (Cond.fieldLink "CatNeed" (137 : Nat) "CatNeed$State" "catOn" "[I") ∈ aBIG := aBg1 143 rfl rfl
set_option maxRecDepth 20000 in
theorem bw231 : (Cond.fieldLink "CatNeed$State" (25 : Nat) "CatNeed$State" "knows" "[I") ∈ aBIG := aBg1 144 rfl rfl
set_option maxRecDepth 20000 in
theorem bw232 : (Cond.fieldLink "CatNeed" (134 : Nat) "CatNeed$State" "knows" "[I") ∈ aBIG := aBg1 145 rfl rfl
set_option maxRecDepth 20000 in
theorem bw233 : (Cond.fieldLink "CatNeed$State" (28 : Nat) "CatNeed$State" "struck" "I") ∈ aBIG := aBg1 146 rfl rfl
set_option maxRecDepth 20000 in
theorem bw234 : (Cond.fieldLink "CatNeed" (210 : Nat) "CatNeed$State" "struck" "I") ∈ aBIG := aBg1 147 rfl rfl
set_option maxRecDepth 20000 in
theorem bw235 : (Cond.fieldLink "CatNeed$State" (31 : Nat) "CatNeed$State" "met" "[I") ∈ aBIG := aBg1 148 rfl rfl
set_option maxRecDepth 20000 in
theorem bw236 : (Cond.fieldLink "CatNeed" (155 : Nat) "CatNeed$State" "met" "[I") ∈ aBIG := aBg1 149 rfl rfl
set_option maxRecDepth 20000 in
theorem bw237 : (Cond.fieldLink "CatNeed$State" (34 : Nat) "CatNeed$State" "lost" "[I") ∈ aBIG := aBg1 150 rfl rfl
set_option maxRecDepth 20000 in
theorem bw238 : (Cond.fieldLink "CatNeed" (158 : Nat) "CatNeed$State" "lost" "[I") ∈ aBIG := aBg1 151 rfl rfl
set_option maxRecDepth 20000 in
theorem bw239 : (Cond.fieldLink "CatNeed$State" (37 : Nat) "CatNeed$State" "away" "I") ∈ aBIG := aBg1 152 rfl rfl
set_option maxRecDepth 20000 in
theorem bw240 : (Cond.fieldLink "CatNeed$State" (40 : Nat) "CatNeed$State" "metNow" "I") ∈ aBIG := aBg1 153 rfl rfl
set_option maxRecDepth 20000 in
theorem bw241 : (Cond.fieldLink "CatNeed" (227 : Nat) "CatNeed$State" "metNow" "I") ∈ aBIG := aBg1 154 rfl rfl
set_option maxRecDepth 20000 in
theorem bw242 : (Cond.fieldLink "CatNeed$State" (43 : Nat) "CatNeed$State" "lostNow" "I") ∈ aBIG := aBg1 155 rfl rfl
set_option maxRecDepth 20000 in
theorem bw243 : (Cond.fieldLink "CatNeed" (207 : Nat) "CatNeed$State" "lostNow" "I") ∈ aBIG := aBg1 156 rfl rfl
set_option maxRecDepth 20000 in
theorem bw244 : (Cond.lays "CatNeed$State" "CatNeed$State" "minute" "I") ∈ aBIG := aBg1 157 rfl rfl
set_option maxRecDepth 20000 in
theorem bw246 : (Cond.laysFinal "CatNeed$State" "CatNeed$State" "thingPlace" "[I") ∈ aBIG := aBg1 159 rfl rfl
set_option maxRecDepth 20000 in
theorem bw248 : (Cond.laysFinal "CatNeed$State" "CatNeed$State" "catPlace" "[I") ∈ aBIG := aBg1 161 rfl rfl
set_option maxRecDepth 20000 in
theorem bw250 : (Cond.laysFinal "CatNeed$State" "CatNeed$State" "catOn" "[I") ∈ aBIG := aBg1 163 rfl rfl
set_option maxRecDepth 20000 in
theorem bw252 : (Cond.laysFinal "CatNeed$State" "CatNeed$State" "knows" "[I") ∈ aBIG := aBg1 165 rfl rfl
set_option maxRecDepth 20000 in
theorem bw254 : (Cond.lays "CatNeed$State" "CatNeed$State" "struck" "I") ∈ aBIG := aBg1 167 rfl rfl
set_option maxRecDepth 20000 in
theorem bw256 : (Cond.laysFinal "CatNeed$State" "CatNeed$State" "met" "[I") ∈ aBIG := aBg1 169 rfl rfl
set_option maxRecDepth 20000 in
theorem bw258 : (Cond.laysFinal "CatNeed$State" "CatNeed$State" "lost" "[I") ∈ aBIG := aBg1 171 rfl rfl
set_option maxRecDepth 20000 in
theorem bw260 : (Cond.lays "CatNeed$State" "CatNeed$State" "away" "I") ∈ aBIG := aBg1 173 rfl rfl
set_option maxRecDepth 20000 in
theorem bw262 : (Cond.lays "CatNeed$State" "CatNeed$State" "metNow" "I") ∈ aBIG := aBg1 175 rfl rfl
set_option maxRecDepth 20000 in
theorem bw264 : (Cond.lays "CatNeed$State" "CatNeed$State" "lostNow" "I") ∈ aBIG := aBg1 177 rfl rfl
set_option maxRecDepth 20000 in
theorem bw268 : (Cond.fieldLink "CatNeed$Whole" (12 : Nat) "CatNeed$Whole" "told" "LCatNeed$Told;") ∈ aBIG := aBg1 181 rfl rfl
set_option maxRecDepth 20000 in
theorem bw269 : (Cond.fieldLink "CatNeed" (88 : Nat) "CatNeed$Whole" "told" "LCatNeed$Told;") ∈ aBIG := aBg1 182 rfl rfl
set_option maxRecDepth 20000 in
theorem bw270 : (Cond.fieldLink "CatNeed$Whole" (21 : Nat) "CatNeed$Whole" "now" "LCatNeed$State;") ∈ aBIG := aBg1 183 rfl rfl
set_option maxRecDepth 20000 in
theorem bw271 : (Cond.fieldLink "CatNeed" (106 : Nat) "CatNeed$Whole" "now" "LCatNeed$State;") ∈ aBIG := aBg1 184 rfl rfl
set_option maxRecDepth 20000 in
theorem bw272 : (Cond.fieldLink "CatNeed$Whole" (25 : Nat) "CatNeed$Whole" "past" "[LCatNeed$State;") ∈ aBIG := aBg1 185 rfl rfl
set_option maxRecDepth 20000 in
theorem bw273 : (Cond.fieldLink "CatNeed$Whole" (29 : Nat) "CatNeed$Whole" "acts" "I") ∈ aBIG := aBg1 186 rfl rfl
set_option maxRecDepth 20000 in
theorem bw274 : (Cond.fieldLink "CatNeed" (186 : Nat) "CatNeed$Whole" "acts" "I") ∈ aBIG := aBg1 187 rfl rfl
set_option maxRecDepth 20000 in
theorem bw275 : (Cond.fieldLink "CatNeed$Whole" (33 : Nat) "CatNeed$Whole" "noteMinute" "[I") ∈ aBIG := aBg1 188 rfl rfl
set_option maxRecDepth 20000 in
theorem bw276 : (Cond.fieldLink "CatNeed$Whole" (37 : Nat) "CatNeed$Whole" "noteCat" "[I") ∈ aBIG := aBg1 189 rfl rfl
set_option maxRecDepth 20000 in
theorem bw277 : (Cond.fieldLink "CatNeed$Whole" (40 : Nat) "CatNeed$Whole" "noteThing" "[I") ∈ aBIG := aBg1 190 rfl rfl
set_option maxRecDepth 20000 in
theorem bw278 : (Cond.fieldLink "CatNeed$Whole" (43 : Nat) "CatNeed$Whole" "notes" "I") ∈ aBIG := aBg1 191 rfl rfl
set_option maxRecDepth 20000 in
theorem bw279 : (Cond.fieldLink "CatNeed" (183 : Nat) "CatNeed$Whole" "notes" "I") ∈ aBIG := aBg1 192 rfl rfl
set_option maxRecDepth 20000 in
theorem bw280 : (Cond.fieldLink "CatNeed$Whole" (46 : Nat) "CatNeed$Whole" "force" "I") ∈ aBIG := aBg1 193 rfl rfl
set_option maxRecDepth 20000 in
theorem bw281 : (Cond.fieldLink "CatNeed" (99 : Nat) "CatNeed$Whole" "force" "I") ∈ aBIG := aBg1 194 rfl rfl
set_option maxRecDepth 20000 in
theorem bw282 : (Cond.fieldLink "CatNeed$Whole" (49 : Nat) "CatNeed$Whole" "x" "I") ∈ aBIG := aBg1 195 rfl rfl
set_option maxRecDepth 20000 in
theorem bw283 : (Cond.fieldLink "CatNeed" (189 : Nat) "CatNeed$Whole" "x" "I") ∈ aBIG := aBg1 196 rfl rfl
set_option maxRecDepth 20000 in
theorem bw284 : (Cond.laysFinal "CatNeed$Whole" "CatNeed$Whole" "told" "LCatNeed$Told;") ∈ aBIG := aBg1 197 rfl rfl
set_option maxRecDepth 20000 in
theorem bw286 : (Cond.laysFinal "CatNeed$Whole" "CatNeed$Whole" "now" "LCatNeed$State;") ∈ aBIG := aBg1 199 rfl rfl
set_option maxRecDepth 20000 in
theorem bw288 : (Cond.laysFinal "CatNeed$Whole" "CatNeed$Whole" "past" "[LCatNeed$State;") ∈ aBIG := aBg1 201 rfl rfl
set_option maxRecDepth 20000 in
theorem bw290 : (Cond.lays "CatNeed$Whole" "CatNeed$Whole" "acts" "I") ∈ aBIG := aBg1 203 rfl rfl
set_option maxRecDepth 20000 in
theorem bw292 : (Cond.laysFinal "CatNeed$Whole" "CatNeed$Whole" "noteMinute" "[I") ∈ aBIG := aBg1 205 rfl rfl
set_option maxRecDepth 20000 in
theorem bw294 : (Cond.laysFinal "CatNeed$Whole" "CatNeed$Whole" "noteCat" "[I") ∈ aBIG := aBg1 207 rfl rfl
set_option maxRecDepth 20000 in
theorem bw296 : (Cond.laysFinal "CatNeed$Whole" "CatNeed$Whole" "noteThing" "[I") ∈ aBIG := aBg1 209 rfl rfl
set_option maxRecDepth 20000 in
theorem bw298 : (Cond.lays "CatNeed$Whole" "CatNeed$Whole" "notes" "I") ∈ aBIG := aBg1 211 rfl rfl
set_option maxRecDepth 20000 in
theorem bw300 : (Cond.lays "CatNeed$Whole" "CatNeed$Whole" "force" "I") ∈ aBIG := aBg1 213 rfl rfl
set_option maxRecDepth 20000 in
theorem bw302 : (Cond.lays "CatNeed$Whole" "CatNeed$Whole" "x" "I") ∈ aBIG := aBg1 215 rfl rfl
set_option maxRecDepth 20000 in
theorem bw306 : (Cond.classLink "CatNeed" (47 : Nat) "CatNeed$State") ∈ aBIG := aBg1 219 rfl rfl
set_option maxRecDepth 20000 in
theorem bw308 : (Cond.instantiable "CatNeed$Rule" (4 : Nat)) ∈ aBIG := aBg1 221 rfl rfl
set_option maxRecDepth 20000 in
theorem bw310 : (Cond.instanceMethod ({ cls := "CatNeed$Rule", name := "<init>", desc := "()V" } : MethodName)) ∈ aBIG := aBg1 223 rfl rfl
set_option maxRecDepth 20000 in
theorem bw311 : (Cond.code ({ cls := "CatNeed$Rule", name := "<init>", desc := "()V" } : MethodName) prog_3_method_1_code (1 : Nat) (none : Option FieldType)) ∈ aBIG := aBg1 224 rfl rfl
set_option maxRecDepth 20000 in
theorem bw312 : (Cond.methodLink "CatNeed$Rule" (5 : Nat) ({ cls := "java/lang/Object", name := "<init>", desc := "()V" } : MethodName)) ∈ aBIG := aBg1 225 rfl rfl
set_option maxRecDepth 20000 in
theorem bw313 : (Cond.fieldLink "CatNeed$Rule" (11 : Nat) "CatNeed$Rule" "code" "[I") ∈ aBIG := aBg1 226 rfl rfl
set_option maxRecDepth 20000 in
theorem bw314 : (Cond.fieldLink "CatNeed$Rule" (15 : Nat) "CatNeed$Rule" "stack" "[J") ∈ aBIG := aBg1 227 rfl rfl
set_option maxRecDepth 20000 in
theorem bw315 : (Cond.fieldLink "CatNeed$Rule" (19 : Nat) "CatNeed$Rule" "size" "I") ∈ aBIG := aBg1 228 rfl rfl
set_option maxRecDepth 20000 in
theorem bw316 : (Cond.fieldLink "CatNeed$Rule" (23 : Nat) "CatNeed$Rule" "tally" "I") ∈ aBIG := aBg1 229 rfl rfl
set_option maxRecDepth 20000 in
theorem bw317 : (Cond.fieldLink "CatNeed$RuleReader" (115 : Nat) "CatNeed$Rule" "tally" "I") ∈ aBIG := aBg1 230 rfl rfl
set_option maxRecDepth 20000 in
theorem bw318 : (Cond.laysFinal "CatNeed$Rule" "CatNeed$Rule" "code" "[I") ∈ aBIG := aBg1 231 rfl rfl
set_option maxRecDepth 20000 in
theorem bw320 : (Cond.laysFinal "CatNeed$Rule" "CatNeed$Rule" "stack" "[J") ∈ aBIG := aBg1 233 rfl rfl
set_option maxRecDepth 20000 in
theorem bw322 : (Cond.lays "CatNeed$Rule" "CatNeed$Rule" "size" "I") ∈ aBIG := aBg1 235 rfl rfl
set_option maxRecDepth 20000 in
theorem bw324 : (Cond.lays "CatNeed$Rule" "CatNeed$Rule" "tally" "I") ∈ aBIG := aBg1 237 rfl rfl
set_option maxRecDepth 20000 in
theorem bw327 : (Cond.arrayClass FieldType.long) ∈ aBIG := aBg2 0 rfl rfl
set_option maxRecDepth 20000 in
theorem bw328 : (Cond.fieldLink "CatNeed" (10 : Nat) "CatNeed" "tape" "LCatNeed$Tape;") ∈ aBIG := aBg2 1 rfl rfl
set_option maxRecDepth 20000 in
theorem bw329 : (Cond.fieldLink "CatNeed" (18 : Nat) "CatNeed" "rules" "[LCatNeed$Rule;") ∈ aBIG := aBg2 2 rfl rfl
set_option maxRecDepth 20000 in
theorem bw330 : (Cond.fieldLink "CatNeed" (22 : Nat) "CatNeed" "ruleCount" "I") ∈ aBIG := aBg2 3 rfl rfl
set_option maxRecDepth 20000 in
theorem bw331 : (Cond.fieldLink "CatNeed" (29 : Nat) "CatNeed" "draft" "LCatNeed$Told;") ∈ aBIG := aBg2 4 rfl rfl
set_option maxRecDepth 20000 in
theorem bw332 : (Cond.fieldLink "CatNeed" (36 : Nat) "CatNeed" "here" "LCatNeed$Whole;") ∈ aBIG := aBg2 5 rfl rfl
set_option maxRecDepth 20000 in
theorem bw333 : (Cond.fieldLink "CatNeed" (40 : Nat) "CatNeed" "images" "[LCatNeed$Whole;") ∈ aBIG := aBg2 6 rfl rfl
set_option maxRecDepth 20000 in
theorem bw334 : (Cond.fieldLink "CatNeed" (44 : Nat) "CatNeed" "imagesMade" "I") ∈ aBIG := aBg2 7 rfl rfl
set_option maxRecDepth 20000 in
theorem bw335 : (Cond.fieldLink "CatNeed" (50 : Nat) "CatNeed" "trial" "LCatNeed$State;") ∈ aBIG := aBg2 8 rfl rfl
set_option maxRecDepth 20000 in
theorem bw336 : (Cond.fieldLink "CatNeed" (54 : Nat) "CatNeed" "track" "[I") ∈ aBIG := aBg2 9 rfl rfl
set_option maxRecDepth 20000 in
theorem bw337 : (Cond.fieldLink "CatNeed" (58 : Nat) "CatNeed" "oneHas" "[I") ∈ aBIG := aBg2 10 rfl rfl
set_option maxRecDepth 20000 in
theorem bw338 : (Cond.fieldLink "CatNeed" (61 : Nat) "CatNeed" "otherHas" "[I") ∈ aBIG := aBg2 11 rfl rfl
set_option maxRecDepth 20000 in
theorem bw339 : (Cond.fieldLink "CatNeed" (64 : Nat) "CatNeed" "alike" "[I") ∈ aBIG := aBg2 12 rfl rfl
set_option maxRecDepth 20000 in
theorem bw340 : (Cond.laysFinal "CatNeed" "CatNeed" "tape" "LCatNeed$Tape;") ∈ aBIG := aBg2 13 rfl rfl
set_option maxRecDepth 20000 in
theorem bw342 : (Cond.laysFinal "CatNeed" "CatNeed" "rules" "[LCatNeed$Rule;") ∈ aBIG := aBg2 15 rfl rfl
set_option maxRecDepth 20000 in
theorem bw344 : (Cond.lays "CatNeed" "CatNeed" "ruleCount" "I") ∈ aBIG := aBg2 17 rfl rfl
set_option maxRecDepth 20000 in
theorem bw346 : (Cond.laysFinal "CatNeed" "CatNeed" "draft" "LCatNeed$Told;") ∈ aBIG := aBg2 19 rfl rfl
set_option maxRecDepth 20000 in
theorem bw348 : (Cond.laysFinal "CatNeed" "CatNeed" "here" "LCatNeed$Whole;") ∈ aBIG := aBg2 21 rfl rfl
set_option maxRecDepth 20000 in
theorem bw350 : (Cond.laysFinal "CatNeed" "CatNeed" "images" "[LCatNeed$Whole;") ∈ aBIG := aBg2 23 rfl rfl
set_option maxRecDepth 20000 in
theorem bw352 : (Cond.lays "CatNeed" "CatNeed" "imagesMade" "I") ∈ aBIG := aBg2 25 rfl rfl
set_option maxRecDepth 20000 in
theorem bw354 : (Cond.laysFinal "CatNeed" "CatNeed" "trial" "LCatNeed$State;") ∈ aBIG := aBg2 27 rfl rfl
set_option maxRecDepth 20000 in
theorem bw356 : (Cond.laysFinal "CatNeed" "CatNeed" "track" "[I") ∈ aBIG := aBg2 29 rfl rfl
set_option maxRecDepth 20000 in
theorem bw358 : (Cond.laysFinal "CatNeed" "CatNeed" "oneHas" "[I") ∈ aBIG := aBg2 31 rfl rfl
set_option maxRecDepth 20000 in
theorem bw360 : (Cond.laysFinal "CatNeed" "CatNeed" "otherHas" "[I") ∈ aBIG := aBg2 33 rfl rfl
set_option maxRecDepth 20000 in
theorem bw362 : (Cond.laysFinal "CatNeed" "CatNeed" "alike" "[I") ∈ aBIG := aBg2 35 rfl rfl
set_option maxRecDepth 20000 in
theorem bw365 : (Cond.methodLink "CatNeedLaw" (13 : Nat) ({ cls := "CatNeed", name := "feed", desc := "(IIIII)I" } : MethodName)) ∈ aBIG := aBg2 38 rfl rfl
set_option maxRecDepth 20000 in
theorem bw366 : (Cond.instanceMethod ({ cls := "CatNeed", name := "feed", desc := "(IIIII)I" } : MethodName)) ∈ aBIG := aBg2 39 rfl rfl
set_option maxRecDepth 20000 in
theorem bw367 : (Cond.selects "CatNeed" ({ cls := "CatNeed", name := "feed", desc := "(IIIII)I" } : MethodName) ({ cls := "CatNeed", name := "feed", desc := "(IIIII)I" } : MethodName)) ∈ aBIG := aBg2 40 rfl rfl
set_option maxRecDepth 20000 in
theorem bw368 : (Cond.code ({ cls := "CatNeed", name := "feed", desc := "(IIIII)I" } : MethodName) prog_1_method_2_code (6 : Nat) (Option.some FieldType.int)) ∈ aBIG := aBg2 41 rfl rfl
set_option maxRecDepth 20000 in
theorem bw369 : (Cond.methodLink "CatNeed" (71 : Nat) ({ cls := "CatNeed$Tape", name := "put", desc := "(I)V" } : MethodName)) ∈ aBIG := aBg2 42 rfl rfl
set_option maxRecDepth 20000 in
theorem bw370 : (Cond.instanceMethod ({ cls := "CatNeed$Tape", name := "put", desc := "(I)V" } : MethodName)) ∈ aBIG := aBg2 43 rfl rfl
set_option maxRecDepth 20000 in
theorem bw371 : (Cond.selects "CatNeed$Tape" ({ cls := "CatNeed$Tape", name := "put", desc := "(I)V" } : MethodName) ({ cls := "CatNeed$Tape", name := "put", desc := "(I)V" } : MethodName)) ∈ aBIG := aBg2 44 rfl rfl
set_option maxRecDepth 20000 in
theorem bw372 : (Cond.code ({ cls := "CatNeed$Tape", name := "put", desc := "(I)V" } : MethodName) prog_6_method_2_code (3 : Nat) (none : Option FieldType)) ∈ aBIG := aBg2 45 rfl rfl
set_option maxRecDepth 20000 in
theorem bw373 : (Cond.methodLink "CatNeedLaw" (18 : Nat) ({ cls := "CatNeed", name := "end", desc := "(I)I" } : MethodName)) ∈ aBIG := aBg2 46 rfl rfl
set_option maxRecDepth 20000 in
theorem bw374 : (Cond.instanceMethod ({ cls := "CatNeed", name := "end", desc := "(I)I" } : MethodName)) ∈ aBIG := aBg2 47 rfl rfl
set_option maxRecDepth 20000 in
theorem bw375 : (Cond.selects "CatNeed" ({ cls := "CatNeed", name := "end", desc := "(I)I" } : MethodName) ({ cls := "CatNeed", name := "end", desc := "(I)I" } : MethodName)) ∈ aBIG := aBg2 48 rfl rfl
set_option maxRecDepth 20000 in
theorem bw376 : (Cond.code ({ cls := "CatNeed", name := "end", desc := "(I)I" } : MethodName) prog_1_method_3_code (2 : Nat) (Option.some FieldType.int)) ∈ aBIG := aBg2 49 rfl rfl
set_option maxRecDepth 20000 in
theorem bw377 : (Cond.methodLink "CatNeedLaw" (23 : Nat) ({ cls := "CatNeed", name := "room", desc := "()I" } : MethodName)) ∈ aBIG := aBg2 50 rfl rfl
set_option maxRecDepth 20000 in
theorem bw378 : (Cond.instanceMethod ({ cls := "CatNeed", name := "room", desc := "()I" } : MethodName)) ∈ aBIG := aBg2 51 rfl rfl
set_option maxRecDepth 20000 in
theorem bw379 : (Cond.selects "CatNeed" ({ cls := "CatNeed", name := "room", desc := "()I" } : MethodName) ({ cls := "CatNeed", name := "room", desc := "()I" } : MethodName)) ∈ aBIG := aBg2 52 rfl rfl
set_option maxRecDepth 20000 in
theorem bw380 : (Cond.code ({ cls := "CatNeed", name := "room", desc := "()I" } : MethodName) prog_1_method_4_code (2 : Nat) (Option.some FieldType.int)) ∈ aBIG := aBg2 53 rfl rfl
set_option maxRecDepth 20000 in
theorem bw381 : (Cond.methodLink "CatNeed" (75 : Nat) ({ cls := "CatNeed$RoomReader", name := "read", desc := "(LCatNeed$Tape;LCatNeed$Told;)Z" } : MethodName)) ∈ aBIG := aBg2 54 rfl rfl
set_option maxRecDepth 20000 in
theorem bw382 : (Cond.static ({ cls := "CatNeed$RoomReader", name := "read", desc := "(LCatNeed$Tape;LCatNeed$Told;)Z" } : MethodName)) ∈ aBIG := aBg2 55 rfl rfl
set_option maxRecDepth 20000 in
theorem bw383 : (Cond.code ({ cls := "CatNeed$RoomReader", name := "read", desc := "(LCatNeed$Tape;LCatNeed$Told;)Z" } : MethodName) prog_2_method_2_code (5 : Nat) (Option.some FieldType.boolean)) ∈ aBIG := aBg2 56 rfl rfl
set_option maxRecDepth 20000 in
theorem bw384 : (Cond.methodLink "CatNeed$RoomReader" (9 : Nat) ({ cls := "CatNeed$Told", name := "clear", desc := "()V" } : MethodName)) ∈ aBIG := aBg2 57 rfl rfl
set_option maxRecDepth 20000 in
theorem bw385 : (Cond.instanceMethod ({ cls := "CatNeed$Told", name := "clear", desc := "()V" } : MethodName)) ∈ aBIG := aBg2 58 rfl rfl
set_option maxRecDepth 20000 in
theorem bw386 : (Cond.selects "CatNeed$Told" ({ cls := "CatNeed$Told", name := "clear", desc := "()V" } : MethodName) ({ cls := "CatNeed$Told", name := "clear", desc := "()V" } : MethodName)) ∈ aBIG := aBg2 59 rfl rfl
set_option maxRecDepth 20000 in
theorem bw387 : (Cond.code ({ cls := "CatNeed$Told", name := "clear", desc := "()V" } : MethodName) prog_7_method_2_code (1 : Nat) (none : Option FieldType)) ∈ aBIG := aBg2 60 rfl rfl
set_option maxRecDepth 20000 in
theorem bw388 : (Cond.methodLink "CatNeed$RoomReader" (14 : Nat) ({ cls := "CatNeed$Tape", name := "rewind", desc := "()V" } : MethodName)) ∈ aBIG := aBg2 61 rfl rfl
set_option maxRecDepth 20000 in
theorem bw389 : (Cond.instanceMethod ({ cls := "CatNeed$Tape", name := "rewind", desc := "()V" } : MethodName)) ∈ aBIG := aBg2 62 rfl rfl
set_option maxRecDepth 20000 in
theorem bw390 : (Cond.selects "CatNeed$Tape" ({ cls := "CatNeed$Tape", name := "rewind", desc := "()V" } : MethodName) ({ cls := "CatNeed$Tape", name := "rewind", desc := "()V" } : MethodName)) ∈ aBIG := aBg2 63 rfl rfl
set_option maxRecDepth 20000 in
theorem bw391 : (Cond.code ({ cls := "CatNeed$Tape", name := "rewind", desc := "()V" } : MethodName) prog_6_method_3_code (1 : Nat) (none : Option FieldType)) ∈ aBIG := aBg2 64 rfl rfl
set_option maxRecDepth 20000 in
theorem bw392 : (Cond.methodLink "CatNeed$RoomReader" (19 : Nat) ({ cls := "CatNeed$Tape", name := "skipBlanks", desc := "()V" } : MethodName)) ∈ aBIG := aBg2 65 rfl rfl
set_option maxRecDepth 20000 in
theorem bw393 : (Cond.instanceMethod ({ cls := "CatNeed$Tape", name := "skipBlanks", desc := "()V" } : MethodName)) ∈ aBIG := aBg2 66 rfl rfl
set_option maxRecDepth 20000 in
theorem bw394 : (Cond.selects "CatNeed$Tape" ({ cls := "CatNeed$Tape", name := "skipBlanks", desc := "()V" } : MethodName) ({ cls := "CatNeed$Tape", name := "skipBlanks", desc := "()V" } : MethodName)) ∈ aBIG := aBg2 67 rfl rfl
set_option maxRecDepth 20000 in
theorem bw395 : (Cond.code ({ cls := "CatNeed$Tape", name := "skipBlanks", desc := "()V" } : MethodName) prog_6_method_5_code (1 : Nat) (none : Option FieldType)) ∈ aBIG := aBg2 68 rfl rfl
set_option maxRecDepth 20000 in
theorem bw397 : (Cond.methodLink "CatNeed$RoomReader" (30 : Nat) ({ cls := "CatNeed$Tape", name := "takeWord", desc := "(Ljava/lang/String;)I" } : MethodName)) ∈ aBIG := aBg2 70 rfl rfl
set_option maxRecDepth 20000 in
theorem bw398 : (Cond.instanceMethod ({ cls := "CatNeed$Tape", name := "takeWord", desc := "(Ljava/lang/String;)I" } : MethodName)) ∈ aBIG := aBg2 71 rfl rfl
set_option maxRecDepth 20000 in
theorem bw399 : (Cond.selects "CatNeed$Tape" ({ cls := "CatNeed$Tape", name := "takeWord", desc := "(Ljava/lang/String;)I" } : MethodName) ({ cls := "CatNeed$Tape", name := "takeWord", desc := "(Ljava/lang/String;)I" } : MethodName)) ∈ aBIG := aBg2 72 rfl rfl
set_option maxRecDepth 20000 in
theorem bw400 : (Cond.code ({ cls := "CatNeed$Tape", name := "takeWord", desc := "(Ljava/lang/String;)I" } : MethodName) prog_6_method_8_code (6 : Nat) (Option.some FieldType.int)) ∈ aBIG := aBg2 73 rfl rfl
set_option maxRecDepth 20000 in
theorem bw401 : (Cond.methodLink "CatNeed$Tape" (25 : Nat) ({ cls := "CatNeed$Tape", name := "skipBlanks", desc := "()V" } : MethodName)) ∈ aBIG := aBg2 74 rfl rfl
set_option maxRecDepth 20000 in
theorem bw402 : (Cond.methodLink "CatNeed$Tape" (34 : Nat) ({ cls := "java/lang/String", name := "length", desc := "()I" } : MethodName)) ∈ aBIG := aBg2 75 rfl rfl
set_option maxRecDepth 20000 in
theorem bw403 : (Cond.instanceMethod ({ cls := "java/lang/String", name := "length", desc := "()I" } : MethodName)) ∈ aBIG := aBg2 76 rfl rfl
set_option maxRecDepth 20000 in
theorem bw404 : (Cond.selects "java/lang/String" ({ cls := "java/lang/String", name := "length", desc := "()I" } : MethodName) ({ cls := "java/lang/String", name := "length", desc := "()I" } : MethodName)) ∈ aBIG := aBg2 77 rfl rfl
set_option maxRecDepth 20000 in
theorem bw405 : (Cond.code ({ cls := "java/lang/String", name := "length", desc := "()I" } : MethodName) prog_14_method_54_code (1 : Nat) (Option.some FieldType.int)) ∈ aBIG := aBg2 78 rfl rfl
set_option maxRecDepth 20000 in
theorem bw406 : (Cond.methodLink "java/lang/String" (335 : Nat) ({ cls := "java/lang/String", name := "coder", desc := "()B" } : MethodName)) ∈ aBIG := aBg2 79 rfl rfl
set_option maxRecDepth 20000 in
theorem bw407 : (Cond.instanceMethod ({ cls := "java/lang/String", name := "coder", desc := "()B" } : MethodName)) ∈ aBIG := aBg2 80 rfl rfl
set_option maxRecDepth 20000 in
theorem bw408 : (Cond.selects "java/lang/String" ({ cls := "java/lang/String", name := "coder", desc := "()B" } : MethodName) ({ cls := "java/lang/String", name := "coder", desc := "()B" } : MethodName)) ∈ aBIG := aBg2 81 rfl rfl
set_option maxRecDepth 20000 in
theorem bw409 : (Cond.code ({ cls := "java/lang/String", name := "coder", desc := "()B" } : MethodName) prog_14_method_152_code (1 : Nat) (Option.some FieldType.byte)) ∈ aBIG := aBg2 82 rfl rfl
set_option maxRecDepth 20000 in
theorem bw410 : (Cond.fieldLink "java/lang/String" (38 : Nat) "java/lang/String" "COMPACT_STRINGS" "Z") ∈ aBIG := aBg2 83 rfl rfl
set_option maxRecDepth 20000 in
theorem bw412 : (Cond.methodLink "CatNeed$Tape" (38 : Nat) ({ cls := "java/lang/String", name := "charAt", desc := "(I)C" } : MethodName)) ∈ aBIG := aBg2 85 rfl rfl
set_option maxRecDepth 20000 in
theorem bw413 : (Cond.instanceMethod ({ cls := "java/lang/String", name := "charAt", desc := "(I)C" } : MethodName)) ∈ aBIG := aBg2 86 rfl rfl
set_option maxRecDepth 20000 in
theorem bw414 : (Cond.selects "java/lang/String" ({ cls := "java/lang/String", name := "charAt", desc := "(I)C" } : MethodName) ({ cls := "java/lang/String", name := "charAt", desc := "(I)C" } : MethodName)) ∈ aBIG := aBg2 87 rfl rfl
set_option maxRecDepth 20000 in
theorem bw415 : (Cond.code ({ cls := "java/lang/String", name := "charAt", desc := "(I)C" } : MethodName) prog_14_method_56_code (2 : Nat) (Option.some FieldType.char)) ∈ aBIG := aBg2 88 rfl rfl
set_option maxRecDepth 20000 in
theorem bw416 : (Cond.methodLink "java/lang/String" (492 : Nat) ({ cls := "java/lang/String", name := "isLatin1", desc := "()Z" } : MethodName)) ∈ aBIG := aBg2 89 rfl rfl
set_option maxRecDepth 20000 in
theorem bw417 : (Cond.instanceMethod ({ cls := "java/lang/String", name := "isLatin1", desc := "()Z" } : MethodName)) ∈ aBIG := aBg2 90 rfl rfl
set_option maxRecDepth 20000 in
theorem bw418 : (Cond.selects "java/lang/String" ({ cls := "java/lang/String", name := "isLatin1", desc := "()Z" } : MethodName) ({ cls := "java/lang/String", name := "isLatin1", desc := "()Z" } : MethodName)) ∈ aBIG := aBg2 91 rfl rfl
set_option maxRecDepth 20000 in
theorem bw419 : (Cond.code ({ cls := "java/lang/String", name := "isLatin1", desc := "()Z" } : MethodName) prog_14_method_154_code (1 : Nat) (Option.some FieldType.boolean)) ∈ aBIG := aBg2 92 rfl rfl
set_option maxRecDepth 20000 in
theorem bw420 : (Cond.methodLink "java/lang/String" (495 : Nat) ({ cls := "java/lang/StringLatin1", name := "charAt", desc := "([BI)C" } : MethodName)) ∈ aBIG := aBg2 93 rfl rfl
set_option maxRecDepth 20000 in
theorem bw421 : (Cond.static ({ cls := "java/lang/StringLatin1", name := "charAt", desc := "([BI)C" } : MethodName)) ∈ aBIG := aBg2 94 rfl rfl
set_option maxRecDepth 20000 in
theorem bw422 : (Cond.code ({ cls := "java/lang/StringLatin1", name := "charAt", desc := "([BI)C" } : MethodName) prog_15_method_2_code (2 : Nat) (Option.some FieldType.char)) ∈ aBIG := aBg2 95 rfl rfl
set_option maxRecDepth 20000 in
theorem bw423 : (Cond.methodLink "java/lang/StringLatin1" (9 : Nat) ({ cls := "java/lang/String", name := "checkIndex", desc := "(II)V" } : MethodName)) ∈ aBIG := aBg2 96 rfl rfl
set_option maxRecDepth 20000 in
theorem bw424 : (Cond.static ({ cls := "java/lang/String", name := "checkIndex", desc := "(II)V" } : MethodName)) ∈ aBIG := aBg2 97 rfl rfl
set_option maxRecDepth 20000 in
theorem bw425 : (Cond.code ({ cls := "java/lang/String", name := "checkIndex", desc := "(II)V" } : MethodName) prog_14_method_155_code (2 : Nat) (none : Option FieldType)) ∈ aBIG := aBg2 98 rfl rfl
set_option maxRecDepth 20000 in
theorem bw426 : (Cond.fieldLink "java/lang/String" (1053 : Nat) "jdk/internal/util/Preconditions" "SIOOBE_FORMATTER" "Ljava/util/function/BiFunction;") ∈ aBIG := aBg2 99 rfl rfl
set_option maxRecDepth 20000 in
theorem bw428 : (Cond.methodLink "java/lang/String" (1059 : Nat) ({ cls := "jdk/internal/util/Preconditions", name := "checkIndex", desc := "(IILjava/util/function/BiFunction;)I" } : MethodName)) ∈ aBIG := aBg2 101 rfl rfl
set_option maxRecDepth 20000 in
theorem bw429 : (Cond.static ({ cls := "jdk/internal/util/Preconditions", name := "checkIndex", desc := "(IILjava/util/function/BiFunction;)I" } : MethodName)) ∈ aBIG := aBg2 102 rfl rfl
set_option maxRecDepth 20000 in
theorem bw430 : (Cond.code ({ cls := "jdk/internal/util/Preconditions", name := "checkIndex", desc := "(IILjava/util/function/BiFunction;)I" } : MethodName) prog_18_method_11_code (3 : Nat) (Option.some FieldType.int)) ∈ aBIG := aBg2 103 rfl rfl
set_option maxRecDepth 20000 in
theorem bw431 : (Cond.methodLink "java/lang/String" (498 : Nat) ({ cls := "java/lang/StringUTF16", name := "charAt", desc := "([BI)C" } : MethodName)) ∈ aBIG := aBg2 104 rfl rfl
set_option maxRecDepth 20000 in
theorem bw432 : (Cond.static ({ cls := "java/lang/StringUTF16", name := "charAt", desc := "([BI)C" } : MethodName)) ∈ aBIG := aBg2 105 rfl rfl
set_option maxRecDepth 20000 in
theorem bw433 : (Cond.code ({ cls := "java/lang/StringUTF16", name := "charAt", desc := "([BI)C" } : MethodName) prog_16_method_83_code (2 : Nat) (Option.some FieldType.char)) ∈ aBIG := aBg2 106 rfl rfl
set_option maxRecDepth 20000 in
theorem bw434 : (Cond.methodLink "java/lang/StringUTF16" (67 : Nat) ({ cls := "java/lang/StringUTF16", name := "checkIndex", desc := "(I[B)V" } : MethodName)) ∈ aBIG := aBg2 107 rfl rfl
set_option maxRecDepth 20000 in
theorem bw435 : (Cond.static ({ cls := "java/lang/StringUTF16", name := "checkIndex", desc := "(I[B)V" } : MethodName)) ∈ aBIG := aBg2 108 rfl rfl
set_option maxRecDepth 20000 in
theorem bw436 : (Cond.code ({ cls := "java/lang/StringUTF16", name := "checkIndex", desc := "(I[B)V" } : MethodName) prog_16_method_91_code (2 : Nat) (none : Option FieldType)) ∈ aBIG := aBg2 109 rfl rfl
set_option maxRecDepth 20000 in
theorem bw437 : (Cond.methodLink "java/lang/StringUTF16" (48 : Nat) ({ cls := "java/lang/StringUTF16", name := "length", desc := "([B)I" } : MethodName)) ∈ aBIG := aBg2 110 rfl rfl
set_option maxRecDepth 20000 in
theorem bw438 : (Cond.static ({ cls := "java/lang/StringUTF16", name := "length", desc := "([B)I" } : MethodName)) ∈ aBIG := aBg2 111 rfl rfl
set_option maxRecDepth 20000 in
theorem bw439 : (Cond.code ({ cls := "java/lang/StringUTF16", name := "length", desc := "([B)I" } : MethodName) prog_16_method_6_code (1 : Nat) (Option.some FieldType.int)) ∈ aBIG := aBg2 112 rfl rfl
set_option maxRecDepth 20000 in
theorem bw440 : (Cond.methodLink "java/lang/StringUTF16" (414 : Nat) ({ cls := "java/lang/String", name := "checkIndex", desc := "(II)V" } : MethodName)) ∈ aBIG := aBg2 113 rfl rfl
set_option maxRecDepth 20000 in
theorem bw441 : (Cond.methodLink "java/lang/StringUTF16" (71 : Nat) ({ cls := "java/lang/StringUTF16", name := "getChar", desc := "([BI)C" } : MethodName)) ∈ aBIG := aBg2 114 rfl rfl
set_option maxRecDepth 20000 in
theorem bw442 : (Cond.static ({ cls := "java/lang/StringUTF16", name := "getChar", desc := "([BI)C" } : MethodName)) ∈ aBIG := aBg2 115 rfl rfl
set_option maxRecDepth 20000 in
theorem bw443 : (Cond.code ({ cls := "java/lang/StringUTF16", name := "getChar", desc := "([BI)C" } : MethodName) prog_16_method_5_code (2 : Nat) (Option.some FieldType.char)) ∈ aBIG := aBg2 116 rfl rfl
set_option maxRecDepth 20000 in
theorem bw444 : (Cond.fieldLink "java/lang/StringUTF16" (44 : Nat) "java/lang/StringUTF16" "$assertionsDisabled" "Z") ∈ aBIG := aBg2 117 rfl rfl
set_option maxRecDepth 20000 in
theorem bw446 : (Cond.fieldLink "java/lang/StringUTF16" (59 : Nat) "java/lang/StringUTF16" "HI_BYTE_SHIFT" "I") ∈ aBIG := aBg2 119 rfl rfl
set_option maxRecDepth 20000 in
theorem bw448 : (Cond.fieldLink "java/lang/StringUTF16" (63 : Nat) "java/lang/StringUTF16" "LO_BYTE_SHIFT" "I") ∈ aBIG := aBg2 121 rfl rfl
set_option maxRecDepth 20000 in
theorem bw450 : (Cond.methodLink "CatNeed$RoomReader" (34 : Nat) ({ cls := "CatNeed$Tape", name := "fail", desc := "(II)V" } : MethodName)) ∈ aBIG := aBg2 123 rfl rfl
set_option maxRecDepth 20000 in
theorem bw451 : (Cond.instanceMethod ({ cls := "CatNeed$Tape", name := "fail", desc := "(II)V" } : MethodName)) ∈ aBIG := aBg2 124 rfl rfl
set_option maxRecDepth 20000 in
theorem bw452 : (Cond.selects "CatNeed$Tape" ({ cls := "CatNeed$Tape", name := "fail", desc := "(II)V" } : MethodName) ({ cls := "CatNeed$Tape", name := "fail", desc := "(II)V" } : MethodName)) ∈ aBIG := aBg2 125 rfl rfl
set_option maxRecDepth 20000 in
theorem bw453 : (Cond.code ({ cls := "CatNeed$Tape", name := "fail", desc := "(II)V" } : MethodName) prog_6_method_4_code (3 : Nat) (none : Option FieldType)) ∈ aBIG := aBg2 126 rfl rfl
set_option maxRecDepth 20000 in
theorem bw454 : (Cond.methodLink "CatNeed$RoomReader" (38 : Nat) ({ cls := "CatNeed$RoomReader", name := "mayCome", desc := "(LCatNeed$Told;I)Z" } : MethodName)) ∈ aBIG := aBg2 127 rfl rfl
set_option maxRecDepth 20000 in
theorem bw455 : (Cond.static ({ cls := "CatNeed$RoomReader", name := "mayCome", desc := "(LCatNeed$Told;I)Z" } : MethodName)) ∈ aBIG := aBg2 128 rfl rfl
set_option maxRecDepth 20000 in
theorem bw456 : (Cond.code ({ cls := "CatNeed$RoomReader", name := "mayCome", desc := "(LCatNeed$Told;I)Z" } : MethodName) prog_2_method_3_code (2 : Nat) (Option.some FieldType.boolean)) ∈ aBIG := aBg2 129 rfl rfl
set_option maxRecDepth 20000 in
theorem bw457 : (Cond.methodLink "CatNeed$RoomReader" (42 : Nat) ({ cls := "CatNeed$RoomReader", name := "readClause", desc := "(LCatNeed$Tape;LCatNeed$Told;I)V" } : MethodName)) ∈ aBIG := aBg2 130 rfl rfl
set_option maxRecDepth 20000 in
theorem bw458 : (Cond.static ({ cls := "CatNeed$RoomReader", name := "readClause", desc := "(LCatNeed$Tape;LCatNeed$Told;I)V" } : MethodName)) ∈ aBIG := aBg2 131 rfl rfl
set_option maxRecDepth 20000 in
theorem bw459 : (Cond.code ({ cls := "CatNeed$RoomReader", name := "readClause", desc := "(LCatNeed$Tape;LCatNeed$Told;I)V" } : MethodName) prog_2_method_4_code (6 : Nat) (none : Option FieldType)) ∈ aBIG := aBg2 132 rfl rfl
set_option maxRecDepth 20000 in
theorem bw460 : (Cond.methodLink "CatNeed$RoomReader" (65 : Nat) ({ cls := "CatNeed$Tape", name := "takeNumber", desc := "(II)I" } : MethodName)) ∈ aBIG := aBg2 133 rfl rfl
set_option maxRecDepth 20000 in
theorem bw461 : (Cond.instanceMethod ({ cls := "CatNeed$Tape", name := "takeNumber", desc := "(II)I" } : MethodName)) ∈ aBIG := aBg2 134 rfl rfl
set_option maxRecDepth 20000 in
theorem bw462 : (Cond.selects "CatNeed$Tape" ({ cls := "CatNeed$Tape", name := "takeNumber", desc := "(II)I" } : MethodName) ({ cls := "CatNeed$Tape", name := "takeNumber", desc := "(II)I" } : MethodName)) ∈ aBIG := aBg2 135 rfl rfl
set_option maxRecDepth 20000 in
theorem bw463 : (Cond.code ({ cls := "CatNeed$Tape", name := "takeNumber", desc := "(II)I" } : MethodName) prog_6_method_10_code (5 : Nat) (Option.some FieldType.int)) ∈ aBIG := aBg2 136 rfl rfl
set_option maxRecDepth 20000 in
theorem bw464 : (Cond.methodLink "CatNeed$Tape" (42 : Nat) ({ cls := "CatNeed$Tape", name := "fail", desc := "(II)V" } : MethodName)) ∈ aBIG := aBg2 137 rfl rfl
set_option maxRecDepth 20000 in
theorem bw465 : (Cond.methodLink "CatNeed$RoomReader" (69 : Nat) ({ cls := "CatNeed$Told", name := "addThing", desc := "(II)V" } : MethodName)) ∈ aBIG := aBg2 138 rfl rfl
set_option maxRecDepth 20000 in
theorem bw466 : (Cond.instanceMethod ({ cls := "CatNeed$Told", name := "addThing", desc := "(II)V" } : MethodName)) ∈ aBIG := aBg2 139 rfl rfl
set_option maxRecDepth 20000 in
theorem bw467 : (Cond.selects "CatNeed$Told" ({ cls := "CatNeed$Told", name := "addThing", desc := "(II)V" } : MethodName) ({ cls := "CatNeed$Told", name := "addThing", desc := "(II)V" } : MethodName)) ∈ aBIG := aBg2 140 rfl rfl
set_option maxRecDepth 20000 in
theorem bw468 : (Cond.code ({ cls := "CatNeed$Told", name := "addThing", desc := "(II)V" } : MethodName) prog_7_method_3_code (3 : Nat) (none : Option FieldType)) ∈ aBIG := aBg2 141 rfl rfl
set_option maxRecDepth 20000 in
theorem bw469 : (Cond.methodLink "CatNeed$RoomReader" (72 : Nat) ({ cls := "CatNeed$Told", name := "addCat", desc := "(III)V" } : MethodName)) ∈ aBIG := aBg2 142 rfl rfl
set_option maxRecDepth 20000 in
theorem bw470 : (Cond.instanceMethod ({ cls := "CatNeed$Told", name := "addCat", desc := "(III)V" } : MethodName)) ∈ aBIG := aBg2 143 rfl rfl
set_option maxRecDepth 20000 in
theorem bw471 : (Cond.selects "CatNeed$Told" ({ cls := "CatNeed$Told", name := "addCat", desc := "(III)V" } : MethodName) ({ cls := "CatNeed$Told", name := "addCat", desc := "(III)V" } : MethodName)) ∈ aBIG := aBg2 144 rfl rfl
set_option maxRecDepth 20000 in
theorem bw472 : (Cond.code ({ cls := "CatNeed$Told", name := "addCat", desc := "(III)V" } : MethodName) prog_7_method_4_code (4 : Nat) (none : Option FieldType)) ∈ aBIG := aBg2 145 rfl rfl
set_option maxRecDepth 20000 in
theorem bw473 : (Cond.methodLink "CatNeed$RoomReader" (76 : Nat) ({ cls := "CatNeed$Told", name := "addNeed", desc := "(III)V" } : MethodName)) ∈ aBIG := aBg2 146 rfl rfl
set_option maxRecDepth 20000 in
theorem bw474 : (Cond.instanceMethod ({ cls := "CatNeed$Told", name := "addNeed", desc := "(III)V" } : MethodName)) ∈ aBIG := aBg2 147 rfl rfl
set_option maxRecDepth 20000 in
theorem bw475 : (Cond.selects "CatNeed$Told" ({ cls := "CatNeed$Told", name := "addNeed", desc := "(III)V" } : MethodName) ({ cls := "CatNeed$Told", name := "addNeed", desc := "(III)V" } : MethodName)) ∈ aBIG := aBg2 148 rfl rfl
set_option maxRecDepth 20000 in
theorem bw476 : (Cond.code ({ cls := "CatNeed$Told", name := "addNeed", desc := "(III)V" } : MethodName) prog_7_method_5_code (4 : Nat) (none : Option FieldType)) ∈ aBIG := aBg2 149 rfl rfl
set_option maxRecDepth 20000 in
theorem bw477 : (Cond.methodLink "CatNeed$RoomReader" (46 : Nat) ({ cls := "CatNeed$Tape", name := "takeSemicolon", desc := "()Z" } : MethodName)) ∈ aBIG := aBg2 150 rfl rfl
set_option maxRecDepth 20000 in
theorem bw478 : (Cond.instanceMethod ({ cls := "CatNeed$Tape", name := "takeSemicolon", desc := "()Z" } : MethodName)) ∈ aBIG := aBg2 151 rfl rfl
set_option maxRecDepth 20000 in
theorem bw479 : (Cond.selects "CatNeed$Tape" ({ cls := "CatNeed$Tape", name := "takeSemicolon", desc := "()Z" } : MethodName) ({ cls := "CatNeed$Tape", name := "takeSemicolon", desc := "()Z" } : MethodName)) ∈ aBIG := aBg2 152 rfl rfl
set_option maxRecDepth 20000 in
theorem bw480 : (Cond.code ({ cls := "CatNeed$Tape", name := "takeSemicolon", desc := "()Z" } : MethodName) prog_6_method_11_code (1 : Nat) (Option.some FieldType.boolean)) ∈ aBIG := aBg2 153 rfl rfl
set_option maxRecDepth 20000 in
theorem bw481 : (Cond.methodLink "CatNeed$Tape" (46 : Nat) ({ cls := "CatNeed$Tape", name := "takeNext", desc := "(C)Z" } : MethodName)) ∈ aBIG := aBg2 154 rfl rfl
set_option maxRecDepth 20000 in
theorem bw482 : (Cond.instanceMethod ({ cls := "CatNeed$Tape", name := "takeNext", desc := "(C)Z" } : MethodName)) ∈ aBIG := aBg2 155 rfl rfl
set_option maxRecDepth 20000 in
theorem bw483 : (Cond.selects "CatNeed$Tape" ({ cls := "CatNeed$Tape", name := "takeNext", desc := "(C)Z" } : MethodName) ({ cls := "CatNeed$Tape", name := "takeNext", desc := "(C)Z" } : MethodName)) ∈ aBIG := aBg2 156 rfl rfl
set_option maxRecDepth 20000 in
theorem bw484 : (Cond.code ({ cls := "CatNeed$Tape", name := "takeNext", desc := "(C)Z" } : MethodName) prog_6_method_7_code (3 : Nat) (Option.some FieldType.boolean)) ∈ aBIG := aBg2 157 rfl rfl
set_option maxRecDepth 20000 in
theorem bw485 : (Cond.methodLink "CatNeed" (84 : Nat) ({ cls := "CatNeed$Whole", name := "enter", desc := "(LCatNeed$Told;)V" } : MethodName)) ∈ aBIG := aBg2 158 rfl rfl
set_option maxRecDepth 20000 in
theorem bw486 : (Cond.instanceMethod ({ cls := "CatNeed$Whole", name := "enter", desc := "(LCatNeed$Told;)V" } : MethodName)) ∈ aBIG := aBg2 159 rfl rfl
set_option maxRecDepth 20000 in
theorem bw487 : (Cond.selects "CatNeed$Whole" ({ cls := "CatNeed$Whole", name := "enter", desc := "(LCatNeed$Told;)V" } : MethodName) ({ cls := "CatNeed$Whole", name := "enter", desc := "(LCatNeed$Told;)V" } : MethodName)) ∈ aBIG := aBg2 160 rfl rfl
set_option maxRecDepth 20000 in
theorem bw488 : (Cond.code ({ cls := "CatNeed$Whole", name := "enter", desc := "(LCatNeed$Told;)V" } : MethodName) prog_8_method_2_code (2 : Nat) (none : Option FieldType)) ∈ aBIG := aBg2 161 rfl rfl
set_option maxRecDepth 20000 in
theorem bw489 : (Cond.methodLink "CatNeed$Whole" (52 : Nat) ({ cls := "CatNeed$Told", name := "copyFrom", desc := "(LCatNeed$Told;)V" } : MethodName)) ∈ aBIG := aBg2 162 rfl rfl
set_option maxRecDepth 20000 in
theorem bw490 : (Cond.instanceMethod ({ cls := "CatNeed$Told", name := "copyFrom", desc := "(LCatNeed$Told;)V" } : MethodName)) ∈ aBIG := aBg2 163 rfl rfl
set_option maxRecDepth 20000 in
theorem bw491 : (Cond.selects "CatNeed$Told" ({ cls := "CatNeed$Told", name := "copyFrom", desc := "(LCatNeed$Told;)V" } : MethodName) ({ cls := "CatNeed$Told", name := "copyFrom", desc := "(LCatNeed$Told;)V" } : MethodName)) ∈ aBIG := aBg2 164 rfl rfl
set_option maxRecDepth 20000 in
theorem bw492 : (Cond.code ({ cls := "CatNeed$Told", name := "copyFrom", desc := "(LCatNeed$Told;)V" } : MethodName) prog_7_method_6_code (2 : Nat) (none : Option FieldType)) ∈ aBIG := aBg2 165 rfl rfl
set_option maxRecDepth 20000 in
theorem bw493 : (Cond.methodLink "CatNeed$Told" (49 : Nat) ({ cls := "java/lang/System", name := "arraycopy", desc := "(Ljava/lang/Object;ILjava/lang/Object;II)V" } : MethodName)) ∈ aBIG := aBg2 166 rfl rfl
set_option maxRecDepth 20000 in
theorem bw494 : (Cond.static ({ cls := "java/lang/System", name := "arraycopy", desc := "(Ljava/lang/Object;ILjava/lang/Object;II)V" } : MethodName)) ∈ aBIG := aBg2 167 rfl rfl
set_option maxRecDepth 20000 in
theorem bw495 : (Cond.native ({ cls := "java/lang/System", name := "arraycopy", desc := "(Ljava/lang/Object;ILjava/lang/Object;II)V" } : MethodName)) ∈ aBIG := aBg2 168 rfl rfl
set_option maxRecDepth 20000 in
theorem bw496 : (Cond.methodLink "CatNeed$Whole" (56 : Nat) ({ cls := "CatNeed$State", name := "begin", desc := "(LCatNeed$Told;)V" } : MethodName)) ∈ aBIG := aBg2 169 rfl rfl
set_option maxRecDepth 20000 in
theorem bw497 : (Cond.instanceMethod ({ cls := "CatNeed$State", name := "begin", desc := "(LCatNeed$Told;)V" } : MethodName)) ∈ aBIG := aBg2 170 rfl rfl
set_option maxRecDepth 20000 in
theorem bw498 : (Cond.selects "CatNeed$State" ({ cls := "CatNeed$State", name := "begin", desc := "(LCatNeed$Told;)V" } : MethodName) ({ cls := "CatNeed$State", name := "begin", desc := "(LCatNeed$Told;)V" } : MethodName)) ∈ aBIG := aBg2 171 rfl rfl
set_option maxRecDepth 20000 in
theorem bw499 : (Cond.code ({ cls := "CatNeed$State", name := "begin", desc := "(LCatNeed$Told;)V" } : MethodName) prog_5_method_2_code (3 : Nat) (none : Option FieldType)) ∈ aBIG := aBg2 172 rfl rfl
set_option maxRecDepth 20000 in
theorem bw500 : (Cond.methodLink "CatNeed$State" (49 : Nat) ({ cls := "java/lang/System", name := "arraycopy", desc := "(Ljava/lang/Object;ILjava/lang/Object;II)V" } : MethodName)) ∈ aBIG := aBg2 173 rfl rfl
set_option maxRecDepth 20000 in
theorem bw501 : (Cond.arrayClass FieldType.byte) ∈ aBIG := aBg2 174 rfl rfl
set_option maxRecDepth 20000 in
theorem bw502 : (Cond.methodLink "CatNeedLaw" (28 : Nat) ({ cls := "CatNeed", name := "rule", desc := "()I" } : MethodName)) ∈ aBIG := aBg2 175 rfl rfl
set_option maxRecDepth 20000 in
theorem bw503 : (Cond.instanceMethod ({ cls := "CatNeed", name := "rule", desc := "()I" } : MethodName)) ∈ aBIG := aBg2 176 rfl rfl
set_option maxRecDepth 20000 in
theorem bw504 : (Cond.selects "CatNeed" ({ cls := "CatNeed", name := "rule", desc := "()I" } : MethodName) ({ cls := "CatNeed", name := "rule", desc := "()I" } : MethodName)) ∈ aBIG := aBg2 177 rfl rfl
set_option maxRecDepth 20000 in
theorem bw505 : (Cond.code ({ cls := "CatNeed", name := "rule", desc := "()I" } : MethodName) prog_1_method_5_code (2 : Nat) (Option.some FieldType.int)) ∈ aBIG := aBg2 178 rfl rfl
set_option maxRecDepth 20000 in
theorem bw506 : (Cond.methodLink "CatNeed" (94 : Nat) ({ cls := "CatNeed$RuleReader", name := "read", desc := "(LCatNeed$Tape;LCatNeed$Rule;)Z" } : MethodName)) ∈ aBIG := aBg2 179 rfl rfl
set_option maxRecDepth 20000 in
theorem bw507 : (Cond.static ({ cls := "CatNeed$RuleReader", name := "read", desc := "(LCatNeed$Tape;LCatNeed$Rule;)Z" } : MethodName)) ∈ aBIG := aBg2 180 rfl rfl
set_option maxRecDepth 20000 in
theorem bw508 : (Cond.code ({ cls := "CatNeed$RuleReader", name := "read", desc := "(LCatNeed$Tape;LCatNeed$Rule;)Z" } : MethodName) prog_4_method_2_code (4 : Nat) (Option.some FieldType.boolean)) ∈ aBIG := aBg2 181 rfl rfl
set_option maxRecDepth 20000 in
theorem bw509 : (Cond.methodLink "CatNeed$RuleReader" (9 : Nat) ({ cls := "CatNeed$Rule", name := "clear", desc := "()V" } : MethodName)) ∈ aBIG := aBg2 182 rfl rfl
set_option maxRecDepth 20000 in
theorem bw510 : (Cond.instanceMethod ({ cls := "CatNeed$Rule", name := "clear", desc := "()V" } : MethodName)) ∈ aBIG := aBg2 183 rfl rfl
set_option maxRecDepth 20000 in
theorem bw511 : (Cond.selects "CatNeed$Rule" ({ cls := "CatNeed$Rule", name := "clear", desc := "()V" } : MethodName) ({ cls := "CatNeed$Rule", name := "clear", desc := "()V" } : MethodName)) ∈ aBIG := aBg2 184 rfl rfl
set_option maxRecDepth 20000 in
theorem bw512 : (Cond.code ({ cls := "CatNeed$Rule", name := "clear", desc := "()V" } : MethodName) prog_3_method_2_code (1 : Nat) (none : Option FieldType)) ∈ aBIG := aBg2 185 rfl rfl
set_option maxRecDepth 20000 in
theorem bw513 : (Cond.methodLink "CatNeed$RuleReader" (14 : Nat) ({ cls := "CatNeed$Tape", name := "rewind", desc := "()V" } : MethodName)) ∈ aBIG := aBg2 186 rfl rfl
set_option maxRecDepth 20000 in
theorem bw514 : (Cond.methodLink "CatNeed$RuleReader" (19 : Nat) ({ cls := "CatNeed$Tape", name := "skipBlanks", desc := "()V" } : MethodName)) ∈ aBIG := aBg2 187 rfl rfl
set_option maxRecDepth 20000 in
theorem bw516 : (Cond.methodLink "CatNeed$RuleReader" (28 : Nat) ({ cls := "CatNeed$Tape", name := "takeWord", desc := "(Ljava/lang/String;)I" } : MethodName)) ∈ aBIG := aBg2 189 rfl rfl
set_option maxRecDepth 20000 in
theorem bw517 : (Cond.methodLink "CatNeed$RuleReader" (32 : Nat) ({ cls := "CatNeed$Tape", name := "fail", desc := "(II)V" } : MethodName)) ∈ aBIG := aBg2 190 rfl rfl
set_option maxRecDepth 20000 in
theorem bw518 : (Cond.methodLink "CatNeed$RuleReader" (38 : Nat) ({ cls := "CatNeed$RuleReader", name := "readSum", desc := "(LCatNeed$Tape;LCatNeed$Rule;)V" } : MethodName)) ∈ aBIG := aBg2 191 rfl rfl
set_option maxRecDepth 20000 in
theorem bw519 : (Cond.static ({ cls := "CatNeed$RuleReader", name := "readSum", desc := "(LCatNeed$Tape;LCatNeed$Rule;)V" } : MethodName)) ∈ aBIG := aBg2 192 rfl rfl
set_option maxRecDepth 20000 in
theorem bw520 : (Cond.code ({ cls := "CatNeed$RuleReader", name := "readSum", desc := "(LCatNeed$Tape;LCatNeed$Rule;)V" } : MethodName) prog_4_method_6_code (6 : Nat) (none : Option FieldType)) ∈ aBIG := aBg2 193 rfl rfl
set_option maxRecDepth 20000 in
theorem bw521 : (Cond.methodLink "CatNeed$RuleReader" (96 : Nat) ({ cls := "CatNeed$RuleReader", name := "readValue", desc := "(LCatNeed$Tape;LCatNeed$Rule;)V" } : MethodName)) ∈ aBIG := aBg2 194 rfl rfl
set_option maxRecDepth 20000 in
theorem bw522 : (Cond.static ({ cls := "CatNeed$RuleReader", name := "readValue", desc := "(LCatNeed$Tape;LCatNeed$Rule;)V" } : MethodName)) ∈ aBIG := aBg2 195 rfl rfl
set_option maxRecDepth 20000 in
theorem bw523 : (Cond.code ({ cls := "CatNeed$RuleReader", name := "readValue", desc := "(LCatNeed$Tape;LCatNeed$Rule;)V" } : MethodName) prog_4_method_7_code (6 : Nat) (none : Option FieldType)) ∈ aBIG := aBg2 196 rfl rfl
set_option maxRecDepth 20000 in
theorem bw524 : (Cond.methodLink "CatNeed$RuleReader" (102 : Nat) ({ cls := "CatNeed$Tape", name := "digitNext", desc := "()Z" } : MethodName)) ∈ aBIG := aBg2 197 rfl rfl
set_option maxRecDepth 20000 in
theorem bw525 : (Cond.instanceMethod ({ cls := "CatNeed$Tape", name := "digitNext", desc := "()Z" } : MethodName)) ∈ aBIG := aBg2 198 rfl rfl
set_option maxRecDepth 20000 in
theorem bw526 : (Cond.selects "CatNeed$Tape" ({ cls := "CatNeed$Tape", name := "digitNext", desc := "()Z" } : MethodName) ({ cls := "CatNeed$Tape", name := "digitNext", desc := "()Z" } : MethodName)) ∈ aBIG := aBg2 199 rfl rfl
set_option maxRecDepth 20000 in
theorem bw527 : (Cond.code ({ cls := "CatNeed$Tape", name := "digitNext", desc := "()Z" } : MethodName) prog_6_method_9_code (1 : Nat) (Option.some FieldType.boolean)) ∈ aBIG := aBg2 200 rfl rfl
set_option maxRecDepth 20000 in
theorem bw528 : (Cond.constant "CatNeed$RuleReader" (105 : Nat) (99999 : Int32)) ∈ aBIG := aBg2 201 rfl rfl
set_option maxRecDepth 20000 in
theorem bw529 : (Cond.methodLink "CatNeed$RuleReader" (106 : Nat) ({ cls := "CatNeed$Tape", name := "takeNumber", desc := "(II)I" } : MethodName)) ∈ aBIG := aBg2 202 rfl rfl
set_option maxRecDepth 20000 in
theorem bw531 : (Cond.constant "CatNeed$RuleReader" (114 : Nat) (100000 : Int32)) ∈ aBIG := aBg2 204 rfl rfl
set_option maxRecDepth 20000 in
theorem bw532 : (Cond.methodLink "CatNeed$RuleReader" (84 : Nat) ({ cls := "CatNeed$RuleReader", name := "tallyOne", desc := "(LCatNeed$Tape;LCatNeed$Rule;I)V" } : MethodName)) ∈ aBIG := aBg2 205 rfl rfl
set_option maxRecDepth 20000 in
theorem bw533 : (Cond.static ({ cls := "CatNeed$RuleReader", name := "tallyOne", desc := "(LCatNeed$Tape;LCatNeed$Rule;I)V" } : MethodName)) ∈ aBIG := aBg2 206 rfl rfl
set_option maxRecDepth 20000 in
theorem bw534 : (Cond.code ({ cls := "CatNeed$RuleReader", name := "tallyOne", desc := "(LCatNeed$Tape;LCatNeed$Rule;I)V" } : MethodName) prog_4_method_8_code (3 : Nat) (none : Option FieldType)) ∈ aBIG := aBg2 207 rfl rfl
set_option maxRecDepth 20000 in
theorem bw535 : (Cond.methodLink "CatNeed$RuleReader" (52 : Nat) ({ cls := "CatNeed$Rule", name := "add", desc := "(I)V" } : MethodName)) ∈ aBIG := aBg2 208 rfl rfl
set_option maxRecDepth 20000 in
theorem bw536 : (Cond.instanceMethod ({ cls := "CatNeed$Rule", name := "add", desc := "(I)V" } : MethodName)) ∈ aBIG := aBg2 209 rfl rfl
set_option maxRecDepth 20000 in
theorem bw537 : (Cond.selects "CatNeed$Rule" ({ cls := "CatNeed$Rule", name := "add", desc := "(I)V" } : MethodName) ({ cls := "CatNeed$Rule", name := "add", desc := "(I)V" } : MethodName)) ∈ aBIG := aBg2 210 rfl rfl
set_option maxRecDepth 20000 in
theorem bw538 : (Cond.code ({ cls := "CatNeed$Rule", name := "add", desc := "(I)V" } : MethodName) prog_3_method_3_code (2 : Nat) (none : Option FieldType)) ∈ aBIG := aBg2 211 rfl rfl
set_option maxRecDepth 20000 in
theorem bw540 : (Cond.methodLink "CatNeed$RuleReader" (70 : Nat) ({ cls := "CatNeed$Tape", name := "takeSign", desc := "(Ljava/lang/String;)I" } : MethodName)) ∈ aBIG := aBg2 213 rfl rfl
set_option maxRecDepth 20000 in
theorem bw541 : (Cond.instanceMethod ({ cls := "CatNeed$Tape", name := "takeSign", desc := "(Ljava/lang/String;)I" } : MethodName)) ∈ aBIG := aBg2 214 rfl rfl
set_option maxRecDepth 20000 in
theorem bw542 : (Cond.selects "CatNeed$Tape" ({ cls := "CatNeed$Tape", name := "takeSign", desc := "(Ljava/lang/String;)I" } : MethodName) ({ cls := "CatNeed$Tape", name := "takeSign", desc := "(Ljava/lang/String;)I" } : MethodName)) ∈ aBIG := aBg2 215 rfl rfl
set_option maxRecDepth 20000 in
theorem bw543 : (Cond.code ({ cls := "CatNeed$Tape", name := "takeSign", desc := "(Ljava/lang/String;)I" } : MethodName) prog_6_method_6_code (3 : Nat) (Option.some FieldType.int)) ∈ aBIG := aBg2 216 rfl rfl
set_option maxRecDepth 20000 in
theorem bw544 : (Cond.methodLink "CatNeed$Tape" (28 : Nat) ({ cls := "java/lang/String", name := "indexOf", desc := "(I)I" } : MethodName)) ∈ aBIG := aBg2 217 rfl rfl
set_option maxRecDepth 20000 in
theorem bw545 : (Cond.instanceMethod ({ cls := "java/lang/String", name := "indexOf", desc := "(I)I" } : MethodName)) ∈ aBIG := aBg2 218 rfl rfl
set_option maxRecDepth 20000 in
theorem bw546 : (Cond.selects "java/lang/String" ({ cls := "java/lang/String", name := "indexOf", desc := "(I)I" } : MethodName) ({ cls := "java/lang/String", name := "indexOf", desc := "(I)I" } : MethodName)) ∈ aBIG := aBg2 219 rfl rfl
set_option maxRecDepth 20000 in
theorem bw547 : (Cond.code ({ cls := "java/lang/String", name := "indexOf", desc := "(I)I" } : MethodName) prog_14_method_79_code (2 : Nat) (Option.some FieldType.int)) ∈ aBIG := aBg2 220 rfl rfl
set_option maxRecDepth 20000 in
theorem bw548 : (Cond.methodLink "java/lang/String" (633 : Nat) ({ cls := "java/lang/String", name := "indexOf", desc := "(II)I" } : MethodName)) ∈ aBIG := aBg2 221 rfl rfl
set_option maxRecDepth 20000 in
theorem bw549 : (Cond.instanceMethod ({ cls := "java/lang/String", name := "indexOf", desc := "(II)I" } : MethodName)) ∈ aBIG := aBg2 222 rfl rfl
set_option maxRecDepth 20000 in
theorem bw550 : (Cond.selects "java/lang/String" ({ cls := "java/lang/String", name := "indexOf", desc := "(II)I" } : MethodName) ({ cls := "java/lang/String", name := "indexOf", desc := "(II)I" } : MethodName)) ∈ aBIG := aBg2 223 rfl rfl
set_option maxRecDepth 20000 in
theorem bw551 : (Cond.code ({ cls := "java/lang/String", name := "indexOf", desc := "(II)I" } : MethodName) prog_14_method_80_code (3 : Nat) (Option.some FieldType.int)) ∈ aBIG := aBg2 224 rfl rfl
set_option maxRecDepth 20000 in
theorem bw552 : (Cond.methodLink "java/lang/String" (505 : Nat) ({ cls := "java/lang/String", name := "length", desc := "()I" } : MethodName)) ∈ aBIG := aBg2 225 rfl rfl
set_option maxRecDepth 20000 in
theorem bw553 : (Cond.methodLink "java/lang/String" (637 : Nat) ({ cls := "java/lang/StringLatin1", name := "indexOf", desc := "([BIII)I" } : MethodName)) ∈ aBIG := aBg2 226 rfl rfl
set_option maxRecDepth 20000 in
theorem bw554 : (Cond.static ({ cls := "java/lang/StringLatin1", name := "indexOf", desc := "([BIII)I" } : MethodName)) ∈ aBIG := aBg2 227 rfl rfl
set_option maxRecDepth 20000 in
theorem bw555 : (Cond.code ({ cls := "java/lang/StringLatin1", name := "indexOf", desc := "([BIII)I" } : MethodName) prog_15_method_22_code (4 : Nat) (Option.some FieldType.int)) ∈ aBIG := aBg2 228 rfl rfl
set_option maxRecDepth 20000 in
theorem bw556 : (Cond.methodLink "java/lang/StringLatin1" (88 : Nat) ({ cls := "java/lang/StringLatin1", name := "canEncode", desc := "(I)Z" } : MethodName)) ∈ aBIG := aBg2 229 rfl rfl
set_option maxRecDepth 20000 in
theorem bw557 : (Cond.static ({ cls := "java/lang/StringLatin1", name := "canEncode", desc := "(I)Z" } : MethodName)) ∈ aBIG := aBg2 230 rfl rfl
set_option maxRecDepth 20000 in
theorem bw558 : (Cond.code ({ cls := "java/lang/StringLatin1", name := "canEncode", desc := "(I)Z" } : MethodName) prog_15_method_4_code (1 : Nat) (Option.some FieldType.boolean)) ∈ aBIG := aBg2 231 rfl rfl
set_option maxRecDepth 20000 in
theorem bw559 : (Cond.methodLink "java/lang/StringLatin1" (92 : Nat) ({ cls := "java/lang/Math", name := "max", desc := "(II)I" } : MethodName)) ∈ aBIG := aBg2 232 rfl rfl
set_option maxRecDepth 20000 in
theorem bw560 : (Cond.static ({ cls := "java/lang/Math", name := "max", desc := "(II)I" } : MethodName)) ∈ aBIG := aBg2 233 rfl rfl
set_option maxRecDepth 20000 in
theorem bw561 : (Cond.code ({ cls := "java/lang/Math", name := "max", desc := "(II)I" } : MethodName) prog_13_method_65_code (2 : Nat) (Option.some FieldType.int)) ∈ aBIG := aBg2 234 rfl rfl
set_option maxRecDepth 20000 in
theorem bw562 : (Cond.methodLink "java/lang/StringLatin1" (38 : Nat) ({ cls := "java/lang/Math", name := "min", desc := "(II)I" } : MethodName)) ∈ aBIG := aBg2 235 rfl rfl
set_option maxRecDepth 20000 in
theorem bw563 : (Cond.static ({ cls := "java/lang/Math", name := "min", desc := "(II)I" } : MethodName)) ∈ aBIG := aBg2 236 rfl rfl
set_option maxRecDepth 20000 in
theorem bw564 : (Cond.code ({ cls := "java/lang/Math", name := "min", desc := "(II)I" } : MethodName) prog_13_method_69_code (2 : Nat) (Option.some FieldType.int)) ∈ aBIG := aBg2 237 rfl rfl
set_option maxRecDepth 20000 in
theorem bw565 : (Cond.methodLink "java/lang/StringLatin1" (95 : Nat) ({ cls := "java/lang/StringLatin1", name := "indexOfChar", desc := "([BIII)I" } : MethodName)) ∈ aBIG := aBg2 238 rfl rfl
set_option maxRecDepth 20000 in
theorem bw566 : (Cond.static ({ cls := "java/lang/StringLatin1", name := "indexOfChar", desc := "([BIII)I" } : MethodName)) ∈ aBIG := aBg2 239 rfl rfl
set_option maxRecDepth 20000 in
theorem bw567 : (Cond.code ({ cls := "java/lang/StringLatin1", name := "indexOfChar", desc := "([BIII)I" } : MethodName) prog_15_method_23_code (6 : Nat) (Option.some FieldType.int)) ∈ aBIG := aBg3 0 rfl rfl
set_option maxRecDepth 20000 in
theorem bw568 : (Cond.methodLink "java/lang/String" (640 : Nat) ({ cls := "java/lang/StringUTF16", name := "indexOf", desc := "([BIII)I" } : MethodName)) ∈ aBIG := aBg3 1 rfl rfl
set_option maxRecDepth 20000 in
theorem bw569 : (Cond.static ({ cls := "java/lang/StringUTF16", name := "indexOf", desc := "([BIII)I" } : MethodName)) ∈ aBIG := aBg3 2 rfl rfl
set_option maxRecDepth 20000 in
theorem bw570 : (Cond.code ({ cls := "java/lang/StringUTF16", name := "indexOf", desc := "([BIII)I" } : MethodName) prog_16_method_40_code (4 : Nat) (Option.some FieldType.int)) ∈ aBIG := aBg3 3 rfl rfl
set_option maxRecDepth 20000 in
theorem bw571 : (Cond.methodLink "java/lang/StringUTF16" (224 : Nat) ({ cls := "java/lang/Math", name := "max", desc := "(II)I" } : MethodName)) ∈ aBIG := aBg3 4 rfl rfl
set_option maxRecDepth 20000 in
theorem bw572 : (Cond.methodLink "java/lang/StringUTF16" (183 : Nat) ({ cls := "java/lang/Math", name := "min", desc := "(II)I" } : MethodName)) ∈ aBIG := aBg3 5 rfl rfl
set_option maxRecDepth 20000 in
theorem bw573 : (Cond.constant "java/lang/StringUTF16" (227 : Nat) (65536 : Int32)) ∈ aBIG := aBg3 6 rfl rfl
set_option maxRecDepth 20000 in
theorem bw574 : (Cond.methodLink "java/lang/StringUTF16" (228 : Nat) ({ cls := "java/lang/StringUTF16", name := "indexOfChar", desc := "([BIII)I" } : MethodName)) ∈ aBIG := aBg3 7 rfl rfl
set_option maxRecDepth 20000 in
theorem bw575 : (Cond.static ({ cls := "java/lang/StringUTF16", name := "indexOfChar", desc := "([BIII)I" } : MethodName)) ∈ aBIG := aBg3 8 rfl rfl
set_option maxRecDepth 20000 in
theorem bw576 : (Cond.code ({ cls := "java/lang/StringUTF16", name := "indexOfChar", desc := "([BIII)I" } : MethodName) prog_16_method_47_code (4 : Nat) (Option.some FieldType.int)) ∈ aBIG := aBg3 9 rfl rfl
set_option maxRecDepth 20000 in
theorem bw577 : (Cond.methodLink "java/lang/StringUTF16" (96 : Nat) ({ cls := "java/lang/StringUTF16", name := "checkBoundsBeginEnd", desc := "(II[B)V" } : MethodName)) ∈ aBIG := aBg3 10 rfl rfl
set_option maxRecDepth 20000 in
theorem bw578 : (Cond.static ({ cls := "java/lang/StringUTF16", name := "checkBoundsBeginEnd", desc := "(II[B)V" } : MethodName)) ∈ aBIG := aBg3 11 rfl rfl
set_option maxRecDepth 20000 in
theorem bw579 : (Cond.code ({ cls := "java/lang/StringUTF16", name := "checkBoundsBeginEnd", desc := "(II[B)V" } : MethodName) prog_16_method_93_code (3 : Nat) (none : Option FieldType)) ∈ aBIG := aBg3 12 rfl rfl
set_option maxRecDepth 20000 in
theorem bw580 : (Cond.methodLink "java/lang/StringUTF16" (241 : Nat) ({ cls := "java/lang/String", name := "checkBoundsBeginEnd", desc := "(III)V" } : MethodName)) ∈ aBIG := aBg3 13 rfl rfl
set_option maxRecDepth 20000 in
theorem bw581 : (Cond.static ({ cls := "java/lang/String", name := "checkBoundsBeginEnd", desc := "(III)V" } : MethodName)) ∈ aBIG := aBg3 14 rfl rfl
set_option maxRecDepth 20000 in
theorem bw582 : (Cond.code ({ cls := "java/lang/String", name := "checkBoundsBeginEnd", desc := "(III)V" } : MethodName) prog_14_method_158_code (3 : Nat) (none : Option FieldType)) ∈ aBIG := aBg3 15 rfl rfl
set_option maxRecDepth 20000 in
theorem bw583 : (Cond.methodLink "java/lang/String" (1062 : Nat) ({ cls := "jdk/internal/util/Preconditions", name := "checkFromToIndex", desc := "(IIILjava/util/function/BiFunction;)I" } : MethodName)) ∈ aBIG := aBg3 16 rfl rfl
set_option maxRecDepth 20000 in
theorem bw584 : (Cond.static ({ cls := "jdk/internal/util/Preconditions", name := "checkFromToIndex", desc := "(IIILjava/util/function/BiFunction;)I" } : MethodName)) ∈ aBIG := aBg3 17 rfl rfl
set_option maxRecDepth 20000 in
theorem bw585 : (Cond.code ({ cls := "jdk/internal/util/Preconditions", name := "checkFromToIndex", desc := "(IIILjava/util/function/BiFunction;)I" } : MethodName) prog_18_method_12_code (4 : Nat) (Option.some FieldType.int)) ∈ aBIG := aBg3 18 rfl rfl
set_option maxRecDepth 20000 in
theorem bw586 : (Cond.methodLink "java/lang/StringUTF16" (244 : Nat) ({ cls := "java/lang/StringUTF16", name := "indexOfCharUnsafe", desc := "([BIII)I" } : MethodName)) ∈ aBIG := aBg3 19 rfl rfl
set_option maxRecDepth 20000 in
theorem bw587 : (Cond.static ({ cls := "java/lang/StringUTF16", name := "indexOfCharUnsafe", desc := "([BIII)I" } : MethodName)) ∈ aBIG := aBg3 20 rfl rfl
set_option maxRecDepth 20000 in
theorem bw588 : (Cond.code ({ cls := "java/lang/StringUTF16", name := "indexOfCharUnsafe", desc := "([BIII)I" } : MethodName) prog_16_method_48_code (5 : Nat) (Option.some FieldType.int)) ∈ aBIG := aBg3 21 rfl rfl
set_option maxRecDepth 20000 in
theorem bw589 : (Cond.methodLink "java/lang/StringUTF16" (232 : Nat) ({ cls := "java/lang/StringUTF16", name := "indexOfSupplementary", desc := "([BIII)I" } : MethodName)) ∈ aBIG := aBg3 22 rfl rfl
set_option maxRecDepth 20000 in
theorem bw590 : (Cond.static ({ cls := "java/lang/StringUTF16", name := "indexOfSupplementary", desc := "([BIII)I" } : MethodName)) ∈ aBIG := aBg3 23 rfl rfl
set_option maxRecDepth 20000 in
theorem bw591 : (Cond.code ({ cls := "java/lang/StringUTF16", name := "indexOfSupplementary", desc := "([BIII)I" } : MethodName) prog_16_method_49_code (7 : Nat) (Option.some FieldType.int)) ∈ aBIG := aBg3 24 rfl rfl
set_option maxRecDepth 20000 in
theorem bw592 : (Cond.methodLink "java/lang/StringUTF16" (164 : Nat) ({ cls := "java/lang/Character", name := "isValidCodePoint", desc := "(I)Z" } : MethodName)) ∈ aBIG := aBg3 25 rfl rfl
set_option maxRecDepth 20000 in
theorem bw593 : (Cond.static ({ cls := "java/lang/Character", name := "isValidCodePoint", desc := "(I)Z" } : MethodName)) ∈ aBIG := aBg3 26 rfl rfl
set_option maxRecDepth 20000 in
theorem bw594 : (Cond.code ({ cls := "java/lang/Character", name := "isValidCodePoint", desc := "(I)Z" } : MethodName) prog_11_method_11_code (2 : Nat) (Option.some FieldType.boolean)) ∈ aBIG := aBg3 27 rfl rfl
set_option maxRecDepth 20000 in
theorem bw595 : (Cond.methodLink "java/lang/StringUTF16" (157 : Nat) ({ cls := "java/lang/Character", name := "highSurrogate", desc := "(I)C" } : MethodName)) ∈ aBIG := aBg3 28 rfl rfl
set_option maxRecDepth 20000 in
theorem bw596 : (Cond.static ({ cls := "java/lang/Character", name := "highSurrogate", desc := "(I)C" } : MethodName)) ∈ aBIG := aBg3 29 rfl rfl
set_option maxRecDepth 20000 in
theorem bw597 : (Cond.code ({ cls := "java/lang/Character", name := "highSurrogate", desc := "(I)C" } : MethodName) prog_11_method_28_code (1 : Nat) (Option.some FieldType.char)) ∈ aBIG := aBg3 30 rfl rfl
set_option maxRecDepth 20000 in
theorem bw598 : (Cond.constant "java/lang/Character" (110 : Nat) (55232 : Int32)) ∈ aBIG := aBg3 31 rfl rfl
set_option maxRecDepth 20000 in
theorem bw599 : (Cond.methodLink "java/lang/StringUTF16" (161 : Nat) ({ cls := "java/lang/Character", name := "lowSurrogate", desc := "(I)C" } : MethodName)) ∈ aBIG := aBg3 32 rfl rfl
set_option maxRecDepth 20000 in
theorem bw600 : (Cond.static ({ cls := "java/lang/Character", name := "lowSurrogate", desc := "(I)C" } : MethodName)) ∈ aBIG := aBg3 33 rfl rfl
set_option maxRecDepth 20000 in
theorem bw601 : (Cond.code ({ cls := "java/lang/Character", name := "lowSurrogate", desc := "(I)C" } : MethodName) prog_11_method_29_code (1 : Nat) (Option.some FieldType.char)) ∈ aBIG := aBg3 34 rfl rfl
set_option maxRecDepth 20000 in
theorem bw602 : (Cond.constant "java/lang/Character" (76 : Nat) (56320 : Int32)) ∈ aBIG := aBg3 35 rfl rfl
set_option maxRecDepth 20000 in
theorem bw603 : (Cond.constant "CatNeed$RuleReader" (101 : Nat) (200000 : Int32)) ∈ aBIG := aBg3 36 rfl rfl
set_option maxRecDepth 20000 in
theorem bw605 : (Cond.methodLink "CatNeed$RuleReader" (47 : Nat) ({ cls := "CatNeed$RuleReader", name := "readTest", desc := "(LCatNeed$Tape;LCatNeed$Rule;I)V" } : MethodName)) ∈ aBIG := aBg3 38 rfl rfl
set_option maxRecDepth 20000 in
theorem bw606 : (Cond.static ({ cls := "CatNeed$RuleReader", name := "readTest", desc := "(LCatNeed$Tape;LCatNeed$Rule;I)V" } : MethodName)) ∈ aBIG := aBg3 39 rfl rfl
set_option maxRecDepth 20000 in
theorem bw607 : (Cond.code ({ cls := "CatNeed$RuleReader", name := "readTest", desc := "(LCatNeed$Tape;LCatNeed$Rule;I)V" } : MethodName) prog_4_method_3_code (6 : Nat) (none : Option FieldType)) ∈ aBIG := aBg3 40 rfl rfl
set_option maxRecDepth 20000 in
theorem bw608 : (Cond.methodLink "CatNeed$RuleReader" (61 : Nat) ({ cls := "CatNeed$RuleReader", name := "readFact", desc := "(LCatNeed$Tape;LCatNeed$Rule;I)V" } : MethodName)) ∈ aBIG := aBg3 41 rfl rfl
set_option maxRecDepth 20000 in
theorem bw609 : (Cond.static ({ cls := "CatNeed$RuleReader", name := "readFact", desc := "(LCatNeed$Tape;LCatNeed$Rule;I)V" } : MethodName)) ∈ aBIG := aBg3 42 rfl rfl
set_option maxRecDepth 20000 in
theorem bw610 : (Cond.code ({ cls := "CatNeed$RuleReader", name := "readFact", desc := "(LCatNeed$Tape;LCatNeed$Rule;I)V" } : MethodName) prog_4_method_4_code (7 : Nat) (none : Option FieldType)) ∈ aBIG := aBg3 43 rfl rfl
set_option maxRecDepth 20000 in
theorem bw614 : (Cond.constant "CatNeed$RuleReader" (77 : Nat) (200012 : Int32)) ∈ aBIG := aBg3 47 rfl rfl
set_option maxRecDepth 20000 in
theorem bw615 : (Cond.methodLink "CatNeed$RuleReader" (78 : Nat) ({ cls := "CatNeed$RuleReader", name := "readComparison", desc := "(LCatNeed$Tape;LCatNeed$Rule;)I" } : MethodName)) ∈ aBIG := aBg3 48 rfl rfl
set_option maxRecDepth 20000 in
theorem bw616 : (Cond.static ({ cls := "CatNeed$RuleReader", name := "readComparison", desc := "(LCatNeed$Tape;LCatNeed$Rule;)I" } : MethodName)) ∈ aBIG := aBg3 49 rfl rfl
set_option maxRecDepth 20000 in
theorem bw617 : (Cond.code ({ cls := "CatNeed$RuleReader", name := "readComparison", desc := "(LCatNeed$Tape;LCatNeed$Rule;)I" } : MethodName) prog_4_method_5_code (4 : Nat) (Option.some FieldType.int)) ∈ aBIG := aBg3 50 rfl rfl
set_option maxRecDepth 20000 in
theorem bw619 : (Cond.methodLink "CatNeed$RuleReader" (87 : Nat) ({ cls := "CatNeed$Tape", name := "takeNext", desc := "(C)Z" } : MethodName)) ∈ aBIG := aBg3 52 rfl rfl
set_option maxRecDepth 20000 in
theorem bw620 : (Cond.constant "CatNeed$RuleReader" (91 : Nat) (200006 : Int32)) ∈ aBIG := aBg3 53 rfl rfl
set_option maxRecDepth 20000 in
theorem bw621 : (Cond.constant "CatNeed$RuleReader" (92 : Nat) (200005 : Int32)) ∈ aBIG := aBg3 54 rfl rfl
set_option maxRecDepth 20000 in
theorem bw622 : (Cond.constant "CatNeed$RuleReader" (93 : Nat) (200007 : Int32)) ∈ aBIG := aBg3 55 rfl rfl
set_option maxRecDepth 20000 in
theorem bw623 : (Cond.constant "CatNeed$RuleReader" (94 : Nat) (200008 : Int32)) ∈ aBIG := aBg3 56 rfl rfl
set_option maxRecDepth 20000 in
theorem bw624 : (Cond.constant "CatNeed$RuleReader" (95 : Nat) (200009 : Int32)) ∈ aBIG := aBg3 57 rfl rfl
set_option maxRecDepth 20000 in
theorem bw626 : (Cond.constant "CatNeed$RuleReader" (66 : Nat) (200011 : Int32)) ∈ aBIG := aBg3 59 rfl rfl
set_option maxRecDepth 20000 in
theorem bw627 : (Cond.constant "CatNeed$RuleReader" (67 : Nat) (200010 : Int32)) ∈ aBIG := aBg3 60 rfl rfl
set_option maxRecDepth 20000 in
theorem bw628 : (Cond.constant "CatNeed$RuleReader" (51 : Nat) (200014 : Int32)) ∈ aBIG := aBg3 61 rfl rfl
set_option maxRecDepth 20000 in
theorem bw629 : (Cond.constant "CatNeed$RuleReader" (56 : Nat) (200013 : Int32)) ∈ aBIG := aBg3 62 rfl rfl
set_option maxRecDepth 20000 in
theorem bw630 : (Cond.methodLink "CatNeed$RuleReader" (57 : Nat) ({ cls := "CatNeed$Tape", name := "takeSemicolon", desc := "()Z" } : MethodName)) ∈ aBIG := aBg3 63 rfl rfl
set_option maxRecDepth 20000 in
theorem bw631 : (Cond.methodLink "CatNeedLaw" (32 : Nat) ({ cls := "CatNeed", name := "force", desc := "(I)I" } : MethodName)) ∈ aBIG := aBg3 64 rfl rfl
set_option maxRecDepth 20000 in
theorem bw632 : (Cond.instanceMethod ({ cls := "CatNeed", name := "force", desc := "(I)I" } : MethodName)) ∈ aBIG := aBg3 65 rfl rfl
set_option maxRecDepth 20000 in
theorem bw633 : (Cond.selects "CatNeed" ({ cls := "CatNeed", name := "force", desc := "(I)I" } : MethodName) ({ cls := "CatNeed", name := "force", desc := "(I)I" } : MethodName)) ∈ aBIG := aBg3 66 rfl rfl
set_option maxRecDepth 20000 in
theorem bw634 : (Cond.code ({ cls := "CatNeed", name := "force", desc := "(I)I" } : MethodName) prog_1_method_6_code (3 : Nat) (Option.some FieldType.int)) ∈ aBIG := aBg3 67 rfl rfl
set_option maxRecDepth 20000 in
theorem bw635 : (Cond.methodLink "CatNeedLaw" (36 : Nat) ({ cls := "CatNeed", name := "thing", desc := "(II)I" } : MethodName)) ∈ aBIG := aBg3 68 rfl rfl
set_option maxRecDepth 20000 in
theorem bw636 : (Cond.instanceMethod ({ cls := "CatNeed", name := "thing", desc := "(II)I" } : MethodName)) ∈ aBIG := aBg3 69 rfl rfl
set_option maxRecDepth 20000 in
theorem bw637 : (Cond.selects "CatNeed" ({ cls := "CatNeed", name := "thing", desc := "(II)I" } : MethodName) ({ cls := "CatNeed", name := "thing", desc := "(II)I" } : MethodName)) ∈ aBIG := aBg3 70 rfl rfl
set_option maxRecDepth 20000 in
theorem bw638 : (Cond.code ({ cls := "CatNeed", name := "thing", desc := "(II)I" } : MethodName) prog_1_method_7_code (3 : Nat) (Option.some FieldType.int)) ∈ aBIG := aBg3 71 rfl rfl
set_option maxRecDepth 20000 in
theorem bw639 : (Cond.methodLink "CatNeed" (102 : Nat) ({ cls := "CatNeed", name := "isThing", desc := "(I)Z" } : MethodName)) ∈ aBIG := aBg3 72 rfl rfl
set_option maxRecDepth 20000 in
theorem bw641 : (Cond.instanceMethod ({ cls := "CatNeed", name := "isThing", desc := "(I)Z" } : MethodName)) ∈ aBIG := aBg3 74 rfl rfl
set_option maxRecDepth 20000 in
theorem bw642 : (Cond.code ({ cls := "CatNeed", name := "isThing", desc := "(I)Z" } : MethodName) prog_1_method_35_code (2 : Nat) (Option.some FieldType.boolean)) ∈ aBIG := aBg3 75 rfl rfl
set_option maxRecDepth 20000 in
theorem bw643 : (Cond.methodLink "CatNeed" (115 : Nat) ({ cls := "CatNeed$State", name := "metOf", desc := "(LCatNeed$Told;I)I" } : MethodName)) ∈ aBIG := aBg3 76 rfl rfl
set_option maxRecDepth 20000 in
theorem bw644 : (Cond.instanceMethod ({ cls := "CatNeed$State", name := "metOf", desc := "(LCatNeed$Told;I)I" } : MethodName)) ∈ aBIG := aBg3 77 rfl rfl
set_option maxRecDepth 20000 in
theorem bw645 : (Cond.selects "CatNeed$State" ({ cls := "CatNeed$State", name := "metOf", desc := "(LCatNeed$Told;I)I" } : MethodName) ({ cls := "CatNeed$State", name := "metOf", desc := "(LCatNeed$Told;I)I" } : MethodName)) ∈ aBIG := aBg3 78 rfl rfl
set_option maxRecDepth 20000 in
theorem bw646 : (Cond.code ({ cls := "CatNeed$State", name := "metOf", desc := "(LCatNeed$Told;I)I" } : MethodName) prog_5_method_16_code (5 : Nat) (Option.some FieldType.int)) ∈ aBIG := aBg3 79 rfl rfl
set_option maxRecDepth 20000 in
theorem bw647 : (Cond.methodLink "CatNeed" (119 : Nat) ({ cls := "CatNeed$State", name := "lostOf", desc := "(LCatNeed$Told;I)I" } : MethodName)) ∈ aBIG := aBg3 80 rfl rfl
set_option maxRecDepth 20000 in
theorem bw648 : (Cond.instanceMethod ({ cls := "CatNeed$State", name := "lostOf", desc := "(LCatNeed$Told;I)I" } : MethodName)) ∈ aBIG := aBg3 81 rfl rfl
set_option maxRecDepth 20000 in
theorem bw649 : (Cond.selects "CatNeed$State" ({ cls := "CatNeed$State", name := "lostOf", desc := "(LCatNeed$Told;I)I" } : MethodName) ({ cls := "CatNeed$State", name := "lostOf", desc := "(LCatNeed$Told;I)I" } : MethodName)) ∈ aBIG := aBg3 82 rfl rfl
set_option maxRecDepth 20000 in
theorem bw650 : (Cond.code ({ cls := "CatNeed$State", name := "lostOf", desc := "(LCatNeed$Told;I)I" } : MethodName) prog_5_method_17_code (5 : Nat) (Option.some FieldType.int)) ∈ aBIG := aBg3 83 rfl rfl
set_option maxRecDepth 20000 in
theorem bw651 : (Cond.methodLink "CatNeed" (122 : Nat) ({ cls := "CatNeed$State", name := "catsOn", desc := "(LCatNeed$Told;I)I" } : MethodName)) ∈ aBIG := aBg3 84 rfl rfl
set_option maxRecDepth 20000 in
theorem bw652 : (Cond.instanceMethod ({ cls := "CatNeed$State", name := "catsOn", desc := "(LCatNeed$Told;I)I" } : MethodName)) ∈ aBIG := aBg3 85 rfl rfl
set_option maxRecDepth 20000 in
theorem bw653 : (Cond.selects "CatNeed$State" ({ cls := "CatNeed$State", name := "catsOn", desc := "(LCatNeed$Told;I)I" } : MethodName) ({ cls := "CatNeed$State", name := "catsOn", desc := "(LCatNeed$Told;I)I" } : MethodName)) ∈ aBIG := aBg3 86 rfl rfl
set_option maxRecDepth 20000 in
theorem bw654 : (Cond.code ({ cls := "CatNeed$State", name := "catsOn", desc := "(LCatNeed$Told;I)I" } : MethodName) prog_5_method_14_code (5 : Nat) (Option.some FieldType.int)) ∈ aBIG := aBg3 87 rfl rfl
set_option maxRecDepth 20000 in
theorem bw655 : (Cond.methodLink "CatNeedLaw" (41 : Nat) ({ cls := "CatNeed", name := "cat", desc := "(II)I" } : MethodName)) ∈ aBIG := aBg3 88 rfl rfl
set_option maxRecDepth 20000 in
theorem bw656 : (Cond.instanceMethod ({ cls := "CatNeed", name := "cat", desc := "(II)I" } : MethodName)) ∈ aBIG := aBg3 89 rfl rfl
set_option maxRecDepth 20000 in
theorem bw657 : (Cond.selects "CatNeed" ({ cls := "CatNeed", name := "cat", desc := "(II)I" } : MethodName) ({ cls := "CatNeed", name := "cat", desc := "(II)I" } : MethodName)) ∈ aBIG := aBg3 90 rfl rfl
set_option maxRecDepth 20000 in
theorem bw658 : (Cond.code ({ cls := "CatNeed", name := "cat", desc := "(II)I" } : MethodName) prog_1_method_8_code (3 : Nat) (Option.some FieldType.int)) ∈ aBIG := aBg3 91 rfl rfl
set_option maxRecDepth 20000 in
theorem bw659 : (Cond.methodLink "CatNeed" (125 : Nat) ({ cls := "CatNeed", name := "isCat", desc := "(I)Z" } : MethodName)) ∈ aBIG := aBg3 92 rfl rfl
set_option maxRecDepth 20000 in
theorem bw661 : (Cond.instanceMethod ({ cls := "CatNeed", name := "isCat", desc := "(I)Z" } : MethodName)) ∈ aBIG := aBg3 94 rfl rfl
set_option maxRecDepth 20000 in
theorem bw662 : (Cond.code ({ cls := "CatNeed", name := "isCat", desc := "(I)Z" } : MethodName) prog_1_method_36_code (2 : Nat) (Option.some FieldType.boolean)) ∈ aBIG := aBg3 95 rfl rfl
set_option maxRecDepth 20000 in
theorem bw663 : (Cond.methodLink "CatNeedLaw" (45 : Nat) ({ cls := "CatNeed", name := "need", desc := "(II)I" } : MethodName)) ∈ aBIG := aBg3 96 rfl rfl
set_option maxRecDepth 20000 in
theorem bw664 : (Cond.instanceMethod ({ cls := "CatNeed", name := "need", desc := "(II)I" } : MethodName)) ∈ aBIG := aBg3 97 rfl rfl
set_option maxRecDepth 20000 in
theorem bw665 : (Cond.selects "CatNeed" ({ cls := "CatNeed", name := "need", desc := "(II)I" } : MethodName) ({ cls := "CatNeed", name := "need", desc := "(II)I" } : MethodName)) ∈ aBIG := aBg3 98 rfl rfl
set_option maxRecDepth 20000 in
theorem bw666 : (Cond.code ({ cls := "CatNeed", name := "need", desc := "(II)I" } : MethodName) prog_1_method_9_code (3 : Nat) (Option.some FieldType.int)) ∈ aBIG := aBg3 99 rfl rfl
set_option maxRecDepth 20000 in
theorem bw667 : (Cond.methodLink "CatNeed" (140 : Nat) ({ cls := "CatNeed", name := "isNeed", desc := "(I)Z" } : MethodName)) ∈ aBIG := aBg3 100 rfl rfl
set_option maxRecDepth 20000 in
theorem bw669 : (Cond.instanceMethod ({ cls := "CatNeed", name := "isNeed", desc := "(I)Z" } : MethodName)) ∈ aBIG := aBg3 102 rfl rfl
set_option maxRecDepth 20000 in
theorem bw670 : (Cond.code ({ cls := "CatNeed", name := "isNeed", desc := "(I)Z" } : MethodName) prog_1_method_37_code (2 : Nat) (Option.some FieldType.boolean)) ∈ aBIG := aBg3 103 rfl rfl
set_option maxRecDepth 20000 in
theorem bw671 : (Cond.methodLink "CatNeed" (152 : Nat) ({ cls := "CatNeed$State", name := "isStruck", desc := "(I)Z" } : MethodName)) ∈ aBIG := aBg3 104 rfl rfl
set_option maxRecDepth 20000 in
theorem bw672 : (Cond.instanceMethod ({ cls := "CatNeed$State", name := "isStruck", desc := "(I)Z" } : MethodName)) ∈ aBIG := aBg3 105 rfl rfl
set_option maxRecDepth 20000 in
theorem bw673 : (Cond.selects "CatNeed$State" ({ cls := "CatNeed$State", name := "isStruck", desc := "(I)Z" } : MethodName) ({ cls := "CatNeed$State", name := "isStruck", desc := "(I)Z" } : MethodName)) ∈ aBIG := aBg3 106 rfl rfl
set_option maxRecDepth 20000 in
theorem bw674 : (Cond.code ({ cls := "CatNeed$State", name := "isStruck", desc := "(I)Z" } : MethodName) prog_5_method_9_code (2 : Nat) (Option.some FieldType.boolean)) ∈ aBIG := aBg3 107 rfl rfl
set_option maxRecDepth 20000 in
theorem bw675 : (Cond.methodLink "CatNeedLaw" (135 : Nat) ({ cls := "CatNeed", name := "count", desc := "(I)I" } : MethodName)) ∈ aBIG := aBg3 108 rfl rfl
set_option maxRecDepth 20000 in
theorem bw676 : (Cond.instanceMethod ({ cls := "CatNeed", name := "count", desc := "(I)I" } : MethodName)) ∈ aBIG := aBg3 109 rfl rfl
set_option maxRecDepth 20000 in
theorem bw677 : (Cond.selects "CatNeed" ({ cls := "CatNeed", name := "count", desc := "(I)I" } : MethodName) ({ cls := "CatNeed", name := "count", desc := "(I)I" } : MethodName)) ∈ aBIG := aBg3 110 rfl rfl
set_option maxRecDepth 20000 in
theorem bw678 : (Cond.code ({ cls := "CatNeed", name := "count", desc := "(I)I" } : MethodName) prog_1_method_10_code (2 : Nat) (Option.some FieldType.int)) ∈ aBIG := aBg3 111 rfl rfl
set_option maxRecDepth 20000 in
theorem bw679 : (Cond.methodLink "CatNeed" (173 : Nat) ({ cls := "CatNeed$State", name := "dueNow", desc := "(LCatNeed$Told;)I" } : MethodName)) ∈ aBIG := aBg3 112 rfl rfl
set_option maxRecDepth 20000 in
theorem bw680 : (Cond.instanceMethod ({ cls := "CatNeed$State", name := "dueNow", desc := "(LCatNeed$Told;)I" } : MethodName)) ∈ aBIG := aBg3 113 rfl rfl
set_option maxRecDepth 20000 in
theorem bw681 : (Cond.selects "CatNeed$State" ({ cls := "CatNeed$State", name := "dueNow", desc := "(LCatNeed$Told;)I" } : MethodName) ({ cls := "CatNeed$State", name := "dueNow", desc := "(LCatNeed$Told;)I" } : MethodName)) ∈ aBIG := aBg3 114 rfl rfl
set_option maxRecDepth 20000 in
theorem bw682 : (Cond.code ({ cls := "CatNeed$State", name := "dueNow", desc := "(LCatNeed$Told;)I" } : MethodName) prog_5_method_11_code (4 : Nat) (Option.some FieldType.int)) ∈ aBIG := aBg3 115 rfl rfl
set_option maxRecDepth 20000 in
theorem bw683 : (Cond.methodLink "CatNeed$State" (75 : Nat) ({ cls := "CatNeed$State", name := "isDue", desc := "(LCatNeed$Told;II)Z" } : MethodName)) ∈ aBIG := aBg3 116 rfl rfl
set_option maxRecDepth 20000 in
theorem bw685 : (Cond.instanceMethod ({ cls := "CatNeed$State", name := "isDue", desc := "(LCatNeed$Told;II)Z" } : MethodName)) ∈ aBIG := aBg3 118 rfl rfl
set_option maxRecDepth 20000 in
theorem bw686 : (Cond.code ({ cls := "CatNeed$State", name := "isDue", desc := "(LCatNeed$Told;II)Z" } : MethodName) prog_5_method_10_code (5 : Nat) (Option.some FieldType.boolean)) ∈ aBIG := aBg3 119 rfl rfl
set_option maxRecDepth 20000 in
theorem bw687 : (Cond.methodLink "CatNeed$State" (114 : Nat) ({ cls := "CatNeed$State", name := "isStruck", desc := "(I)Z" } : MethodName)) ∈ aBIG := aBg3 120 rfl rfl
set_option maxRecDepth 20000 in
theorem bw688 : (Cond.methodLink "CatNeed" (177 : Nat) ({ cls := "CatNeed$State", name := "metInAll", desc := "(LCatNeed$Told;)I" } : MethodName)) ∈ aBIG := aBg3 121 rfl rfl
set_option maxRecDepth 20000 in
theorem bw689 : (Cond.instanceMethod ({ cls := "CatNeed$State", name := "metInAll", desc := "(LCatNeed$Told;)I" } : MethodName)) ∈ aBIG := aBg3 122 rfl rfl
set_option maxRecDepth 20000 in
theorem bw690 : (Cond.selects "CatNeed$State" ({ cls := "CatNeed$State", name := "metInAll", desc := "(LCatNeed$Told;)I" } : MethodName) ({ cls := "CatNeed$State", name := "metInAll", desc := "(LCatNeed$Told;)I" } : MethodName)) ∈ aBIG := aBg3 123 rfl rfl
set_option maxRecDepth 20000 in
theorem bw691 : (Cond.code ({ cls := "CatNeed$State", name := "metInAll", desc := "(LCatNeed$Told;)I" } : MethodName) prog_5_method_18_code (4 : Nat) (Option.some FieldType.int)) ∈ aBIG := aBg3 124 rfl rfl
set_option maxRecDepth 20000 in
theorem bw692 : (Cond.methodLink "CatNeed" (180 : Nat) ({ cls := "CatNeed$State", name := "lostInAll", desc := "(LCatNeed$Told;)I" } : MethodName)) ∈ aBIG := aBg3 125 rfl rfl
set_option maxRecDepth 20000 in
theorem bw693 : (Cond.instanceMethod ({ cls := "CatNeed$State", name := "lostInAll", desc := "(LCatNeed$Told;)I" } : MethodName)) ∈ aBIG := aBg3 126 rfl rfl
set_option maxRecDepth 20000 in
theorem bw694 : (Cond.selects "CatNeed$State" ({ cls := "CatNeed$State", name := "lostInAll", desc := "(LCatNeed$Told;)I" } : MethodName) ({ cls := "CatNeed$State", name := "lostInAll", desc := "(LCatNeed$Told;)I" } : MethodName)) ∈ aBIG := aBg3 127 rfl rfl
set_option maxRecDepth 20000 in
theorem bw695 : (Cond.code ({ cls := "CatNeed$State", name := "lostInAll", desc := "(LCatNeed$Told;)I" } : MethodName) prog_5_method_19_code (4 : Nat) (Option.some FieldType.int)) ∈ aBIG := aBg3 128 rfl rfl
set_option maxRecDepth 20000 in
theorem bw696 : (Cond.methodLink "CatNeedLaw" (49 : Nat) ({ cls := "CatNeed", name := "minute", desc := "()I" } : MethodName)) ∈ aBIG := aBg3 129 rfl rfl
set_option maxRecDepth 20000 in
theorem bw697 : (Cond.instanceMethod ({ cls := "CatNeed", name := "minute", desc := "()I" } : MethodName)) ∈ aBIG := aBg3 130 rfl rfl
set_option maxRecDepth 20000 in
theorem bw698 : (Cond.selects "CatNeed" ({ cls := "CatNeed", name := "minute", desc := "()I" } : MethodName) ({ cls := "CatNeed", name := "minute", desc := "()I" } : MethodName)) ∈ aBIG := aBg3 131 rfl rfl
set_option maxRecDepth 20000 in
theorem bw699 : (Cond.code ({ cls := "CatNeed", name := "minute", desc := "()I" } : MethodName) prog_1_method_11_code (1 : Nat) (Option.some FieldType.int)) ∈ aBIG := aBg3 132 rfl rfl
set_option maxRecDepth 20000 in
theorem bw700 : (Cond.methodLink "CatNeed" (192 : Nat) ({ cls := "CatNeed", name := "stands", desc := "()Z" } : MethodName)) ∈ aBIG := aBg3 133 rfl rfl
set_option maxRecDepth 20000 in
theorem bw702 : (Cond.instanceMethod ({ cls := "CatNeed", name := "stands", desc := "()Z" } : MethodName)) ∈ aBIG := aBg3 135 rfl rfl
set_option maxRecDepth 20000 in
theorem bw703 : (Cond.code ({ cls := "CatNeed", name := "stands", desc := "()Z" } : MethodName) prog_1_method_34_code (1 : Nat) (Option.some FieldType.boolean)) ∈ aBIG := aBg3 136 rfl rfl
set_option maxRecDepth 20000 in
theorem bw704 : (Cond.methodLink "CatNeed" (196 : Nat) ({ cls := "CatNeed$Whole", name := "keep", desc := "()V" } : MethodName)) ∈ aBIG := aBg3 137 rfl rfl
set_option maxRecDepth 20000 in
theorem bw705 : (Cond.instanceMethod ({ cls := "CatNeed$Whole", name := "keep", desc := "()V" } : MethodName)) ∈ aBIG := aBg3 138 rfl rfl
set_option maxRecDepth 20000 in
theorem bw706 : (Cond.selects "CatNeed$Whole" ({ cls := "CatNeed$Whole", name := "keep", desc := "()V" } : MethodName) ({ cls := "CatNeed$Whole", name := "keep", desc := "()V" } : MethodName)) ∈ aBIG := aBg3 139 rfl rfl
set_option maxRecDepth 20000 in
theorem bw707 : (Cond.code ({ cls := "CatNeed$Whole", name := "keep", desc := "()V" } : MethodName) prog_8_method_4_code (3 : Nat) (none : Option FieldType)) ∈ aBIG := aBg3 140 rfl rfl
set_option maxRecDepth 20000 in
theorem bw708 : (Cond.methodLink "CatNeed$Whole" (59 : Nat) ({ cls := "CatNeed$State", name := "copyFrom", desc := "(LCatNeed$State;)V" } : MethodName)) ∈ aBIG := aBg3 141 rfl rfl
set_option maxRecDepth 20000 in
theorem bw709 : (Cond.instanceMethod ({ cls := "CatNeed$State", name := "copyFrom", desc := "(LCatNeed$State;)V" } : MethodName)) ∈ aBIG := aBg3 142 rfl rfl
set_option maxRecDepth 20000 in
theorem bw710 : (Cond.selects "CatNeed$State" ({ cls := "CatNeed$State", name := "copyFrom", desc := "(LCatNeed$State;)V" } : MethodName) ({ cls := "CatNeed$State", name := "copyFrom", desc := "(LCatNeed$State;)V" } : MethodName)) ∈ aBIG := aBg3 143 rfl rfl
set_option maxRecDepth 20000 in
theorem bw711 : (Cond.code ({ cls := "CatNeed$State", name := "copyFrom", desc := "(LCatNeed$State;)V" } : MethodName) prog_5_method_3_code (2 : Nat) (none : Option FieldType)) ∈ aBIG := aBg3 144 rfl rfl
set_option maxRecDepth 20000 in
theorem bw712 : (Cond.methodLink "CatNeed" (199 : Nat) ({ cls := "CatNeed", name := "inForce", desc := "()LCatNeed$Rule;" } : MethodName)) ∈ aBIG := aBg3 145 rfl rfl
set_option maxRecDepth 20000 in
theorem bw714 : (Cond.instanceMethod ({ cls := "CatNeed", name := "inForce", desc := "()LCatNeed$Rule;" } : MethodName)) ∈ aBIG := aBg3 147 rfl rfl
set_option maxRecDepth 20000 in
theorem bw715 : (Cond.code ({ cls := "CatNeed", name := "inForce", desc := "()LCatNeed$Rule;" } : MethodName) prog_1_method_39_code (1 : Nat) (Option.some (FieldType.object "CatNeed$Rule"))) ∈ aBIG := aBg3 148 rfl rfl
set_option maxRecDepth 20000 in
theorem bw716 : (Cond.methodLink "CatNeed" (300 : Nat) ({ cls := "CatNeed", name := "ruleBy", desc := "(I)LCatNeed$Rule;" } : MethodName)) ∈ aBIG := aBg3 149 rfl rfl
set_option maxRecDepth 20000 in
theorem bw718 : (Cond.instanceMethod ({ cls := "CatNeed", name := "ruleBy", desc := "(I)LCatNeed$Rule;" } : MethodName)) ∈ aBIG := aBg3 151 rfl rfl
set_option maxRecDepth 20000 in
theorem bw719 : (Cond.code ({ cls := "CatNeed", name := "ruleBy", desc := "(I)LCatNeed$Rule;" } : MethodName) prog_1_method_38_code (2 : Nat) (Option.some (FieldType.object "CatNeed$Rule"))) ∈ aBIG := aBg3 152 rfl rfl
set_option maxRecDepth 20000 in
theorem bw720 : (Cond.methodLink "CatNeed" (203 : Nat) ({ cls := "CatNeed$State", name := "pass", desc := "(LCatNeed$Told;LCatNeed$Rule;)V" } : MethodName)) ∈ aBIG := aBg3 153 rfl rfl
set_option maxRecDepth 20000 in
theorem bw721 : (Cond.instanceMethod ({ cls := "CatNeed$State", name := "pass", desc := "(LCatNeed$Told;LCatNeed$Rule;)V" } : MethodName)) ∈ aBIG := aBg3 154 rfl rfl
set_option maxRecDepth 20000 in
theorem bw722 : (Cond.selects "CatNeed$State" ({ cls := "CatNeed$State", name := "pass", desc := "(LCatNeed$Told;LCatNeed$Rule;)V" } : MethodName) ({ cls := "CatNeed$State", name := "pass", desc := "(LCatNeed$Told;LCatNeed$Rule;)V" } : MethodName)) ∈ aBIG := aBg3 155 rfl rfl
set_option maxRecDepth 20000 in
theorem bw723 : (Cond.code ({ cls := "CatNeed$State", name := "pass", desc := "(LCatNeed$Told;LCatNeed$Rule;)V" } : MethodName) prog_5_method_4_code (5 : Nat) (none : Option FieldType)) ∈ aBIG := aBg3 156 rfl rfl
set_option maxRecDepth 20000 in
theorem bw724 : (Cond.methodLink "CatNeed$State" (60 : Nat) ({ cls := "CatNeed$State", name := "foreseen", desc := "(LCatNeed$Told;I)I" } : MethodName)) ∈ aBIG := aBg3 157 rfl rfl
set_option maxRecDepth 20000 in
theorem bw726 : (Cond.instanceMethod ({ cls := "CatNeed$State", name := "foreseen", desc := "(LCatNeed$Told;I)I" } : MethodName)) ∈ aBIG := aBg3 159 rfl rfl
set_option maxRecDepth 20000 in
theorem bw727 : (Cond.code ({ cls := "CatNeed$State", name := "foreseen", desc := "(LCatNeed$Told;I)I" } : MethodName) prog_5_method_5_code (4 : Nat) (Option.some FieldType.int)) ∈ aBIG := aBg3 160 rfl rfl
set_option maxRecDepth 20000 in
theorem bw728 : (Cond.methodLink "CatNeed$State" (64 : Nat) ({ cls := "CatNeed$State", name := "favoured", desc := "(LCatNeed$Told;ILCatNeed$Rule;)I" } : MethodName)) ∈ aBIG := aBg3 161 rfl rfl
set_option maxRecDepth 20000 in
theorem bw730 : (Cond.instanceMethod ({ cls := "CatNeed$State", name := "favoured", desc := "(LCatNeed$Told;ILCatNeed$Rule;)I" } : MethodName)) ∈ aBIG := aBg3 163 rfl rfl
set_option maxRecDepth 20000 in
theorem bw731 : (Cond.code ({ cls := "CatNeed$State", name := "favoured", desc := "(LCatNeed$Told;ILCatNeed$Rule;)I" } : MethodName) prog_5_method_6_code (10 : Nat) (Option.some FieldType.int)) ∈ aBIG := aBg3 164 rfl rfl
set_option maxRecDepth 20000 in
theorem bw732 : (Cond.methodLink "CatNeed$State" (89 : Nat) ({ cls := "CatNeed$Rule", name := "valueFor", desc := "(LCatNeed$Told;LCatNeed$State;II)J" } : MethodName)) ∈ aBIG := aBg3 165 rfl rfl
set_option maxRecDepth 20000 in
theorem bw733 : (Cond.instanceMethod ({ cls := "CatNeed$Rule", name := "valueFor", desc := "(LCatNeed$Told;LCatNeed$State;II)J" } : MethodName)) ∈ aBIG := aBg3 166 rfl rfl
set_option maxRecDepth 20000 in
theorem bw734 : (Cond.selects "CatNeed$Rule" ({ cls := "CatNeed$Rule", name := "valueFor", desc := "(LCatNeed$Told;LCatNeed$State;II)J" } : MethodName) ({ cls := "CatNeed$Rule", name := "valueFor", desc := "(LCatNeed$Told;LCatNeed$State;II)J" } : MethodName)) ∈ aBIG := aBg3 167 rfl rfl
set_option maxRecDepth 20000 in
theorem bw735 : (Cond.code ({ cls := "CatNeed$Rule", name := "valueFor", desc := "(LCatNeed$Told;LCatNeed$State;II)J" } : MethodName) prog_3_method_4_code (8 : Nat) (Option.some FieldType.long)) ∈ aBIG := aBg3 168 rfl rfl
set_option maxRecDepth 20000 in
theorem bw736 : (Cond.constant "CatNeed$Rule" (26 : Nat) (200000 : Int32)) ∈ aBIG := aBg3 169 rfl rfl
set_option maxRecDepth 20000 in
theorem bw737 : (Cond.constant "CatNeed$Rule" (27 : Nat) (100000 : Int32)) ∈ aBIG := aBg3 170 rfl rfl
set_option maxRecDepth 20000 in
theorem bw738 : (Cond.methodLink "CatNeed$Rule" (28 : Nat) ({ cls := "CatNeed$State", name := "wordValue", desc := "(LCatNeed$Told;III)J" } : MethodName)) ∈ aBIG := aBg3 171 rfl rfl
set_option maxRecDepth 20000 in
theorem bw739 : (Cond.instanceMethod ({ cls := "CatNeed$State", name := "wordValue", desc := "(LCatNeed$Told;III)J" } : MethodName)) ∈ aBIG := aBg3 172 rfl rfl
set_option maxRecDepth 20000 in
theorem bw740 : (Cond.selects "CatNeed$State" ({ cls := "CatNeed$State", name := "wordValue", desc := "(LCatNeed$Told;III)J" } : MethodName) ({ cls := "CatNeed$State", name := "wordValue", desc := "(LCatNeed$Told;III)J" } : MethodName)) ∈ aBIG := aBg3 173 rfl rfl
set_option maxRecDepth 20000 in
theorem bw741 : (Cond.code ({ cls := "CatNeed$State", name := "wordValue", desc := "(LCatNeed$Told;III)J" } : MethodName) prog_5_method_23_code (5 : Nat) (Option.some FieldType.long)) ∈ aBIG := aBg3 174 rfl rfl
set_option maxRecDepth 20000 in
theorem bw742 : (Cond.methodLink "CatNeed$State" (95 : Nat) ({ cls := "java/lang/Math", name := "abs", desc := "(I)I" } : MethodName)) ∈ aBIG := aBg3 175 rfl rfl
set_option maxRecDepth 20000 in
theorem bw743 : (Cond.static ({ cls := "java/lang/Math", name := "abs", desc := "(I)I" } : MethodName)) ∈ aBIG := aBg3 176 rfl rfl
set_option maxRecDepth 20000 in
theorem bw744 : (Cond.code ({ cls := "java/lang/Math", name := "abs", desc := "(I)I" } : MethodName) prog_13_method_59_code (1 : Nat) (Option.some FieldType.int)) ∈ aBIG := aBg3 177 rfl rfl
set_option maxRecDepth 20000 in
theorem bw745 : (Cond.methodLink "CatNeed$State" (121 : Nat) ({ cls := "CatNeed$State", name := "dueIn", desc := "(LCatNeed$Told;I)I" } : MethodName)) ∈ aBIG := aBg3 178 rfl rfl
set_option maxRecDepth 20000 in
theorem bw746 : (Cond.instanceMethod ({ cls := "CatNeed$State", name := "dueIn", desc := "(LCatNeed$Told;I)I" } : MethodName)) ∈ aBIG := aBg3 179 rfl rfl
set_option maxRecDepth 20000 in
theorem bw747 : (Cond.selects "CatNeed$State" ({ cls := "CatNeed$State", name := "dueIn", desc := "(LCatNeed$Told;I)I" } : MethodName) ({ cls := "CatNeed$State", name := "dueIn", desc := "(LCatNeed$Told;I)I" } : MethodName)) ∈ aBIG := aBg3 180 rfl rfl
set_option maxRecDepth 20000 in
theorem bw748 : (Cond.code ({ cls := "CatNeed$State", name := "dueIn", desc := "(LCatNeed$Told;I)I" } : MethodName) prog_5_method_12_code (7 : Nat) (Option.some FieldType.int)) ∈ aBIG := aBg3 181 rfl rfl
set_option maxRecDepth 20000 in
theorem bw749 : (Cond.methodLink "CatNeed$State" (108 : Nat) ({ cls := "CatNeed$State", name := "catsOn", desc := "(LCatNeed$Told;I)I" } : MethodName)) ∈ aBIG := aBg3 182 rfl rfl
set_option maxRecDepth 20000 in
theorem bw750 : (Cond.methodLink "CatNeed$State" (127 : Nat) ({ cls := "java/lang/Integer", name := "bitCount", desc := "(I)I" } : MethodName)) ∈ aBIG := aBg3 183 rfl rfl
set_option maxRecDepth 20000 in
theorem bw751 : (Cond.static ({ cls := "java/lang/Integer", name := "bitCount", desc := "(I)I" } : MethodName)) ∈ aBIG := aBg3 184 rfl rfl
set_option maxRecDepth 20000 in
theorem bw752 : (Cond.code ({ cls := "java/lang/Integer", name := "bitCount", desc := "(I)I" } : MethodName) prog_12_method_49_code (1 : Nat) (Option.some FieldType.int)) ∈ aBIG := aBg3 185 rfl rfl
set_option maxRecDepth 20000 in
theorem bw753 : (Cond.constant "java/lang/Integer" (265 : Nat) (1431655765 : Int32)) ∈ aBIG := aBg3 186 rfl rfl
set_option maxRecDepth 20000 in
theorem bw754 : (Cond.constant "java/lang/Integer" (266 : Nat) (858993459 : Int32)) ∈ aBIG := aBg3 187 rfl rfl
set_option maxRecDepth 20000 in
theorem bw755 : (Cond.constant "java/lang/Integer" (267 : Nat) (252645135 : Int32)) ∈ aBIG := aBg3 188 rfl rfl
set_option maxRecDepth 20000 in
theorem bw756 : (Cond.methodLink "CatNeed$State" (132 : Nat) ({ cls := "CatNeed$State", name := "metOf", desc := "(LCatNeed$Told;I)I" } : MethodName)) ∈ aBIG := aBg3 189 rfl rfl
set_option maxRecDepth 20000 in
theorem bw757 : (Cond.methodLink "CatNeed$State" (135 : Nat) ({ cls := "CatNeed$State", name := "lostOf", desc := "(LCatNeed$Told;I)I" } : MethodName)) ∈ aBIG := aBg3 190 rfl rfl
set_option maxRecDepth 20000 in
theorem bw758 : (Cond.constant "CatNeed$Rule" (34 : Nat) (200013 : Int32)) ∈ aBIG := aBg3 191 rfl rfl
set_option maxRecDepth 20000 in
theorem bw759 : (Cond.constant "CatNeed$Rule" (35 : Nat) (200012 : Int32)) ∈ aBIG := aBg3 192 rfl rfl
set_option maxRecDepth 20000 in
theorem bw760 : (Cond.constant "CatNeed$Rule" (36 : Nat) (200014 : Int32)) ∈ aBIG := aBg3 193 rfl rfl
set_option maxRecDepth 20000 in
theorem bw761 : (Cond.methodLink "CatNeed$Rule" (37 : Nat) ({ cls := "CatNeed$Rule", name := "joined", desc := "(IJJ)J" } : MethodName)) ∈ aBIG := aBg3 194 rfl rfl
set_option maxRecDepth 20000 in
theorem bw762 : (Cond.static ({ cls := "CatNeed$Rule", name := "joined", desc := "(IJJ)J" } : MethodName)) ∈ aBIG := aBg3 195 rfl rfl
set_option maxRecDepth 20000 in
theorem bw763 : (Cond.code ({ cls := "CatNeed$Rule", name := "joined", desc := "(IJJ)J" } : MethodName) prog_3_method_5_code (5 : Nat) (Option.some FieldType.long)) ∈ aBIG := aBg3 196 rfl rfl
set_option maxRecDepth 20000 in
theorem bw764 : (Cond.methodLink "CatNeed$State" (68 : Nat) ({ cls := "CatNeed$State", name := "goTowards", desc := "(LCatNeed$Told;II)V" } : MethodName)) ∈ aBIG := aBg3 197 rfl rfl
set_option maxRecDepth 20000 in
theorem bw766 : (Cond.instanceMethod ({ cls := "CatNeed$State", name := "goTowards", desc := "(LCatNeed$Told;II)V" } : MethodName)) ∈ aBIG := aBg3 199 rfl rfl
set_option maxRecDepth 20000 in
theorem bw767 : (Cond.code ({ cls := "CatNeed$State", name := "goTowards", desc := "(LCatNeed$Told;II)V" } : MethodName) prog_5_method_7_code (6 : Nat) (none : Option FieldType)) ∈ aBIG := aBg3 200 rfl rfl
set_option maxRecDepth 20000 in
theorem bw768 : (Cond.methodLink "CatNeed$State" (104 : Nat) ({ cls := "java/lang/Math", name := "min", desc := "(II)I" } : MethodName)) ∈ aBIG := aBg3 201 rfl rfl
set_option maxRecDepth 20000 in
theorem bw769 : (Cond.methodLink "CatNeed$State" (79 : Nat) ({ cls := "CatNeed$State", name := "settle", desc := "(LCatNeed$Told;I)V" } : MethodName)) ∈ aBIG := aBg3 202 rfl rfl
set_option maxRecDepth 20000 in
theorem bw771 : (Cond.instanceMethod ({ cls := "CatNeed$State", name := "settle", desc := "(LCatNeed$Told;I)V" } : MethodName)) ∈ aBIG := aBg3 204 rfl rfl
set_option maxRecDepth 20000 in
theorem bw772 : (Cond.code ({ cls := "CatNeed$State", name := "settle", desc := "(LCatNeed$Told;I)V" } : MethodName) prog_5_method_8_code (3 : Nat) (none : Option FieldType)) ∈ aBIG := aBg3 205 rfl rfl
set_option maxRecDepth 20000 in
theorem bw773 : (Cond.methodLink "CatNeedLaw" (53 : Nat) ({ cls := "CatNeed", name := "lift", desc := "(I)I" } : MethodName)) ∈ aBIG := aBg3 206 rfl rfl
set_option maxRecDepth 20000 in
theorem bw774 : (Cond.instanceMethod ({ cls := "CatNeed", name := "lift", desc := "(I)I" } : MethodName)) ∈ aBIG := aBg3 207 rfl rfl
set_option maxRecDepth 20000 in
theorem bw775 : (Cond.selects "CatNeed" ({ cls := "CatNeed", name := "lift", desc := "(I)I" } : MethodName) ({ cls := "CatNeed", name := "lift", desc := "(I)I" } : MethodName)) ∈ aBIG := aBg3 208 rfl rfl
set_option maxRecDepth 20000 in
theorem bw776 : (Cond.code ({ cls := "CatNeed", name := "lift", desc := "(I)I" } : MethodName) prog_1_method_12_code (3 : Nat) (Option.some FieldType.int)) ∈ aBIG := aBg3 209 rfl rfl
set_option maxRecDepth 20000 in
theorem bw777 : (Cond.methodLink "CatNeedLaw" (57 : Nat) ({ cls := "CatNeed", name := "move", desc := "(II)I" } : MethodName)) ∈ aBIG := aBg3 210 rfl rfl
set_option maxRecDepth 20000 in
theorem bw778 : (Cond.instanceMethod ({ cls := "CatNeed", name := "move", desc := "(II)I" } : MethodName)) ∈ aBIG := aBg3 211 rfl rfl
set_option maxRecDepth 20000 in
theorem bw779 : (Cond.selects "CatNeed" ({ cls := "CatNeed", name := "move", desc := "(II)I" } : MethodName) ({ cls := "CatNeed", name := "move", desc := "(II)I" } : MethodName)) ∈ aBIG := aBg3 212 rfl rfl
set_option maxRecDepth 20000 in
theorem bw780 : (Cond.code ({ cls := "CatNeed", name := "move", desc := "(II)I" } : MethodName) prog_1_method_13_code (4 : Nat) (Option.some FieldType.int)) ∈ aBIG := aBg3 213 rfl rfl
set_option maxRecDepth 20000 in
theorem bw781 : (Cond.methodLink "CatNeedLaw" (61 : Nat) ({ cls := "CatNeed", name := "strike", desc := "(I)I" } : MethodName)) ∈ aBIG := aBg3 214 rfl rfl
set_option maxRecDepth 20000 in
theorem bw782 : (Cond.instanceMethod ({ cls := "CatNeed", name := "strike", desc := "(I)I" } : MethodName)) ∈ aBIG := aBg3 215 rfl rfl
set_option maxRecDepth 20000 in
theorem bw783 : (Cond.selects "CatNeed" ({ cls := "CatNeed", name := "strike", desc := "(I)I" } : MethodName) ({ cls := "CatNeed", name := "strike", desc := "(I)I" } : MethodName)) ∈ aBIG := aBg3 216 rfl rfl
set_option maxRecDepth 20000 in
theorem bw784 : (Cond.code ({ cls := "CatNeed", name := "strike", desc := "(I)I" } : MethodName) prog_1_method_14_code (2 : Nat) (Option.some FieldType.int)) ∈ aBIG := aBg3 217 rfl rfl
set_option maxRecDepth 20000 in
theorem bw785 : (Cond.methodLink "CatNeedLaw" (65 : Nat) ({ cls := "CatNeed", name := "teach", desc := "(II)I" } : MethodName)) ∈ aBIG := aBg3 218 rfl rfl
set_option maxRecDepth 20000 in
theorem bw786 : (Cond.instanceMethod ({ cls := "CatNeed", name := "teach", desc := "(II)I" } : MethodName)) ∈ aBIG := aBg3 219 rfl rfl
set_option maxRecDepth 20000 in
theorem bw787 : (Cond.selects "CatNeed" ({ cls := "CatNeed", name := "teach", desc := "(II)I" } : MethodName) ({ cls := "CatNeed", name := "teach", desc := "(II)I" } : MethodName)) ∈ aBIG := aBg3 220 rfl rfl
set_option maxRecDepth 20000 in
theorem bw788 : (Cond.code ({ cls := "CatNeed", name := "teach", desc := "(II)I" } : MethodName) prog_1_method_15_code (4 : Nat) (Option.some FieldType.int)) ∈ aBIG := aBg3 221 rfl rfl
set_option maxRecDepth 20000 in
theorem bw789 : (Cond.methodLink "CatNeedLaw" (69 : Nat) ({ cls := "CatNeed", name := "undo", desc := "()I" } : MethodName)) ∈ aBIG := aBg3 222 rfl rfl
set_option maxRecDepth 20000 in
theorem bw790 : (Cond.instanceMethod ({ cls := "CatNeed", name := "undo", desc := "()I" } : MethodName)) ∈ aBIG := aBg3 223 rfl rfl
set_option maxRecDepth 20000 in
theorem bw791 : (Cond.selects "CatNeed" ({ cls := "CatNeed", name := "undo", desc := "()I" } : MethodName) ({ cls := "CatNeed", name := "undo", desc := "()I" } : MethodName)) ∈ aBIG := aBg3 224 rfl rfl
set_option maxRecDepth 20000 in
theorem bw792 : (Cond.code ({ cls := "CatNeed", name := "undo", desc := "()I" } : MethodName) prog_1_method_16_code (1 : Nat) (Option.some FieldType.int)) ∈ aBIG := aBg3 225 rfl rfl
set_option maxRecDepth 20000 in
theorem bw793 : (Cond.methodLink "CatNeed" (213 : Nat) ({ cls := "CatNeed$Whole", name := "takeBack", desc := "()Z" } : MethodName)) ∈ aBIG := aBg3 226 rfl rfl
set_option maxRecDepth 20000 in
theorem bw794 : (Cond.instanceMethod ({ cls := "CatNeed$Whole", name := "takeBack", desc := "()Z" } : MethodName)) ∈ aBIG := aBg3 227 rfl rfl
set_option maxRecDepth 20000 in
theorem bw795 : (Cond.selects "CatNeed$Whole" ({ cls := "CatNeed$Whole", name := "takeBack", desc := "()Z" } : MethodName) ({ cls := "CatNeed$Whole", name := "takeBack", desc := "()Z" } : MethodName)) ∈ aBIG := aBg3 228 rfl rfl
set_option maxRecDepth 20000 in
theorem bw796 : (Cond.code ({ cls := "CatNeed$Whole", name := "takeBack", desc := "()Z" } : MethodName) prog_8_method_5_code (1 : Nat) (Option.some FieldType.boolean)) ∈ aBIG := aBg3 229 rfl rfl
set_option maxRecDepth 20000 in
theorem bw797 : (Cond.methodLink "CatNeedLaw" (73 : Nat) ({ cls := "CatNeed", name := "ahead", desc := "(III)I" } : MethodName)) ∈ aBIG := aBg3 230 rfl rfl
set_option maxRecDepth 20000 in
theorem bw798 : (Cond.instanceMethod ({ cls := "CatNeed", name := "ahead", desc := "(III)I" } : MethodName)) ∈ aBIG := aBg3 231 rfl rfl
set_option maxRecDepth 20000 in
theorem bw799 : (Cond.selects "CatNeed" ({ cls := "CatNeed", name := "ahead", desc := "(III)I" } : MethodName) ({ cls := "CatNeed", name := "ahead", desc := "(III)I" } : MethodName)) ∈ aBIG := aBg3 232 rfl rfl
set_option maxRecDepth 20000 in
theorem bw800 : (Cond.code ({ cls := "CatNeed", name := "ahead", desc := "(III)I" } : MethodName) prog_1_method_17_code (4 : Nat) (Option.some FieldType.int)) ∈ aBIG := aBg3 233 rfl rfl
set_option maxRecDepth 20000 in
theorem bw801 : (Cond.methodLink "CatNeed" (216 : Nat) ({ cls := "CatNeed$State", name := "copyFrom", desc := "(LCatNeed$State;)V" } : MethodName)) ∈ aBIG := aBg3 234 rfl rfl
set_option maxRecDepth 20000 in
theorem bw802 : (Cond.methodLink "CatNeed" (220 : Nat) ({ cls := "CatNeed", name := "goOn", desc := "(ILCatNeed$Rule;)V" } : MethodName)) ∈ aBIG := aBg3 235 rfl rfl
set_option maxRecDepth 20000 in
theorem bw804 : (Cond.instanceMethod ({ cls := "CatNeed", name := "goOn", desc := "(ILCatNeed$Rule;)V" } : MethodName)) ∈ aBIG := aBg3 237 rfl rfl
set_option maxRecDepth 20000 in
theorem bw805 : (Cond.code ({ cls := "CatNeed", name := "goOn", desc := "(ILCatNeed$Rule;)V" } : MethodName) prog_1_method_40_code (4 : Nat) (none : Option FieldType)) ∈ aBIG := aBg3 238 rfl rfl
set_option maxRecDepth 20000 in
theorem bw806 : (Cond.methodLink "CatNeedLaw" (78 : Nat) ({ cls := "CatNeed", name := "due", desc := "(I)I" } : MethodName)) ∈ aBIG := aBg3 239 rfl rfl
set_option maxRecDepth 20000 in
theorem bw807 : (Cond.instanceMethod ({ cls := "CatNeed", name := "due", desc := "(I)I" } : MethodName)) ∈ aBIG := aBg4 0 rfl rfl
set_option maxRecDepth 20000 in
theorem bw808 : (Cond.selects "CatNeed" ({ cls := "CatNeed", name := "due", desc := "(I)I" } : MethodName) ({ cls := "CatNeed", name := "due", desc := "(I)I" } : MethodName)) ∈ aBIG := aBg4 1 rfl rfl
set_option maxRecDepth 20000 in
theorem bw809 : (Cond.code ({ cls := "CatNeed", name := "due", desc := "(I)I" } : MethodName) prog_1_method_18_code (3 : Nat) (Option.some FieldType.int)) ∈ aBIG := aBg4 2 rfl rfl
set_option maxRecDepth 20000 in
theorem bw810 : (Cond.methodLink "CatNeed" (224 : Nat) ({ cls := "CatNeed$State", name := "dueIn", desc := "(LCatNeed$Told;I)I" } : MethodName)) ∈ aBIG := aBg4 3 rfl rfl
set_option maxRecDepth 20000 in
theorem bw811 : (Cond.methodLink "CatNeedLaw" (82 : Nat) ({ cls := "CatNeed", name := "served", desc := "(I)I" } : MethodName)) ∈ aBIG := aBg4 4 rfl rfl
set_option maxRecDepth 20000 in
theorem bw812 : (Cond.instanceMethod ({ cls := "CatNeed", name := "served", desc := "(I)I" } : MethodName)) ∈ aBIG := aBg4 5 rfl rfl
set_option maxRecDepth 20000 in
theorem bw813 : (Cond.selects "CatNeed" ({ cls := "CatNeed", name := "served", desc := "(I)I" } : MethodName) ({ cls := "CatNeed", name := "served", desc := "(I)I" } : MethodName)) ∈ aBIG := aBg4 6 rfl rfl
set_option maxRecDepth 20000 in
theorem bw814 : (Cond.code ({ cls := "CatNeed", name := "served", desc := "(I)I" } : MethodName) prog_1_method_19_code (5 : Nat) (Option.some FieldType.int)) ∈ aBIG := aBg4 7 rfl rfl
set_option maxRecDepth 20000 in
theorem bw815 : (Cond.methodLink "CatNeedLaw" (86 : Nat) ({ cls := "CatNeed", name := "shut", desc := "(II)I" } : MethodName)) ∈ aBIG := aBg4 8 rfl rfl
set_option maxRecDepth 20000 in
theorem bw816 : (Cond.instanceMethod ({ cls := "CatNeed", name := "shut", desc := "(II)I" } : MethodName)) ∈ aBIG := aBg4 9 rfl rfl
set_option maxRecDepth 20000 in
theorem bw817 : (Cond.selects "CatNeed" ({ cls := "CatNeed", name := "shut", desc := "(II)I" } : MethodName) ({ cls := "CatNeed", name := "shut", desc := "(II)I" } : MethodName)) ∈ aBIG := aBg4 10 rfl rfl
set_option maxRecDepth 20000 in
theorem bw818 : (Cond.code ({ cls := "CatNeed", name := "shut", desc := "(II)I" } : MethodName) prog_1_method_20_code (7 : Nat) (Option.some FieldType.int)) ∈ aBIG := aBg4 11 rfl rfl
set_option maxRecDepth 20000 in
theorem bw819 : (Cond.methodLink "CatNeed" (230 : Nat) ({ cls := "CatNeed$State", name := "sendAway", desc := "(I)V" } : MethodName)) ∈ aBIG := aBg4 12 rfl rfl
set_option maxRecDepth 20000 in
theorem bw820 : (Cond.instanceMethod ({ cls := "CatNeed$State", name := "sendAway", desc := "(I)V" } : MethodName)) ∈ aBIG := aBg4 13 rfl rfl
set_option maxRecDepth 20000 in
theorem bw821 : (Cond.selects "CatNeed$State" ({ cls := "CatNeed$State", name := "sendAway", desc := "(I)V" } : MethodName) ({ cls := "CatNeed$State", name := "sendAway", desc := "(I)V" } : MethodName)) ∈ aBIG := aBg4 14 rfl rfl
set_option maxRecDepth 20000 in
theorem bw822 : (Cond.code ({ cls := "CatNeed$State", name := "sendAway", desc := "(I)V" } : MethodName) prog_5_method_21_code (2 : Nat) (none : Option FieldType)) ∈ aBIG := aBg4 15 rfl rfl
set_option maxRecDepth 20000 in
theorem bw823 : (Cond.methodLink "CatNeed" (233 : Nat) ({ cls := "CatNeed", name := "worthMet", desc := "(I)I" } : MethodName)) ∈ aBIG := aBg4 16 rfl rfl
set_option maxRecDepth 20000 in
theorem bw825 : (Cond.instanceMethod ({ cls := "CatNeed", name := "worthMet", desc := "(I)I" } : MethodName)) ∈ aBIG := aBg4 18 rfl rfl
set_option maxRecDepth 20000 in
theorem bw826 : (Cond.code ({ cls := "CatNeed", name := "worthMet", desc := "(I)I" } : MethodName) prog_1_method_41_code (5 : Nat) (Option.some FieldType.int)) ∈ aBIG := aBg4 19 rfl rfl
set_option maxRecDepth 20000 in
theorem bw827 : (Cond.methodLink "CatNeed" (304 : Nat) ({ cls := "CatNeed$Told", name := "worthOfNeeds", desc := "(I)I" } : MethodName)) ∈ aBIG := aBg4 20 rfl rfl
set_option maxRecDepth 20000 in
theorem bw828 : (Cond.instanceMethod ({ cls := "CatNeed$Told", name := "worthOfNeeds", desc := "(I)I" } : MethodName)) ∈ aBIG := aBg4 21 rfl rfl
set_option maxRecDepth 20000 in
theorem bw829 : (Cond.selects "CatNeed$Told" ({ cls := "CatNeed$Told", name := "worthOfNeeds", desc := "(I)I" } : MethodName) ({ cls := "CatNeed$Told", name := "worthOfNeeds", desc := "(I)I" } : MethodName)) ∈ aBIG := aBg4 22 rfl rfl
set_option maxRecDepth 20000 in
theorem bw830 : (Cond.code ({ cls := "CatNeed$Told", name := "worthOfNeeds", desc := "(I)I" } : MethodName) prog_7_method_7_code (4 : Nat) (Option.some FieldType.int)) ∈ aBIG := aBg4 23 rfl rfl
set_option maxRecDepth 20000 in
theorem bw831 : (Cond.methodLink "CatNeedLaw" (90 : Nat) ({ cls := "CatNeed", name := "moved", desc := "(III)I" } : MethodName)) ∈ aBIG := aBg4 24 rfl rfl
set_option maxRecDepth 20000 in
theorem bw832 : (Cond.instanceMethod ({ cls := "CatNeed", name := "moved", desc := "(III)I" } : MethodName)) ∈ aBIG := aBg4 25 rfl rfl
set_option maxRecDepth 20000 in
theorem bw833 : (Cond.selects "CatNeed" ({ cls := "CatNeed", name := "moved", desc := "(III)I" } : MethodName) ({ cls := "CatNeed", name := "moved", desc := "(III)I" } : MethodName)) ∈ aBIG := aBg4 26 rfl rfl
set_option maxRecDepth 20000 in
theorem bw834 : (Cond.code ({ cls := "CatNeed", name := "moved", desc := "(III)I" } : MethodName) prog_1_method_21_code (8 : Nat) (Option.some FieldType.int)) ∈ aBIG := aBg4 27 rfl rfl
set_option maxRecDepth 20000 in
theorem bw835 : (Cond.methodLink "CatNeed" (237 : Nat) ({ cls := "CatNeed$State", name := "shift", desc := "(LCatNeed$Told;II)V" } : MethodName)) ∈ aBIG := aBg4 28 rfl rfl
set_option maxRecDepth 20000 in
theorem bw836 : (Cond.instanceMethod ({ cls := "CatNeed$State", name := "shift", desc := "(LCatNeed$Told;II)V" } : MethodName)) ∈ aBIG := aBg4 29 rfl rfl
set_option maxRecDepth 20000 in
theorem bw837 : (Cond.selects "CatNeed$State" ({ cls := "CatNeed$State", name := "shift", desc := "(LCatNeed$Told;II)V" } : MethodName) ({ cls := "CatNeed$State", name := "shift", desc := "(LCatNeed$Told;II)V" } : MethodName)) ∈ aBIG := aBg4 30 rfl rfl
set_option maxRecDepth 20000 in
theorem bw838 : (Cond.code ({ cls := "CatNeed$State", name := "shift", desc := "(LCatNeed$Told;II)V" } : MethodName) prog_5_method_22_code (5 : Nat) (none : Option FieldType)) ∈ aBIG := aBg4 31 rfl rfl
set_option maxRecDepth 20000 in
theorem bw839 : (Cond.methodLink "CatNeedLaw" (94 : Nat) ({ cls := "CatNeed", name := "tray", desc := "(II)I" } : MethodName)) ∈ aBIG := aBg4 32 rfl rfl
set_option maxRecDepth 20000 in
theorem bw840 : (Cond.instanceMethod ({ cls := "CatNeed", name := "tray", desc := "(II)I" } : MethodName)) ∈ aBIG := aBg4 33 rfl rfl
set_option maxRecDepth 20000 in
theorem bw841 : (Cond.selects "CatNeed" ({ cls := "CatNeed", name := "tray", desc := "(II)I" } : MethodName) ({ cls := "CatNeed", name := "tray", desc := "(II)I" } : MethodName)) ∈ aBIG := aBg4 34 rfl rfl
set_option maxRecDepth 20000 in
theorem bw842 : (Cond.code ({ cls := "CatNeed", name := "tray", desc := "(II)I" } : MethodName) prog_1_method_22_code (7 : Nat) (Option.some FieldType.int)) ∈ aBIG := aBg4 35 rfl rfl
set_option maxRecDepth 20000 in
theorem bw843 : (Cond.methodLink "CatNeed" (241 : Nat) ({ cls := "java/lang/Integer", name := "bitCount", desc := "(I)I" } : MethodName)) ∈ aBIG := aBg4 36 rfl rfl
set_option maxRecDepth 20000 in
theorem bw844 : (Cond.methodLink "CatNeed" (246 : Nat) ({ cls := "CatNeed", name := "losesNone", desc := "(II)Z" } : MethodName)) ∈ aBIG := aBg4 37 rfl rfl
set_option maxRecDepth 20000 in
theorem bw846 : (Cond.instanceMethod ({ cls := "CatNeed", name := "losesNone", desc := "(II)Z" } : MethodName)) ∈ aBIG := aBg4 39 rfl rfl
set_option maxRecDepth 20000 in
theorem bw847 : (Cond.code ({ cls := "CatNeed", name := "losesNone", desc := "(II)Z" } : MethodName) prog_1_method_42_code (5 : Nat) (Option.some FieldType.boolean)) ∈ aBIG := aBg4 40 rfl rfl
set_option maxRecDepth 20000 in
theorem bw848 : (Cond.methodLink "CatNeedLaw" (102 : Nat) ({ cls := "CatNeed", name := "rests", desc := "(IIII)I" } : MethodName)) ∈ aBIG := aBg4 41 rfl rfl
set_option maxRecDepth 20000 in
theorem bw849 : (Cond.instanceMethod ({ cls := "CatNeed", name := "rests", desc := "(IIII)I" } : MethodName)) ∈ aBIG := aBg4 42 rfl rfl
set_option maxRecDepth 20000 in
theorem bw850 : (Cond.selects "CatNeed" ({ cls := "CatNeed", name := "rests", desc := "(IIII)I" } : MethodName) ({ cls := "CatNeed", name := "rests", desc := "(IIII)I" } : MethodName)) ∈ aBIG := aBg4 43 rfl rfl
set_option maxRecDepth 20000 in
theorem bw851 : (Cond.code ({ cls := "CatNeed", name := "rests", desc := "(IIII)I" } : MethodName) prog_1_method_23_code (8 : Nat) (Option.some FieldType.int)) ∈ aBIG := aBg4 44 rfl rfl
set_option maxRecDepth 20000 in
theorem bw852 : (Cond.methodLink "CatNeed" (250 : Nat) ({ cls := "CatNeed", name := "weigh", desc := "(IIII)V" } : MethodName)) ∈ aBIG := aBg4 45 rfl rfl
set_option maxRecDepth 20000 in
theorem bw854 : (Cond.instanceMethod ({ cls := "CatNeed", name := "weigh", desc := "(IIII)V" } : MethodName)) ∈ aBIG := aBg4 47 rfl rfl
set_option maxRecDepth 20000 in
theorem bw855 : (Cond.code ({ cls := "CatNeed", name := "weigh", desc := "(IIII)V" } : MethodName) prog_1_method_44_code (7 : Nat) (none : Option FieldType)) ∈ aBIG := aBg4 48 rfl rfl
set_option maxRecDepth 20000 in
theorem bw856 : (Cond.methodLink "CatNeed" (257 : Nat) ({ cls := "CatNeed", name := "knowsBy", desc := "(I)I" } : MethodName)) ∈ aBIG := aBg4 49 rfl rfl
set_option maxRecDepth 20000 in
theorem bw857 : (Cond.static ({ cls := "CatNeed", name := "knowsBy", desc := "(I)I" } : MethodName)) ∈ aBIG := aBg4 50 rfl rfl
set_option maxRecDepth 20000 in
theorem bw858 : (Cond.code ({ cls := "CatNeed", name := "knowsBy", desc := "(I)I" } : MethodName) prog_1_method_43_code (1 : Nat) (Option.some FieldType.int)) ∈ aBIG := aBg4 51 rfl rfl
set_option maxRecDepth 20000 in
theorem bw859 : (Cond.methodLink "CatNeed" (307 : Nat) ({ cls := "CatNeed$State", name := "gain", desc := "(LCatNeed$Told;I)I" } : MethodName)) ∈ aBIG := aBg4 52 rfl rfl
set_option maxRecDepth 20000 in
theorem bw860 : (Cond.instanceMethod ({ cls := "CatNeed$State", name := "gain", desc := "(LCatNeed$Told;I)I" } : MethodName)) ∈ aBIG := aBg4 53 rfl rfl
set_option maxRecDepth 20000 in
theorem bw861 : (Cond.selects "CatNeed$State" ({ cls := "CatNeed$State", name := "gain", desc := "(LCatNeed$Told;I)I" } : MethodName) ({ cls := "CatNeed$State", name := "gain", desc := "(LCatNeed$Told;I)I" } : MethodName)) ∈ aBIG := aBg4 54 rfl rfl
set_option maxRecDepth 20000 in
theorem bw862 : (Cond.code ({ cls := "CatNeed$State", name := "gain", desc := "(LCatNeed$Told;I)I" } : MethodName) prog_5_method_20_code (5 : Nat) (Option.some FieldType.int)) ∈ aBIG := aBg4 55 rfl rfl
set_option maxRecDepth 20000 in
theorem bw863 : (Cond.methodLink "CatNeed" (254 : Nat) ({ cls := "CatNeed", name := "isRest", desc := "(I)Z" } : MethodName)) ∈ aBIG := aBg4 56 rfl rfl
set_option maxRecDepth 20000 in
theorem bw865 : (Cond.instanceMethod ({ cls := "CatNeed", name := "isRest", desc := "(I)Z" } : MethodName)) ∈ aBIG := aBg4 58 rfl rfl
set_option maxRecDepth 20000 in
theorem bw866 : (Cond.code ({ cls := "CatNeed", name := "isRest", desc := "(I)Z" } : MethodName) prog_1_method_45_code (5 : Nat) (Option.some FieldType.boolean)) ∈ aBIG := aBg4 59 rfl rfl
set_option maxRecDepth 20000 in
theorem bw867 : (Cond.methodLink "CatNeedLaw" (107 : Nat) ({ cls := "CatNeed", name := "ring", desc := "(I)I" } : MethodName)) ∈ aBIG := aBg4 60 rfl rfl
set_option maxRecDepth 20000 in
theorem bw868 : (Cond.instanceMethod ({ cls := "CatNeed", name := "ring", desc := "(I)I" } : MethodName)) ∈ aBIG := aBg4 61 rfl rfl
set_option maxRecDepth 20000 in
theorem bw869 : (Cond.selects "CatNeed" ({ cls := "CatNeed", name := "ring", desc := "(I)I" } : MethodName) ({ cls := "CatNeed", name := "ring", desc := "(I)I" } : MethodName)) ∈ aBIG := aBg4 62 rfl rfl
set_option maxRecDepth 20000 in
theorem bw870 : (Cond.code ({ cls := "CatNeed", name := "ring", desc := "(I)I" } : MethodName) prog_1_method_24_code (5 : Nat) (Option.some FieldType.int)) ∈ aBIG := aBg4 63 rfl rfl
set_option maxRecDepth 20000 in
theorem bw871 : (Cond.methodLink "CatNeed" (260 : Nat) ({ cls := "CatNeed$State", name := "catsAsNumber", desc := "(LCatNeed$Told;)I" } : MethodName)) ∈ aBIG := aBg4 64 rfl rfl
set_option maxRecDepth 20000 in
theorem bw872 : (Cond.instanceMethod ({ cls := "CatNeed$State", name := "catsAsNumber", desc := "(LCatNeed$Told;)I" } : MethodName)) ∈ aBIG := aBg4 65 rfl rfl
set_option maxRecDepth 20000 in
theorem bw873 : (Cond.selects "CatNeed$State" ({ cls := "CatNeed$State", name := "catsAsNumber", desc := "(LCatNeed$Told;)I" } : MethodName) ({ cls := "CatNeed$State", name := "catsAsNumber", desc := "(LCatNeed$Told;)I" } : MethodName)) ∈ aBIG := aBg4 66 rfl rfl
set_option maxRecDepth 20000 in
theorem bw874 : (Cond.code ({ cls := "CatNeed$State", name := "catsAsNumber", desc := "(LCatNeed$Told;)I" } : MethodName) prog_5_method_15_code (4 : Nat) (Option.some FieldType.int)) ∈ aBIG := aBg4 67 rfl rfl
set_option maxRecDepth 20000 in
theorem bw875 : (Cond.methodLink "CatNeed" (263 : Nat) ({ cls := "CatNeed$State", name := "needsRound", desc := "(LCatNeed$Told;I)Z" } : MethodName)) ∈ aBIG := aBg4 68 rfl rfl
set_option maxRecDepth 20000 in
theorem bw876 : (Cond.instanceMethod ({ cls := "CatNeed$State", name := "needsRound", desc := "(LCatNeed$Told;I)Z" } : MethodName)) ∈ aBIG := aBg4 69 rfl rfl
set_option maxRecDepth 20000 in
theorem bw877 : (Cond.selects "CatNeed$State" ({ cls := "CatNeed$State", name := "needsRound", desc := "(LCatNeed$Told;I)Z" } : MethodName) ({ cls := "CatNeed$State", name := "needsRound", desc := "(LCatNeed$Told;I)Z" } : MethodName)) ∈ aBIG := aBg4 70 rfl rfl
set_option maxRecDepth 20000 in
theorem bw878 : (Cond.code ({ cls := "CatNeed$State", name := "needsRound", desc := "(LCatNeed$Told;I)Z" } : MethodName) prog_5_method_13_code (5 : Nat) (Option.some FieldType.boolean)) ∈ aBIG := aBg4 71 rfl rfl
set_option maxRecDepth 20000 in
theorem bw879 : (Cond.methodLink "CatNeedLaw" (111 : Nat) ({ cls := "CatNeed", name := "pence", desc := "(II)I" } : MethodName)) ∈ aBIG := aBg4 72 rfl rfl
set_option maxRecDepth 20000 in
theorem bw880 : (Cond.instanceMethod ({ cls := "CatNeed", name := "pence", desc := "(II)I" } : MethodName)) ∈ aBIG := aBg4 73 rfl rfl
set_option maxRecDepth 20000 in
theorem bw881 : (Cond.selects "CatNeed" ({ cls := "CatNeed", name := "pence", desc := "(II)I" } : MethodName) ({ cls := "CatNeed", name := "pence", desc := "(II)I" } : MethodName)) ∈ aBIG := aBg4 74 rfl rfl
set_option maxRecDepth 20000 in
theorem bw882 : (Cond.code ({ cls := "CatNeed", name := "pence", desc := "(II)I" } : MethodName) prog_1_method_25_code (13 : Nat) (Option.some FieldType.int)) ∈ aBIG := aBg4 75 rfl rfl
set_option maxRecDepth 20000 in
theorem bw883 : (Cond.methodLink "CatNeed" (267 : Nat) ({ cls := "CatNeed", name := "share", desc := "(I)J" } : MethodName)) ∈ aBIG := aBg4 76 rfl rfl
set_option maxRecDepth 20000 in
theorem bw885 : (Cond.instanceMethod ({ cls := "CatNeed", name := "share", desc := "(I)J" } : MethodName)) ∈ aBIG := aBg4 78 rfl rfl
set_option maxRecDepth 20000 in
theorem bw886 : (Cond.code ({ cls := "CatNeed", name := "share", desc := "(I)J" } : MethodName) prog_1_method_46_code (2 : Nat) (Option.some FieldType.long)) ∈ aBIG := aBg4 79 rfl rfl
set_option maxRecDepth 20000 in
theorem bw887 : (Cond.methodLink "CatNeedLaw" (115 : Nat) ({ cls := "CatNeed", name := "note", desc := "(III)I" } : MethodName)) ∈ aBIG := aBg4 80 rfl rfl
set_option maxRecDepth 20000 in
theorem bw888 : (Cond.instanceMethod ({ cls := "CatNeed", name := "note", desc := "(III)I" } : MethodName)) ∈ aBIG := aBg4 81 rfl rfl
set_option maxRecDepth 20000 in
theorem bw889 : (Cond.selects "CatNeed" ({ cls := "CatNeed", name := "note", desc := "(III)I" } : MethodName) ({ cls := "CatNeed", name := "note", desc := "(III)I" } : MethodName)) ∈ aBIG := aBg4 82 rfl rfl
set_option maxRecDepth 20000 in
theorem bw890 : (Cond.code ({ cls := "CatNeed", name := "note", desc := "(III)I" } : MethodName) prog_1_method_26_code (4 : Nat) (Option.some FieldType.int)) ∈ aBIG := aBg4 83 rfl rfl
set_option maxRecDepth 20000 in
theorem bw891 : (Cond.methodLink "CatNeed" (271 : Nat) ({ cls := "CatNeed$Whole", name := "write", desc := "(III)Z" } : MethodName)) ∈ aBIG := aBg4 84 rfl rfl
set_option maxRecDepth 20000 in
theorem bw892 : (Cond.instanceMethod ({ cls := "CatNeed$Whole", name := "write", desc := "(III)Z" } : MethodName)) ∈ aBIG := aBg4 85 rfl rfl
set_option maxRecDepth 20000 in
theorem bw893 : (Cond.selects "CatNeed$Whole" ({ cls := "CatNeed$Whole", name := "write", desc := "(III)Z" } : MethodName) ({ cls := "CatNeed$Whole", name := "write", desc := "(III)Z" } : MethodName)) ∈ aBIG := aBg4 86 rfl rfl
set_option maxRecDepth 20000 in
theorem bw894 : (Cond.code ({ cls := "CatNeed$Whole", name := "write", desc := "(III)Z" } : MethodName) prog_8_method_6_code (4 : Nat) (Option.some FieldType.boolean)) ∈ aBIG := aBg4 87 rfl rfl
set_option maxRecDepth 20000 in
theorem bw895 : (Cond.methodLink "CatNeedLaw" (98 : Nat) ({ cls := "CatNeed", name := "knowing", desc := "(II)I" } : MethodName)) ∈ aBIG := aBg4 88 rfl rfl
set_option maxRecDepth 20000 in
theorem bw896 : (Cond.instanceMethod ({ cls := "CatNeed", name := "knowing", desc := "(II)I" } : MethodName)) ∈ aBIG := aBg4 89 rfl rfl
set_option maxRecDepth 20000 in
theorem bw897 : (Cond.selects "CatNeed" ({ cls := "CatNeed", name := "knowing", desc := "(II)I" } : MethodName) ({ cls := "CatNeed", name := "knowing", desc := "(II)I" } : MethodName)) ∈ aBIG := aBg4 90 rfl rfl
set_option maxRecDepth 20000 in
theorem bw898 : (Cond.code ({ cls := "CatNeed", name := "knowing", desc := "(II)I" } : MethodName) prog_1_method_27_code (6 : Nat) (Option.some FieldType.int)) ∈ aBIG := aBg4 91 rfl rfl
set_option maxRecDepth 20000 in
theorem bw899 : (Cond.methodLink "CatNeed" (275 : Nat) ({ cls := "CatNeed$State", name := "begin", desc := "(LCatNeed$Told;)V" } : MethodName)) ∈ aBIG := aBg4 92 rfl rfl
set_option maxRecDepth 20000 in
theorem bw900 : (Cond.methodLink "CatNeed" (278 : Nat) ({ cls := "CatNeed", name := "notesHold", desc := "(LCatNeed$Rule;)Z" } : MethodName)) ∈ aBIG := aBg4 93 rfl rfl
set_option maxRecDepth 20000 in
theorem bw902 : (Cond.instanceMethod ({ cls := "CatNeed", name := "notesHold", desc := "(LCatNeed$Rule;)Z" } : MethodName)) ∈ aBIG := aBg4 95 rfl rfl
set_option maxRecDepth 20000 in
theorem bw903 : (Cond.code ({ cls := "CatNeed", name := "notesHold", desc := "(LCatNeed$Rule;)Z" } : MethodName) prog_1_method_47_code (4 : Nat) (Option.some FieldType.boolean)) ∈ aBIG := aBg4 96 rfl rfl
set_option maxRecDepth 20000 in
theorem bw904 : (Cond.methodLink "CatNeed" (310 : Nat) ({ cls := "CatNeed$Whole", name := "lastNoted", desc := "()I" } : MethodName)) ∈ aBIG := aBg4 97 rfl rfl
set_option maxRecDepth 20000 in
theorem bw905 : (Cond.instanceMethod ({ cls := "CatNeed$Whole", name := "lastNoted", desc := "()I" } : MethodName)) ∈ aBIG := aBg4 98 rfl rfl
set_option maxRecDepth 20000 in
theorem bw906 : (Cond.selects "CatNeed$Whole" ({ cls := "CatNeed$Whole", name := "lastNoted", desc := "()I" } : MethodName) ({ cls := "CatNeed$Whole", name := "lastNoted", desc := "()I" } : MethodName)) ∈ aBIG := aBg4 99 rfl rfl
set_option maxRecDepth 20000 in
theorem bw907 : (Cond.code ({ cls := "CatNeed$Whole", name := "lastNoted", desc := "()I" } : MethodName) prog_8_method_7_code (3 : Nat) (Option.some FieldType.int)) ∈ aBIG := aBg4 100 rfl rfl
set_option maxRecDepth 20000 in
theorem bw908 : (Cond.methodLink "CatNeed$Whole" (68 : Nat) ({ cls := "java/lang/Math", name := "max", desc := "(II)I" } : MethodName)) ∈ aBIG := aBg4 101 rfl rfl
set_option maxRecDepth 20000 in
theorem bw909 : (Cond.methodLink "CatNeed" (313 : Nat) ({ cls := "CatNeed$Whole", name := "notesAgree", desc := "(ILCatNeed$State;)Z" } : MethodName)) ∈ aBIG := aBg4 102 rfl rfl
set_option maxRecDepth 20000 in
theorem bw910 : (Cond.instanceMethod ({ cls := "CatNeed$Whole", name := "notesAgree", desc := "(ILCatNeed$State;)Z" } : MethodName)) ∈ aBIG := aBg4 103 rfl rfl
set_option maxRecDepth 20000 in
theorem bw911 : (Cond.selects "CatNeed$Whole" ({ cls := "CatNeed$Whole", name := "notesAgree", desc := "(ILCatNeed$State;)Z" } : MethodName) ({ cls := "CatNeed$Whole", name := "notesAgree", desc := "(ILCatNeed$State;)Z" } : MethodName)) ∈ aBIG := aBg4 104 rfl rfl
set_option maxRecDepth 20000 in
theorem bw912 : (Cond.code ({ cls := "CatNeed$Whole", name := "notesAgree", desc := "(ILCatNeed$State;)Z" } : MethodName) prog_8_method_8_code (4 : Nat) (Option.some FieldType.boolean)) ∈ aBIG := aBg4 105 rfl rfl
set_option maxRecDepth 20000 in
theorem bw913 : (Cond.methodLink "CatNeedLaw" (119 : Nat) ({ cls := "CatNeed", name := "ruled", desc := "(I)I" } : MethodName)) ∈ aBIG := aBg4 106 rfl rfl
set_option maxRecDepth 20000 in
theorem bw914 : (Cond.instanceMethod ({ cls := "CatNeed", name := "ruled", desc := "(I)I" } : MethodName)) ∈ aBIG := aBg4 107 rfl rfl
set_option maxRecDepth 20000 in
theorem bw915 : (Cond.selects "CatNeed" ({ cls := "CatNeed", name := "ruled", desc := "(I)I" } : MethodName) ({ cls := "CatNeed", name := "ruled", desc := "(I)I" } : MethodName)) ∈ aBIG := aBg4 108 rfl rfl
set_option maxRecDepth 20000 in
theorem bw916 : (Cond.code ({ cls := "CatNeed", name := "ruled", desc := "(I)I" } : MethodName) prog_1_method_28_code (4 : Nat) (Option.some FieldType.int)) ∈ aBIG := aBg4 109 rfl rfl
set_option maxRecDepth 20000 in
theorem bw917 : (Cond.methodLink "CatNeed" (282 : Nat) ({ cls := "CatNeed", name := "rulesThatHold", desc := "()I" } : MethodName)) ∈ aBIG := aBg4 110 rfl rfl
set_option maxRecDepth 20000 in
theorem bw919 : (Cond.instanceMethod ({ cls := "CatNeed", name := "rulesThatHold", desc := "()I" } : MethodName)) ∈ aBIG := aBg4 112 rfl rfl
set_option maxRecDepth 20000 in
theorem bw920 : (Cond.code ({ cls := "CatNeed", name := "rulesThatHold", desc := "()I" } : MethodName) prog_1_method_48_code (3 : Nat) (Option.some FieldType.int)) ∈ aBIG := aBg4 113 rfl rfl
set_option maxRecDepth 20000 in
theorem bw921 : (Cond.methodLink "CatNeedLaw" (123 : Nat) ({ cls := "CatNeed", name := "look", desc := "(II)I" } : MethodName)) ∈ aBIG := aBg4 114 rfl rfl
set_option maxRecDepth 20000 in
theorem bw922 : (Cond.instanceMethod ({ cls := "CatNeed", name := "look", desc := "(II)I" } : MethodName)) ∈ aBIG := aBg4 115 rfl rfl
set_option maxRecDepth 20000 in
theorem bw923 : (Cond.selects "CatNeed" ({ cls := "CatNeed", name := "look", desc := "(II)I" } : MethodName) ({ cls := "CatNeed", name := "look", desc := "(II)I" } : MethodName)) ∈ aBIG := aBg4 116 rfl rfl
set_option maxRecDepth 20000 in
theorem bw924 : (Cond.code ({ cls := "CatNeed", name := "look", desc := "(II)I" } : MethodName) prog_1_method_29_code (6 : Nat) (Option.some FieldType.int)) ∈ aBIG := aBg4 117 rfl rfl
set_option maxRecDepth 20000 in
theorem bw925 : (Cond.methodLink "CatNeed" (286 : Nat) ({ cls := "CatNeed", name := "countAlike", desc := "(II)V" } : MethodName)) ∈ aBIG := aBg4 118 rfl rfl
set_option maxRecDepth 20000 in
theorem bw927 : (Cond.instanceMethod ({ cls := "CatNeed", name := "countAlike", desc := "(II)V" } : MethodName)) ∈ aBIG := aBg4 120 rfl rfl
set_option maxRecDepth 20000 in
theorem bw928 : (Cond.code ({ cls := "CatNeed", name := "countAlike", desc := "(II)V" } : MethodName) prog_1_method_49_code (5 : Nat) (none : Option FieldType)) ∈ aBIG := aBg4 121 rfl rfl
set_option maxRecDepth 20000 in
theorem bw929 : (Cond.methodLink "CatNeed" (290 : Nat) ({ cls := "CatNeed", name := "mostAlike", desc := "(I)I" } : MethodName)) ∈ aBIG := aBg4 122 rfl rfl
set_option maxRecDepth 20000 in
theorem bw931 : (Cond.instanceMethod ({ cls := "CatNeed", name := "mostAlike", desc := "(I)I" } : MethodName)) ∈ aBIG := aBg4 124 rfl rfl
set_option maxRecDepth 20000 in
theorem bw932 : (Cond.code ({ cls := "CatNeed", name := "mostAlike", desc := "(I)I" } : MethodName) prog_1_method_50_code (4 : Nat) (Option.some FieldType.int)) ∈ aBIG := aBg4 125 rfl rfl
set_option maxRecDepth 20000 in
theorem bw933 : (Cond.methodLink "CatNeed" (317 : Nat) ({ cls := "java/lang/Math", name := "max", desc := "(II)I" } : MethodName)) ∈ aBIG := aBg4 126 rfl rfl
set_option maxRecDepth 20000 in
theorem bw934 : (Cond.methodLink "CatNeedLaw" (127 : Nat) ({ cls := "CatNeed", name := "seed", desc := "(I)I" } : MethodName)) ∈ aBIG := aBg4 127 rfl rfl
set_option maxRecDepth 20000 in
theorem bw935 : (Cond.instanceMethod ({ cls := "CatNeed", name := "seed", desc := "(I)I" } : MethodName)) ∈ aBIG := aBg4 128 rfl rfl
set_option maxRecDepth 20000 in
theorem bw936 : (Cond.selects "CatNeed" ({ cls := "CatNeed", name := "seed", desc := "(I)I" } : MethodName) ({ cls := "CatNeed", name := "seed", desc := "(I)I" } : MethodName)) ∈ aBIG := aBg4 129 rfl rfl
set_option maxRecDepth 20000 in
theorem bw937 : (Cond.code ({ cls := "CatNeed", name := "seed", desc := "(I)I" } : MethodName) prog_1_method_30_code (3 : Nat) (Option.some FieldType.int)) ∈ aBIG := aBg4 130 rfl rfl
set_option maxRecDepth 20000 in
theorem bw938 : (Cond.methodLink "CatNeedLaw" (131 : Nat) ({ cls := "CatNeed", name := "visits", desc := "(IIII)I" } : MethodName)) ∈ aBIG := aBg4 131 rfl rfl
set_option maxRecDepth 20000 in
theorem bw939 : (Cond.instanceMethod ({ cls := "CatNeed", name := "visits", desc := "(IIII)I" } : MethodName)) ∈ aBIG := aBg4 132 rfl rfl
set_option maxRecDepth 20000 in
theorem bw940 : (Cond.selects "CatNeed" ({ cls := "CatNeed", name := "visits", desc := "(IIII)I" } : MethodName) ({ cls := "CatNeed", name := "visits", desc := "(IIII)I" } : MethodName)) ∈ aBIG := aBg4 133 rfl rfl
set_option maxRecDepth 20000 in
theorem bw941 : (Cond.code ({ cls := "CatNeed", name := "visits", desc := "(IIII)I" } : MethodName) prog_1_method_31_code (12 : Nat) (Option.some FieldType.int)) ∈ aBIG := aBg4 134 rfl rfl
set_option maxRecDepth 20000 in
theorem bw942 : (Cond.methodLink "CatNeed" (293 : Nat) ({ cls := "CatNeed", name := "drawn", desc := "(I)I" } : MethodName)) ∈ aBIG := aBg4 135 rfl rfl
set_option maxRecDepth 20000 in
theorem bw943 : (Cond.static ({ cls := "CatNeed", name := "drawn", desc := "(I)I" } : MethodName)) ∈ aBIG := aBg4 136 rfl rfl
set_option maxRecDepth 20000 in
theorem bw944 : (Cond.code ({ cls := "CatNeed", name := "drawn", desc := "(I)I" } : MethodName) prog_1_method_51_code (1 : Nat) (Option.some FieldType.int)) ∈ aBIG := aBg4 137 rfl rfl
set_option maxRecDepth 20000 in
theorem bw945 : (Cond.constantLong "CatNeed" (323 : Nat) (1103515245 : Int64)) ∈ aBIG := aBg4 138 rfl rfl
set_option maxRecDepth 20000 in
theorem bw946 : (Cond.constantLong "CatNeed" (325 : Nat) (12345 : Int64)) ∈ aBIG := aBg4 139 rfl rfl
set_option maxRecDepth 20000 in
theorem bw947 : (Cond.constantLong "CatNeed" (327 : Nat) (2147483648 : Int64)) ∈ aBIG := aBg4 140 rfl rfl
set_option maxRecDepth 20000 in
theorem bw948 : (Cond.constant "CatNeed" (296 : Nat) (65536 : Int32)) ∈ aBIG := aBg4 141 rfl rfl
set_option maxRecDepth 20000 in
theorem bw949 : (Cond.methodLink "CatNeedLaw" (139 : Nat) ({ cls := "CatNeed", name := "image", desc := "(I)I" } : MethodName)) ∈ aBIG := aBg4 142 rfl rfl
set_option maxRecDepth 20000 in
theorem bw950 : (Cond.instanceMethod ({ cls := "CatNeed", name := "image", desc := "(I)I" } : MethodName)) ∈ aBIG := aBg4 143 rfl rfl
set_option maxRecDepth 20000 in
theorem bw951 : (Cond.selects "CatNeed" ({ cls := "CatNeed", name := "image", desc := "(I)I" } : MethodName) ({ cls := "CatNeed", name := "image", desc := "(I)I" } : MethodName)) ∈ aBIG := aBg4 144 rfl rfl
set_option maxRecDepth 20000 in
theorem bw952 : (Cond.code ({ cls := "CatNeed", name := "image", desc := "(I)I" } : MethodName) prog_1_method_32_code (2 : Nat) (Option.some FieldType.int)) ∈ aBIG := aBg4 145 rfl rfl
set_option maxRecDepth 20000 in
theorem bw953 : (Cond.methodLink "CatNeed" (297 : Nat) ({ cls := "CatNeed$Whole", name := "copyFrom", desc := "(LCatNeed$Whole;)V" } : MethodName)) ∈ aBIG := aBg4 146 rfl rfl
set_option maxRecDepth 20000 in
theorem bw954 : (Cond.instanceMethod ({ cls := "CatNeed$Whole", name := "copyFrom", desc := "(LCatNeed$Whole;)V" } : MethodName)) ∈ aBIG := aBg4 147 rfl rfl
set_option maxRecDepth 20000 in
theorem bw955 : (Cond.selects "CatNeed$Whole" ({ cls := "CatNeed$Whole", name := "copyFrom", desc := "(LCatNeed$Whole;)V" } : MethodName) ({ cls := "CatNeed$Whole", name := "copyFrom", desc := "(LCatNeed$Whole;)V" } : MethodName)) ∈ aBIG := aBg4 148 rfl rfl
set_option maxRecDepth 20000 in
theorem bw956 : (Cond.code ({ cls := "CatNeed$Whole", name := "copyFrom", desc := "(LCatNeed$Whole;)V" } : MethodName) prog_8_method_3_code (3 : Nat) (none : Option FieldType)) ∈ aBIG := aBg4 149 rfl rfl
set_option maxRecDepth 20000 in
theorem bw957 : (Cond.methodLink "CatNeed$Whole" (62 : Nat) ({ cls := "java/lang/System", name := "arraycopy", desc := "(Ljava/lang/Object;ILjava/lang/Object;II)V" } : MethodName)) ∈ aBIG := aBg4 150 rfl rfl
set_option maxRecDepth 20000 in
theorem bw958 : (Cond.methodLink "CatNeedLaw" (143 : Nat) ({ cls := "CatNeed", name := "back", desc := "(I)I" } : MethodName)) ∈ aBIG := aBg4 151 rfl rfl
set_option maxRecDepth 20000 in
theorem bw959 : (Cond.instanceMethod ({ cls := "CatNeed", name := "back", desc := "(I)I" } : MethodName)) ∈ aBIG := aBg4 152 rfl rfl
set_option maxRecDepth 20000 in
theorem bw960 : (Cond.selects "CatNeed" ({ cls := "CatNeed", name := "back", desc := "(I)I" } : MethodName) ({ cls := "CatNeed", name := "back", desc := "(I)I" } : MethodName)) ∈ aBIG := aBg4 153 rfl rfl
set_option maxRecDepth 20000 in
theorem bw961 : (Cond.code ({ cls := "CatNeed", name := "back", desc := "(I)I" } : MethodName) prog_1_method_33_code (2 : Nat) (Option.some FieldType.int)) ∈ aBIG := aBg4 154 rfl rfl
set_option maxRecDepth 20000 in
theorem bw962 : (Cond.classLink "CatNeedLaw" (10 : Nat) "CatNeedModel") ∈ aBIG := aBg4 155 rfl rfl
set_option maxRecDepth 20000 in
theorem bw963 : (Cond.instantiable "CatNeedModel" (66 : Nat)) ∈ aBIG := aBg4 156 rfl rfl
set_option maxRecDepth 20000 in
theorem bw964 : (Cond.methodLink "CatNeedLaw" (12 : Nat) ({ cls := "CatNeedModel", name := "<init>", desc := "()V" } : MethodName)) ∈ aBIG := aBg4 157 rfl rfl
set_option maxRecDepth 20000 in
theorem bw965 : (Cond.instanceMethod ({ cls := "CatNeedModel", name := "<init>", desc := "()V" } : MethodName)) ∈ aBIG := aBg4 158 rfl rfl
set_option maxRecDepth 20000 in
theorem bw966 : (Cond.code ({ cls := "CatNeedModel", name := "<init>", desc := "()V" } : MethodName) prog_10_method_1_code (1 : Nat) (none : Option FieldType)) ∈ aBIG := aBg4 159 rfl rfl
set_option maxRecDepth 20000 in
theorem bw967 : (Cond.methodLink "CatNeedModel" (3 : Nat) ({ cls := "java/lang/Object", name := "<init>", desc := "()V" } : MethodName)) ∈ aBIG := aBg4 160 rfl rfl
set_option maxRecDepth 20000 in
theorem bw968 : (Cond.fieldLink "CatNeedModel" (9 : Nat) "CatNeedModel" "scalar" "[I") ∈ aBIG := aBg4 161 rfl rfl
set_option maxRecDepth 20000 in
theorem bw969 : (Cond.fieldLink "CatNeedModel" (13 : Nat) "CatNeedModel" "at" "[I") ∈ aBIG := aBg4 162 rfl rfl
set_option maxRecDepth 20000 in
theorem bw970 : (Cond.fieldLink "CatNeedModel" (16 : Nat) "CatNeedModel" "on" "[I") ∈ aBIG := aBg4 163 rfl rfl
set_option maxRecDepth 20000 in
theorem bw971 : (Cond.fieldLink "CatNeedModel" (19 : Nat) "CatNeedModel" "knows" "[I") ∈ aBIG := aBg4 164 rfl rfl
set_option maxRecDepth 20000 in
theorem bw972 : (Cond.fieldLink "CatNeedModel" (22 : Nat) "CatNeedModel" "lies" "[I") ∈ aBIG := aBg4 165 rfl rfl
set_option maxRecDepth 20000 in
theorem bw973 : (Cond.fieldLink "CatNeedModel" (25 : Nat) "CatNeedModel" "met" "[I") ∈ aBIG := aBg4 166 rfl rfl
set_option maxRecDepth 20000 in
theorem bw974 : (Cond.fieldLink "CatNeedModel" (28 : Nat) "CatNeedModel" "lost" "[I") ∈ aBIG := aBg4 167 rfl rfl
set_option maxRecDepth 20000 in
theorem bw975 : (Cond.fieldLink "CatNeedModel" (31 : Nat) "CatNeedModel" "worth" "[I") ∈ aBIG := aBg4 168 rfl rfl
set_option maxRecDepth 20000 in
theorem bw976 : (Cond.fieldLink "CatNeedModel" (34 : Nat) "CatNeedModel" "pace" "[I") ∈ aBIG := aBg4 169 rfl rfl
set_option maxRecDepth 20000 in
theorem bw977 : (Cond.fieldLink "CatNeedModel" (37 : Nat) "CatNeedModel" "needOf" "[I") ∈ aBIG := aBg4 170 rfl rfl
set_option maxRecDepth 20000 in
theorem bw978 : (Cond.fieldLink "CatNeedModel" (40 : Nat) "CatNeedModel" "every" "[I") ∈ aBIG := aBg4 171 rfl rfl
set_option maxRecDepth 20000 in
theorem bw979 : (Cond.fieldLink "CatNeedModel" (43 : Nat) "CatNeedModel" "dueAt" "[I") ∈ aBIG := aBg4 172 rfl rfl
set_option maxRecDepth 20000 in
theorem bw980 : (Cond.fieldLink "CatNeedModel" (46 : Nat) "CatNeedModel" "noteMinute" "[I") ∈ aBIG := aBg4 173 rfl rfl
set_option maxRecDepth 20000 in
theorem bw981 : (Cond.fieldLink "CatNeedModel" (49 : Nat) "CatNeedModel" "noteWho" "[I") ∈ aBIG := aBg4 174 rfl rfl
set_option maxRecDepth 20000 in
theorem bw982 : (Cond.fieldLink "CatNeedModel" (52 : Nat) "CatNeedModel" "noteThing" "[I") ∈ aBIG := aBg4 175 rfl rfl
set_option maxRecDepth 20000 in
theorem bw983 : (Cond.fieldLink "CatNeedModel" (55 : Nat) "CatNeedModel" "toldAt" "[I") ∈ aBIG := aBg4 176 rfl rfl
set_option maxRecDepth 20000 in
theorem bw984 : (Cond.fieldLink "CatNeedModel" (58 : Nat) "CatNeedModel" "toldKnows" "[I") ∈ aBIG := aBg4 177 rfl rfl
set_option maxRecDepth 20000 in
theorem bw985 : (Cond.fieldLink "CatNeedModel" (61 : Nat) "CatNeedModel" "toldLies" "[I") ∈ aBIG := aBg4 178 rfl rfl
set_option maxRecDepth 20000 in
theorem bw986 : (Cond.fieldLink "CatNeedModel" (64 : Nat) "CatNeedModel" "newScalar" "[I") ∈ aBIG := aBg4 179 rfl rfl
set_option maxRecDepth 20000 in
theorem bw987 : (Cond.fieldLink "CatNeedModel" (67 : Nat) "CatNeedModel" "newLies" "[I") ∈ aBIG := aBg4 180 rfl rfl
set_option maxRecDepth 20000 in
theorem bw988 : (Cond.fieldLink "CatNeedModel" (70 : Nat) "CatNeedModel" "newWorth" "[I") ∈ aBIG := aBg4 181 rfl rfl
set_option maxRecDepth 20000 in
theorem bw989 : (Cond.fieldLink "CatNeedModel" (73 : Nat) "CatNeedModel" "newAt" "[I") ∈ aBIG := aBg4 182 rfl rfl
set_option maxRecDepth 20000 in
theorem bw990 : (Cond.fieldLink "CatNeedModel" (76 : Nat) "CatNeedModel" "newPace" "[I") ∈ aBIG := aBg4 183 rfl rfl
set_option maxRecDepth 20000 in
theorem bw991 : (Cond.fieldLink "CatNeedModel" (79 : Nat) "CatNeedModel" "newKnows" "[I") ∈ aBIG := aBg4 184 rfl rfl
set_option maxRecDepth 20000 in
theorem bw992 : (Cond.fieldLink "CatNeedModel" (82 : Nat) "CatNeedModel" "newOf" "[I") ∈ aBIG := aBg4 185 rfl rfl
set_option maxRecDepth 20000 in
theorem bw993 : (Cond.fieldLink "CatNeedModel" (85 : Nat) "CatNeedModel" "newEvery" "[I") ∈ aBIG := aBg4 186 rfl rfl
set_option maxRecDepth 20000 in
theorem bw994 : (Cond.fieldLink "CatNeedModel" (88 : Nat) "CatNeedModel" "newDue" "[I") ∈ aBIG := aBg4 187 rfl rfl
set_option maxRecDepth 20000 in
theorem bw995 : (Cond.fieldLink "CatNeedModel" (165 : Nat) "CatNeedModel" "taped" "I") ∈ aBIG := aBg4 188 rfl rfl
set_option maxRecDepth 20000 in
theorem bw996 : (Cond.fieldLink "CatNeedModel" (191 : Nat) "CatNeedModel" "p" "I") ∈ aBIG := aBg4 189 rfl rfl
set_option maxRecDepth 20000 in
theorem bw997 : (Cond.fieldLink "CatNeedModel" (188 : Nat) "CatNeedModel" "fault" "I") ∈ aBIG := aBg4 190 rfl rfl
set_option maxRecDepth 20000 in
theorem bw998 : (Cond.fieldLink "CatNeedModel" (218 : Nat) "CatNeedModel" "slot" "I") ∈ aBIG := aBg4 191 rfl rfl
set_option maxRecDepth 20000 in
theorem bw999 : (Cond.fieldLink "CatNeedModel" (336 : Nat) "CatNeedModel" "rules" "I") ∈ aBIG := aBg4 192 rfl rfl
set_option maxRecDepth 20000 in
theorem bw1000 : (Cond.fieldLink "CatNeedModel" (221 : Nat) "CatNeedModel" "entries" "I") ∈ aBIG := aBg4 193 rfl rfl
set_option maxRecDepth 20000 in
theorem bw1001 : (Cond.fieldLink "CatNeedModel" (262 : Nat) "CatNeedModel" "deep" "I") ∈ aBIG := aBg4 194 rfl rfl
set_option maxRecDepth 20000 in
theorem bw1002 : (Cond.fieldLink "CatNeedModel" (224 : Nat) "CatNeedModel" "counted" "I") ∈ aBIG := aBg4 195 rfl rfl
set_option maxRecDepth 20000 in
theorem bw1003 : (Cond.fieldLink "CatNeedModel" (259 : Nat) "CatNeedModel" "opened" "I") ∈ aBIG := aBg4 196 rfl rfl
set_option maxRecDepth 20000 in
theorem bw1004 : (Cond.fieldLink "CatNeedModel" (91 : Nat) "CatNeedModel" "words" "I") ∈ aBIG := aBg4 197 rfl rfl
set_option maxRecDepth 20000 in
theorem bw1005 : (Cond.fieldLink "CatNeedModel" (95 : Nat) "CatNeedModel" "tape" "[B") ∈ aBIG := aBg4 198 rfl rfl
set_option maxRecDepth 20000 in
theorem bw1006 : (Cond.fieldLink "CatNeedModel" (99 : Nat) "CatNeedModel" "sort" "[I") ∈ aBIG := aBg4 199 rfl rfl
set_option maxRecDepth 20000 in
theorem bw1007 : (Cond.fieldLink "CatNeedModel" (102 : Nat) "CatNeedModel" "number" "[I") ∈ aBIG := aBg4 200 rfl rfl
set_option maxRecDepth 20000 in
theorem bw1008 : (Cond.fieldLink "CatNeedModel" (105 : Nat) "CatNeedModel" "clauses" "[I") ∈ aBIG := aBg4 201 rfl rfl
set_option maxRecDepth 20000 in
theorem bw1009 : (Cond.fieldLink "CatNeedModel" (108 : Nat) "CatNeedModel" "sumAt" "[I") ∈ aBIG := aBg4 202 rfl rfl
set_option maxRecDepth 20000 in
theorem bw1010 : (Cond.fieldLink "CatNeedModel" (111 : Nat) "CatNeedModel" "testAt" "[I") ∈ aBIG := aBg4 203 rfl rfl
set_option maxRecDepth 20000 in
theorem bw1011 : (Cond.fieldLink "CatNeedModel" (114 : Nat) "CatNeedModel" "endAt" "[I") ∈ aBIG := aBg4 204 rfl rfl
set_option maxRecDepth 20000 in
theorem bw1012 : (Cond.fieldLink "CatNeedModel" (117 : Nat) "CatNeedModel" "open" "[I") ∈ aBIG := aBg4 205 rfl rfl
set_option maxRecDepth 20000 in
theorem bw1013 : (Cond.fieldLink "CatNeedModel" (120 : Nat) "CatNeedModel" "asked" "[J") ∈ aBIG := aBg4 206 rfl rfl
set_option maxRecDepth 20000 in
theorem bw1014 : (Cond.fieldLink "CatNeedModel" (124 : Nat) "CatNeedModel" "stack" "[J") ∈ aBIG := aBg4 207 rfl rfl
set_option maxRecDepth 20000 in
theorem bw1015 : (Cond.fieldLink "CatNeedModel" (127 : Nat) "CatNeedModel" "shutNow" "I") ∈ aBIG := aBg4 208 rfl rfl
set_option maxRecDepth 20000 in
theorem bw1016 : (Cond.fieldLink "CatNeedModel" (130 : Nat) "CatNeedModel" "visitNow" "I") ∈ aBIG := aBg4 209 rfl rfl
set_option maxRecDepth 20000 in
theorem bw1017 : (Cond.fieldLink "CatNeedModel" (401 : Nat) "CatNeedModel" "visitHas" "I") ∈ aBIG := aBg4 210 rfl rfl
set_option maxRecDepth 20000 in
theorem bw1018 : (Cond.fieldLink "CatNeedModel" (404 : Nat) "CatNeedModel" "metNow" "I") ∈ aBIG := aBg4 211 rfl rfl
set_option maxRecDepth 20000 in
theorem bw1019 : (Cond.fieldLink "CatNeedModel" (407 : Nat) "CatNeedModel" "lostNow" "I") ∈ aBIG := aBg4 212 rfl rfl
set_option maxRecDepth 20000 in
theorem bw1020 : (Cond.fieldLink "CatNeedModel" (133 : Nat) "CatNeedModel" "past" "[I") ∈ aBIG := aBg4 213 rfl rfl
set_option maxRecDepth 20000 in
theorem bw1021 : (Cond.fieldLink "CatNeedModel" (136 : Nat) "CatNeedModel" "pastOf" "[I") ∈ aBIG := aBg4 214 rfl rfl
set_option maxRecDepth 20000 in
theorem bw1022 : (Cond.fieldLink "CatNeedModel" (323 : Nat) "CatNeedModel" "pastMany" "I") ∈ aBIG := aBg4 215 rfl rfl
set_option maxRecDepth 20000 in
theorem bw1023 : (Cond.fieldLink "CatNeedModel" (417 : Nat) "CatNeedModel" "pastAt" "I") ∈ aBIG := aBg4 216 rfl rfl
set_option maxRecDepth 20000 in
theorem bw1024 : (Cond.fieldLink "CatNeedModel" (413 : Nat) "CatNeedModel" "takesBack" "Z") ∈ aBIG := aBg4 217 rfl rfl
set_option maxRecDepth 20000 in
theorem bw1025 : (Cond.fieldLink "CatNeedModel" (139 : Nat) "CatNeedModel" "firstHas" "[I") ∈ aBIG := aBg4 218 rfl rfl
set_option maxRecDepth 20000 in
theorem bw1026 : (Cond.fieldLink "CatNeedModel" (142 : Nat) "CatNeedModel" "secondHas" "[I") ∈ aBIG := aBg4 219 rfl rfl
set_option maxRecDepth 20000 in
theorem bw1027 : (Cond.fieldLink "CatNeedModel" (145 : Nat) "CatNeedModel" "lay" "[I") ∈ aBIG := aBg4 220 rfl rfl
set_option maxRecDepth 20000 in
theorem bw1028 : (Cond.fieldLink "CatNeedModel" (148 : Nat) "CatNeedModel" "shows" "[I") ∈ aBIG := aBg4 221 rfl rfl
set_option maxRecDepth 20000 in
theorem bw1029 : (Cond.fieldLink "CatNeedModel" (151 : Nat) "CatNeedModel" "images" "[I") ∈ aBIG := aBg4 222 rfl rfl
set_option maxRecDepth 20000 in
theorem bw1030 : (Cond.fieldLink "CatNeedModel" (154 : Nat) "CatNeedModel" "isMade" "[Z") ∈ aBIG := aBg4 223 rfl rfl
set_option maxRecDepth 20000 in
theorem bw1031 : (Cond.fieldLink "CatNeedModel" (522 : Nat) "CatNeedModel" "imageAt" "I") ∈ aBIG := aBg4 224 rfl rfl
set_option maxRecDepth 20000 in
theorem bw1032 : (Cond.fieldLink "CatNeedModel" (519 : Nat) "CatNeedModel" "goesBack" "Z") ∈ aBIG := aBg4 225 rfl rfl
set_option maxRecDepth 20000 in
theorem bw1033 : (Cond.lays "CatNeedModel" "CatNeedModel" "thrown" "I") ∈ aBIG := aBg4 226 rfl rfl
set_option maxRecDepth 20000 in
theorem bw1035 : (Cond.laysFinal "CatNeedModel" "CatNeedModel" "scalar" "[I") ∈ aBIG := aBg4 228 rfl rfl
set_option maxRecDepth 20000 in
theorem bw1037 : (Cond.laysFinal "CatNeedModel" "CatNeedModel" "at" "[I") ∈ aBIG := aBg4 230 rfl rfl
set_option maxRecDepth 20000 in
theorem bw1039 : (Cond.laysFinal "CatNeedModel" "CatNeedModel" "on" "[I") ∈ aBIG := aBg4 232 rfl rfl
set_option maxRecDepth 20000 in
theorem bw1041 : (Cond.laysFinal "CatNeedModel" "CatNeedModel" "knows" "[I") ∈ aBIG := aBg4 234 rfl rfl
set_option maxRecDepth 20000 in
theorem bw1043 : (Cond.laysFinal "CatNeedModel" "CatNeedModel" "lies" "[I") ∈ aBIG := aBg4 236 rfl rfl
set_option maxRecDepth 20000 in
theorem bw1045 : (Cond.laysFinal "CatNeedModel" "CatNeedModel" "met" "[I") ∈ aBIG := aBg4 238 rfl rfl
set_option maxRecDepth 20000 in
theorem bw1047 : (Cond.laysFinal "CatNeedModel" "CatNeedModel" "lost" "[I") ∈ aBIG := aBg5 0 rfl rfl
set_option maxRecDepth 20000 in
theorem bw1049 : (Cond.laysFinal "CatNeedModel" "CatNeedModel" "worth" "[I") ∈ aBIG := aBg5 2 rfl rfl
set_option maxRecDepth 20000 in
theorem bw1051 : (Cond.laysFinal "CatNeedModel" "CatNeedModel" "pace" "[I") ∈ aBIG := aBg5 4 rfl rfl
set_option maxRecDepth 20000 in
theorem bw1053 : (Cond.laysFinal "CatNeedModel" "CatNeedModel" "needOf" "[I") ∈ aBIG := aBg5 6 rfl rfl
set_option maxRecDepth 20000 in
theorem bw1055 : (Cond.laysFinal "CatNeedModel" "CatNeedModel" "every" "[I") ∈ aBIG := aBg5 8 rfl rfl
set_option maxRecDepth 20000 in
theorem bw1057 : (Cond.laysFinal "CatNeedModel" "CatNeedModel" "dueAt" "[I") ∈ aBIG := aBg5 10 rfl rfl
set_option maxRecDepth 20000 in
theorem bw1059 : (Cond.laysFinal "CatNeedModel" "CatNeedModel" "noteMinute" "[I") ∈ aBIG := aBg5 12 rfl rfl
set_option maxRecDepth 20000 in
theorem bw1061 : (Cond.laysFinal "CatNeedModel" "CatNeedModel" "noteWho" "[I") ∈ aBIG := aBg5 14 rfl rfl
set_option maxRecDepth 20000 in
theorem bw1063 : (Cond.laysFinal "CatNeedModel" "CatNeedModel" "noteThing" "[I") ∈ aBIG := aBg5 16 rfl rfl
set_option maxRecDepth 20000 in
theorem bw1065 : (Cond.laysFinal "CatNeedModel" "CatNeedModel" "toldAt" "[I") ∈ aBIG := aBg5 18 rfl rfl
set_option maxRecDepth 20000 in
theorem bw1067 : (Cond.laysFinal "CatNeedModel" "CatNeedModel" "toldKnows" "[I") ∈ aBIG := aBg5 20 rfl rfl
set_option maxRecDepth 20000 in
theorem bw1069 : (Cond.laysFinal "CatNeedModel" "CatNeedModel" "toldLies" "[I") ∈ aBIG := aBg5 22 rfl rfl
set_option maxRecDepth 20000 in
theorem bw1071 : (Cond.laysFinal "CatNeedModel" "CatNeedModel" "newScalar" "[I") ∈ aBIG := aBg5 24 rfl rfl
set_option maxRecDepth 20000 in
theorem bw1073 : (Cond.laysFinal "CatNeedModel" "CatNeedModel" "newLies" "[I") ∈ aBIG := aBg5 26 rfl rfl
set_option maxRecDepth 20000 in
theorem bw1075 : (Cond.laysFinal "CatNeedModel" "CatNeedModel" "newWorth" "[I") ∈ aBIG := aBg5 28 rfl rfl
set_option maxRecDepth 20000 in
theorem bw1077 : (Cond.laysFinal "CatNeedModel" "CatNeedModel" "newAt" "[I") ∈ aBIG := aBg5 30 rfl rfl
set_option maxRecDepth 20000 in
theorem bw1079 : (Cond.laysFinal "CatNeedModel" "CatNeedModel" "newPace" "[I") ∈ aBIG := aBg5 32 rfl rfl
set_option maxRecDepth 20000 in
theorem bw1081 : (Cond.laysFinal "CatNeedModel" "CatNeedModel" "newKnows" "[I") ∈ aBIG := aBg5 34 rfl rfl
set_option maxRecDepth 20000 in
theorem bw1083 : (Cond.laysFinal "CatNeedModel" "CatNeedModel" "newOf" "[I") ∈ aBIG := aBg5 36 rfl rfl
set_option maxRecDepth 20000 in
theorem bw1085 : (Cond.laysFinal "CatNeedModel" "CatNeedModel" "newEvery" "[I") ∈ aBIG := aBg5 38 rfl rfl
set_option maxRecDepth 20000 in
theorem bw1087 : (Cond.laysFinal "CatNeedModel" "CatNeedModel" "newDue" "[I") ∈ aBIG := aBg5 40 rfl rfl
set_option maxRecDepth 20000 in
theorem bw1089 : (Cond.lays "CatNeedModel" "CatNeedModel" "taped" "I") ∈ aBIG := aBg5 42 rfl rfl
set_option maxRecDepth 20000 in
theorem bw1091 : (Cond.lays "CatNeedModel" "CatNeedModel" "p" "I") ∈ aBIG := aBg5 44 rfl rfl
set_option maxRecDepth 20000 in
theorem bw1093 : (Cond.lays "CatNeedModel" "CatNeedModel" "fault" "I") ∈ aBIG := aBg5 46 rfl rfl
set_option maxRecDepth 20000 in
theorem bw1095 : (Cond.lays "CatNeedModel" "CatNeedModel" "slot" "I") ∈ aBIG := aBg5 48 rfl rfl
set_option maxRecDepth 20000 in
theorem bw1097 : (Cond.lays "CatNeedModel" "CatNeedModel" "rules" "I") ∈ aBIG := aBg5 50 rfl rfl
set_option maxRecDepth 20000 in
theorem bw1099 : (Cond.lays "CatNeedModel" "CatNeedModel" "entries" "I") ∈ aBIG := aBg5 52 rfl rfl
set_option maxRecDepth 20000 in
theorem bw1101 : (Cond.lays "CatNeedModel" "CatNeedModel" "deep" "I") ∈ aBIG := aBg5 54 rfl rfl
set_option maxRecDepth 20000 in
theorem bw1103 : (Cond.lays "CatNeedModel" "CatNeedModel" "counted" "I") ∈ aBIG := aBg5 56 rfl rfl
set_option maxRecDepth 20000 in
theorem bw1105 : (Cond.lays "CatNeedModel" "CatNeedModel" "opened" "I") ∈ aBIG := aBg5 58 rfl rfl
set_option maxRecDepth 20000 in
theorem bw1107 : (Cond.lays "CatNeedModel" "CatNeedModel" "words" "I") ∈ aBIG := aBg5 60 rfl rfl
set_option maxRecDepth 20000 in
theorem bw1109 : (Cond.laysFinal "CatNeedModel" "CatNeedModel" "tape" "[B") ∈ aBIG := aBg5 62 rfl rfl
set_option maxRecDepth 20000 in
theorem bw1111 : (Cond.laysFinal "CatNeedModel" "CatNeedModel" "sort" "[I") ∈ aBIG := aBg5 64 rfl rfl
set_option maxRecDepth 20000 in
theorem bw1113 : (Cond.laysFinal "CatNeedModel" "CatNeedModel" "number" "[I") ∈ aBIG := aBg5 66 rfl rfl
set_option maxRecDepth 20000 in
theorem bw1115 : (Cond.laysFinal "CatNeedModel" "CatNeedModel" "clauses" "[I") ∈ aBIG := aBg5 68 rfl rfl
set_option maxRecDepth 20000 in
theorem bw1117 : (Cond.laysFinal "CatNeedModel" "CatNeedModel" "sumAt" "[I") ∈ aBIG := aBg5 70 rfl rfl
set_option maxRecDepth 20000 in
theorem bw1119 : (Cond.laysFinal "CatNeedModel" "CatNeedModel" "testAt" "[I") ∈ aBIG := aBg5 72 rfl rfl
set_option maxRecDepth 20000 in
theorem bw1121 : (Cond.laysFinal "CatNeedModel" "CatNeedModel" "endAt" "[I") ∈ aBIG := aBg5 74 rfl rfl
set_option maxRecDepth 20000 in
theorem bw1123 : (Cond.laysFinal "CatNeedModel" "CatNeedModel" "open" "[I") ∈ aBIG := aBg5 76 rfl rfl
set_option maxRecDepth 20000 in
theorem bw1125 : (Cond.laysFinal "CatNeedModel" "CatNeedModel" "asked" "[J") ∈ aBIG := aBg5 78 rfl rfl
set_option maxRecDepth 20000 in
theorem bw1127 : (Cond.laysFinal "CatNeedModel" "CatNeedModel" "stack" "[J") ∈ aBIG := aBg5 80 rfl rfl
set_option maxRecDepth 20000 in
theorem bw1129 : (Cond.lays "CatNeedModel" "CatNeedModel" "shutNow" "I") ∈ aBIG := aBg5 82 rfl rfl
set_option maxRecDepth 20000 in
theorem bw1131 : (Cond.lays "CatNeedModel" "CatNeedModel" "visitNow" "I") ∈ aBIG := aBg5 84 rfl rfl
set_option maxRecDepth 20000 in
theorem bw1133 : (Cond.lays "CatNeedModel" "CatNeedModel" "visitHas" "I") ∈ aBIG := aBg5 86 rfl rfl
set_option maxRecDepth 20000 in
theorem bw1135 : (Cond.lays "CatNeedModel" "CatNeedModel" "metNow" "I") ∈ aBIG := aBg5 88 rfl rfl
set_option maxRecDepth 20000 in
theorem bw1137 : (Cond.lays "CatNeedModel" "CatNeedModel" "lostNow" "I") ∈ aBIG := aBg5 90 rfl rfl
set_option maxRecDepth 20000 in
theorem bw1139 : (Cond.laysFinal "CatNeedModel" "CatNeedModel" "past" "[I") ∈ aBIG := aBg5 92 rfl rfl
set_option maxRecDepth 20000 in
theorem bw1141 : (Cond.laysFinal "CatNeedModel" "CatNeedModel" "pastOf" "[I") ∈ aBIG := aBg5 94 rfl rfl
set_option maxRecDepth 20000 in
theorem bw1143 : (Cond.lays "CatNeedModel" "CatNeedModel" "pastMany" "I") ∈ aBIG := aBg5 96 rfl rfl
set_option maxRecDepth 20000 in
theorem bw1145 : (Cond.lays "CatNeedModel" "CatNeedModel" "pastAt" "I") ∈ aBIG := aBg5 98 rfl rfl
set_option maxRecDepth 20000 in
theorem bw1147 : (Cond.lays "CatNeedModel" "CatNeedModel" "takesBack" "Z") ∈ aBIG := aBg5 100 rfl rfl
set_option maxRecDepth 20000 in
theorem bw1149 : (Cond.laysFinal "CatNeedModel" "CatNeedModel" "firstHas" "[I") ∈ aBIG := aBg5 102 rfl rfl
set_option maxRecDepth 20000 in
theorem bw1151 : (Cond.laysFinal "CatNeedModel" "CatNeedModel" "secondHas" "[I") ∈ aBIG := aBg5 104 rfl rfl
set_option maxRecDepth 20000 in
theorem bw1153 : (Cond.laysFinal "CatNeedModel" "CatNeedModel" "lay" "[I") ∈ aBIG := aBg5 106 rfl rfl
set_option maxRecDepth 20000 in
theorem bw1155 : (Cond.laysFinal "CatNeedModel" "CatNeedModel" "shows" "[I") ∈ aBIG := aBg5 108 rfl rfl
set_option maxRecDepth 20000 in
theorem bw1157 : (Cond.laysFinal "CatNeedModel" "CatNeedModel" "images" "[I") ∈ aBIG := aBg5 110 rfl rfl
set_option maxRecDepth 20000 in
theorem bw1159 : (Cond.laysFinal "CatNeedModel" "CatNeedModel" "isMade" "[Z") ∈ aBIG := aBg5 112 rfl rfl
set_option maxRecDepth 20000 in
theorem bw1161 : (Cond.lays "CatNeedModel" "CatNeedModel" "imageAt" "I") ∈ aBIG := aBg5 114 rfl rfl
set_option maxRecDepth 20000 in
theorem bw1163 : (Cond.lays "CatNeedModel" "CatNeedModel" "goesBack" "Z") ∈ aBIG := aBg5 116 rfl rfl
set_option maxRecDepth 20000 in
theorem bw1166 : (Cond.arrayClass FieldType.boolean) ∈ aBIG := aBg5 119 rfl rfl
set_option maxRecDepth 20000 in
theorem bw1167 : (Cond.methodLink "CatNeedLaw" (17 : Nat) ({ cls := "CatNeedModel", name := "feed", desc := "(IIIII)I" } : MethodName)) ∈ aBIG := aBg5 120 rfl rfl
set_option maxRecDepth 20000 in
theorem bw1168 : (Cond.instanceMethod ({ cls := "CatNeedModel", name := "feed", desc := "(IIIII)I" } : MethodName)) ∈ aBIG := aBg5 121 rfl rfl
set_option maxRecDepth 20000 in
theorem bw1169 : (Cond.selects "CatNeedModel" ({ cls := "CatNeedModel", name := "feed", desc := "(IIIII)I" } : MethodName) ({ cls := "CatNeedModel", name := "feed", desc := "(IIIII)I" } : MethodName)) ∈ aBIG := aBg5 122 rfl rfl
set_option maxRecDepth 20000 in
theorem bw1170 : (Cond.code ({ cls := "CatNeedModel", name := "feed", desc := "(IIIII)I" } : MethodName) prog_10_method_10_code (6 : Nat) (Option.some FieldType.int)) ∈ aBIG := aBg5 123 rfl rfl
set_option maxRecDepth 20000 in
theorem bw1171 : (Cond.methodLink "CatNeedModel" (168 : Nat) ({ cls := "CatNeedModel", name := "put", desc := "(I)V" } : MethodName)) ∈ aBIG := aBg5 124 rfl rfl
set_option maxRecDepth 20000 in
theorem bw1173 : (Cond.instanceMethod ({ cls := "CatNeedModel", name := "put", desc := "(I)V" } : MethodName)) ∈ aBIG := aBg5 126 rfl rfl
set_option maxRecDepth 20000 in
theorem bw1174 : (Cond.code ({ cls := "CatNeedModel", name := "put", desc := "(I)V" } : MethodName) prog_10_method_11_code (3 : Nat) (none : Option FieldType)) ∈ aBIG := aBg5 127 rfl rfl
set_option maxRecDepth 20000 in
theorem bw1175 : (Cond.methodLink "CatNeedLaw" (22 : Nat) ({ cls := "CatNeedModel", name := "end", desc := "(I)I" } : MethodName)) ∈ aBIG := aBg5 128 rfl rfl
set_option maxRecDepth 20000 in
theorem bw1176 : (Cond.instanceMethod ({ cls := "CatNeedModel", name := "end", desc := "(I)I" } : MethodName)) ∈ aBIG := aBg5 129 rfl rfl
set_option maxRecDepth 20000 in
theorem bw1177 : (Cond.selects "CatNeedModel" ({ cls := "CatNeedModel", name := "end", desc := "(I)I" } : MethodName) ({ cls := "CatNeedModel", name := "end", desc := "(I)I" } : MethodName)) ∈ aBIG := aBg5 130 rfl rfl
set_option maxRecDepth 20000 in
theorem bw1178 : (Cond.code ({ cls := "CatNeedModel", name := "end", desc := "(I)I" } : MethodName) prog_10_method_12_code (2 : Nat) (Option.some FieldType.int)) ∈ aBIG := aBg5 131 rfl rfl
set_option maxRecDepth 20000 in
theorem bw1179 : (Cond.methodLink "CatNeedLaw" (27 : Nat) ({ cls := "CatNeedModel", name := "room", desc := "()I" } : MethodName)) ∈ aBIG := aBg5 132 rfl rfl
set_option maxRecDepth 20000 in
theorem bw1180 : (Cond.instanceMethod ({ cls := "CatNeedModel", name := "room", desc := "()I" } : MethodName)) ∈ aBIG := aBg5 133 rfl rfl
set_option maxRecDepth 20000 in
theorem bw1181 : (Cond.selects "CatNeedModel" ({ cls := "CatNeedModel", name := "room", desc := "()I" } : MethodName) ({ cls := "CatNeedModel", name := "room", desc := "()I" } : MethodName)) ∈ aBIG := aBg5 134 rfl rfl
set_option maxRecDepth 20000 in
theorem bw1182 : (Cond.code ({ cls := "CatNeedModel", name := "room", desc := "()I" } : MethodName) prog_10_method_42_code (2 : Nat) (Option.some FieldType.int)) ∈ aBIG := aBg5 135 rfl rfl
set_option maxRecDepth 20000 in
theorem bw1183 : (Cond.methodLink "CatNeedModel" (317 : Nat) ({ cls := "CatNeedModel", name := "readsAll", desc := "()V" } : MethodName)) ∈ aBIG := aBg5 136 rfl rfl
set_option maxRecDepth 20000 in
theorem bw1185 : (Cond.instanceMethod ({ cls := "CatNeedModel", name := "readsAll", desc := "()V" } : MethodName)) ∈ aBIG := aBg5 138 rfl rfl
set_option maxRecDepth 20000 in
theorem bw1186 : (Cond.code ({ cls := "CatNeedModel", name := "readsAll", desc := "()V" } : MethodName) prog_10_method_40_code (3 : Nat) (none : Option FieldType)) ∈ aBIG := aBg5 139 rfl rfl
set_option maxRecDepth 20000 in
theorem bw1187 : (Cond.methodLink "CatNeedModel" (304 : Nat) ({ cls := "CatNeedModel", name := "starts", desc := "()V" } : MethodName)) ∈ aBIG := aBg5 140 rfl rfl
set_option maxRecDepth 20000 in
theorem bw1189 : (Cond.instanceMethod ({ cls := "CatNeedModel", name := "starts", desc := "()V" } : MethodName)) ∈ aBIG := aBg5 142 rfl rfl
set_option maxRecDepth 20000 in
theorem bw1190 : (Cond.code ({ cls := "CatNeedModel", name := "starts", desc := "()V" } : MethodName) prog_10_method_39_code (1 : Nat) (none : Option FieldType)) ∈ aBIG := aBg5 143 rfl rfl
set_option maxRecDepth 20000 in
theorem bw1191 : (Cond.methodLink "CatNeedModel" (307 : Nat) ({ cls := "CatNeedModel", name := "roomClause", desc := "(I)V" } : MethodName)) ∈ aBIG := aBg5 144 rfl rfl
set_option maxRecDepth 20000 in
theorem bw1193 : (Cond.instanceMethod ({ cls := "CatNeedModel", name := "roomClause", desc := "(I)V" } : MethodName)) ∈ aBIG := aBg5 146 rfl rfl
set_option maxRecDepth 20000 in
theorem bw1194 : (Cond.code ({ cls := "CatNeedModel", name := "roomClause", desc := "(I)V" } : MethodName) prog_10_method_36_code (4 : Nat) (none : Option FieldType)) ∈ aBIG := aBg5 147 rfl rfl
set_option maxRecDepth 20000 in
theorem bw1195 : (Cond.methodLink "CatNeedModel" (211 : Nat) ({ cls := "CatNeedModel", name := "blanks", desc := "()V" } : MethodName)) ∈ aBIG := aBg5 148 rfl rfl
set_option maxRecDepth 20000 in
theorem bw1197 : (Cond.instanceMethod ({ cls := "CatNeedModel", name := "blanks", desc := "()V" } : MethodName)) ∈ aBIG := aBg5 150 rfl rfl
set_option maxRecDepth 20000 in
theorem bw1198 : (Cond.code ({ cls := "CatNeedModel", name := "blanks", desc := "()V" } : MethodName) prog_10_method_16_code (1 : Nat) (none : Option FieldType)) ∈ aBIG := aBg5 151 rfl rfl
set_option maxRecDepth 20000 in
theorem bw1199 : (Cond.methodLink "CatNeedModel" (194 : Nat) ({ cls := "CatNeedModel", name := "sign", desc := "()I" } : MethodName)) ∈ aBIG := aBg5 152 rfl rfl
set_option maxRecDepth 20000 in
theorem bw1201 : (Cond.instanceMethod ({ cls := "CatNeedModel", name := "sign", desc := "()I" } : MethodName)) ∈ aBIG := aBg5 154 rfl rfl
set_option maxRecDepth 20000 in
theorem bw1202 : (Cond.code ({ cls := "CatNeedModel", name := "sign", desc := "()I" } : MethodName) prog_10_method_15_code (1 : Nat) (Option.some FieldType.int)) ∈ aBIG := aBg5 155 rfl rfl
set_option maxRecDepth 20000 in
theorem bw1203 : (Cond.methodLink "CatNeedModel" (294 : Nat) ({ cls := "CatNeedModel", name := "roomWord", desc := "(I)Ljava/lang/String;" } : MethodName)) ∈ aBIG := aBg5 156 rfl rfl
set_option maxRecDepth 20000 in
theorem bw1204 : (Cond.static ({ cls := "CatNeedModel", name := "roomWord", desc := "(I)Ljava/lang/String;" } : MethodName)) ∈ aBIG := aBg5 157 rfl rfl
set_option maxRecDepth 20000 in
theorem bw1205 : (Cond.code ({ cls := "CatNeedModel", name := "roomWord", desc := "(I)Ljava/lang/String;" } : MethodName) prog_10_method_33_code (1 : Nat) (Option.some (FieldType.object "java/lang/String"))) ∈ aBIG := aBg5 158 rfl rfl
set_option maxRecDepth 20000 in
theorem bw1210 : (Cond.methodLink "CatNeedModel" (214 : Nat) ({ cls := "CatNeedModel", name := "stood", desc := "(Ljava/lang/String;)Z" } : MethodName)) ∈ aBIG := aBg5 163 rfl rfl
set_option maxRecDepth 20000 in
theorem bw1212 : (Cond.instanceMethod ({ cls := "CatNeedModel", name := "stood", desc := "(Ljava/lang/String;)Z" } : MethodName)) ∈ aBIG := aBg5 165 rfl rfl
set_option maxRecDepth 20000 in
theorem bw1213 : (Cond.code ({ cls := "CatNeedModel", name := "stood", desc := "(Ljava/lang/String;)Z" } : MethodName) prog_10_method_18_code (5 : Nat) (Option.some FieldType.boolean)) ∈ aBIG := aBg5 166 rfl rfl
set_option maxRecDepth 20000 in
theorem bw1214 : (Cond.methodLink "CatNeedModel" (202 : Nat) ({ cls := "java/lang/String", name := "length", desc := "()I" } : MethodName)) ∈ aBIG := aBg5 167 rfl rfl
set_option maxRecDepth 20000 in
theorem bw1215 : (Cond.methodLink "CatNeedModel" (207 : Nat) ({ cls := "java/lang/String", name := "charAt", desc := "(I)C" } : MethodName)) ∈ aBIG := aBg5 168 rfl rfl
set_option maxRecDepth 20000 in
theorem bw1216 : (Cond.methodLink "CatNeedModel" (227 : Nat) ({ cls := "CatNeedModel", name := "fails", desc := "(II)V" } : MethodName)) ∈ aBIG := aBg5 169 rfl rfl
set_option maxRecDepth 20000 in
theorem bw1218 : (Cond.instanceMethod ({ cls := "CatNeedModel", name := "fails", desc := "(II)V" } : MethodName)) ∈ aBIG := aBg5 171 rfl rfl
set_option maxRecDepth 20000 in
theorem bw1219 : (Cond.code ({ cls := "CatNeedModel", name := "fails", desc := "(II)V" } : MethodName) prog_10_method_14_code (3 : Nat) (none : Option FieldType)) ∈ aBIG := aBg5 172 rfl rfl
set_option maxRecDepth 20000 in
theorem bw1220 : (Cond.methodLink "CatNeedModel" (297 : Nat) ({ cls := "CatNeedModel", name := "isFull", desc := "(II)Z" } : MethodName)) ∈ aBIG := aBg5 173 rfl rfl
set_option maxRecDepth 20000 in
theorem bw1222 : (Cond.instanceMethod ({ cls := "CatNeedModel", name := "isFull", desc := "(II)Z" } : MethodName)) ∈ aBIG := aBg5 175 rfl rfl
set_option maxRecDepth 20000 in
theorem bw1223 : (Cond.code ({ cls := "CatNeedModel", name := "isFull", desc := "(II)Z" } : MethodName) prog_10_method_35_code (3 : Nat) (Option.some FieldType.boolean)) ∈ aBIG := aBg5 176 rfl rfl
set_option maxRecDepth 20000 in
theorem bw1224 : (Cond.methodLink "CatNeedModel" (301 : Nat) ({ cls := "CatNeedModel", name := "roomPart", desc := "(I)V" } : MethodName)) ∈ aBIG := aBg5 177 rfl rfl
set_option maxRecDepth 20000 in
theorem bw1226 : (Cond.instanceMethod ({ cls := "CatNeedModel", name := "roomPart", desc := "(I)V" } : MethodName)) ∈ aBIG := aBg5 179 rfl rfl
set_option maxRecDepth 20000 in
theorem bw1227 : (Cond.code ({ cls := "CatNeedModel", name := "roomPart", desc := "(I)V" } : MethodName) prog_10_method_34_code (3 : Nat) (none : Option FieldType)) ∈ aBIG := aBg5 180 rfl rfl
set_option maxRecDepth 20000 in
theorem bw1228 : (Cond.methodLink "CatNeedModel" (290 : Nat) ({ cls := "CatNeedModel", name := "amount", desc := "(II)I" } : MethodName)) ∈ aBIG := aBg5 181 rfl rfl
set_option maxRecDepth 20000 in
theorem bw1230 : (Cond.instanceMethod ({ cls := "CatNeedModel", name := "amount", desc := "(II)I" } : MethodName)) ∈ aBIG := aBg5 183 rfl rfl
set_option maxRecDepth 20000 in
theorem bw1231 : (Cond.code ({ cls := "CatNeedModel", name := "amount", desc := "(II)I" } : MethodName) prog_10_method_32_code (5 : Nat) (Option.some FieldType.int)) ∈ aBIG := aBg5 184 rfl rfl
set_option maxRecDepth 20000 in
theorem bw1232 : (Cond.constant "CatNeedModel" (235 : Nat) (99999 : Int32)) ∈ aBIG := aBg5 185 rfl rfl
set_option maxRecDepth 20000 in
theorem bw1233 : (Cond.methodLink "CatNeedModel" (236 : Nat) ({ cls := "CatNeedModel", name := "digits", desc := "(I)I" } : MethodName)) ∈ aBIG := aBg5 186 rfl rfl
set_option maxRecDepth 20000 in
theorem bw1235 : (Cond.instanceMethod ({ cls := "CatNeedModel", name := "digits", desc := "(I)I" } : MethodName)) ∈ aBIG := aBg5 188 rfl rfl
set_option maxRecDepth 20000 in
theorem bw1236 : (Cond.code ({ cls := "CatNeedModel", name := "digits", desc := "(I)I" } : MethodName) prog_10_method_22_code (4 : Nat) (Option.some FieldType.int)) ∈ aBIG := aBg5 189 rfl rfl
set_option maxRecDepth 20000 in
theorem bw1237 : (Cond.methodLink "CatNeedModel" (231 : Nat) ({ cls := "CatNeedModel", name := "isDigit", desc := "()Z" } : MethodName)) ∈ aBIG := aBg5 190 rfl rfl
set_option maxRecDepth 20000 in
theorem bw1239 : (Cond.instanceMethod ({ cls := "CatNeedModel", name := "isDigit", desc := "()Z" } : MethodName)) ∈ aBIG := aBg5 192 rfl rfl
set_option maxRecDepth 20000 in
theorem bw1240 : (Cond.code ({ cls := "CatNeedModel", name := "isDigit", desc := "()Z" } : MethodName) prog_10_method_17_code (1 : Nat) (Option.some FieldType.boolean)) ∈ aBIG := aBg5 193 rfl rfl
set_option maxRecDepth 20000 in
theorem bw1241 : (Cond.constantLong "CatNeedModel" (198 : Nat) (48 : Int64)) ∈ aBIG := aBg5 194 rfl rfl
set_option maxRecDepth 20000 in
theorem bw1242 : (Cond.constantLong "CatNeedModel" (200 : Nat) (57 : Int64)) ∈ aBIG := aBg5 195 rfl rfl
set_option maxRecDepth 20000 in
theorem bw1243 : (Cond.methodLink "CatNeedModel" (161 : Nat) ({ cls := "CatNeedModel", name := "in", desc := "(JJJ)Z" } : MethodName)) ∈ aBIG := aBg5 196 rfl rfl
set_option maxRecDepth 20000 in
theorem bw1244 : (Cond.static ({ cls := "CatNeedModel", name := "in", desc := "(JJJ)Z" } : MethodName)) ∈ aBIG := aBg5 197 rfl rfl
set_option maxRecDepth 20000 in
theorem bw1245 : (Cond.code ({ cls := "CatNeedModel", name := "in", desc := "(JJJ)Z" } : MethodName) prog_10_method_3_code (6 : Nat) (Option.some FieldType.boolean)) ∈ aBIG := aBg5 198 rfl rfl
set_option maxRecDepth 20000 in
theorem bw1246 : (Cond.methodLink "CatNeedModel" (310 : Nat) ({ cls := "CatNeedModel", name := "goesOn", desc := "()Z" } : MethodName)) ∈ aBIG := aBg5 199 rfl rfl
set_option maxRecDepth 20000 in
theorem bw1248 : (Cond.instanceMethod ({ cls := "CatNeedModel", name := "goesOn", desc := "()Z" } : MethodName)) ∈ aBIG := aBg5 201 rfl rfl
set_option maxRecDepth 20000 in
theorem bw1249 : (Cond.code ({ cls := "CatNeedModel", name := "goesOn", desc := "()Z" } : MethodName) prog_10_method_38_code (2 : Nat) (Option.some FieldType.boolean)) ∈ aBIG := aBg5 202 rfl rfl
set_option maxRecDepth 20000 in
theorem bw1250 : (Cond.methodLink "CatNeedModel" (313 : Nat) ({ cls := "CatNeedModel", name := "copies", desc := "([I[I)V" } : MethodName)) ∈ aBIG := aBg5 203 rfl rfl
set_option maxRecDepth 20000 in
theorem bw1251 : (Cond.static ({ cls := "CatNeedModel", name := "copies", desc := "([I[I)V" } : MethodName)) ∈ aBIG := aBg5 204 rfl rfl
set_option maxRecDepth 20000 in
theorem bw1252 : (Cond.code ({ cls := "CatNeedModel", name := "copies", desc := "([I[I)V" } : MethodName) prog_10_method_37_code (3 : Nat) (none : Option FieldType)) ∈ aBIG := aBg5 205 rfl rfl
set_option maxRecDepth 20000 in
theorem bw1253 : (Cond.methodLink "CatNeedModel" (320 : Nat) ({ cls := "CatNeedModel", name := "begins", desc := "()V" } : MethodName)) ∈ aBIG := aBg5 206 rfl rfl
set_option maxRecDepth 20000 in
theorem bw1255 : (Cond.instanceMethod ({ cls := "CatNeedModel", name := "begins", desc := "()V" } : MethodName)) ∈ aBIG := aBg5 208 rfl rfl
set_option maxRecDepth 20000 in
theorem bw1256 : (Cond.code ({ cls := "CatNeedModel", name := "begins", desc := "()V" } : MethodName) prog_10_method_41_code (2 : Nat) (none : Option FieldType)) ∈ aBIG := aBg5 209 rfl rfl
set_option maxRecDepth 20000 in
theorem bw1257 : (Cond.methodLink "CatNeedLaw" (31 : Nat) ({ cls := "CatNeedModel", name := "rule", desc := "()I" } : MethodName)) ∈ aBIG := aBg5 210 rfl rfl
set_option maxRecDepth 20000 in
theorem bw1258 : (Cond.instanceMethod ({ cls := "CatNeedModel", name := "rule", desc := "()I" } : MethodName)) ∈ aBIG := aBg5 211 rfl rfl
set_option maxRecDepth 20000 in
theorem bw1259 : (Cond.selects "CatNeedModel" ({ cls := "CatNeedModel", name := "rule", desc := "()I" } : MethodName) ({ cls := "CatNeedModel", name := "rule", desc := "()I" } : MethodName)) ∈ aBIG := aBg5 212 rfl rfl
set_option maxRecDepth 20000 in
theorem bw1260 : (Cond.code ({ cls := "CatNeedModel", name := "rule", desc := "()I" } : MethodName) prog_10_method_44_code (3 : Nat) (Option.some FieldType.int)) ∈ aBIG := aBg5 213 rfl rfl
set_option maxRecDepth 20000 in
theorem bw1261 : (Cond.methodLink "CatNeedModel" (339 : Nat) ({ cls := "CatNeedModel", name := "ruleClause", desc := "(I)V" } : MethodName)) ∈ aBIG := aBg5 214 rfl rfl
set_option maxRecDepth 20000 in
theorem bw1263 : (Cond.instanceMethod ({ cls := "CatNeedModel", name := "ruleClause", desc := "(I)V" } : MethodName)) ∈ aBIG := aBg5 216 rfl rfl
set_option maxRecDepth 20000 in
theorem bw1264 : (Cond.code ({ cls := "CatNeedModel", name := "ruleClause", desc := "(I)V" } : MethodName) prog_10_method_43_code (4 : Nat) (none : Option FieldType)) ∈ aBIG := aBg5 217 rfl rfl
set_option maxRecDepth 20000 in
theorem bw1266 : (Cond.methodLink "CatNeedModel" (256 : Nat) ({ cls := "CatNeedModel", name := "sum", desc := "()V" } : MethodName)) ∈ aBIG := aBg5 219 rfl rfl
set_option maxRecDepth 20000 in
theorem bw1268 : (Cond.instanceMethod ({ cls := "CatNeedModel", name := "sum", desc := "()V" } : MethodName)) ∈ aBIG := aBg5 221 rfl rfl
set_option maxRecDepth 20000 in
theorem bw1269 : (Cond.code ({ cls := "CatNeedModel", name := "sum", desc := "()V" } : MethodName) prog_10_method_25_code (2 : Nat) (none : Option FieldType)) ∈ aBIG := aBg5 222 rfl rfl
set_option maxRecDepth 20000 in
theorem bw1270 : (Cond.methodLink "CatNeedModel" (253 : Nat) ({ cls := "CatNeedModel", name := "term", desc := "()V" } : MethodName)) ∈ aBIG := aBg5 223 rfl rfl
set_option maxRecDepth 20000 in
theorem bw1272 : (Cond.instanceMethod ({ cls := "CatNeedModel", name := "term", desc := "()V" } : MethodName)) ∈ aBIG := aBg5 225 rfl rfl
set_option maxRecDepth 20000 in
theorem bw1273 : (Cond.code ({ cls := "CatNeedModel", name := "term", desc := "()V" } : MethodName) prog_10_method_24_code (2 : Nat) (none : Option FieldType)) ∈ aBIG := aBg5 226 rfl rfl
set_option maxRecDepth 20000 in
theorem bw1274 : (Cond.methodLink "CatNeedModel" (250 : Nat) ({ cls := "CatNeedModel", name := "value", desc := "()V" } : MethodName)) ∈ aBIG := aBg5 227 rfl rfl
set_option maxRecDepth 20000 in
theorem bw1276 : (Cond.instanceMethod ({ cls := "CatNeedModel", name := "value", desc := "()V" } : MethodName)) ∈ aBIG := aBg5 229 rfl rfl
set_option maxRecDepth 20000 in
theorem bw1277 : (Cond.code ({ cls := "CatNeedModel", name := "value", desc := "()V" } : MethodName) prog_10_method_23_code (3 : Nat) (none : Option FieldType)) ∈ aBIG := aBg5 230 rfl rfl
set_option maxRecDepth 20000 in
theorem bw1278 : (Cond.methodLink "CatNeedModel" (240 : Nat) ({ cls := "CatNeedModel", name := "isCounted", desc := "(I)V" } : MethodName)) ∈ aBIG := aBg5 231 rfl rfl
set_option maxRecDepth 20000 in
theorem bw1280 : (Cond.instanceMethod ({ cls := "CatNeedModel", name := "isCounted", desc := "(I)V" } : MethodName)) ∈ aBIG := aBg5 233 rfl rfl
set_option maxRecDepth 20000 in
theorem bw1281 : (Cond.code ({ cls := "CatNeedModel", name := "isCounted", desc := "(I)V" } : MethodName) prog_10_method_21_code (2 : Nat) (none : Option FieldType)) ∈ aBIG := aBg5 234 rfl rfl
set_option maxRecDepth 20000 in
theorem bw1282 : (Cond.methodLink "CatNeedModel" (243 : Nat) ({ cls := "CatNeedModel", name := "entry", desc := "(II)V" } : MethodName)) ∈ aBIG := aBg5 235 rfl rfl
set_option maxRecDepth 20000 in
theorem bw1284 : (Cond.instanceMethod ({ cls := "CatNeedModel", name := "entry", desc := "(II)V" } : MethodName)) ∈ aBIG := aBg5 237 rfl rfl
set_option maxRecDepth 20000 in
theorem bw1285 : (Cond.code ({ cls := "CatNeedModel", name := "entry", desc := "(II)V" } : MethodName) prog_10_method_20_code (3 : Nat) (none : Option FieldType)) ∈ aBIG := aBg5 238 rfl rfl
set_option maxRecDepth 20000 in
theorem bw1286 : (Cond.methodLink "CatNeedModel" (246 : Nat) ({ cls := "CatNeedModel", name := "wordOf", desc := "(I)Ljava/lang/String;" } : MethodName)) ∈ aBIG := aBg5 239 rfl rfl
set_option maxRecDepth 20000 in
theorem bw1287 : (Cond.static ({ cls := "CatNeedModel", name := "wordOf", desc := "(I)Ljava/lang/String;" } : MethodName)) ∈ aBIG := aBg6 0 rfl rfl
set_option maxRecDepth 20000 in
theorem bw1288 : (Cond.code ({ cls := "CatNeedModel", name := "wordOf", desc := "(I)Ljava/lang/String;" } : MethodName) prog_10_method_13_code (1 : Nat) (Option.some (FieldType.object "java/lang/String"))) ∈ aBIG := aBg6 1 rfl rfl
set_option maxRecDepth 20000 in
theorem bw1299 : (Cond.methodLink "CatNeedModel" (330 : Nat) ({ cls := "CatNeedModel", name := "takes", desc := "(Ljava/lang/String;)Z" } : MethodName)) ∈ aBIG := aBg6 12 rfl rfl
set_option maxRecDepth 20000 in
theorem bw1301 : (Cond.instanceMethod ({ cls := "CatNeedModel", name := "takes", desc := "(Ljava/lang/String;)Z" } : MethodName)) ∈ aBIG := aBg6 14 rfl rfl
set_option maxRecDepth 20000 in
theorem bw1302 : (Cond.code ({ cls := "CatNeedModel", name := "takes", desc := "(Ljava/lang/String;)Z" } : MethodName) prog_10_method_19_code (3 : Nat) (Option.some FieldType.boolean)) ∈ aBIG := aBg6 15 rfl rfl
set_option maxRecDepth 20000 in
theorem bw1303 : (Cond.methodLink "CatNeedModel" (333 : Nat) ({ cls := "CatNeedModel", name := "test", desc := "()V" } : MethodName)) ∈ aBIG := aBg6 16 rfl rfl
set_option maxRecDepth 20000 in
theorem bw1305 : (Cond.instanceMethod ({ cls := "CatNeedModel", name := "test", desc := "()V" } : MethodName)) ∈ aBIG := aBg6 18 rfl rfl
set_option maxRecDepth 20000 in
theorem bw1306 : (Cond.code ({ cls := "CatNeedModel", name := "test", desc := "()V" } : MethodName) prog_10_method_31_code (5 : Nat) (none : Option FieldType)) ∈ aBIG := aBg6 19 rfl rfl
set_option maxRecDepth 20000 in
theorem bw1307 : (Cond.methodLink "CatNeedModel" (276 : Nat) ({ cls := "CatNeedModel", name := "fact", desc := "()Z" } : MethodName)) ∈ aBIG := aBg6 20 rfl rfl
set_option maxRecDepth 20000 in
theorem bw1309 : (Cond.instanceMethod ({ cls := "CatNeedModel", name := "fact", desc := "()Z" } : MethodName)) ∈ aBIG := aBg6 22 rfl rfl
set_option maxRecDepth 20000 in
theorem bw1310 : (Cond.code ({ cls := "CatNeedModel", name := "fact", desc := "()Z" } : MethodName) prog_10_method_30_code (1 : Nat) (Option.some FieldType.boolean)) ∈ aBIG := aBg6 23 rfl rfl
set_option maxRecDepth 20000 in
theorem bw1312 : (Cond.methodLink "CatNeedModel" (270 : Nat) ({ cls := "CatNeedModel", name := "opens", desc := "(I)V" } : MethodName)) ∈ aBIG := aBg6 25 rfl rfl
set_option maxRecDepth 20000 in
theorem bw1314 : (Cond.instanceMethod ({ cls := "CatNeedModel", name := "opens", desc := "(I)V" } : MethodName)) ∈ aBIG := aBg6 27 rfl rfl
set_option maxRecDepth 20000 in
theorem bw1315 : (Cond.code ({ cls := "CatNeedModel", name := "opens", desc := "(I)V" } : MethodName) prog_10_method_28_code (2 : Nat) (none : Option FieldType)) ∈ aBIG := aBg6 28 rfl rfl
set_option maxRecDepth 20000 in
theorem bw1316 : (Cond.methodLink "CatNeedModel" (273 : Nat) ({ cls := "CatNeedModel", name := "compared", desc := "()V" } : MethodName)) ∈ aBIG := aBg6 29 rfl rfl
set_option maxRecDepth 20000 in
theorem bw1318 : (Cond.instanceMethod ({ cls := "CatNeedModel", name := "compared", desc := "()V" } : MethodName)) ∈ aBIG := aBg6 31 rfl rfl
set_option maxRecDepth 20000 in
theorem bw1319 : (Cond.code ({ cls := "CatNeedModel", name := "compared", desc := "()V" } : MethodName) prog_10_method_26_code (3 : Nat) (none : Option FieldType)) ∈ aBIG := aBg6 32 rfl rfl
set_option maxRecDepth 20000 in
theorem bw1320 : (Cond.methodLink "CatNeedModel" (279 : Nat) ({ cls := "CatNeedModel", name := "answers", desc := "(I)V" } : MethodName)) ∈ aBIG := aBg6 33 rfl rfl
set_option maxRecDepth 20000 in
theorem bw1322 : (Cond.instanceMethod ({ cls := "CatNeedModel", name := "answers", desc := "(I)V" } : MethodName)) ∈ aBIG := aBg6 35 rfl rfl
set_option maxRecDepth 20000 in
theorem bw1323 : (Cond.code ({ cls := "CatNeedModel", name := "answers", desc := "(I)V" } : MethodName) prog_10_method_29_code (2 : Nat) (none : Option FieldType)) ∈ aBIG := aBg6 36 rfl rfl
set_option maxRecDepth 20000 in
theorem bw1324 : (Cond.methodLink "CatNeedModel" (265 : Nat) ({ cls := "CatNeedModel", name := "top", desc := "()I" } : MethodName)) ∈ aBIG := aBg6 37 rfl rfl
set_option maxRecDepth 20000 in
theorem bw1326 : (Cond.instanceMethod ({ cls := "CatNeedModel", name := "top", desc := "()I" } : MethodName)) ∈ aBIG := aBg6 39 rfl rfl
set_option maxRecDepth 20000 in
theorem bw1327 : (Cond.code ({ cls := "CatNeedModel", name := "top", desc := "()I" } : MethodName) prog_10_method_27_code (1 : Nat) (Option.some FieldType.int)) ∈ aBIG := aBg6 40 rfl rfl
set_option maxRecDepth 20000 in
theorem bw1330 : (Cond.methodLink "CatNeedLaw" (35 : Nat) ({ cls := "CatNeedModel", name := "force", desc := "(I)I" } : MethodName)) ∈ aBIG := aBg6 43 rfl rfl
set_option maxRecDepth 20000 in
theorem bw1331 : (Cond.instanceMethod ({ cls := "CatNeedModel", name := "force", desc := "(I)I" } : MethodName)) ∈ aBIG := aBg6 44 rfl rfl
set_option maxRecDepth 20000 in
theorem bw1332 : (Cond.selects "CatNeedModel" ({ cls := "CatNeedModel", name := "force", desc := "(I)I" } : MethodName) ({ cls := "CatNeedModel", name := "force", desc := "(I)I" } : MethodName)) ∈ aBIG := aBg6 45 rfl rfl
set_option maxRecDepth 20000 in
theorem bw1333 : (Cond.code ({ cls := "CatNeedModel", name := "force", desc := "(I)I" } : MethodName) prog_10_method_45_code (3 : Nat) (Option.some FieldType.int)) ∈ aBIG := aBg6 46 rfl rfl
set_option maxRecDepth 20000 in
theorem bw1334 : (Cond.constantLong "CatNeedModel" (342 : Nat) (-1 : Int64)) ∈ aBIG := aBg6 47 rfl rfl
set_option maxRecDepth 20000 in
theorem bw1335 : (Cond.methodLink "CatNeedLaw" (40 : Nat) ({ cls := "CatNeedModel", name := "thing", desc := "(II)I" } : MethodName)) ∈ aBIG := aBg6 48 rfl rfl
set_option maxRecDepth 20000 in
theorem bw1336 : (Cond.instanceMethod ({ cls := "CatNeedModel", name := "thing", desc := "(II)I" } : MethodName)) ∈ aBIG := aBg6 49 rfl rfl
set_option maxRecDepth 20000 in
theorem bw1337 : (Cond.selects "CatNeedModel" ({ cls := "CatNeedModel", name := "thing", desc := "(II)I" } : MethodName) ({ cls := "CatNeedModel", name := "thing", desc := "(II)I" } : MethodName)) ∈ aBIG := aBg6 50 rfl rfl
set_option maxRecDepth 20000 in
theorem bw1338 : (Cond.code ({ cls := "CatNeedModel", name := "thing", desc := "(II)I" } : MethodName) prog_10_method_54_code (3 : Nat) (Option.some FieldType.int)) ∈ aBIG := aBg6 51 rfl rfl
set_option maxRecDepth 20000 in
theorem bw1339 : (Cond.methodLink "CatNeedModel" (359 : Nat) ({ cls := "CatNeedModel", name := "isThing", desc := "(I)Z" } : MethodName)) ∈ aBIG := aBg6 52 rfl rfl
set_option maxRecDepth 20000 in
theorem bw1341 : (Cond.instanceMethod ({ cls := "CatNeedModel", name := "isThing", desc := "(I)Z" } : MethodName)) ∈ aBIG := aBg6 54 rfl rfl
set_option maxRecDepth 20000 in
theorem bw1342 : (Cond.code ({ cls := "CatNeedModel", name := "isThing", desc := "(I)Z" } : MethodName) prog_10_method_7_code (2 : Nat) (Option.some FieldType.boolean)) ∈ aBIG := aBg6 55 rfl rfl
set_option maxRecDepth 20000 in
theorem bw1343 : (Cond.methodLink "CatNeedModel" (363 : Nat) ({ cls := "CatNeedModel", name := "metOf", desc := "(I)I" } : MethodName)) ∈ aBIG := aBg6 56 rfl rfl
set_option maxRecDepth 20000 in
theorem bw1345 : (Cond.instanceMethod ({ cls := "CatNeedModel", name := "metOf", desc := "(I)I" } : MethodName)) ∈ aBIG := aBg6 58 rfl rfl
set_option maxRecDepth 20000 in
theorem bw1346 : (Cond.code ({ cls := "CatNeedModel", name := "metOf", desc := "(I)I" } : MethodName) prog_10_method_52_code (4 : Nat) (Option.some FieldType.int)) ∈ aBIG := aBg6 59 rfl rfl
set_option maxRecDepth 20000 in
theorem bw1347 : (Cond.methodLink "CatNeedModel" (366 : Nat) ({ cls := "CatNeedModel", name := "lostOf", desc := "(I)I" } : MethodName)) ∈ aBIG := aBg6 60 rfl rfl
set_option maxRecDepth 20000 in
theorem bw1349 : (Cond.instanceMethod ({ cls := "CatNeedModel", name := "lostOf", desc := "(I)I" } : MethodName)) ∈ aBIG := aBg6 62 rfl rfl
set_option maxRecDepth 20000 in
theorem bw1350 : (Cond.code ({ cls := "CatNeedModel", name := "lostOf", desc := "(I)I" } : MethodName) prog_10_method_53_code (4 : Nat) (Option.some FieldType.int)) ∈ aBIG := aBg6 63 rfl rfl
set_option maxRecDepth 20000 in
theorem bw1351 : (Cond.methodLink "CatNeedModel" (369 : Nat) ({ cls := "CatNeedModel", name := "catsOn", desc := "(I)I" } : MethodName)) ∈ aBIG := aBg6 64 rfl rfl
set_option maxRecDepth 20000 in
theorem bw1353 : (Cond.instanceMethod ({ cls := "CatNeedModel", name := "catsOn", desc := "(I)I" } : MethodName)) ∈ aBIG := aBg6 66 rfl rfl
set_option maxRecDepth 20000 in
theorem bw1354 : (Cond.code ({ cls := "CatNeedModel", name := "catsOn", desc := "(I)I" } : MethodName) prog_10_method_51_code (4 : Nat) (Option.some FieldType.int)) ∈ aBIG := aBg6 67 rfl rfl
set_option maxRecDepth 20000 in
theorem bw1355 : (Cond.methodLink "CatNeedLaw" (44 : Nat) ({ cls := "CatNeedModel", name := "cat", desc := "(II)I" } : MethodName)) ∈ aBIG := aBg6 68 rfl rfl
set_option maxRecDepth 20000 in
theorem bw1356 : (Cond.instanceMethod ({ cls := "CatNeedModel", name := "cat", desc := "(II)I" } : MethodName)) ∈ aBIG := aBg6 69 rfl rfl
set_option maxRecDepth 20000 in
theorem bw1357 : (Cond.selects "CatNeedModel" ({ cls := "CatNeedModel", name := "cat", desc := "(II)I" } : MethodName) ({ cls := "CatNeedModel", name := "cat", desc := "(II)I" } : MethodName)) ∈ aBIG := aBg6 70 rfl rfl
set_option maxRecDepth 20000 in
theorem bw1358 : (Cond.code ({ cls := "CatNeedModel", name := "cat", desc := "(II)I" } : MethodName) prog_10_method_55_code (3 : Nat) (Option.some FieldType.int)) ∈ aBIG := aBg6 71 rfl rfl
set_option maxRecDepth 20000 in
theorem bw1359 : (Cond.methodLink "CatNeedModel" (372 : Nat) ({ cls := "CatNeedModel", name := "isCat", desc := "(I)Z" } : MethodName)) ∈ aBIG := aBg6 72 rfl rfl
set_option maxRecDepth 20000 in
theorem bw1361 : (Cond.instanceMethod ({ cls := "CatNeedModel", name := "isCat", desc := "(I)Z" } : MethodName)) ∈ aBIG := aBg6 74 rfl rfl
set_option maxRecDepth 20000 in
theorem bw1362 : (Cond.code ({ cls := "CatNeedModel", name := "isCat", desc := "(I)Z" } : MethodName) prog_10_method_8_code (2 : Nat) (Option.some FieldType.boolean)) ∈ aBIG := aBg6 75 rfl rfl
set_option maxRecDepth 20000 in
theorem bw1363 : (Cond.methodLink "CatNeedLaw" (48 : Nat) ({ cls := "CatNeedModel", name := "need", desc := "(II)I" } : MethodName)) ∈ aBIG := aBg6 76 rfl rfl
set_option maxRecDepth 20000 in
theorem bw1364 : (Cond.instanceMethod ({ cls := "CatNeedModel", name := "need", desc := "(II)I" } : MethodName)) ∈ aBIG := aBg6 77 rfl rfl
set_option maxRecDepth 20000 in
theorem bw1365 : (Cond.selects "CatNeedModel" ({ cls := "CatNeedModel", name := "need", desc := "(II)I" } : MethodName) ({ cls := "CatNeedModel", name := "need", desc := "(II)I" } : MethodName)) ∈ aBIG := aBg6 78 rfl rfl
set_option maxRecDepth 20000 in
theorem bw1366 : (Cond.code ({ cls := "CatNeedModel", name := "need", desc := "(II)I" } : MethodName) prog_10_method_56_code (3 : Nat) (Option.some FieldType.int)) ∈ aBIG := aBg6 79 rfl rfl
set_option maxRecDepth 20000 in
theorem bw1367 : (Cond.methodLink "CatNeedModel" (375 : Nat) ({ cls := "CatNeedModel", name := "isNeed", desc := "(I)Z" } : MethodName)) ∈ aBIG := aBg6 80 rfl rfl
set_option maxRecDepth 20000 in
theorem bw1369 : (Cond.instanceMethod ({ cls := "CatNeedModel", name := "isNeed", desc := "(I)Z" } : MethodName)) ∈ aBIG := aBg6 82 rfl rfl
set_option maxRecDepth 20000 in
theorem bw1370 : (Cond.code ({ cls := "CatNeedModel", name := "isNeed", desc := "(I)Z" } : MethodName) prog_10_method_9_code (2 : Nat) (Option.some FieldType.boolean)) ∈ aBIG := aBg6 83 rfl rfl
set_option maxRecDepth 20000 in
theorem bw1371 : (Cond.methodLink "CatNeedModel" (356 : Nat) ({ cls := "CatNeedModel", name := "has", desc := "(II)Z" } : MethodName)) ∈ aBIG := aBg6 84 rfl rfl
set_option maxRecDepth 20000 in
theorem bw1372 : (Cond.static ({ cls := "CatNeedModel", name := "has", desc := "(II)Z" } : MethodName)) ∈ aBIG := aBg6 85 rfl rfl
set_option maxRecDepth 20000 in
theorem bw1373 : (Cond.code ({ cls := "CatNeedModel", name := "has", desc := "(II)Z" } : MethodName) prog_10_method_5_code (2 : Nat) (Option.some FieldType.boolean)) ∈ aBIG := aBg6 86 rfl rfl
set_option maxRecDepth 20000 in
theorem bw1374 : (Cond.methodLink "CatNeedLaw" (72 : Nat) ({ cls := "CatNeedModel", name := "undo", desc := "()I" } : MethodName)) ∈ aBIG := aBg6 87 rfl rfl
set_option maxRecDepth 20000 in
theorem bw1375 : (Cond.instanceMethod ({ cls := "CatNeedModel", name := "undo", desc := "()I" } : MethodName)) ∈ aBIG := aBg6 88 rfl rfl
set_option maxRecDepth 20000 in
theorem bw1376 : (Cond.selects "CatNeedModel" ({ cls := "CatNeedModel", name := "undo", desc := "()I" } : MethodName) ({ cls := "CatNeedModel", name := "undo", desc := "()I" } : MethodName)) ∈ aBIG := aBg6 89 rfl rfl
set_option maxRecDepth 20000 in
theorem bw1377 : (Cond.code ({ cls := "CatNeedModel", name := "undo", desc := "()I" } : MethodName) prog_10_method_68_code (1 : Nat) (Option.some FieldType.int)) ∈ aBIG := aBg6 90 rfl rfl
set_option maxRecDepth 20000 in
theorem bw1378 : (Cond.methodLink "CatNeedModel" (427 : Nat) ({ cls := "CatNeedModel", name := "movesAll", desc := "(IZ)V" } : MethodName)) ∈ aBIG := aBg6 91 rfl rfl
set_option maxRecDepth 20000 in
theorem bw1380 : (Cond.instanceMethod ({ cls := "CatNeedModel", name := "movesAll", desc := "(IZ)V" } : MethodName)) ∈ aBIG := aBg6 93 rfl rfl
set_option maxRecDepth 20000 in
theorem bw1381 : (Cond.code ({ cls := "CatNeedModel", name := "movesAll", desc := "(IZ)V" } : MethodName) prog_10_method_66_code (3 : Nat) (none : Option FieldType)) ∈ aBIG := aBg6 94 rfl rfl
set_option maxRecDepth 20000 in
theorem bw1382 : (Cond.methodLink "CatNeedModel" (420 : Nat) ({ cls := "CatNeedModel", name := "moves", desc := "(I)I" } : MethodName)) ∈ aBIG := aBg6 95 rfl rfl
set_option maxRecDepth 20000 in
theorem bw1384 : (Cond.instanceMethod ({ cls := "CatNeedModel", name := "moves", desc := "(I)I" } : MethodName)) ∈ aBIG := aBg6 97 rfl rfl
set_option maxRecDepth 20000 in
theorem bw1385 : (Cond.code ({ cls := "CatNeedModel", name := "moves", desc := "(I)I" } : MethodName) prog_10_method_64_code (3 : Nat) (Option.some FieldType.int)) ∈ aBIG := aBg6 98 rfl rfl
set_option maxRecDepth 20000 in
theorem bw1386 : (Cond.methodLink "CatNeedModel" (423 : Nat) ({ cls := "CatNeedModel", name := "movesRow", desc := "([I)V" } : MethodName)) ∈ aBIG := aBg6 99 rfl rfl
set_option maxRecDepth 20000 in
theorem bw1388 : (Cond.instanceMethod ({ cls := "CatNeedModel", name := "movesRow", desc := "([I)V" } : MethodName)) ∈ aBIG := aBg6 101 rfl rfl
set_option maxRecDepth 20000 in
theorem bw1389 : (Cond.code ({ cls := "CatNeedModel", name := "movesRow", desc := "([I)V" } : MethodName) prog_10_method_65_code (3 : Nat) (none : Option FieldType)) ∈ aBIG := aBg6 102 rfl rfl
set_option maxRecDepth 20000 in
theorem bw1390 : (Cond.methodLink "CatNeedLaw" (52 : Nat) ({ cls := "CatNeedModel", name := "minute", desc := "()I" } : MethodName)) ∈ aBIG := aBg6 103 rfl rfl
set_option maxRecDepth 20000 in
theorem bw1391 : (Cond.instanceMethod ({ cls := "CatNeedModel", name := "minute", desc := "()I" } : MethodName)) ∈ aBIG := aBg6 104 rfl rfl
set_option maxRecDepth 20000 in
theorem bw1392 : (Cond.selects "CatNeedModel" ({ cls := "CatNeedModel", name := "minute", desc := "()I" } : MethodName) ({ cls := "CatNeedModel", name := "minute", desc := "()I" } : MethodName)) ∈ aBIG := aBg6 105 rfl rfl
set_option maxRecDepth 20000 in
theorem bw1393 : (Cond.code ({ cls := "CatNeedModel", name := "minute", desc := "()I" } : MethodName) prog_10_method_69_code (1 : Nat) (Option.some FieldType.int)) ∈ aBIG := aBg6 106 rfl rfl
set_option maxRecDepth 20000 in
theorem bw1394 : (Cond.methodLink "CatNeedModel" (431 : Nat) ({ cls := "CatNeedModel", name := "isRoom", desc := "()Z" } : MethodName)) ∈ aBIG := aBg6 107 rfl rfl
set_option maxRecDepth 20000 in
theorem bw1396 : (Cond.instanceMethod ({ cls := "CatNeedModel", name := "isRoom", desc := "()Z" } : MethodName)) ∈ aBIG := aBg6 109 rfl rfl
set_option maxRecDepth 20000 in
theorem bw1397 : (Cond.code ({ cls := "CatNeedModel", name := "isRoom", desc := "()Z" } : MethodName) prog_10_method_6_code (1 : Nat) (Option.some FieldType.boolean)) ∈ aBIG := aBg6 110 rfl rfl
set_option maxRecDepth 20000 in
theorem bw1398 : (Cond.methodLink "CatNeedModel" (434 : Nat) ({ cls := "CatNeedModel", name := "keepsAct", desc := "()V" } : MethodName)) ∈ aBIG := aBg6 111 rfl rfl
set_option maxRecDepth 20000 in
theorem bw1400 : (Cond.instanceMethod ({ cls := "CatNeedModel", name := "keepsAct", desc := "()V" } : MethodName)) ∈ aBIG := aBg6 113 rfl rfl
set_option maxRecDepth 20000 in
theorem bw1401 : (Cond.code ({ cls := "CatNeedModel", name := "keepsAct", desc := "()V" } : MethodName) prog_10_method_67_code (2 : Nat) (none : Option FieldType)) ∈ aBIG := aBg6 114 rfl rfl
set_option maxRecDepth 20000 in
theorem bw1402 : (Cond.methodLink "CatNeedModel" (410 : Nat) ({ cls := "CatNeedModel", name := "goes", desc := "()I" } : MethodName)) ∈ aBIG := aBg6 115 rfl rfl
set_option maxRecDepth 20000 in
theorem bw1404 : (Cond.instanceMethod ({ cls := "CatNeedModel", name := "goes", desc := "()I" } : MethodName)) ∈ aBIG := aBg6 117 rfl rfl
set_option maxRecDepth 20000 in
theorem bw1405 : (Cond.code ({ cls := "CatNeedModel", name := "goes", desc := "()I" } : MethodName) prog_10_method_61_code (3 : Nat) (Option.some FieldType.int)) ∈ aBIG := aBg6 118 rfl rfl
set_option maxRecDepth 20000 in
theorem bw1406 : (Cond.methodLink "CatNeedModel" (395 : Nat) ({ cls := "CatNeedModel", name := "choice", desc := "(I)I" } : MethodName)) ∈ aBIG := aBg6 119 rfl rfl
set_option maxRecDepth 20000 in
theorem bw1408 : (Cond.instanceMethod ({ cls := "CatNeedModel", name := "choice", desc := "(I)I" } : MethodName)) ∈ aBIG := aBg6 121 rfl rfl
set_option maxRecDepth 20000 in
theorem bw1409 : (Cond.code ({ cls := "CatNeedModel", name := "choice", desc := "(I)I" } : MethodName) prog_10_method_59_code (8 : Nat) (Option.some FieldType.int)) ∈ aBIG := aBg6 122 rfl rfl
set_option maxRecDepth 20000 in
theorem bw1410 : (Cond.methodLink "CatNeedModel" (388 : Nat) ({ cls := "CatNeedModel", name := "isDue", desc := "(II)Z" } : MethodName)) ∈ aBIG := aBg6 123 rfl rfl
set_option maxRecDepth 20000 in
theorem bw1412 : (Cond.instanceMethod ({ cls := "CatNeedModel", name := "isDue", desc := "(II)Z" } : MethodName)) ∈ aBIG := aBg6 125 rfl rfl
set_option maxRecDepth 20000 in
theorem bw1413 : (Cond.code ({ cls := "CatNeedModel", name := "isDue", desc := "(II)Z" } : MethodName) prog_10_method_50_code (3 : Nat) (Option.some FieldType.boolean)) ∈ aBIG := aBg6 126 rfl rfl
set_option maxRecDepth 20000 in
theorem bw1414 : (Cond.methodLink "CatNeedModel" (391 : Nat) ({ cls := "CatNeedModel", name := "likes", desc := "(II)J" } : MethodName)) ∈ aBIG := aBg6 127 rfl rfl
set_option maxRecDepth 20000 in
theorem bw1416 : (Cond.instanceMethod ({ cls := "CatNeedModel", name := "likes", desc := "(II)J" } : MethodName)) ∈ aBIG := aBg6 129 rfl rfl
set_option maxRecDepth 20000 in
theorem bw1417 : (Cond.code ({ cls := "CatNeedModel", name := "likes", desc := "(II)J" } : MethodName) prog_10_method_58_code (3 : Nat) (Option.some FieldType.long)) ∈ aBIG := aBg6 130 rfl rfl
set_option maxRecDepth 20000 in
theorem bw1418 : (Cond.methodLink "CatNeedModel" (378 : Nat) ({ cls := "CatNeedModel", name := "dueIn", desc := "(I)I" } : MethodName)) ∈ aBIG := aBg6 131 rfl rfl
set_option maxRecDepth 20000 in
theorem bw1420 : (Cond.instanceMethod ({ cls := "CatNeedModel", name := "dueIn", desc := "(I)I" } : MethodName)) ∈ aBIG := aBg6 133 rfl rfl
set_option maxRecDepth 20000 in
theorem bw1421 : (Cond.code ({ cls := "CatNeedModel", name := "dueIn", desc := "(I)I" } : MethodName) prog_10_method_57_code (5 : Nat) (Option.some FieldType.int)) ∈ aBIG := aBg6 134 rfl rfl
set_option maxRecDepth 20000 in
theorem bw1422 : (Cond.methodLink "CatNeedModel" (381 : Nat) ({ cls := "CatNeedModel", name := "bits", desc := "(I)I" } : MethodName)) ∈ aBIG := aBg6 135 rfl rfl
set_option maxRecDepth 20000 in
theorem bw1423 : (Cond.static ({ cls := "CatNeedModel", name := "bits", desc := "(I)I" } : MethodName)) ∈ aBIG := aBg6 136 rfl rfl
set_option maxRecDepth 20000 in
theorem bw1424 : (Cond.code ({ cls := "CatNeedModel", name := "bits", desc := "(I)I" } : MethodName) prog_10_method_4_code (3 : Nat) (Option.some FieldType.int)) ∈ aBIG := aBg6 137 rfl rfl
set_option maxRecDepth 20000 in
theorem bw1425 : (Cond.methodLink "CatNeedModel" (384 : Nat) ({ cls := "CatNeedModel", name := "wanted", desc := "()J" } : MethodName)) ∈ aBIG := aBg6 138 rfl rfl
set_option maxRecDepth 20000 in
theorem bw1427 : (Cond.instanceMethod ({ cls := "CatNeedModel", name := "wanted", desc := "()J" } : MethodName)) ∈ aBIG := aBg6 140 rfl rfl
set_option maxRecDepth 20000 in
theorem bw1428 : (Cond.code ({ cls := "CatNeedModel", name := "wanted", desc := "()J" } : MethodName) prog_10_method_46_code (3 : Nat) (Option.some FieldType.long)) ∈ aBIG := aBg6 141 rfl rfl
set_option maxRecDepth 20000 in
theorem bw1429 : (Cond.methodLink "CatNeedModel" (344 : Nat) ({ cls := "CatNeedModel", name := "answer", desc := "(III)J" } : MethodName)) ∈ aBIG := aBg6 142 rfl rfl
set_option maxRecDepth 20000 in
theorem bw1431 : (Cond.instanceMethod ({ cls := "CatNeedModel", name := "answer", desc := "(III)J" } : MethodName)) ∈ aBIG := aBg6 144 rfl rfl
set_option maxRecDepth 20000 in
theorem bw1432 : (Cond.code ({ cls := "CatNeedModel", name := "answer", desc := "(III)J" } : MethodName) prog_10_method_49_code (8 : Nat) (Option.some FieldType.long)) ∈ aBIG := aBg6 145 rfl rfl
set_option maxRecDepth 20000 in
theorem bw1433 : (Cond.methodLink "CatNeedModel" (352 : Nat) ({ cls := "CatNeedModel", name := "both", desc := "(IJJ)J" } : MethodName)) ∈ aBIG := aBg6 146 rfl rfl
set_option maxRecDepth 20000 in
theorem bw1434 : (Cond.static ({ cls := "CatNeedModel", name := "both", desc := "(IJJ)J" } : MethodName)) ∈ aBIG := aBg6 147 rfl rfl
set_option maxRecDepth 20000 in
theorem bw1435 : (Cond.code ({ cls := "CatNeedModel", name := "both", desc := "(IJJ)J" } : MethodName) prog_10_method_48_code (5 : Nat) (Option.some FieldType.long)) ∈ aBIG := aBg6 148 rfl rfl
set_option maxRecDepth 20000 in
theorem bw1436 : (Cond.methodLink "CatNeedModel" (348 : Nat) ({ cls := "CatNeedModel", name := "truth", desc := "(Z)J" } : MethodName)) ∈ aBIG := aBg6 149 rfl rfl
set_option maxRecDepth 20000 in
theorem bw1437 : (Cond.static ({ cls := "CatNeedModel", name := "truth", desc := "(Z)J" } : MethodName)) ∈ aBIG := aBg6 150 rfl rfl
set_option maxRecDepth 20000 in
theorem bw1438 : (Cond.code ({ cls := "CatNeedModel", name := "truth", desc := "(Z)J" } : MethodName) prog_10_method_47_code (1 : Nat) (Option.some FieldType.long)) ∈ aBIG := aBg6 151 rfl rfl
set_option maxRecDepth 20000 in
theorem bw1439 : (Cond.methodLink "CatNeedModel" (398 : Nat) ({ cls := "CatNeedModel", name := "walks", desc := "(II)V" } : MethodName)) ∈ aBIG := aBg6 152 rfl rfl
set_option maxRecDepth 20000 in
theorem bw1441 : (Cond.instanceMethod ({ cls := "CatNeedModel", name := "walks", desc := "(II)V" } : MethodName)) ∈ aBIG := aBg6 154 rfl rfl
set_option maxRecDepth 20000 in
theorem bw1442 : (Cond.code ({ cls := "CatNeedModel", name := "walks", desc := "(II)V" } : MethodName) prog_10_method_60_code (6 : Nat) (none : Option FieldType)) ∈ aBIG := aBg6 155 rfl rfl
set_option maxRecDepth 20000 in
theorem bw1443 : (Cond.methodLink "CatNeedLaw" (56 : Nat) ({ cls := "CatNeedModel", name := "lift", desc := "(I)I" } : MethodName)) ∈ aBIG := aBg6 156 rfl rfl
set_option maxRecDepth 20000 in
theorem bw1444 : (Cond.instanceMethod ({ cls := "CatNeedModel", name := "lift", desc := "(I)I" } : MethodName)) ∈ aBIG := aBg6 157 rfl rfl
set_option maxRecDepth 20000 in
theorem bw1445 : (Cond.selects "CatNeedModel" ({ cls := "CatNeedModel", name := "lift", desc := "(I)I" } : MethodName) ({ cls := "CatNeedModel", name := "lift", desc := "(I)I" } : MethodName)) ∈ aBIG := aBg6 158 rfl rfl
set_option maxRecDepth 20000 in
theorem bw1446 : (Cond.code ({ cls := "CatNeedModel", name := "lift", desc := "(I)I" } : MethodName) prog_10_method_70_code (3 : Nat) (Option.some FieldType.int)) ∈ aBIG := aBg6 159 rfl rfl
set_option maxRecDepth 20000 in
theorem bw1447 : (Cond.methodLink "CatNeedLaw" (60 : Nat) ({ cls := "CatNeedModel", name := "move", desc := "(II)I" } : MethodName)) ∈ aBIG := aBg6 160 rfl rfl
set_option maxRecDepth 20000 in
theorem bw1448 : (Cond.instanceMethod ({ cls := "CatNeedModel", name := "move", desc := "(II)I" } : MethodName)) ∈ aBIG := aBg6 161 rfl rfl
set_option maxRecDepth 20000 in
theorem bw1449 : (Cond.selects "CatNeedModel" ({ cls := "CatNeedModel", name := "move", desc := "(II)I" } : MethodName) ({ cls := "CatNeedModel", name := "move", desc := "(II)I" } : MethodName)) ∈ aBIG := aBg6 162 rfl rfl
set_option maxRecDepth 20000 in
theorem bw1450 : (Cond.code ({ cls := "CatNeedModel", name := "move", desc := "(II)I" } : MethodName) prog_10_method_71_code (4 : Nat) (Option.some FieldType.int)) ∈ aBIG := aBg6 163 rfl rfl
set_option maxRecDepth 20000 in
theorem bw1451 : (Cond.methodLink "CatNeedLaw" (64 : Nat) ({ cls := "CatNeedModel", name := "strike", desc := "(I)I" } : MethodName)) ∈ aBIG := aBg6 164 rfl rfl
set_option maxRecDepth 20000 in
theorem bw1452 : (Cond.instanceMethod ({ cls := "CatNeedModel", name := "strike", desc := "(I)I" } : MethodName)) ∈ aBIG := aBg6 165 rfl rfl
set_option maxRecDepth 20000 in
theorem bw1453 : (Cond.selects "CatNeedModel" ({ cls := "CatNeedModel", name := "strike", desc := "(I)I" } : MethodName) ({ cls := "CatNeedModel", name := "strike", desc := "(I)I" } : MethodName)) ∈ aBIG := aBg6 166 rfl rfl
set_option maxRecDepth 20000 in
theorem bw1454 : (Cond.code ({ cls := "CatNeedModel", name := "strike", desc := "(I)I" } : MethodName) prog_10_method_72_code (2 : Nat) (Option.some FieldType.int)) ∈ aBIG := aBg6 167 rfl rfl
set_option maxRecDepth 20000 in
theorem bw1455 : (Cond.methodLink "CatNeedLaw" (68 : Nat) ({ cls := "CatNeedModel", name := "teach", desc := "(II)I" } : MethodName)) ∈ aBIG := aBg6 168 rfl rfl
set_option maxRecDepth 20000 in
theorem bw1456 : (Cond.instanceMethod ({ cls := "CatNeedModel", name := "teach", desc := "(II)I" } : MethodName)) ∈ aBIG := aBg6 169 rfl rfl
set_option maxRecDepth 20000 in
theorem bw1457 : (Cond.selects "CatNeedModel" ({ cls := "CatNeedModel", name := "teach", desc := "(II)I" } : MethodName) ({ cls := "CatNeedModel", name := "teach", desc := "(II)I" } : MethodName)) ∈ aBIG := aBg6 170 rfl rfl
set_option maxRecDepth 20000 in
theorem bw1458 : (Cond.code ({ cls := "CatNeedModel", name := "teach", desc := "(II)I" } : MethodName) prog_10_method_73_code (4 : Nat) (Option.some FieldType.int)) ∈ aBIG := aBg6 171 rfl rfl
set_option maxRecDepth 20000 in
theorem bw1459 : (Cond.constantLong "CatNeedModel" (437 : Nat) (9 : Int64)) ∈ aBIG := aBg6 172 rfl rfl
set_option maxRecDepth 20000 in
theorem bw1460 : (Cond.methodLink "CatNeedLaw" (77 : Nat) ({ cls := "CatNeedModel", name := "ahead", desc := "(III)I" } : MethodName)) ∈ aBIG := aBg6 173 rfl rfl
set_option maxRecDepth 20000 in
theorem bw1461 : (Cond.instanceMethod ({ cls := "CatNeedModel", name := "ahead", desc := "(III)I" } : MethodName)) ∈ aBIG := aBg6 174 rfl rfl
set_option maxRecDepth 20000 in
theorem bw1462 : (Cond.selects "CatNeedModel" ({ cls := "CatNeedModel", name := "ahead", desc := "(III)I" } : MethodName) ({ cls := "CatNeedModel", name := "ahead", desc := "(III)I" } : MethodName)) ∈ aBIG := aBg6 175 rfl rfl
set_option maxRecDepth 20000 in
theorem bw1463 : (Cond.code ({ cls := "CatNeedModel", name := "ahead", desc := "(III)I" } : MethodName) prog_10_method_76_code (5 : Nat) (Option.some FieldType.int)) ∈ aBIG := aBg6 176 rfl rfl
set_option maxRecDepth 20000 in
theorem bw1464 : (Cond.constantLong "CatNeedModel" (442 : Nat) (3 : Int64)) ∈ aBIG := aBg6 177 rfl rfl
set_option maxRecDepth 20000 in
theorem bw1465 : (Cond.constantLong "CatNeedModel" (444 : Nat) (100 : Int64)) ∈ aBIG := aBg6 178 rfl rfl
set_option maxRecDepth 20000 in
theorem bw1466 : (Cond.methodLink "CatNeedModel" (446 : Nat) ({ cls := "CatNeedModel", name := "keepsAll", desc := "()V" } : MethodName)) ∈ aBIG := aBg6 179 rfl rfl
set_option maxRecDepth 20000 in
theorem bw1468 : (Cond.instanceMethod ({ cls := "CatNeedModel", name := "keepsAll", desc := "()V" } : MethodName)) ∈ aBIG := aBg6 181 rfl rfl
set_option maxRecDepth 20000 in
theorem bw1469 : (Cond.code ({ cls := "CatNeedModel", name := "keepsAll", desc := "()V" } : MethodName) prog_10_method_74_code (1 : Nat) (none : Option FieldType)) ∈ aBIG := aBg6 182 rfl rfl
set_option maxRecDepth 20000 in
theorem bw1470 : (Cond.methodLink "CatNeedModel" (439 : Nat) ({ cls := "CatNeedModel", name := "carriesAll", desc := "(IZ)V" } : MethodName)) ∈ aBIG := aBg6 183 rfl rfl
set_option maxRecDepth 20000 in
theorem bw1472 : (Cond.instanceMethod ({ cls := "CatNeedModel", name := "carriesAll", desc := "(IZ)V" } : MethodName)) ∈ aBIG := aBg6 185 rfl rfl
set_option maxRecDepth 20000 in
theorem bw1473 : (Cond.code ({ cls := "CatNeedModel", name := "carriesAll", desc := "(IZ)V" } : MethodName) prog_10_method_106_code (3 : Nat) (none : Option FieldType)) ∈ aBIG := aBg6 186 rfl rfl
set_option maxRecDepth 20000 in
theorem bw1474 : (Cond.methodLink "CatNeedModel" (525 : Nat) ({ cls := "CatNeedModel", name := "carryRow", desc := "([I)V" } : MethodName)) ∈ aBIG := aBg6 187 rfl rfl
set_option maxRecDepth 20000 in
theorem bw1476 : (Cond.instanceMethod ({ cls := "CatNeedModel", name := "carryRow", desc := "([I)V" } : MethodName)) ∈ aBIG := aBg6 189 rfl rfl
set_option maxRecDepth 20000 in
theorem bw1477 : (Cond.code ({ cls := "CatNeedModel", name := "carryRow", desc := "([I)V" } : MethodName) prog_10_method_105_code (3 : Nat) (none : Option FieldType)) ∈ aBIG := aBg6 190 rfl rfl
set_option maxRecDepth 20000 in
theorem bw1478 : (Cond.methodLink "CatNeedModel" (449 : Nat) ({ cls := "CatNeedModel", name := "goFor", desc := "(I)V" } : MethodName)) ∈ aBIG := aBg6 191 rfl rfl
set_option maxRecDepth 20000 in
theorem bw1480 : (Cond.instanceMethod ({ cls := "CatNeedModel", name := "goFor", desc := "(I)V" } : MethodName)) ∈ aBIG := aBg6 193 rfl rfl
set_option maxRecDepth 20000 in
theorem bw1481 : (Cond.code ({ cls := "CatNeedModel", name := "goFor", desc := "(I)V" } : MethodName) prog_10_method_62_code (3 : Nat) (none : Option FieldType)) ∈ aBIG := aBg6 194 rfl rfl
set_option maxRecDepth 20000 in
theorem bw1482 : (Cond.methodLink "CatNeedModel" (452 : Nat) ({ cls := "CatNeedModel", name := "sumOf", desc := "([I)I" } : MethodName)) ∈ aBIG := aBg6 195 rfl rfl
set_option maxRecDepth 20000 in
theorem bw1484 : (Cond.instanceMethod ({ cls := "CatNeedModel", name := "sumOf", desc := "([I)I" } : MethodName)) ∈ aBIG := aBg6 197 rfl rfl
set_option maxRecDepth 20000 in
theorem bw1485 : (Cond.code ({ cls := "CatNeedModel", name := "sumOf", desc := "([I)I" } : MethodName) prog_10_method_63_code (4 : Nat) (Option.some FieldType.int)) ∈ aBIG := aBg6 198 rfl rfl
set_option maxRecDepth 20000 in
theorem bw1486 : (Cond.methodLink "CatNeedModel" (456 : Nat) ({ cls := "CatNeedModel", name := "laysBack", desc := "()V" } : MethodName)) ∈ aBIG := aBg6 199 rfl rfl
set_option maxRecDepth 20000 in
theorem bw1488 : (Cond.instanceMethod ({ cls := "CatNeedModel", name := "laysBack", desc := "()V" } : MethodName)) ∈ aBIG := aBg6 201 rfl rfl
set_option maxRecDepth 20000 in
theorem bw1489 : (Cond.code ({ cls := "CatNeedModel", name := "laysBack", desc := "()V" } : MethodName) prog_10_method_75_code (1 : Nat) (none : Option FieldType)) ∈ aBIG := aBg6 202 rfl rfl
set_option maxRecDepth 20000 in
theorem bw1490 : (Cond.methodLink "CatNeedLaw" (81 : Nat) ({ cls := "CatNeedModel", name := "due", desc := "(I)I" } : MethodName)) ∈ aBIG := aBg6 203 rfl rfl
set_option maxRecDepth 20000 in
theorem bw1491 : (Cond.instanceMethod ({ cls := "CatNeedModel", name := "due", desc := "(I)I" } : MethodName)) ∈ aBIG := aBg6 204 rfl rfl
set_option maxRecDepth 20000 in
theorem bw1492 : (Cond.selects "CatNeedModel" ({ cls := "CatNeedModel", name := "due", desc := "(I)I" } : MethodName) ({ cls := "CatNeedModel", name := "due", desc := "(I)I" } : MethodName)) ∈ aBIG := aBg6 205 rfl rfl
set_option maxRecDepth 20000 in
theorem bw1493 : (Cond.code ({ cls := "CatNeedModel", name := "due", desc := "(I)I" } : MethodName) prog_10_method_77_code (2 : Nat) (Option.some FieldType.int)) ∈ aBIG := aBg6 206 rfl rfl
set_option maxRecDepth 20000 in
theorem bw1494 : (Cond.methodLink "CatNeedLaw" (85 : Nat) ({ cls := "CatNeedModel", name := "served", desc := "(I)I" } : MethodName)) ∈ aBIG := aBg6 207 rfl rfl
set_option maxRecDepth 20000 in
theorem bw1495 : (Cond.instanceMethod ({ cls := "CatNeedModel", name := "served", desc := "(I)I" } : MethodName)) ∈ aBIG := aBg6 208 rfl rfl
set_option maxRecDepth 20000 in
theorem bw1496 : (Cond.selects "CatNeedModel" ({ cls := "CatNeedModel", name := "served", desc := "(I)I" } : MethodName) ({ cls := "CatNeedModel", name := "served", desc := "(I)I" } : MethodName)) ∈ aBIG := aBg6 209 rfl rfl
set_option maxRecDepth 20000 in
theorem bw1497 : (Cond.code ({ cls := "CatNeedModel", name := "served", desc := "(I)I" } : MethodName) prog_10_method_78_code (4 : Nat) (Option.some FieldType.int)) ∈ aBIG := aBg6 210 rfl rfl
set_option maxRecDepth 20000 in
theorem bw1498 : (Cond.methodLink "CatNeedLaw" (89 : Nat) ({ cls := "CatNeedModel", name := "shut", desc := "(II)I" } : MethodName)) ∈ aBIG := aBg6 211 rfl rfl
set_option maxRecDepth 20000 in
theorem bw1499 : (Cond.instanceMethod ({ cls := "CatNeedModel", name := "shut", desc := "(II)I" } : MethodName)) ∈ aBIG := aBg6 212 rfl rfl
set_option maxRecDepth 20000 in
theorem bw1500 : (Cond.selects "CatNeedModel" ({ cls := "CatNeedModel", name := "shut", desc := "(II)I" } : MethodName) ({ cls := "CatNeedModel", name := "shut", desc := "(II)I" } : MethodName)) ∈ aBIG := aBg6 213 rfl rfl
set_option maxRecDepth 20000 in
theorem bw1501 : (Cond.code ({ cls := "CatNeedModel", name := "shut", desc := "(II)I" } : MethodName) prog_10_method_80_code (7 : Nat) (Option.some FieldType.int)) ∈ aBIG := aBg6 214 rfl rfl
set_option maxRecDepth 20000 in
theorem bw1502 : (Cond.constantLong "CatNeedModel" (459 : Nat) (60 : Int64)) ∈ aBIG := aBg6 215 rfl rfl
set_option maxRecDepth 20000 in
theorem bw1503 : (Cond.methodLink "CatNeedModel" (461 : Nat) ({ cls := "CatNeedModel", name := "worthMet", desc := "(I)I" } : MethodName)) ∈ aBIG := aBg6 216 rfl rfl
set_option maxRecDepth 20000 in
theorem bw1505 : (Cond.instanceMethod ({ cls := "CatNeedModel", name := "worthMet", desc := "(I)I" } : MethodName)) ∈ aBIG := aBg6 218 rfl rfl
set_option maxRecDepth 20000 in
theorem bw1506 : (Cond.code ({ cls := "CatNeedModel", name := "worthMet", desc := "(I)I" } : MethodName) prog_10_method_79_code (5 : Nat) (Option.some FieldType.int)) ∈ aBIG := aBg6 219 rfl rfl
set_option maxRecDepth 20000 in
theorem bw1507 : (Cond.methodLink "CatNeedLaw" (93 : Nat) ({ cls := "CatNeedModel", name := "moved", desc := "(III)I" } : MethodName)) ∈ aBIG := aBg6 220 rfl rfl
set_option maxRecDepth 20000 in
theorem bw1508 : (Cond.instanceMethod ({ cls := "CatNeedModel", name := "moved", desc := "(III)I" } : MethodName)) ∈ aBIG := aBg6 221 rfl rfl
set_option maxRecDepth 20000 in
theorem bw1509 : (Cond.selects "CatNeedModel" ({ cls := "CatNeedModel", name := "moved", desc := "(III)I" } : MethodName) ({ cls := "CatNeedModel", name := "moved", desc := "(III)I" } : MethodName)) ∈ aBIG := aBg6 222 rfl rfl
set_option maxRecDepth 20000 in
theorem bw1510 : (Cond.code ({ cls := "CatNeedModel", name := "moved", desc := "(III)I" } : MethodName) prog_10_method_81_code (8 : Nat) (Option.some FieldType.int)) ∈ aBIG := aBg6 223 rfl rfl
set_option maxRecDepth 20000 in
theorem bw1511 : (Cond.methodLink "CatNeedLaw" (97 : Nat) ({ cls := "CatNeedModel", name := "tray", desc := "(II)I" } : MethodName)) ∈ aBIG := aBg6 224 rfl rfl
set_option maxRecDepth 20000 in
theorem bw1512 : (Cond.instanceMethod ({ cls := "CatNeedModel", name := "tray", desc := "(II)I" } : MethodName)) ∈ aBIG := aBg6 225 rfl rfl
set_option maxRecDepth 20000 in
theorem bw1513 : (Cond.selects "CatNeedModel" ({ cls := "CatNeedModel", name := "tray", desc := "(II)I" } : MethodName) ({ cls := "CatNeedModel", name := "tray", desc := "(II)I" } : MethodName)) ∈ aBIG := aBg6 226 rfl rfl
set_option maxRecDepth 20000 in
theorem bw1514 : (Cond.code ({ cls := "CatNeedModel", name := "tray", desc := "(II)I" } : MethodName) prog_10_method_83_code (6 : Nat) (Option.some FieldType.int)) ∈ aBIG := aBg6 227 rfl rfl
set_option maxRecDepth 20000 in
theorem bw1515 : (Cond.constantLong "CatNeedModel" (464 : Nat) (40 : Int64)) ∈ aBIG := aBg6 228 rfl rfl
set_option maxRecDepth 20000 in
theorem bw1516 : (Cond.methodLink "CatNeedModel" (466 : Nat) ({ cls := "CatNeedModel", name := "isNoneLost", desc := "(II)Z" } : MethodName)) ∈ aBIG := aBg6 229 rfl rfl
set_option maxRecDepth 20000 in
theorem bw1518 : (Cond.instanceMethod ({ cls := "CatNeedModel", name := "isNoneLost", desc := "(II)Z" } : MethodName)) ∈ aBIG := aBg6 231 rfl rfl
set_option maxRecDepth 20000 in
theorem bw1519 : (Cond.code ({ cls := "CatNeedModel", name := "isNoneLost", desc := "(II)Z" } : MethodName) prog_10_method_82_code (5 : Nat) (Option.some FieldType.boolean)) ∈ aBIG := aBg6 232 rfl rfl
set_option maxRecDepth 20000 in
theorem bw1520 : (Cond.methodLink "CatNeedLaw" (106 : Nat) ({ cls := "CatNeedModel", name := "rests", desc := "(IIII)I" } : MethodName)) ∈ aBIG := aBg6 233 rfl rfl
set_option maxRecDepth 20000 in
theorem bw1521 : (Cond.instanceMethod ({ cls := "CatNeedModel", name := "rests", desc := "(IIII)I" } : MethodName)) ∈ aBIG := aBg6 234 rfl rfl
set_option maxRecDepth 20000 in
theorem bw1522 : (Cond.selects "CatNeedModel" ({ cls := "CatNeedModel", name := "rests", desc := "(IIII)I" } : MethodName) ({ cls := "CatNeedModel", name := "rests", desc := "(IIII)I" } : MethodName)) ∈ aBIG := aBg6 235 rfl rfl
set_option maxRecDepth 20000 in
theorem bw1523 : (Cond.code ({ cls := "CatNeedModel", name := "rests", desc := "(IIII)I" } : MethodName) prog_10_method_87_code (8 : Nat) (Option.some FieldType.int)) ∈ aBIG := aBg6 236 rfl rfl
set_option maxRecDepth 20000 in
theorem bw1524 : (Cond.constantLong "CatNeedModel" (472 : Nat) (20 : Int64)) ∈ aBIG := aBg6 237 rfl rfl
set_option maxRecDepth 20000 in
theorem bw1525 : (Cond.constantLong "CatNeedModel" (474 : Nat) (2 : Int64)) ∈ aBIG := aBg6 238 rfl rfl
set_option maxRecDepth 20000 in
theorem bw1526 : (Cond.methodLink "CatNeedModel" (476 : Nat) ({ cls := "CatNeedModel", name := "laysKnown", desc := "(III)V" } : MethodName)) ∈ aBIG := aBg6 239 rfl rfl
set_option maxRecDepth 20000 in
theorem bw1528 : (Cond.instanceMethod ({ cls := "CatNeedModel", name := "laysKnown", desc := "(III)V" } : MethodName)) ∈ aBIG := aBg7 1 rfl rfl
set_option maxRecDepth 20000 in
theorem bw1529 : (Cond.code ({ cls := "CatNeedModel", name := "laysKnown", desc := "(III)V" } : MethodName) prog_10_method_85_code (6 : Nat) (none : Option FieldType)) ∈ aBIG := aBg7 2 rfl rfl
set_option maxRecDepth 20000 in
theorem bw1530 : (Cond.methodLink "CatNeedModel" (469 : Nat) ({ cls := "CatNeedModel", name := "earns", desc := "(I)I" } : MethodName)) ∈ aBIG := aBg7 3 rfl rfl
set_option maxRecDepth 20000 in
theorem bw1532 : (Cond.instanceMethod ({ cls := "CatNeedModel", name := "earns", desc := "(I)I" } : MethodName)) ∈ aBIG := aBg7 5 rfl rfl
set_option maxRecDepth 20000 in
theorem bw1533 : (Cond.code ({ cls := "CatNeedModel", name := "earns", desc := "(I)I" } : MethodName) prog_10_method_84_code (4 : Nat) (Option.some FieldType.int)) ∈ aBIG := aBg7 6 rfl rfl
set_option maxRecDepth 20000 in
theorem bw1534 : (Cond.methodLink "CatNeedModel" (480 : Nat) ({ cls := "CatNeedModel", name := "isRest", desc := "(I)Z" } : MethodName)) ∈ aBIG := aBg7 7 rfl rfl
set_option maxRecDepth 20000 in
theorem bw1536 : (Cond.instanceMethod ({ cls := "CatNeedModel", name := "isRest", desc := "(I)Z" } : MethodName)) ∈ aBIG := aBg7 9 rfl rfl
set_option maxRecDepth 20000 in
theorem bw1537 : (Cond.code ({ cls := "CatNeedModel", name := "isRest", desc := "(I)Z" } : MethodName) prog_10_method_86_code (3 : Nat) (Option.some FieldType.boolean)) ∈ aBIG := aBg7 10 rfl rfl
set_option maxRecDepth 20000 in
theorem bw1538 : (Cond.methodLink "CatNeedLaw" (110 : Nat) ({ cls := "CatNeedModel", name := "ring", desc := "(I)I" } : MethodName)) ∈ aBIG := aBg7 11 rfl rfl
set_option maxRecDepth 20000 in
theorem bw1539 : (Cond.instanceMethod ({ cls := "CatNeedModel", name := "ring", desc := "(I)I" } : MethodName)) ∈ aBIG := aBg7 12 rfl rfl
set_option maxRecDepth 20000 in
theorem bw1540 : (Cond.selects "CatNeedModel" ({ cls := "CatNeedModel", name := "ring", desc := "(I)I" } : MethodName) ({ cls := "CatNeedModel", name := "ring", desc := "(I)I" } : MethodName)) ∈ aBIG := aBg7 13 rfl rfl
set_option maxRecDepth 20000 in
theorem bw1541 : (Cond.code ({ cls := "CatNeedModel", name := "ring", desc := "(I)I" } : MethodName) prog_10_method_90_code (4 : Nat) (Option.some FieldType.int)) ∈ aBIG := aBg7 14 rfl rfl
set_option maxRecDepth 20000 in
theorem bw1542 : (Cond.methodLink "CatNeedModel" (483 : Nat) ({ cls := "CatNeedModel", name := "laysAll", desc := "()V" } : MethodName)) ∈ aBIG := aBg7 15 rfl rfl
set_option maxRecDepth 20000 in
theorem bw1544 : (Cond.instanceMethod ({ cls := "CatNeedModel", name := "laysAll", desc := "()V" } : MethodName)) ∈ aBIG := aBg7 17 rfl rfl
set_option maxRecDepth 20000 in
theorem bw1545 : (Cond.code ({ cls := "CatNeedModel", name := "laysAll", desc := "()V" } : MethodName) prog_10_method_88_code (3 : Nat) (none : Option FieldType)) ∈ aBIG := aBg7 18 rfl rfl
set_option maxRecDepth 20000 in
theorem bw1546 : (Cond.methodLink "CatNeedModel" (486 : Nat) ({ cls := "CatNeedModel", name := "isAlike", desc := "(II)Z" } : MethodName)) ∈ aBIG := aBg7 19 rfl rfl
set_option maxRecDepth 20000 in
theorem bw1548 : (Cond.instanceMethod ({ cls := "CatNeedModel", name := "isAlike", desc := "(II)Z" } : MethodName)) ∈ aBIG := aBg7 21 rfl rfl
set_option maxRecDepth 20000 in
theorem bw1549 : (Cond.code ({ cls := "CatNeedModel", name := "isAlike", desc := "(II)Z" } : MethodName) prog_10_method_89_code (4 : Nat) (Option.some FieldType.boolean)) ∈ aBIG := aBg7 22 rfl rfl
set_option maxRecDepth 20000 in
theorem bw1550 : (Cond.methodLink "CatNeedLaw" (114 : Nat) ({ cls := "CatNeedModel", name := "pence", desc := "(II)I" } : MethodName)) ∈ aBIG := aBg7 23 rfl rfl
set_option maxRecDepth 20000 in
theorem bw1551 : (Cond.instanceMethod ({ cls := "CatNeedModel", name := "pence", desc := "(II)I" } : MethodName)) ∈ aBIG := aBg7 24 rfl rfl
set_option maxRecDepth 20000 in
theorem bw1552 : (Cond.selects "CatNeedModel" ({ cls := "CatNeedModel", name := "pence", desc := "(II)I" } : MethodName) ({ cls := "CatNeedModel", name := "pence", desc := "(II)I" } : MethodName)) ∈ aBIG := aBg7 25 rfl rfl
set_option maxRecDepth 20000 in
theorem bw1553 : (Cond.code ({ cls := "CatNeedModel", name := "pence", desc := "(II)I" } : MethodName) prog_10_method_92_code (15 : Nat) (Option.some FieldType.int)) ∈ aBIG := aBg7 26 rfl rfl
set_option maxRecDepth 20000 in
theorem bw1554 : (Cond.constantLong "CatNeedModel" (489 : Nat) (9999 : Int64)) ∈ aBIG := aBg7 27 rfl rfl
set_option maxRecDepth 20000 in
theorem bw1555 : (Cond.methodLink "CatNeedModel" (491 : Nat) ({ cls := "CatNeedModel", name := "worthOf", desc := "(I)J" } : MethodName)) ∈ aBIG := aBg7 28 rfl rfl
set_option maxRecDepth 20000 in
theorem bw1557 : (Cond.instanceMethod ({ cls := "CatNeedModel", name := "worthOf", desc := "(I)J" } : MethodName)) ∈ aBIG := aBg7 30 rfl rfl
set_option maxRecDepth 20000 in
theorem bw1558 : (Cond.code ({ cls := "CatNeedModel", name := "worthOf", desc := "(I)J" } : MethodName) prog_10_method_91_code (2 : Nat) (Option.some FieldType.long)) ∈ aBIG := aBg7 31 rfl rfl
set_option maxRecDepth 20000 in
theorem bw1559 : (Cond.methodLink "CatNeedLaw" (118 : Nat) ({ cls := "CatNeedModel", name := "note", desc := "(III)I" } : MethodName)) ∈ aBIG := aBg7 32 rfl rfl
set_option maxRecDepth 20000 in
theorem bw1560 : (Cond.instanceMethod ({ cls := "CatNeedModel", name := "note", desc := "(III)I" } : MethodName)) ∈ aBIG := aBg7 33 rfl rfl
set_option maxRecDepth 20000 in
theorem bw1561 : (Cond.selects "CatNeedModel" ({ cls := "CatNeedModel", name := "note", desc := "(III)I" } : MethodName) ({ cls := "CatNeedModel", name := "note", desc := "(III)I" } : MethodName)) ∈ aBIG := aBg7 34 rfl rfl
set_option maxRecDepth 20000 in
theorem bw1562 : (Cond.code ({ cls := "CatNeedModel", name := "note", desc := "(III)I" } : MethodName) prog_10_method_93_code (5 : Nat) (Option.some FieldType.int)) ∈ aBIG := aBg7 35 rfl rfl
set_option maxRecDepth 20000 in
theorem bw1563 : (Cond.methodLink "CatNeedLaw" (122 : Nat) ({ cls := "CatNeedModel", name := "ruled", desc := "(I)I" } : MethodName)) ∈ aBIG := aBg7 36 rfl rfl
set_option maxRecDepth 20000 in
theorem bw1564 : (Cond.instanceMethod ({ cls := "CatNeedModel", name := "ruled", desc := "(I)I" } : MethodName)) ∈ aBIG := aBg7 37 rfl rfl
set_option maxRecDepth 20000 in
theorem bw1565 : (Cond.selects "CatNeedModel" ({ cls := "CatNeedModel", name := "ruled", desc := "(I)I" } : MethodName) ({ cls := "CatNeedModel", name := "ruled", desc := "(I)I" } : MethodName)) ∈ aBIG := aBg7 38 rfl rfl
set_option maxRecDepth 20000 in
theorem bw1566 : (Cond.code ({ cls := "CatNeedModel", name := "ruled", desc := "(I)I" } : MethodName) prog_10_method_96_code (5 : Nat) (Option.some FieldType.int)) ∈ aBIG := aBg7 39 rfl rfl
set_option maxRecDepth 20000 in
theorem bw1567 : (Cond.methodLink "CatNeedModel" (498 : Nat) ({ cls := "CatNeedModel", name := "couldRule", desc := "(I)Z" } : MethodName)) ∈ aBIG := aBg7 40 rfl rfl
set_option maxRecDepth 20000 in
theorem bw1569 : (Cond.instanceMethod ({ cls := "CatNeedModel", name := "couldRule", desc := "(I)Z" } : MethodName)) ∈ aBIG := aBg7 42 rfl rfl
set_option maxRecDepth 20000 in
theorem bw1570 : (Cond.code ({ cls := "CatNeedModel", name := "couldRule", desc := "(I)Z" } : MethodName) prog_10_method_95_code (2 : Nat) (Option.some FieldType.boolean)) ∈ aBIG := aBg7 43 rfl rfl
set_option maxRecDepth 20000 in
theorem bw1571 : (Cond.methodLink "CatNeedModel" (495 : Nat) ({ cls := "CatNeedModel", name := "doNotesFit", desc := "()Z" } : MethodName)) ∈ aBIG := aBg7 44 rfl rfl
set_option maxRecDepth 20000 in
theorem bw1573 : (Cond.instanceMethod ({ cls := "CatNeedModel", name := "doNotesFit", desc := "()Z" } : MethodName)) ∈ aBIG := aBg7 46 rfl rfl
set_option maxRecDepth 20000 in
theorem bw1574 : (Cond.code ({ cls := "CatNeedModel", name := "doNotesFit", desc := "()Z" } : MethodName) prog_10_method_94_code (2 : Nat) (Option.some FieldType.boolean)) ∈ aBIG := aBg7 47 rfl rfl
set_option maxRecDepth 20000 in
theorem bw1575 : (Cond.methodLink "CatNeedLaw" (101 : Nat) ({ cls := "CatNeedModel", name := "knowing", desc := "(II)I" } : MethodName)) ∈ aBIG := aBg7 48 rfl rfl
set_option maxRecDepth 20000 in
theorem bw1576 : (Cond.instanceMethod ({ cls := "CatNeedModel", name := "knowing", desc := "(II)I" } : MethodName)) ∈ aBIG := aBg7 49 rfl rfl
set_option maxRecDepth 20000 in
theorem bw1577 : (Cond.selects "CatNeedModel" ({ cls := "CatNeedModel", name := "knowing", desc := "(II)I" } : MethodName) ({ cls := "CatNeedModel", name := "knowing", desc := "(II)I" } : MethodName)) ∈ aBIG := aBg7 50 rfl rfl
set_option maxRecDepth 20000 in
theorem bw1578 : (Cond.code ({ cls := "CatNeedModel", name := "knowing", desc := "(II)I" } : MethodName) prog_10_method_97_code (6 : Nat) (Option.some FieldType.int)) ∈ aBIG := aBg7 51 rfl rfl
set_option maxRecDepth 20000 in
theorem bw1579 : (Cond.methodLink "CatNeedLaw" (126 : Nat) ({ cls := "CatNeedModel", name := "look", desc := "(II)I" } : MethodName)) ∈ aBIG := aBg7 52 rfl rfl
set_option maxRecDepth 20000 in
theorem bw1580 : (Cond.instanceMethod ({ cls := "CatNeedModel", name := "look", desc := "(II)I" } : MethodName)) ∈ aBIG := aBg7 53 rfl rfl
set_option maxRecDepth 20000 in
theorem bw1581 : (Cond.selects "CatNeedModel" ({ cls := "CatNeedModel", name := "look", desc := "(II)I" } : MethodName) ({ cls := "CatNeedModel", name := "look", desc := "(II)I" } : MethodName)) ∈ aBIG := aBg7 54 rfl rfl
set_option maxRecDepth 20000 in
theorem bw1582 : (Cond.code ({ cls := "CatNeedModel", name := "look", desc := "(II)I" } : MethodName) prog_10_method_99_code (6 : Nat) (Option.some FieldType.int)) ∈ aBIG := aBg7 55 rfl rfl
set_option maxRecDepth 20000 in
theorem bw1583 : (Cond.methodLink "CatNeedModel" (501 : Nat) ({ cls := "CatNeedModel", name := "mostAlike", desc := "(II)I" } : MethodName)) ∈ aBIG := aBg7 56 rfl rfl
set_option maxRecDepth 20000 in
theorem bw1585 : (Cond.instanceMethod ({ cls := "CatNeedModel", name := "mostAlike", desc := "(II)I" } : MethodName)) ∈ aBIG := aBg7 58 rfl rfl
set_option maxRecDepth 20000 in
theorem bw1586 : (Cond.code ({ cls := "CatNeedModel", name := "mostAlike", desc := "(II)I" } : MethodName) prog_10_method_98_code (7 : Nat) (Option.some FieldType.int)) ∈ aBIG := aBg7 59 rfl rfl
set_option maxRecDepth 20000 in
theorem bw1587 : (Cond.methodLink "CatNeedLaw" (130 : Nat) ({ cls := "CatNeedModel", name := "seed", desc := "(I)I" } : MethodName)) ∈ aBIG := aBg7 60 rfl rfl
set_option maxRecDepth 20000 in
theorem bw1588 : (Cond.instanceMethod ({ cls := "CatNeedModel", name := "seed", desc := "(I)I" } : MethodName)) ∈ aBIG := aBg7 61 rfl rfl
set_option maxRecDepth 20000 in
theorem bw1589 : (Cond.selects "CatNeedModel" ({ cls := "CatNeedModel", name := "seed", desc := "(I)I" } : MethodName) ({ cls := "CatNeedModel", name := "seed", desc := "(I)I" } : MethodName)) ∈ aBIG := aBg7 62 rfl rfl
set_option maxRecDepth 20000 in
theorem bw1590 : (Cond.code ({ cls := "CatNeedModel", name := "seed", desc := "(I)I" } : MethodName) prog_10_method_100_code (3 : Nat) (Option.some FieldType.int)) ∈ aBIG := aBg7 63 rfl rfl
set_option maxRecDepth 20000 in
theorem bw1591 : (Cond.methodLink "CatNeedLaw" (134 : Nat) ({ cls := "CatNeedModel", name := "visits", desc := "(IIII)I" } : MethodName)) ∈ aBIG := aBg7 64 rfl rfl
set_option maxRecDepth 20000 in
theorem bw1592 : (Cond.instanceMethod ({ cls := "CatNeedModel", name := "visits", desc := "(IIII)I" } : MethodName)) ∈ aBIG := aBg7 65 rfl rfl
set_option maxRecDepth 20000 in
theorem bw1593 : (Cond.selects "CatNeedModel" ({ cls := "CatNeedModel", name := "visits", desc := "(IIII)I" } : MethodName) ({ cls := "CatNeedModel", name := "visits", desc := "(IIII)I" } : MethodName)) ∈ aBIG := aBg7 66 rfl rfl
set_option maxRecDepth 20000 in
theorem bw1594 : (Cond.code ({ cls := "CatNeedModel", name := "visits", desc := "(IIII)I" } : MethodName) prog_10_method_102_code (11 : Nat) (Option.some FieldType.int)) ∈ aBIG := aBg7 67 rfl rfl
set_option maxRecDepth 20000 in
theorem bw1595 : (Cond.constantLong "CatNeedModel" (511 : Nat) (10 : Int64)) ∈ aBIG := aBg7 68 rfl rfl
set_option maxRecDepth 20000 in
theorem bw1596 : (Cond.methodLink "CatNeedModel" (513 : Nat) ({ cls := "CatNeedModel", name := "draws", desc := "(I)I" } : MethodName)) ∈ aBIG := aBg7 69 rfl rfl
set_option maxRecDepth 20000 in
theorem bw1598 : (Cond.instanceMethod ({ cls := "CatNeedModel", name := "draws", desc := "(I)I" } : MethodName)) ∈ aBIG := aBg7 71 rfl rfl
set_option maxRecDepth 20000 in
theorem bw1599 : (Cond.code ({ cls := "CatNeedModel", name := "draws", desc := "(I)I" } : MethodName) prog_10_method_101_code (2 : Nat) (Option.some FieldType.int)) ∈ aBIG := aBg7 72 rfl rfl
set_option maxRecDepth 20000 in
theorem bw1600 : (Cond.constantLong "CatNeedModel" (504 : Nat) (1103515245 : Int64)) ∈ aBIG := aBg7 73 rfl rfl
set_option maxRecDepth 20000 in
theorem bw1601 : (Cond.constantLong "CatNeedModel" (506 : Nat) (12345 : Int64)) ∈ aBIG := aBg7 74 rfl rfl
set_option maxRecDepth 20000 in
theorem bw1602 : (Cond.constantLong "CatNeedModel" (508 : Nat) (2147483648 : Int64)) ∈ aBIG := aBg7 75 rfl rfl
set_option maxRecDepth 20000 in
theorem bw1603 : (Cond.constant "CatNeedModel" (510 : Nat) (65536 : Int32)) ∈ aBIG := aBg7 76 rfl rfl
set_option maxRecDepth 20000 in
theorem bw1604 : (Cond.methodLink "CatNeedLaw" (138 : Nat) ({ cls := "CatNeedModel", name := "count", desc := "(I)I" } : MethodName)) ∈ aBIG := aBg7 77 rfl rfl
set_option maxRecDepth 20000 in
theorem bw1605 : (Cond.instanceMethod ({ cls := "CatNeedModel", name := "count", desc := "(I)I" } : MethodName)) ∈ aBIG := aBg7 78 rfl rfl
set_option maxRecDepth 20000 in
theorem bw1606 : (Cond.selects "CatNeedModel" ({ cls := "CatNeedModel", name := "count", desc := "(I)I" } : MethodName) ({ cls := "CatNeedModel", name := "count", desc := "(I)I" } : MethodName)) ∈ aBIG := aBg7 79 rfl rfl
set_option maxRecDepth 20000 in
theorem bw1607 : (Cond.code ({ cls := "CatNeedModel", name := "count", desc := "(I)I" } : MethodName) prog_10_method_104_code (2 : Nat) (Option.some FieldType.int)) ∈ aBIG := aBg7 80 rfl rfl
set_option maxRecDepth 20000 in
theorem bw1608 : (Cond.methodLink "CatNeedModel" (516 : Nat) ({ cls := "CatNeedModel", name := "allDue", desc := "()I" } : MethodName)) ∈ aBIG := aBg7 81 rfl rfl
set_option maxRecDepth 20000 in
theorem bw1610 : (Cond.instanceMethod ({ cls := "CatNeedModel", name := "allDue", desc := "()I" } : MethodName)) ∈ aBIG := aBg7 83 rfl rfl
set_option maxRecDepth 20000 in
theorem bw1611 : (Cond.code ({ cls := "CatNeedModel", name := "allDue", desc := "()I" } : MethodName) prog_10_method_103_code (3 : Nat) (Option.some FieldType.int)) ∈ aBIG := aBg7 84 rfl rfl
set_option maxRecDepth 20000 in
theorem bw1612 : (Cond.methodLink "CatNeedLaw" (142 : Nat) ({ cls := "CatNeedModel", name := "image", desc := "(I)I" } : MethodName)) ∈ aBIG := aBg7 85 rfl rfl
set_option maxRecDepth 20000 in
theorem bw1613 : (Cond.instanceMethod ({ cls := "CatNeedModel", name := "image", desc := "(I)I" } : MethodName)) ∈ aBIG := aBg7 86 rfl rfl
set_option maxRecDepth 20000 in
theorem bw1614 : (Cond.selects "CatNeedModel" ({ cls := "CatNeedModel", name := "image", desc := "(I)I" } : MethodName) ({ cls := "CatNeedModel", name := "image", desc := "(I)I" } : MethodName)) ∈ aBIG := aBg7 87 rfl rfl
set_option maxRecDepth 20000 in
theorem bw1615 : (Cond.code ({ cls := "CatNeedModel", name := "image", desc := "(I)I" } : MethodName) prog_10_method_107_code (2 : Nat) (Option.some FieldType.int)) ∈ aBIG := aBg7 88 rfl rfl
set_option maxRecDepth 20000 in
theorem bw1616 : (Cond.methodLink "CatNeedLaw" (146 : Nat) ({ cls := "CatNeedModel", name := "back", desc := "(I)I" } : MethodName)) ∈ aBIG := aBg7 89 rfl rfl
set_option maxRecDepth 20000 in
theorem bw1617 : (Cond.instanceMethod ({ cls := "CatNeedModel", name := "back", desc := "(I)I" } : MethodName)) ∈ aBIG := aBg7 90 rfl rfl
set_option maxRecDepth 20000 in
theorem bw1618 : (Cond.selects "CatNeedModel" ({ cls := "CatNeedModel", name := "back", desc := "(I)I" } : MethodName) ({ cls := "CatNeedModel", name := "back", desc := "(I)I" } : MethodName)) ∈ aBIG := aBg7 91 rfl rfl
set_option maxRecDepth 20000 in
theorem bw1619 : (Cond.code ({ cls := "CatNeedModel", name := "back", desc := "(I)I" } : MethodName) prog_10_method_108_code (2 : Nat) (Option.some FieldType.int)) ∈ aBIG := aBg7 92 rfl rfl
set_option maxRecDepth 20000 in
theorem bw1620 : (Cond.fieldLink "java/lang/String" (9 : Nat) "java/lang/String" "value" "[B") ∈ aBIG := aBg7 93 rfl rfl
set_option maxRecDepth 20000 in
theorem bw1621 : (Cond.fieldLink "java/lang/String" (15 : Nat) "java/lang/String" "coder" "B") ∈ aBIG := aBg7 94 rfl rfl
