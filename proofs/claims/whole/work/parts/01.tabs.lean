-- ===== PART A: goes FIRST, ahead of the names: the tables' words, and 'selects' of the private methods out of them =====
/-- a private method of a class that the tables say can be made, by its rows of tables_1 -/
def lw_okq (q : MethodName × Nat) : Prop := (q.1.cls ≠ "java/lang/invoke/MethodHandle" ∧ q.1.cls ≠ "java/lang/invoke/VarHandle") ∧ Cond.instantiable q.1.cls q.2 ∈ tables_1 ∧ Cond.privateMethod q.1 ∈ tables_1 ∧ Cond.instanceMethod q.1 ∈ tables_1
theorem lw_p0 : lw_okq (⟨"RehearsalDesk$Faces", "inherit", "(II)V"⟩, 8) := ⟨⟨by decide +kernel, by decide +kernel⟩, List.mem_of_getElem? (i := 26) (by decide +kernel), List.mem_of_getElem? (i := 397) (by decide +kernel), List.mem_of_getElem? (i := 398) (by decide +kernel)⟩
theorem lw_p1 : lw_okq (⟨"RehearsalDesk$Patterns", "isCondition", "(ZII)Z"⟩, 10) := ⟨⟨by decide +kernel, by decide +kernel⟩, List.mem_of_getElem? (i := 86) (by decide +kernel), List.mem_of_getElem? (i := 490) (by decide +kernel), List.mem_of_getElem? (i := 491) (by decide +kernel)⟩
theorem lw_p2 : lw_okq (⟨"RehearsalDesk", "canCome", "(III)Z"⟩, 9) := ⟨⟨by decide +kernel, by decide +kernel⟩, List.mem_of_getElem? (i := 18) (by decide +kernel), List.mem_of_getElem? (i := 536) (by decide +kernel), List.mem_of_getElem? (i := 537) (by decide +kernel)⟩
theorem lw_p3 : lw_okq (⟨"RehearsalDesk$Patterns", "holds", "(II)Z"⟩, 10) := ⟨⟨by decide +kernel, by decide +kernel⟩, List.mem_of_getElem? (i := 86) (by decide +kernel), List.mem_of_getElem? (i := 567) (by decide +kernel), List.mem_of_getElem? (i := 568) (by decide +kernel)⟩
theorem lw_p4 : lw_okq (⟨"RehearsalDesk$Stage", "callThrough", "()V"⟩, 8) := ⟨⟨by decide +kernel, by decide +kernel⟩, List.mem_of_getElem? (i := 181) (by decide +kernel), List.mem_of_getElem? (i := 576) (by decide +kernel), List.mem_of_getElem? (i := 577) (by decide +kernel)⟩
theorem lw_p5 : lw_okq (⟨"RehearsalDesk$Stage", "failWith", "(I)V"⟩, 8) := ⟨⟨by decide +kernel, by decide +kernel⟩, List.mem_of_getElem? (i := 181) (by decide +kernel), List.mem_of_getElem? (i := 584) (by decide +kernel), List.mem_of_getElem? (i := 585) (by decide +kernel)⟩
theorem lw_p6 : lw_okq (⟨"RehearsalDesk$Stage", "giveWhole", "(I)V"⟩, 8) := ⟨⟨by decide +kernel, by decide +kernel⟩, List.mem_of_getElem? (i := 181) (by decide +kernel), List.mem_of_getElem? (i := 592) (by decide +kernel), List.mem_of_getElem? (i := 593) (by decide +kernel)⟩
theorem lw_p7 : lw_okq (⟨"RehearsalDesk$Stage", "answerBy", "(I)V"⟩, 8) := ⟨⟨by decide +kernel, by decide +kernel⟩, List.mem_of_getElem? (i := 181) (by decide +kernel), List.mem_of_getElem? (i := 607) (by decide +kernel), List.mem_of_getElem? (i := 608) (by decide +kernel)⟩
theorem lw_p8 : lw_okq (⟨"RehearsalDesk$Stage", "giveStand", "(I)V"⟩, 8) := ⟨⟨by decide +kernel, by decide +kernel⟩, List.mem_of_getElem? (i := 181) (by decide +kernel), List.mem_of_getElem? (i := 619) (by decide +kernel), List.mem_of_getElem? (i := 620) (by decide +kernel)⟩
theorem lw_p9 : lw_okq (⟨"RehearsalDesk$Stage", "giveParameter", "(I)V"⟩, 8) := ⟨⟨by decide +kernel, by decide +kernel⟩, List.mem_of_getElem? (i := 181) (by decide +kernel), List.mem_of_getElem? (i := 623) (by decide +kernel), List.mem_of_getElem? (i := 624) (by decide +kernel)⟩
theorem lw_p10 : lw_okq (⟨"RehearsalDesk$Expectations", "surveyOne", "(ILRehearsalDesk$Log;)V"⟩, 10) := ⟨⟨by decide +kernel, by decide +kernel⟩, List.mem_of_getElem? (i := 214) (by decide +kernel), List.mem_of_getElem? (i := 700) (by decide +kernel), List.mem_of_getElem? (i := 701) (by decide +kernel)⟩
theorem lw_p11 : lw_okq (⟨"RehearsalDesk$Wrongs", "findNumbers", "(LRehearsalDesk$Expectations;)V"⟩, 2) := ⟨⟨by decide +kernel, by decide +kernel⟩, List.mem_of_getElem? (i := 253) (by decide +kernel), List.mem_of_getElem? (i := 708) (by decide +kernel), List.mem_of_getElem? (i := 709) (by decide +kernel)⟩
theorem lw_p12 : lw_okq (⟨"RehearsalDesk$Wrongs", "add", "(III)V"⟩, 2) := ⟨⟨by decide +kernel, by decide +kernel⟩, List.mem_of_getElem? (i := 253) (by decide +kernel), List.mem_of_getElem? (i := 721) (by decide +kernel), List.mem_of_getElem? (i := 722) (by decide +kernel)⟩
theorem lw_p13 : lw_okq (⟨"RehearsalDesk$Wrongs", "findOrders", "(LRehearsalDesk$Expectations;)V"⟩, 2) := ⟨⟨by decide +kernel, by decide +kernel⟩, List.mem_of_getElem? (i := 253) (by decide +kernel), List.mem_of_getElem? (i := 729) (by decide +kernel), List.mem_of_getElem? (i := 730) (by decide +kernel)⟩
theorem lw_p14 : lw_okq (⟨"RehearsalDesk$Board", "callHeld", "(II)I"⟩, 11) := ⟨⟨by decide +kernel, by decide +kernel⟩, List.mem_of_getElem? (i := 292) (by decide +kernel), List.mem_of_getElem? (i := 816) (by decide +kernel), List.mem_of_getElem? (i := 817) (by decide +kernel)⟩
theorem lw_p15 : lw_okq (⟨"RehearsalDesk$Board", "bringAll", "(I)V"⟩, 11) := ⟨⟨by decide +kernel, by decide +kernel⟩, List.mem_of_getElem? (i := 292) (by decide +kernel), List.mem_of_getElem? (i := 822) (by decide +kernel), List.mem_of_getElem? (i := 823) (by decide +kernel)⟩
def lw_privs_1 : List (MethodName × Nat) := [(⟨"RehearsalDesk$Faces", "inherit", "(II)V"⟩, 8), (⟨"RehearsalDesk$Patterns", "isCondition", "(ZII)Z"⟩, 10), (⟨"RehearsalDesk", "canCome", "(III)Z"⟩, 9), (⟨"RehearsalDesk$Patterns", "holds", "(II)Z"⟩, 10), (⟨"RehearsalDesk$Stage", "callThrough", "()V"⟩, 8), (⟨"RehearsalDesk$Stage", "failWith", "(I)V"⟩, 8), (⟨"RehearsalDesk$Stage", "giveWhole", "(I)V"⟩, 8), (⟨"RehearsalDesk$Stage", "answerBy", "(I)V"⟩, 8), (⟨"RehearsalDesk$Stage", "giveStand", "(I)V"⟩, 8), (⟨"RehearsalDesk$Stage", "giveParameter", "(I)V"⟩, 8), (⟨"RehearsalDesk$Expectations", "surveyOne", "(ILRehearsalDesk$Log;)V"⟩, 10), (⟨"RehearsalDesk$Wrongs", "findNumbers", "(LRehearsalDesk$Expectations;)V"⟩, 2), (⟨"RehearsalDesk$Wrongs", "add", "(III)V"⟩, 2), (⟨"RehearsalDesk$Wrongs", "findOrders", "(LRehearsalDesk$Expectations;)V"⟩, 2), (⟨"RehearsalDesk$Board", "callHeld", "(II)I"⟩, 11), (⟨"RehearsalDesk$Board", "bringAll", "(I)V"⟩, 11)]
theorem lw_r1 : ∀ q ∈ lw_privs_1, lw_okq q := List.forall_mem_cons.mpr ⟨lw_p0, List.forall_mem_cons.mpr ⟨lw_p1, List.forall_mem_cons.mpr ⟨lw_p2, List.forall_mem_cons.mpr ⟨lw_p3, List.forall_mem_cons.mpr ⟨lw_p4, List.forall_mem_cons.mpr ⟨lw_p5, List.forall_mem_cons.mpr ⟨lw_p6, List.forall_mem_cons.mpr ⟨lw_p7, List.forall_mem_cons.mpr ⟨lw_p8, List.forall_mem_cons.mpr ⟨lw_p9, List.forall_mem_cons.mpr ⟨lw_p10, List.forall_mem_cons.mpr ⟨lw_p11, List.forall_mem_cons.mpr ⟨lw_p12, List.forall_mem_cons.mpr ⟨lw_p13, List.forall_mem_cons.mpr ⟨lw_p14, List.forall_mem_cons.mpr ⟨lw_p15, fun _ h => absurd h List.not_mem_nil⟩⟩⟩⟩⟩⟩⟩⟩⟩⟩⟩⟩⟩⟩⟩⟩
theorem lw_p16 : lw_okq (⟨"RehearsalDesk$Board", "tell", "(I)V"⟩, 11) := ⟨⟨by decide +kernel, by decide +kernel⟩, List.mem_of_getElem? (i := 292) (by decide +kernel), List.mem_of_getElem? (i := 834) (by decide +kernel), List.mem_of_getElem? (i := 835) (by decide +kernel)⟩
theorem lw_p17 : lw_okq (⟨"RehearsalDesk", "countMethods", "(I)I"⟩, 9) := ⟨⟨by decide +kernel, by decide +kernel⟩, List.mem_of_getElem? (i := 18) (by decide +kernel), List.mem_of_getElem? (i := 893) (by decide +kernel), List.mem_of_getElem? (i := 894) (by decide +kernel)⟩
theorem lw_p18 : lw_okq (⟨"RehearsalDeskModel", "isBelow", "(II)Z"⟩, 59) := ⟨⟨by decide +kernel, by decide +kernel⟩, List.mem_of_getElem? (i := 919) (by decide +kernel), List.mem_of_getElem? (i := 1114) (by decide +kernel), List.mem_of_getElem? (i := 1115) (by decide +kernel)⟩
theorem lw_p19 : lw_okq (⟨"RehearsalDeskModel", "isStand", "(I)Z"⟩, 59) := ⟨⟨by decide +kernel, by decide +kernel⟩, List.mem_of_getElem? (i := 919) (by decide +kernel), List.mem_of_getElem? (i := 1126) (by decide +kernel), List.mem_of_getElem? (i := 1127) (by decide +kernel)⟩
theorem lw_p20 : lw_okq (⟨"RehearsalDeskModel", "isMethod", "(II)Z"⟩, 59) := ⟨⟨by decide +kernel, by decide +kernel⟩, List.mem_of_getElem? (i := 919) (by decide +kernel), List.mem_of_getElem? (i := 1138) (by decide +kernel), List.mem_of_getElem? (i := 1139) (by decide +kernel)⟩
theorem lw_p21 : lw_okq (⟨"RehearsalDeskModel", "begin", "(III)V"⟩, 59) := ⟨⟨by decide +kernel, by decide +kernel⟩, List.mem_of_getElem? (i := 919) (by decide +kernel), List.mem_of_getElem? (i := 1142) (by decide +kernel), List.mem_of_getElem? (i := 1143) (by decide +kernel)⟩
theorem lw_p22 : lw_okq (⟨"RehearsalDeskModel", "isRule", "(I)Z"⟩, 59) := ⟨⟨by decide +kernel, by decide +kernel⟩, List.mem_of_getElem? (i := 919) (by decide +kernel), List.mem_of_getElem? (i := 1150) (by decide +kernel), List.mem_of_getElem? (i := 1151) (by decide +kernel)⟩
theorem lw_p23 : lw_okq (⟨"RehearsalDeskModel", "putCondition", "(IIIII)I"⟩, 59) := ⟨⟨by decide +kernel, by decide +kernel⟩, List.mem_of_getElem? (i := 919) (by decide +kernel), List.mem_of_getElem? (i := 1154) (by decide +kernel), List.mem_of_getElem? (i := 1155) (by decide +kernel)⟩
theorem lw_p24 : lw_okq (⟨"RehearsalDeskModel", "methodAt", "(II)I"⟩, 59) := ⟨⟨by decide +kernel, by decide +kernel⟩, List.mem_of_getElem? (i := 919) (by decide +kernel), List.mem_of_getElem? (i := 1158) (by decide +kernel), List.mem_of_getElem? (i := 1159) (by decide +kernel)⟩
theorem lw_p25 : lw_okq (⟨"RehearsalDeskModel", "isStandParameter", "(III)Z"⟩, 59) := ⟨⟨by decide +kernel, by decide +kernel⟩, List.mem_of_getElem? (i := 919) (by decide +kernel), List.mem_of_getElem? (i := 1162) (by decide +kernel), List.mem_of_getElem? (i := 1163) (by decide +kernel)⟩
theorem lw_p26 : lw_okq (⟨"RehearsalDeskModel", "mayCome", "(IIII)Z"⟩, 59) := ⟨⟨by decide +kernel, by decide +kernel⟩, List.mem_of_getElem? (i := 919) (by decide +kernel), List.mem_of_getElem? (i := 1178) (by decide +kernel), List.mem_of_getElem? (i := 1179) (by decide +kernel)⟩
theorem lw_p27 : lw_okq (⟨"RehearsalDeskModel", "answerCall", "(IIIII)V"⟩, 59) := ⟨⟨by decide +kernel, by decide +kernel⟩, List.mem_of_getElem? (i := 919) (by decide +kernel), List.mem_of_getElem? (i := 1182) (by decide +kernel), List.mem_of_getElem? (i := 1183) (by decide +kernel)⟩
theorem lw_p28 : lw_okq (⟨"RehearsalDeskModel", "ruleFor", "(IIIII)I"⟩, 59) := ⟨⟨by decide +kernel, by decide +kernel⟩, List.mem_of_getElem? (i := 919) (by decide +kernel), List.mem_of_getElem? (i := 1186) (by decide +kernel), List.mem_of_getElem? (i := 1187) (by decide +kernel)⟩
theorem lw_p29 : lw_okq (⟨"RehearsalDeskModel", "meets", "(IIIIII)Z"⟩, 59) := ⟨⟨by decide +kernel, by decide +kernel⟩, List.mem_of_getElem? (i := 919) (by decide +kernel), List.mem_of_getElem? (i := 1190) (by decide +kernel), List.mem_of_getElem? (i := 1191) (by decide +kernel)⟩
theorem lw_p30 : lw_okq (⟨"RehearsalDeskModel", "holds", "(II)Z"⟩, 59) := ⟨⟨by decide +kernel, by decide +kernel⟩, List.mem_of_getElem? (i := 919) (by decide +kernel), List.mem_of_getElem? (i := 1194) (by decide +kernel), List.mem_of_getElem? (i := 1195) (by decide +kernel)⟩
theorem lw_p31 : lw_okq (⟨"RehearsalDeskModel", "byRule", "(IIIIII)V"⟩, 59) := ⟨⟨by decide +kernel, by decide +kernel⟩, List.mem_of_getElem? (i := 919) (by decide +kernel), List.mem_of_getElem? (i := 1198) (by decide +kernel), List.mem_of_getElem? (i := 1199) (by decide +kernel)⟩
def lw_privs_2 : List (MethodName × Nat) := [(⟨"RehearsalDesk$Board", "tell", "(I)V"⟩, 11), (⟨"RehearsalDesk", "countMethods", "(I)I"⟩, 9), (⟨"RehearsalDeskModel", "isBelow", "(II)Z"⟩, 59), (⟨"RehearsalDeskModel", "isStand", "(I)Z"⟩, 59), (⟨"RehearsalDeskModel", "isMethod", "(II)Z"⟩, 59), (⟨"RehearsalDeskModel", "begin", "(III)V"⟩, 59), (⟨"RehearsalDeskModel", "isRule", "(I)Z"⟩, 59), (⟨"RehearsalDeskModel", "putCondition", "(IIIII)I"⟩, 59), (⟨"RehearsalDeskModel", "methodAt", "(II)I"⟩, 59), (⟨"RehearsalDeskModel", "isStandParameter", "(III)Z"⟩, 59), (⟨"RehearsalDeskModel", "mayCome", "(IIII)Z"⟩, 59), (⟨"RehearsalDeskModel", "answerCall", "(IIIII)V"⟩, 59), (⟨"RehearsalDeskModel", "ruleFor", "(IIIII)I"⟩, 59), (⟨"RehearsalDeskModel", "meets", "(IIIIII)Z"⟩, 59), (⟨"RehearsalDeskModel", "holds", "(II)Z"⟩, 59), (⟨"RehearsalDeskModel", "byRule", "(IIIIII)V"⟩, 59)]
theorem lw_r2 : ∀ q ∈ lw_privs_2, lw_okq q := List.forall_mem_cons.mpr ⟨lw_p16, List.forall_mem_cons.mpr ⟨lw_p17, List.forall_mem_cons.mpr ⟨lw_p18, List.forall_mem_cons.mpr ⟨lw_p19, List.forall_mem_cons.mpr ⟨lw_p20, List.forall_mem_cons.mpr ⟨lw_p21, List.forall_mem_cons.mpr ⟨lw_p22, List.forall_mem_cons.mpr ⟨lw_p23, List.forall_mem_cons.mpr ⟨lw_p24, List.forall_mem_cons.mpr ⟨lw_p25, List.forall_mem_cons.mpr ⟨lw_p26, List.forall_mem_cons.mpr ⟨lw_p27, List.forall_mem_cons.mpr ⟨lw_p28, List.forall_mem_cons.mpr ⟨lw_p29, List.forall_mem_cons.mpr ⟨lw_p30, List.forall_mem_cons.mpr ⟨lw_p31, fun _ h => absurd h List.not_mem_nil⟩⟩⟩⟩⟩⟩⟩⟩⟩⟩⟩⟩⟩⟩⟩⟩
theorem lw_p32 : lw_okq (⟨"RehearsalDeskModel", "give", "(II)V"⟩, 59) := ⟨⟨by decide +kernel, by decide +kernel⟩, List.mem_of_getElem? (i := 919) (by decide +kernel), List.mem_of_getElem? (i := 1202) (by decide +kernel), List.mem_of_getElem? (i := 1203) (by decide +kernel)⟩
theorem lw_p33 : lw_okq (⟨"RehearsalDeskModel", "fail", "(II)V"⟩, 59) := ⟨⟨by decide +kernel, by decide +kernel⟩, List.mem_of_getElem? (i := 919) (by decide +kernel), List.mem_of_getElem? (i := 1206) (by decide +kernel), List.mem_of_getElem? (i := 1207) (by decide +kernel)⟩
theorem lw_p34 : lw_okq (⟨"RehearsalDeskModel", "sumOf", "(IIII)I"⟩, 59) := ⟨⟨by decide +kernel, by decide +kernel⟩, List.mem_of_getElem? (i := 919) (by decide +kernel), List.mem_of_getElem? (i := 1210) (by decide +kernel), List.mem_of_getElem? (i := 1211) (by decide +kernel)⟩
theorem lw_p35 : lw_okq (⟨"RehearsalDeskModel", "through", "(III)V"⟩, 59) := ⟨⟨by decide +kernel, by decide +kernel⟩, List.mem_of_getElem? (i := 919) (by decide +kernel), List.mem_of_getElem? (i := 1214) (by decide +kernel), List.mem_of_getElem? (i := 1215) (by decide +kernel)⟩
theorem lw_p36 : lw_okq (⟨"RehearsalDeskModel", "isExpectation", "(I)Z"⟩, 59) := ⟨⟨by decide +kernel, by decide +kernel⟩, List.mem_of_getElem? (i := 919) (by decide +kernel), List.mem_of_getElem? (i := 1234) (by decide +kernel), List.mem_of_getElem? (i := 1235) (by decide +kernel)⟩
theorem lw_p37 : lw_okq (⟨"RehearsalDeskModel", "metBy", "(I)I"⟩, 59) := ⟨⟨by decide +kernel, by decide +kernel⟩, List.mem_of_getElem? (i := 919) (by decide +kernel), List.mem_of_getElem? (i := 1250) (by decide +kernel), List.mem_of_getElem? (i := 1251) (by decide +kernel)⟩
theorem lw_p38 : lw_okq (⟨"RehearsalDeskModel", "callMeets", "(II)Z"⟩, 59) := ⟨⟨by decide +kernel, by decide +kernel⟩, List.mem_of_getElem? (i := 919) (by decide +kernel), List.mem_of_getElem? (i := 1254) (by decide +kernel), List.mem_of_getElem? (i := 1255) (by decide +kernel)⟩
theorem lw_p39 : lw_okq (⟨"RehearsalDeskModel", "note", "(III)V"⟩, 59) := ⟨⟨by decide +kernel, by decide +kernel⟩, List.mem_of_getElem? (i := 919) (by decide +kernel), List.mem_of_getElem? (i := 1262) (by decide +kernel), List.mem_of_getElem? (i := 1263) (by decide +kernel)⟩
theorem lw_p40 : lw_okq (⟨"RehearsalDeskModel", "wrongOrder", "(I)I"⟩, 59) := ⟨⟨by decide +kernel, by decide +kernel⟩, List.mem_of_getElem? (i := 919) (by decide +kernel), List.mem_of_getElem? (i := 1266) (by decide +kernel), List.mem_of_getElem? (i := 1267) (by decide +kernel)⟩
theorem lw_p41 : lw_okq (⟨"RehearsalDeskModel", "meetsAny", "(I)Z"⟩, 59) := ⟨⟨by decide +kernel, by decide +kernel⟩, List.mem_of_getElem? (i := 919) (by decide +kernel), List.mem_of_getElem? (i := 1270) (by decide +kernel), List.mem_of_getElem? (i := 1271) (by decide +kernel)⟩
theorem lw_p42 : lw_okq (⟨"RehearsalDeskModel", "comeTo", "(I)V"⟩, 59) := ⟨⟨by decide +kernel, by decide +kernel⟩, List.mem_of_getElem? (i := 919) (by decide +kernel), List.mem_of_getElem? (i := 1290) (by decide +kernel), List.mem_of_getElem? (i := 1291) (by decide +kernel)⟩
theorem lw_p43 : lw_okq (⟨"RehearsalDeskModel", "done", "(I)I"⟩, 59) := ⟨⟨by decide +kernel, by decide +kernel⟩, List.mem_of_getElem? (i := 919) (by decide +kernel), List.mem_of_getElem? (i := 1294) (by decide +kernel), List.mem_of_getElem? (i := 1295) (by decide +kernel)⟩
theorem lw_p44 : lw_okq (⟨"RehearsalDeskModel", "callBy", "(II)I"⟩, 59) := ⟨⟨by decide +kernel, by decide +kernel⟩, List.mem_of_getElem? (i := 919) (by decide +kernel), List.mem_of_getElem? (i := 1298) (by decide +kernel), List.mem_of_getElem? (i := 1299) (by decide +kernel)⟩
theorem lw_p45 : lw_okq (⟨"RehearsalDeskModel", "nextFor", "(II)I"⟩, 59) := ⟨⟨by decide +kernel, by decide +kernel⟩, List.mem_of_getElem? (i := 919) (by decide +kernel), List.mem_of_getElem? (i := 1302) (by decide +kernel), List.mem_of_getElem? (i := 1303) (by decide +kernel)⟩
def lw_privs_3 : List (MethodName × Nat) := [(⟨"RehearsalDeskModel", "give", "(II)V"⟩, 59), (⟨"RehearsalDeskModel", "fail", "(II)V"⟩, 59), (⟨"RehearsalDeskModel", "sumOf", "(IIII)I"⟩, 59), (⟨"RehearsalDeskModel", "through", "(III)V"⟩, 59), (⟨"RehearsalDeskModel", "isExpectation", "(I)Z"⟩, 59), (⟨"RehearsalDeskModel", "metBy", "(I)I"⟩, 59), (⟨"RehearsalDeskModel", "callMeets", "(II)Z"⟩, 59), (⟨"RehearsalDeskModel", "note", "(III)V"⟩, 59), (⟨"RehearsalDeskModel", "wrongOrder", "(I)I"⟩, 59), (⟨"RehearsalDeskModel", "meetsAny", "(I)Z"⟩, 59), (⟨"RehearsalDeskModel", "comeTo", "(I)V"⟩, 59), (⟨"RehearsalDeskModel", "done", "(I)I"⟩, 59), (⟨"RehearsalDeskModel", "callBy", "(II)I"⟩, 59), (⟨"RehearsalDeskModel", "nextFor", "(II)I"⟩, 59)]
theorem lw_r3 : ∀ q ∈ lw_privs_3, lw_okq q := List.forall_mem_cons.mpr ⟨lw_p32, List.forall_mem_cons.mpr ⟨lw_p33, List.forall_mem_cons.mpr ⟨lw_p34, List.forall_mem_cons.mpr ⟨lw_p35, List.forall_mem_cons.mpr ⟨lw_p36, List.forall_mem_cons.mpr ⟨lw_p37, List.forall_mem_cons.mpr ⟨lw_p38, List.forall_mem_cons.mpr ⟨lw_p39, List.forall_mem_cons.mpr ⟨lw_p40, List.forall_mem_cons.mpr ⟨lw_p41, List.forall_mem_cons.mpr ⟨lw_p42, List.forall_mem_cons.mpr ⟨lw_p43, List.forall_mem_cons.mpr ⟨lw_p44, List.forall_mem_cons.mpr ⟨lw_p45, fun _ h => absurd h List.not_mem_nil⟩⟩⟩⟩⟩⟩⟩⟩⟩⟩⟩⟩⟩⟩
def lw_privs : List (MethodName × Nat) := lw_privs_1 ++ (lw_privs_2 ++ (lw_privs_3))
def lw_tbl : List Cond := k2_sels lw_privs ++ tables_1
theorem lw_privs_ok : ∀ q ∈ lw_privs, lw_okq q := by
  show ∀ q ∈ lw_privs_1 ++ (lw_privs_2 ++ (lw_privs_3)), lw_okq q
  exact List.forall_mem_append.mpr ⟨lw_r1, List.forall_mem_append.mpr ⟨lw_r2, lw_r3⟩⟩
-- ===== names and tables of the program, by program out of the printed names =====
def RX0 : String := "RehearsalDesk$Board"
def TX0 : u_T := fun k => match k with
  | 0 => ("RehearsalDesk$Board", "cues", "LRehearsalDesk$Cues;", true)
  | 1 => ("RehearsalDesk$Board", "faces", "LRehearsalDesk$Faces;", true)
  | 2 => ("RehearsalDesk$Board", "cast", "LRehearsalDesk$Stands;", true)
  | 3 => ("RehearsalDesk$Board", "stage", "LRehearsalDesk$Stage;", true)
  | 4 => ("RehearsalDesk$Board", "tries", "LRehearsalDesk$Tries;", true)
  | 5 => ("RehearsalDesk$Board", "wholes", "[I", true)
  | 6 => ("RehearsalDesk$Board", "held", "[I", true)
  | 7 => ("RehearsalDesk$Board", "told", "[I", true)
  | 8 => ("RehearsalDesk$Board", "toldSize", "I", false)
  | 9 => ("RehearsalDesk$Board", "done", "I", false)
  | _ => ("RehearsalDesk$Board", "next", "I", false)
def tyX0 : Nat → FieldType := fun k => match k with
  | 0 => .object "RehearsalDesk$Cues"
  | 1 => .object "RehearsalDesk$Faces"
  | 2 => .object "RehearsalDesk$Stands"
  | 3 => .object "RehearsalDesk$Stage"
  | 4 => .object "RehearsalDesk$Tries"
  | 5 => .array .int
  | 6 => .array .int
  | 7 => .array .int
  | 8 => .int
  | 9 => .int
  | _ => .int
theorem nmX0 : ∀ a, a < 11 → ∀ b, b < 11 → a ≠ b → (TX0 a).2.1 ≠ (TX0 b).2.1 := by decide +kernel
theorem tyX0_ok : ∀ k, k < 11 → parseFieldDescriptor (TX0 k).2.2.1 = some (tyX0 k) := by decide +kernel
abbrev cX0_init : ByteArray := prog_2_method_1_code
def yX0_init : MethodName := ⟨RX0, "<init>", "(LRehearsalDesk$Cues;LRehearsalDesk$Faces;LRehearsalDesk$Stands;LRehearsalDesk$Stage;)V"⟩
abbrev cX0_isWornOut : ByteArray := prog_2_method_2_code
def yX0_isWornOut : MethodName := ⟨RX0, "isWornOut", "()Z"⟩
abbrev cX0_cuesDone : ByteArray := prog_2_method_3_code
def yX0_cuesDone : MethodName := ⟨RX0, "cuesDone", "()I"⟩
abbrev cX0_begin : ByteArray := prog_2_method_4_code
def yX0_begin : MethodName := ⟨RX0, "begin", "()V"⟩
abbrev cX0_isAtCue : ByteArray := prog_2_method_5_code
def yX0_isAtCue : MethodName := ⟨RX0, "isAtCue", "()Z"⟩
abbrev cX0_doCue : ByteArray := prog_2_method_6_code
def yX0_doCue : MethodName := ⟨RX0, "doCue", "()I"⟩
abbrev cX0_callHeld : ByteArray := prog_2_method_7_code
def yX0_callHeld : MethodName := ⟨RX0, "callHeld", "(II)I"⟩
abbrev cX0_bringAll : ByteArray := prog_2_method_8_code
def yX0_bringAll : MethodName := ⟨RX0, "bringAll", "(I)V"⟩
abbrev cX0_tell : ByteArray := prog_2_method_9_code
def yX0_tell : MethodName := ⟨RX0, "tell", "(I)V"⟩
abbrev cX0_recover : ByteArray := prog_2_method_10_code
def yX0_recover : MethodName := ⟨RX0, "recover", "(I)Z"⟩
abbrev cX0_arrive : ByteArray := prog_2_method_11_code
def yX0_arrive : MethodName := ⟨RX0, "arrive", "()V"⟩
abbrev cX0_toldSize : ByteArray := prog_2_method_12_code
def yX0_toldSize : MethodName := ⟨RX0, "toldSize", "()I"⟩
abbrev cX0_toldNumber : ByteArray := prog_2_method_13_code
def yX0_toldNumber : MethodName := ⟨RX0, "toldNumber", "(I)I"⟩
abbrev cX0_emptyTold : ByteArray := prog_2_method_14_code
def yX0_emptyTold : MethodName := ⟨RX0, "emptyTold", "()V"⟩
def RX1 : String := "RehearsalDesk$Cues"
def TX1 : u_T := fun k => match k with
  | 0 => ("RehearsalDesk$Cues", "size", "I", false)
  | 1 => ("RehearsalDesk$Cues", "kinds", "[I", true)
  | 2 => ("RehearsalDesk$Cues", "as", "[I", true)
  | 3 => ("RehearsalDesk$Cues", "bs", "[I", true)
  | _ => ("RehearsalDesk$Cues", "cs", "[I", true)
def tyX1 : Nat → FieldType := fun k => match k with
  | 0 => .int
  | 1 => .array .int
  | 2 => .array .int
  | 3 => .array .int
  | _ => .array .int
theorem nmX1 : ∀ a, a < 5 → ∀ b, b < 5 → a ≠ b → (TX1 a).2.1 ≠ (TX1 b).2.1 := by decide +kernel
theorem tyX1_ok : ∀ k, k < 5 → parseFieldDescriptor (TX1 k).2.2.1 = some (tyX1 k) := by decide +kernel
abbrev cX1_init : ByteArray := prog_3_method_1_code
def yX1_init : MethodName := ⟨RX1, "<init>", "()V"⟩
abbrev cX1_isCue : ByteArray := prog_3_method_2_code
def yX1_isCue : MethodName := ⟨RX1, "isCue", "(IIII)Z"⟩
abbrev cX1_isWithin : ByteArray := prog_3_method_3_code
def yX1_isWithin : MethodName := ⟨RX1, "isWithin", "(II)Z"⟩
abbrev cX1_size : ByteArray := prog_3_method_4_code
def yX1_size : MethodName := ⟨RX1, "size", "()I"⟩
abbrev cX1_add : ByteArray := prog_3_method_5_code
def yX1_add : MethodName := ⟨RX1, "add", "(IIII)I"⟩
abbrev cX1_removeAll : ByteArray := prog_3_method_6_code
def yX1_removeAll : MethodName := ⟨RX1, "removeAll", "()I"⟩
def RX2 : String := "RehearsalDesk$Expectations"
def TX2 : u_T := fun k => match k with
  | 0 => ("RehearsalDesk$Expectations", "patterns", "LRehearsalDesk$Patterns;", true)
  | 1 => ("RehearsalDesk$Expectations", "least", "[I", true)
  | 2 => ("RehearsalDesk$Expectations", "most", "[I", true)
  | 3 => ("RehearsalDesk$Expectations", "orders", "I", false)
  | 4 => ("RehearsalDesk$Expectations", "orderFirst", "[I", true)
  | 5 => ("RehearsalDesk$Expectations", "orderSecond", "[I", true)
  | 6 => ("RehearsalDesk$Expectations", "meeting", "[I", true)
  | 7 => ("RehearsalDesk$Expectations", "firstCall", "[I", true)
  | 8 => ("RehearsalDesk$Expectations", "lastCall", "[I", true)
  | _ => ("RehearsalDesk$Expectations", "expected", "[Z", true)
def tyX2 : Nat → FieldType := fun k => match k with
  | 0 => .object "RehearsalDesk$Patterns"
  | 1 => .array .int
  | 2 => .array .int
  | 3 => .int
  | 4 => .array .int
  | 5 => .array .int
  | 6 => .array .int
  | 7 => .array .int
  | 8 => .array .int
  | _ => .array .boolean
theorem nmX2 : ∀ a, a < 10 → ∀ b, b < 10 → a ≠ b → (TX2 a).2.1 ≠ (TX2 b).2.1 := by decide +kernel
theorem tyX2_ok : ∀ k, k < 10 → parseFieldDescriptor (TX2 k).2.2.1 = some (tyX2 k) := by decide +kernel
abbrev cX2_init : ByteArray := prog_4_method_1_code
def yX2_init : MethodName := ⟨RX2, "<init>", "(LRehearsalDesk$Patterns;)V"⟩
abbrev cX2_add : ByteArray := prog_4_method_2_code
def yX2_add : MethodName := ⟨RX2, "add", "(IIIII)I"⟩
abbrev cX2_orders : ByteArray := prog_4_method_3_code
def yX2_orders : MethodName := ⟨RX2, "orders", "()I"⟩
abbrev cX2_addOrder : ByteArray := prog_4_method_4_code
def yX2_addOrder : MethodName := ⟨RX2, "addOrder", "(II)I"⟩
abbrev cX2_countMeeting : ByteArray := prog_4_method_5_code
def yX2_countMeeting : MethodName := ⟨RX2, "countMeeting", "(ILRehearsalDesk$Log;)I"⟩
abbrev cX2_survey : ByteArray := prog_4_method_6_code
def yX2_survey : MethodName := ⟨RX2, "survey", "(LRehearsalDesk$Log;)V"⟩
abbrev cX2_surveyOne : ByteArray := prog_4_method_7_code
def yX2_surveyOne : MethodName := ⟨RX2, "surveyOne", "(ILRehearsalDesk$Log;)V"⟩
abbrev cX2_meeting : ByteArray := prog_4_method_8_code
def yX2_meeting : MethodName := ⟨RX2, "meeting", "(I)I"⟩
abbrev cX2_isTooFew : ByteArray := prog_4_method_9_code
def yX2_isTooFew : MethodName := ⟨RX2, "isTooFew", "(I)Z"⟩
abbrev cX2_isTooMany : ByteArray := prog_4_method_10_code
def yX2_isTooMany : MethodName := ⟨RX2, "isTooMany", "(I)Z"⟩
abbrev cX2_isExpected : ByteArray := prog_4_method_11_code
def yX2_isExpected : MethodName := ⟨RX2, "isExpected", "(I)Z"⟩
abbrev cX2_callAhead : ByteArray := prog_4_method_12_code
def yX2_callAhead : MethodName := ⟨RX2, "callAhead", "(I)I"⟩
def RX3 : String := "RehearsalDesk$Faces"
def TX3 : u_T := fun k => match k with
  | 0 => ("RehearsalDesk$Faces", "size", "I", false)
  | 1 => ("RehearsalDesk$Faces", "methods", "[I", true)
  | 2 => ("RehearsalDesk$Faces", "lineage", "[I", true)
  | 3 => ("RehearsalDesk$Faces", "fixed", "[Z", true)
  | 4 => ("RehearsalDesk$Faces", "parameters", "[I", true)
  | 5 => ("RehearsalDesk$Faces", "standBits", "[I", true)
  | 6 => ("RehearsalDesk$Faces", "gives", "[I", true)
  | _ => ("RehearsalDesk$Faces", "fails", "[I", true)
def tyX3 : Nat → FieldType := fun k => match k with
  | 0 => .int
  | 1 => .array .int
  | 2 => .array .int
  | 3 => .array .boolean
  | 4 => .array .int
  | 5 => .array .int
  | 6 => .array .int
  | _ => .array .int
theorem nmX3 : ∀ a, a < 8 → ∀ b, b < 8 → a ≠ b → (TX3 a).2.1 ≠ (TX3 b).2.1 := by decide +kernel
theorem tyX3_ok : ∀ k, k < 8 → parseFieldDescriptor (TX3 k).2.2.1 = some (tyX3 k) := by decide +kernel
abbrev cX3_init : ByteArray := prog_5_method_1_code
def yX3_init : MethodName := ⟨RX3, "<init>", "()V"⟩
abbrev cX3_size : ByteArray := prog_5_method_2_code
def yX3_size : MethodName := ⟨RX3, "size", "()I"⟩
abbrev cX3_has : ByteArray := prog_5_method_3_code
def yX3_has : MethodName := ⟨RX3, "has", "(I)Z"⟩
abbrev cX3_add : ByteArray := prog_5_method_4_code
def yX3_add : MethodName := ⟨RX3, "add", "(I)I"⟩
abbrev cX3_inherit : ByteArray := prog_5_method_5_code
def yX3_inherit : MethodName := ⟨RX3, "inherit", "(II)V"⟩
abbrev cX3_isFixed : ByteArray := prog_5_method_6_code
def yX3_isFixed : MethodName := ⟨RX3, "isFixed", "(I)Z"⟩
abbrev cX3_fix : ByteArray := prog_5_method_7_code
def yX3_fix : MethodName := ⟨RX3, "fix", "(I)V"⟩
abbrev cX3_addMethod : ByteArray := prog_5_method_8_code
def yX3_addMethod : MethodName := ⟨RX3, "addMethod", "(IIIII)I"⟩
abbrev cX3_methods : ByteArray := prog_5_method_9_code
def yX3_methods : MethodName := ⟨RX3, "methods", "(I)I"⟩
abbrev cX3_lineage : ByteArray := prog_5_method_10_code
def yX3_lineage : MethodName := ⟨RX3, "lineage", "(I)I"⟩
abbrev cX3_signature : ByteArray := prog_5_method_11_code
def yX3_signature : MethodName := ⟨RX3, "signature", "(II)I"⟩
abbrev cX3_takes : ByteArray := prog_5_method_12_code
def yX3_takes : MethodName := ⟨RX3, "takes", "(II)Z"⟩
abbrev cX3_takesStand : ByteArray := prog_5_method_13_code
def yX3_takesStand : MethodName := ⟨RX3, "takesStand", "(II)Z"⟩
abbrev cX3_gives : ByteArray := prog_5_method_14_code
def yX3_gives : MethodName := ⟨RX3, "gives", "(I)I"⟩
abbrev cX3_mayFail : ByteArray := prog_5_method_15_code
def yX3_mayFail : MethodName := ⟨RX3, "mayFail", "(II)Z"⟩
def RX4 : String := "RehearsalDesk$Log"
def TX4 : u_T := fun k => match k with
  | 0 => ("RehearsalDesk$Log", "rows", "[I", true)
  | 1 => ("RehearsalDesk$Log", "latest", "[I", true)
  | 2 => ("RehearsalDesk$Log", "any", "Z", false)
  | 3 => ("RehearsalDesk$Log", "size", "I", false)
  | _ => ("RehearsalDesk$Log", "lost", "I", false)
def tyX4 : Nat → FieldType := fun k => match k with
  | 0 => .array .int
  | 1 => .array .int
  | 2 => .boolean
  | 3 => .int
  | _ => .int
theorem nmX4 : ∀ a, a < 5 → ∀ b, b < 5 → a ≠ b → (TX4 a).2.1 ≠ (TX4 b).2.1 := by decide +kernel
theorem tyX4_ok : ∀ k, k < 5 → parseFieldDescriptor (TX4 k).2.2.1 = some (tyX4 k) := by decide +kernel
abbrev cX4_init : ByteArray := prog_6_method_1_code
def yX4_init : MethodName := ⟨RX4, "<init>", "()V"⟩
abbrev cX4_hasLatest : ByteArray := prog_6_method_2_code
def yX4_hasLatest : MethodName := ⟨RX4, "hasLatest", "()Z"⟩
abbrev cX4_size : ByteArray := prog_6_method_3_code
def yX4_size : MethodName := ⟨RX4, "size", "()I"⟩
abbrev cX4_lost : ByteArray := prog_6_method_4_code
def yX4_lost : MethodName := ⟨RX4, "lost", "()I"⟩
abbrev cX4_column : ByteArray := prog_6_method_5_code
def yX4_column : MethodName := ⟨RX4, "column", "(II)I"⟩
abbrev cX4_keepLatest : ByteArray := prog_6_method_6_code
def yX4_keepLatest : MethodName := ⟨RX4, "keepLatest", "()V"⟩
abbrev cX4_empty : ByteArray := prog_6_method_7_code
def yX4_empty : MethodName := ⟨RX4, "empty", "()V"⟩
def RX5 : String := "RehearsalDesk$Patterns"
def TX5 : u_T := fun k => match k with
  | 0 => ("RehearsalDesk$Patterns", "most", "I", true)
  | 1 => ("RehearsalDesk$Patterns", "faces", "LRehearsalDesk$Faces;", true)
  | 2 => ("RehearsalDesk$Patterns", "cast", "LRehearsalDesk$Stands;", true)
  | 3 => ("RehearsalDesk$Patterns", "size", "I", false)
  | 4 => ("RehearsalDesk$Patterns", "stands", "[I", true)
  | 5 => ("RehearsalDesk$Patterns", "methods", "[I", true)
  | 6 => ("RehearsalDesk$Patterns", "signatures", "[I", true)
  | 7 => ("RehearsalDesk$Patterns", "conditions", "[I", true)
  | 8 => ("RehearsalDesk$Patterns", "lows", "[I", true)
  | _ => ("RehearsalDesk$Patterns", "highs", "[I", true)
def tyX5 : Nat → FieldType := fun k => match k with
  | 0 => .int
  | 1 => .object "RehearsalDesk$Faces"
  | 2 => .object "RehearsalDesk$Stands"
  | 3 => .int
  | 4 => .array .int
  | 5 => .array .int
  | 6 => .array .int
  | 7 => .array .int
  | 8 => .array .int
  | _ => .array .int
theorem nmX5 : ∀ a, a < 10 → ∀ b, b < 10 → a ≠ b → (TX5 a).2.1 ≠ (TX5 b).2.1 := by decide +kernel
theorem tyX5_ok : ∀ k, k < 10 → parseFieldDescriptor (TX5 k).2.2.1 = some (tyX5 k) := by decide +kernel
abbrev cX5_init : ByteArray := prog_7_method_1_code
def yX5_init : MethodName := ⟨RX5, "<init>", "(ILRehearsalDesk$Faces;LRehearsalDesk$Stands;)V"⟩
abbrev cX5_size : ByteArray := prog_7_method_2_code
def yX5_size : MethodName := ⟨RX5, "size", "()I"⟩
abbrev cX5_has : ByteArray := prog_7_method_3_code
def yX5_has : MethodName := ⟨RX5, "has", "(I)Z"⟩
abbrev cX5_add : ByteArray := prog_7_method_4_code
def yX5_add : MethodName := ⟨RX5, "add", "(III)I"⟩
abbrev cX5_signature : ByteArray := prog_7_method_5_code
def yX5_signature : MethodName := ⟨RX5, "signature", "(I)I"⟩
abbrev cX5_hasParameter : ByteArray := prog_7_method_6_code
def yX5_hasParameter : MethodName := ⟨RX5, "hasParameter", "(II)Z"⟩
abbrev cX5_isCatching : ByteArray := prog_7_method_7_code
def yX5_isCatching : MethodName := ⟨RX5, "isCatching", "(II)Z"⟩
abbrev cX5_setCondition : ByteArray := prog_7_method_8_code
def yX5_setCondition : MethodName := ⟨RX5, "setCondition", "(IIIII)I"⟩
abbrev cX5_isCondition : ByteArray := prog_7_method_9_code
def yX5_isCondition : MethodName := ⟨RX5, "isCondition", "(ZII)Z"⟩
abbrev cX5_fits : ByteArray := prog_7_method_10_code
def yX5_fits : MethodName := ⟨RX5, "fits", "(I[II)Z"⟩
abbrev cX5_holds : ByteArray := prog_7_method_11_code
def yX5_holds : MethodName := ⟨RX5, "holds", "(II)Z"⟩
def RX6 : String := "RehearsalDesk$Rules"
def TX6 : u_T := fun k => match k with
  | 0 => ("RehearsalDesk$Rules", "patterns", "LRehearsalDesk$Patterns;", true)
  | 1 => ("RehearsalDesk$Rules", "faces", "LRehearsalDesk$Faces;", true)
  | 2 => ("RehearsalDesk$Rules", "cast", "LRehearsalDesk$Stands;", true)
  | 3 => ("RehearsalDesk$Rules", "answers", "[I", true)
  | 4 => ("RehearsalDesk$Rules", "answerKinds", "[I", true)
  | 5 => ("RehearsalDesk$Rules", "answerValues", "[I", true)
  | 6 => ("RehearsalDesk$Rules", "calls", "[I", true)
  | 7 => ("RehearsalDesk$Rules", "hasCaught", "[Z", true)
  | _ => ("RehearsalDesk$Rules", "caughtValues", "[I", true)
def tyX6 : Nat → FieldType := fun k => match k with
  | 0 => .object "RehearsalDesk$Patterns"
  | 1 => .object "RehearsalDesk$Faces"
  | 2 => .object "RehearsalDesk$Stands"
  | 3 => .array .int
  | 4 => .array .int
  | 5 => .array .int
  | 6 => .array .int
  | 7 => .array .boolean
  | _ => .array .int
theorem nmX6 : ∀ a, a < 9 → ∀ b, b < 9 → a ≠ b → (TX6 a).2.1 ≠ (TX6 b).2.1 := by decide +kernel
theorem tyX6_ok : ∀ k, k < 9 → parseFieldDescriptor (TX6 k).2.2.1 = some (tyX6 k) := by decide +kernel
abbrev cX6_init : ByteArray := prog_8_method_1_code
def yX6_init : MethodName := ⟨RX6, "<init>", "(LRehearsalDesk$Patterns;LRehearsalDesk$Faces;LRehearsalDesk$Stands;)V"⟩
abbrev cX6_isAnswer : ByteArray := prog_8_method_2_code
def yX6_isAnswer : MethodName := ⟨RX6, "isAnswer", "(III)Z"⟩
abbrev cX6_addAnswer : ByteArray := prog_8_method_3_code
def yX6_addAnswer : MethodName := ⟨RX6, "addAnswer", "(III)I"⟩
abbrev cX6_find : ByteArray := prog_8_method_4_code
def yX6_find : MethodName := ⟨RX6, "find", "([I)I"⟩
abbrev cX6_use : ByteArray := prog_8_method_5_code
def yX6_use : MethodName := ⟨RX6, "use", "(I[I)I"⟩
abbrev cX6_answerKind : ByteArray := prog_8_method_6_code
def yX6_answerKind : MethodName := ⟨RX6, "answerKind", "(I)I"⟩
abbrev cX6_answerValue : ByteArray := prog_8_method_7_code
def yX6_answerValue : MethodName := ⟨RX6, "answerValue", "(I)I"⟩
abbrev cX6_holdsCaught : ByteArray := prog_8_method_8_code
def yX6_holdsCaught : MethodName := ⟨RX6, "holdsCaught", "(II)Z"⟩
abbrev cX6_caughtValue : ByteArray := prog_8_method_9_code
def yX6_caughtValue : MethodName := ⟨RX6, "caughtValue", "(II)I"⟩
abbrev cX6_release : ByteArray := prog_8_method_10_code
def yX6_release : MethodName := ⟨RX6, "release", "(II)V"⟩
abbrev cX6_startAgain : ByteArray := prog_8_method_11_code
def yX6_startAgain : MethodName := ⟨RX6, "startAgain", "()V"⟩
def RX7 : String := "RehearsalDesk$Stage"
def TX7 : u_T := fun k => match k with
  | 0 => ("RehearsalDesk$Stage", "faces", "LRehearsalDesk$Faces;", true)
  | 1 => ("RehearsalDesk$Stage", "cast", "LRehearsalDesk$Stands;", true)
  | 2 => ("RehearsalDesk$Stage", "rules", "LRehearsalDesk$Rules;", true)
  | 3 => ("RehearsalDesk$Stage", "log", "LRehearsalDesk$Log;", true)
  | 4 => ("RehearsalDesk$Stage", "now", "[I", true)
  | 5 => ("RehearsalDesk$Stage", "levels", "[I", true)
  | 6 => ("RehearsalDesk$Stage", "signature", "I", false)
  | _ => ("RehearsalDesk$Stage", "sumOfWholes", "I", false)
def tyX7 : Nat → FieldType := fun k => match k with
  | 0 => .object "RehearsalDesk$Faces"
  | 1 => .object "RehearsalDesk$Stands"
  | 2 => .object "RehearsalDesk$Rules"
  | 3 => .object "RehearsalDesk$Log"
  | 4 => .array .int
  | 5 => .array .int
  | 6 => .int
  | _ => .int
theorem nmX7 : ∀ a, a < 8 → ∀ b, b < 8 → a ≠ b → (TX7 a).2.1 ≠ (TX7 b).2.1 := by decide +kernel
theorem tyX7_ok : ∀ k, k < 8 → parseFieldDescriptor (TX7 k).2.2.1 = some (tyX7 k) := by decide +kernel
abbrev cX7_init : ByteArray := prog_9_method_1_code
def yX7_init : MethodName := ⟨RX7, "<init>", "(LRehearsalDesk$Faces;LRehearsalDesk$Stands;LRehearsalDesk$Rules;LRehearsalDesk$Log;)V"⟩
abbrev cX7_begin : ByteArray := prog_9_method_2_code
def yX7_begin : MethodName := ⟨RX7, "begin", "(III)V"⟩
abbrev cX7_bring : ByteArray := prog_9_method_3_code
def yX7_bring : MethodName := ⟨RX7, "bring", "(II)V"⟩
abbrev cX7_perform : ByteArray := prog_9_method_4_code
def yX7_perform : MethodName := ⟨RX7, "perform", "()V"⟩
abbrev cX7_answerBy : ByteArray := prog_9_method_5_code
def yX7_answerBy : MethodName := ⟨RX7, "answerBy", "(I)V"⟩
abbrev cX7_callThrough : ByteArray := prog_9_method_6_code
def yX7_callThrough : MethodName := ⟨RX7, "callThrough", "()V"⟩
abbrev cX7_giveParameter : ByteArray := prog_9_method_7_code
def yX7_giveParameter : MethodName := ⟨RX7, "giveParameter", "(I)V"⟩
abbrev cX7_giveWhole : ByteArray := prog_9_method_8_code
def yX7_giveWhole : MethodName := ⟨RX7, "giveWhole", "(I)V"⟩
abbrev cX7_giveStand : ByteArray := prog_9_method_9_code
def yX7_giveStand : MethodName := ⟨RX7, "giveStand", "(I)V"⟩
abbrev cX7_failWith : ByteArray := prog_9_method_10_code
def yX7_failWith : MethodName := ⟨RX7, "failWith", "(I)V"⟩
def RX8 : String := "RehearsalDesk$Stands"
def TX8 : u_T := fun k => match k with
  | 0 => ("RehearsalDesk$Stands", "faces", "LRehearsalDesk$Faces;", true)
  | 1 => ("RehearsalDesk$Stands", "size", "I", false)
  | 2 => ("RehearsalDesk$Stands", "face", "[I", true)
  | 3 => ("RehearsalDesk$Stands", "lineage", "[I", true)
  | 4 => ("RehearsalDesk$Stands", "thing", "[I", true)
  | _ => ("RehearsalDesk$Stands", "noneBeside", "[Z", true)
def tyX8 : Nat → FieldType := fun k => match k with
  | 0 => .object "RehearsalDesk$Faces"
  | 1 => .int
  | 2 => .array .int
  | 3 => .array .int
  | 4 => .array .int
  | _ => .array .boolean
theorem nmX8 : ∀ a, a < 6 → ∀ b, b < 6 → a ≠ b → (TX8 a).2.1 ≠ (TX8 b).2.1 := by decide +kernel
theorem tyX8_ok : ∀ k, k < 6 → parseFieldDescriptor (TX8 k).2.2.1 = some (tyX8 k) := by decide +kernel
abbrev cX8_init : ByteArray := prog_10_method_1_code
def yX8_init : MethodName := ⟨RX8, "<init>", "(LRehearsalDesk$Faces;)V"⟩
abbrev cX8_size : ByteArray := prog_10_method_2_code
def yX8_size : MethodName := ⟨RX8, "size", "()I"⟩
abbrev cX8_has : ByteArray := prog_10_method_3_code
def yX8_has : MethodName := ⟨RX8, "has", "(I)Z"⟩
abbrev cX8_add : ByteArray := prog_10_method_4_code
def yX8_add : MethodName := ⟨RX8, "add", "(II)I"⟩
abbrev cX8_isOf : ByteArray := prog_10_method_5_code
def yX8_isOf : MethodName := ⟨RX8, "isOf", "(II)Z"⟩
abbrev cX8_thing : ByteArray := prog_10_method_6_code
def yX8_thing : MethodName := ⟨RX8, "thing", "(I)I"⟩
abbrev cX8_signature : ByteArray := prog_10_method_7_code
def yX8_signature : MethodName := ⟨RX8, "signature", "(II)I"⟩
abbrev cX8_hasNoneBeside : ByteArray := prog_10_method_8_code
def yX8_hasNoneBeside : MethodName := ⟨RX8, "hasNoneBeside", "(I)Z"⟩
abbrev cX8_setNoneBeside : ByteArray := prog_10_method_9_code
def yX8_setNoneBeside : MethodName := ⟨RX8, "setNoneBeside", "(IZ)Z"⟩
def RX9 : String := "RehearsalDesk$Tries"
def TX9 : u_T := fun k => match k with
  | 0 => ("RehearsalDesk$Tries", "size", "I", false)
  | 1 => ("RehearsalDesk$Tries", "from", "[I", true)
  | 2 => ("RehearsalDesk$Tries", "to", "[I", true)
  | _ => ("RehearsalDesk$Tries", "target", "[I", true)
def tyX9 : Nat → FieldType := fun k => match k with
  | 0 => .int
  | 1 => .array .int
  | 2 => .array .int
  | _ => .array .int
theorem nmX9 : ∀ a, a < 4 → ∀ b, b < 4 → a ≠ b → (TX9 a).2.1 ≠ (TX9 b).2.1 := by decide +kernel
theorem tyX9_ok : ∀ k, k < 4 → parseFieldDescriptor (TX9 k).2.2.1 = some (tyX9 k) := by decide +kernel
abbrev cX9_init : ByteArray := prog_11_method_1_code
def yX9_init : MethodName := ⟨RX9, "<init>", "()V"⟩
abbrev cX9_closeAll : ByteArray := prog_11_method_2_code
def yX9_closeAll : MethodName := ⟨RX9, "closeAll", "()V"⟩
abbrev cX9_open : ByteArray := prog_11_method_3_code
def yX9_open : MethodName := ⟨RX9, "open", "(III)Z"⟩
abbrev cX9_closeLeft : ByteArray := prog_11_method_4_code
def yX9_closeLeft : MethodName := ⟨RX9, "closeLeft", "(I)V"⟩
abbrev cX9_take : ByteArray := prog_11_method_5_code
def yX9_take : MethodName := ⟨RX9, "take", "()I"⟩
def RX10 : String := "RehearsalDesk$Wrongs"
def TX10 : u_T := fun k => match k with
  | 0 => ("RehearsalDesk$Wrongs", "rows", "[I", true)
  | _ => ("RehearsalDesk$Wrongs", "size", "I", false)
def tyX10 : Nat → FieldType := fun k => match k with
  | 0 => .array .int
  | _ => .int
theorem nmX10 : ∀ a, a < 2 → ∀ b, b < 2 → a ≠ b → (TX10 a).2.1 ≠ (TX10 b).2.1 := by decide +kernel
theorem tyX10_ok : ∀ k, k < 2 → parseFieldDescriptor (TX10 k).2.2.1 = some (tyX10 k) := by decide +kernel
abbrev cX10_init : ByteArray := prog_12_method_1_code
def yX10_init : MethodName := ⟨RX10, "<init>", "()V"⟩
abbrev cX10_size : ByteArray := prog_12_method_2_code
def yX10_size : MethodName := ⟨RX10, "size", "()I"⟩
abbrev cX10_part : ByteArray := prog_12_method_3_code
def yX10_part : MethodName := ⟨RX10, "part", "(II)I"⟩
abbrev cX10_find : ByteArray := prog_12_method_4_code
def yX10_find : MethodName := ⟨RX10, "find", "(LRehearsalDesk$Expectations;LRehearsalDesk$Log;LRehearsalDesk$Stands;)V"⟩
abbrev cX10_findNumbers : ByteArray := prog_12_method_5_code
def yX10_findNumbers : MethodName := ⟨RX10, "findNumbers", "(LRehearsalDesk$Expectations;)V"⟩
abbrev cX10_findOrders : ByteArray := prog_12_method_6_code
def yX10_findOrders : MethodName := ⟨RX10, "findOrders", "(LRehearsalDesk$Expectations;)V"⟩
abbrev cX10_add : ByteArray := prog_12_method_7_code
def yX10_add : MethodName := ⟨RX10, "add", "(III)V"⟩
def RX11 : String := "RehearsalDesk"
def TX11 : u_T := fun k => match k with
  | 0 => ("RehearsalDesk", "faces", "LRehearsalDesk$Faces;", true)
  | 1 => ("RehearsalDesk", "cast", "LRehearsalDesk$Stands;", true)
  | 2 => ("RehearsalDesk", "rules", "LRehearsalDesk$Rules;", true)
  | 3 => ("RehearsalDesk", "log", "LRehearsalDesk$Log;", true)
  | 4 => ("RehearsalDesk", "stage", "LRehearsalDesk$Stage;", true)
  | 5 => ("RehearsalDesk", "expectations", "LRehearsalDesk$Expectations;", true)
  | 6 => ("RehearsalDesk", "wrongs", "LRehearsalDesk$Wrongs;", true)
  | 7 => ("RehearsalDesk", "cues", "LRehearsalDesk$Cues;", true)
  | _ => ("RehearsalDesk", "board", "LRehearsalDesk$Board;", true)
def tyX11 : Nat → FieldType := fun k => match k with
  | 0 => .object "RehearsalDesk$Faces"
  | 1 => .object "RehearsalDesk$Stands"
  | 2 => .object "RehearsalDesk$Rules"
  | 3 => .object "RehearsalDesk$Log"
  | 4 => .object "RehearsalDesk$Stage"
  | 5 => .object "RehearsalDesk$Expectations"
  | 6 => .object "RehearsalDesk$Wrongs"
  | 7 => .object "RehearsalDesk$Cues"
  | _ => .object "RehearsalDesk$Board"
theorem nmX11 : ∀ a, a < 9 → ∀ b, b < 9 → a ≠ b → (TX11 a).2.1 ≠ (TX11 b).2.1 := by decide +kernel
theorem tyX11_ok : ∀ k, k < 9 → parseFieldDescriptor (TX11 k).2.2.1 = some (tyX11 k) := by decide +kernel
abbrev cX11_init : ByteArray := prog_1_method_1_code
def yX11_init : MethodName := ⟨RX11, "<init>", "()V"⟩
abbrev cX11_face : ByteArray := prog_1_method_2_code
def yX11_face : MethodName := ⟨RX11, "face", "(I)I"⟩
abbrev cX11_method : ByteArray := prog_1_method_3_code
def yX11_method : MethodName := ⟨RX11, "method", "(IIIII)I"⟩
abbrev cX11_stand : ByteArray := prog_1_method_4_code
def yX11_stand : MethodName := ⟨RX11, "stand", "(II)I"⟩
abbrev cX11_of : ByteArray := prog_1_method_5_code
def yX11_of : MethodName := ⟨RX11, "of", "(II)I"⟩
abbrev cX11_level : ByteArray := prog_1_method_6_code
def yX11_level : MethodName := ⟨RX11, "level", "(I)I"⟩
abbrev cX11_rule : ByteArray := prog_1_method_7_code
def yX11_rule : MethodName := ⟨RX11, "rule", "(II)I"⟩
abbrev cX11_on : ByteArray := prog_1_method_8_code
def yX11_on : MethodName := ⟨RX11, "on", "(IIIII)I"⟩
abbrev cX11_answer : ByteArray := prog_1_method_9_code
def yX11_answer : MethodName := ⟨RX11, "answer", "(III)I"⟩
abbrev cX11_caught : ByteArray := prog_1_method_10_code
def yX11_caught : MethodName := ⟨RX11, "caught", "(II)I"⟩
abbrev cX11_call : ByteArray := prog_1_method_11_code
def yX11_call : MethodName := ⟨RX11, "call", "(IIIII)I"⟩
abbrev cX11_canCome : ByteArray := prog_1_method_12_code
def yX11_canCome : MethodName := ⟨RX11, "canCome", "(III)Z"⟩
abbrev cX11_came : ByteArray := prog_1_method_13_code
def yX11_came : MethodName := ⟨RX11, "came", "(I)I"⟩
abbrev cX11_recorded : ByteArray := prog_1_method_14_code
def yX11_recorded : MethodName := ⟨RX11, "recorded", "(II)I"⟩
abbrev cX11_expect : ByteArray := prog_1_method_15_code
def yX11_expect : MethodName := ⟨RX11, "expect", "(IIII)I"⟩
abbrev cX11_with : ByteArray := prog_1_method_16_code
def yX11_with : MethodName := ⟨RX11, "with", "(IIIII)I"⟩
abbrev cX11_order : ByteArray := prog_1_method_17_code
def yX11_order : MethodName := ⟨RX11, "order", "(II)I"⟩
abbrev cX11_beside : ByteArray := prog_1_method_18_code
def yX11_beside : MethodName := ⟨RX11, "beside", "(IZ)I"⟩
abbrev cX11_met : ByteArray := prog_1_method_19_code
def yX11_met : MethodName := ⟨RX11, "met", "(I)I"⟩
abbrev cX11_verify : ByteArray := prog_1_method_20_code
def yX11_verify : MethodName := ⟨RX11, "verify", "()I"⟩
abbrev cX11_wrong : ByteArray := prog_1_method_21_code
def yX11_wrong : MethodName := ⟨RX11, "wrong", "(II)I"⟩
abbrev cX11_cue : ByteArray := prog_1_method_22_code
def yX11_cue : MethodName := ⟨RX11, "cue", "(IIII)I"⟩
abbrev cX11_clear : ByteArray := prog_1_method_23_code
def yX11_clear : MethodName := ⟨RX11, "clear", "()I"⟩
abbrev cX11_run : ByteArray := prog_1_method_24_code
def yX11_run : MethodName := ⟨RX11, "run", "(I)I"⟩
abbrev cX11_desk : ByteArray := prog_1_method_25_code
def yX11_desk : MethodName := ⟨RX11, "desk", "(I)I"⟩
abbrev cX11_told : ByteArray := prog_1_method_26_code
def yX11_told : MethodName := ⟨RX11, "told", "(I)I"⟩
abbrev cX11_count : ByteArray := prog_1_method_27_code
def yX11_count : MethodName := ⟨RX11, "count", "(I)I"⟩
abbrev cX11_countMethods : ByteArray := prog_1_method_28_code
def yX11_countMethods : MethodName := ⟨RX11, "countMethods", "(I)I"⟩
abbrev cX11_forget : ByteArray := prog_1_method_29_code
def yX11_forget : MethodName := ⟨RX11, "forget", "()I"⟩
def RX12 : String := "RehearsalDeskModel"
def TX12 : u_T := fun k => match k with
  | 0 => ("RehearsalDeskModel", "faces", "I", false)
  | 1 => ("RehearsalDeskModel", "below", "[I", true)
  | 2 => ("RehearsalDeskModel", "methods", "[I", true)
  | 3 => ("RehearsalDeskModel", "parameters", "[I", true)
  | 4 => ("RehearsalDeskModel", "standBits", "[I", true)
  | 5 => ("RehearsalDeskModel", "gives", "[I", true)
  | 6 => ("RehearsalDeskModel", "fails", "[I", true)
  | 7 => ("RehearsalDeskModel", "standMany", "I", false)
  | 8 => ("RehearsalDeskModel", "standFace", "[I", true)
  | 9 => ("RehearsalDeskModel", "standThing", "[I", true)
  | 10 => ("RehearsalDeskModel", "levels", "[I", true)
  | 11 => ("RehearsalDeskModel", "ofStand", "[I", true)
  | 12 => ("RehearsalDeskModel", "ofMethod", "[I", true)
  | 13 => ("RehearsalDeskModel", "condition", "[I", true)
  | 14 => ("RehearsalDeskModel", "first", "[I", true)
  | 15 => ("RehearsalDeskModel", "second", "[I", true)
  | 16 => ("RehearsalDeskModel", "rules", "I", false)
  | 17 => ("RehearsalDeskModel", "answers", "[I", true)
  | 18 => ("RehearsalDeskModel", "answerKind", "[I", true)
  | 19 => ("RehearsalDeskModel", "answerValue", "[I", true)
  | 20 => ("RehearsalDeskModel", "turns", "[I", true)
  | 21 => ("RehearsalDeskModel", "hasCaught", "[Z", true)
  | 22 => ("RehearsalDeskModel", "caughtValue", "[I", true)
  | 23 => ("RehearsalDeskModel", "records", "I", false)
  | 24 => ("RehearsalDeskModel", "lost", "I", false)
  | 25 => ("RehearsalDeskModel", "recorded", "[I", true)
  | 26 => ("RehearsalDeskModel", "hasCame", "Z", false)
  | 27 => ("RehearsalDeskModel", "came", "[I", true)
  | 28 => ("RehearsalDeskModel", "givenSort", "I", false)
  | 29 => ("RehearsalDeskModel", "given", "I", false)
  | 30 => ("RehearsalDeskModel", "failure", "I", false)
  | 31 => ("RehearsalDeskModel", "how", "I", false)
  | 32 => ("RehearsalDeskModel", "expectations", "I", false)
  | 33 => ("RehearsalDeskModel", "least", "[I", true)
  | 34 => ("RehearsalDeskModel", "most", "[I", true)
  | 35 => ("RehearsalDeskModel", "orders", "I", false)
  | 36 => ("RehearsalDeskModel", "orderFirst", "[I", true)
  | 37 => ("RehearsalDeskModel", "orderSecond", "[I", true)
  | 38 => ("RehearsalDeskModel", "noneBeside", "[Z", true)
  | 39 => ("RehearsalDeskModel", "wrongs", "I", false)
  | 40 => ("RehearsalDeskModel", "wrong", "[I", true)
  | 41 => ("RehearsalDeskModel", "cues", "I", false)
  | 42 => ("RehearsalDeskModel", "cueKind", "[I", true)
  | 43 => ("RehearsalDeskModel", "cueA", "[I", true)
  | 44 => ("RehearsalDeskModel", "cueB", "[I", true)
  | 45 => ("RehearsalDeskModel", "cueC", "[I", true)
  | 46 => ("RehearsalDeskModel", "wholes", "[I", true)
  | 47 => ("RehearsalDeskModel", "held", "[I", true)
  | 48 => ("RehearsalDeskModel", "isEmptyDesk", "Z", false)
  | 49 => ("RehearsalDeskModel", "all", "I", false)
  | 50 => ("RehearsalDeskModel", "told", "I", false)
  | 51 => ("RehearsalDeskModel", "tellings", "[I", true)
  | 52 => ("RehearsalDeskModel", "tries", "I", false)
  | 53 => ("RehearsalDeskModel", "tryFrom", "[I", true)
  | 54 => ("RehearsalDeskModel", "tryTo", "[I", true)
  | 55 => ("RehearsalDeskModel", "tryOn", "[I", true)
  | 56 => ("RehearsalDeskModel", "nextWhole", "I", false)
  | 57 => ("RehearsalDeskModel", "nextStand", "I", false)
  | _ => ("RehearsalDeskModel", "failed", "I", false)
def tyX12 : Nat → FieldType := fun k => match k with
  | 0 => .int
  | 1 => .array .int
  | 2 => .array .int
  | 3 => .array .int
  | 4 => .array .int
  | 5 => .array .int
  | 6 => .array .int
  | 7 => .int
  | 8 => .array .int
  | 9 => .array .int
  | 10 => .array .int
  | 11 => .array .int
  | 12 => .array .int
  | 13 => .array .int
  | 14 => .array .int
  | 15 => .array .int
  | 16 => .int
  | 17 => .array .int
  | 18 => .array .int
  | 19 => .array .int
  | 20 => .array .int
  | 21 => .array .boolean
  | 22 => .array .int
  | 23 => .int
  | 24 => .int
  | 25 => .array .int
  | 26 => .boolean
  | 27 => .array .int
  | 28 => .int
  | 29 => .int
  | 30 => .int
  | 31 => .int
  | 32 => .int
  | 33 => .array .int
  | 34 => .array .int
  | 35 => .int
  | 36 => .array .int
  | 37 => .array .int
  | 38 => .array .boolean
  | 39 => .int
  | 40 => .array .int
  | 41 => .int
  | 42 => .array .int
  | 43 => .array .int
  | 44 => .array .int
  | 45 => .array .int
  | 46 => .array .int
  | 47 => .array .int
  | 48 => .boolean
  | 49 => .int
  | 50 => .int
  | 51 => .array .int
  | 52 => .int
  | 53 => .array .int
  | 54 => .array .int
  | 55 => .array .int
  | 56 => .int
  | 57 => .int
  | _ => .int
theorem nmX12 : ∀ a, a < 59 → ∀ b, b < 59 → a ≠ b → (TX12 a).2.1 ≠ (TX12 b).2.1 := by decide +kernel
theorem tyX12_ok : ∀ k, k < 59 → parseFieldDescriptor (TX12 k).2.2.1 = some (tyX12 k) := by decide +kernel
abbrev cX12_init : ByteArray := prog_14_method_1_code
def yX12_init : MethodName := ⟨RX12, "<init>", "()V"⟩
abbrev cX12_in : ByteArray := prog_14_method_2_code
def yX12_in : MethodName := ⟨RX12, "in", "(III)Z"⟩
abbrev cX12_face : ByteArray := prog_14_method_3_code
def yX12_face : MethodName := ⟨RX12, "face", "(I)I"⟩
abbrev cX12_isBelow : ByteArray := prog_14_method_4_code
def yX12_isBelow : MethodName := ⟨RX12, "isBelow", "(II)Z"⟩
abbrev cX12_method : ByteArray := prog_14_method_5_code
def yX12_method : MethodName := ⟨RX12, "method", "(IIIII)I"⟩
abbrev cX12_stand : ByteArray := prog_14_method_6_code
def yX12_stand : MethodName := ⟨RX12, "stand", "(II)I"⟩
abbrev cX12_isStand : ByteArray := prog_14_method_7_code
def yX12_isStand : MethodName := ⟨RX12, "isStand", "(I)Z"⟩
abbrev cX12_of : ByteArray := prog_14_method_8_code
def yX12_of : MethodName := ⟨RX12, "of", "(II)I"⟩
abbrev cX12_level : ByteArray := prog_14_method_9_code
def yX12_level : MethodName := ⟨RX12, "level", "(I)I"⟩
abbrev cX12_isMethod : ByteArray := prog_14_method_10_code
def yX12_isMethod : MethodName := ⟨RX12, "isMethod", "(II)Z"⟩
abbrev cX12_methodAt : ByteArray := prog_14_method_11_code
def yX12_methodAt : MethodName := ⟨RX12, "methodAt", "(II)I"⟩
abbrev cX12_isStandParameter : ByteArray := prog_14_method_12_code
def yX12_isStandParameter : MethodName := ⟨RX12, "isStandParameter", "(III)Z"⟩
abbrev cX12_begin : ByteArray := prog_14_method_13_code
def yX12_begin : MethodName := ⟨RX12, "begin", "(III)V"⟩
abbrev cX12_putCondition : ByteArray := prog_14_method_14_code
def yX12_putCondition : MethodName := ⟨RX12, "putCondition", "(IIIII)I"⟩
abbrev cX12_holds : ByteArray := prog_14_method_15_code
def yX12_holds : MethodName := ⟨RX12, "holds", "(II)Z"⟩
abbrev cX12_meets : ByteArray := prog_14_method_16_code
def yX12_meets : MethodName := ⟨RX12, "meets", "(IIIIII)Z"⟩
abbrev cX12_isRule : ByteArray := prog_14_method_17_code
def yX12_isRule : MethodName := ⟨RX12, "isRule", "(I)Z"⟩
abbrev cX12_rule : ByteArray := prog_14_method_18_code
def yX12_rule : MethodName := ⟨RX12, "rule", "(II)I"⟩
abbrev cX12_on : ByteArray := prog_14_method_19_code
def yX12_on : MethodName := ⟨RX12, "on", "(IIIII)I"⟩
abbrev cX12_answer : ByteArray := prog_14_method_20_code
def yX12_answer : MethodName := ⟨RX12, "answer", "(III)I"⟩
abbrev cX12_caught : ByteArray := prog_14_method_21_code
def yX12_caught : MethodName := ⟨RX12, "caught", "(II)I"⟩
abbrev cX12_give : ByteArray := prog_14_method_22_code
def yX12_give : MethodName := ⟨RX12, "give", "(II)V"⟩
abbrev cX12_fail : ByteArray := prog_14_method_23_code
def yX12_fail : MethodName := ⟨RX12, "fail", "(II)V"⟩
abbrev cX12_sumOf : ByteArray := prog_14_method_24_code
def yX12_sumOf : MethodName := ⟨RX12, "sumOf", "(IIII)I"⟩
abbrev cX12_through : ByteArray := prog_14_method_25_code
def yX12_through : MethodName := ⟨RX12, "through", "(III)V"⟩
abbrev cX12_ruleFor : ByteArray := prog_14_method_26_code
def yX12_ruleFor : MethodName := ⟨RX12, "ruleFor", "(IIIII)I"⟩
abbrev cX12_byRule : ByteArray := prog_14_method_27_code
def yX12_byRule : MethodName := ⟨RX12, "byRule", "(IIIIII)V"⟩
abbrev cX12_answerCall : ByteArray := prog_14_method_28_code
def yX12_answerCall : MethodName := ⟨RX12, "answerCall", "(IIIII)V"⟩
abbrev cX12_mayCome : ByteArray := prog_14_method_29_code
def yX12_mayCome : MethodName := ⟨RX12, "mayCome", "(IIII)Z"⟩
abbrev cX12_call : ByteArray := prog_14_method_30_code
def yX12_call : MethodName := ⟨RX12, "call", "(IIIII)I"⟩
abbrev cX12_came : ByteArray := prog_14_method_31_code
def yX12_came : MethodName := ⟨RX12, "came", "(I)I"⟩
abbrev cX12_recorded : ByteArray := prog_14_method_32_code
def yX12_recorded : MethodName := ⟨RX12, "recorded", "(II)I"⟩
abbrev cX12_isExpectation : ByteArray := prog_14_method_33_code
def yX12_isExpectation : MethodName := ⟨RX12, "isExpectation", "(I)Z"⟩
abbrev cX12_expect : ByteArray := prog_14_method_34_code
def yX12_expect : MethodName := ⟨RX12, "expect", "(IIII)I"⟩
abbrev cX12_with : ByteArray := prog_14_method_35_code
def yX12_with : MethodName := ⟨RX12, "with", "(IIIII)I"⟩
abbrev cX12_order : ByteArray := prog_14_method_36_code
def yX12_order : MethodName := ⟨RX12, "order", "(II)I"⟩
abbrev cX12_beside : ByteArray := prog_14_method_37_code
def yX12_beside : MethodName := ⟨RX12, "beside", "(IZ)I"⟩
abbrev cX12_callMeets : ByteArray := prog_14_method_38_code
def yX12_callMeets : MethodName := ⟨RX12, "callMeets", "(II)Z"⟩
abbrev cX12_metBy : ByteArray := prog_14_method_39_code
def yX12_metBy : MethodName := ⟨RX12, "metBy", "(I)I"⟩
abbrev cX12_met : ByteArray := prog_14_method_40_code
def yX12_met : MethodName := ⟨RX12, "met", "(I)I"⟩
abbrev cX12_note : ByteArray := prog_14_method_41_code
def yX12_note : MethodName := ⟨RX12, "note", "(III)V"⟩
abbrev cX12_wrongOrder : ByteArray := prog_14_method_42_code
def yX12_wrongOrder : MethodName := ⟨RX12, "wrongOrder", "(I)I"⟩
abbrev cX12_meetsAny : ByteArray := prog_14_method_43_code
def yX12_meetsAny : MethodName := ⟨RX12, "meetsAny", "(I)Z"⟩
abbrev cX12_verify : ByteArray := prog_14_method_44_code
def yX12_verify : MethodName := ⟨RX12, "verify", "()I"⟩
abbrev cX12_wrong : ByteArray := prog_14_method_45_code
def yX12_wrong : MethodName := ⟨RX12, "wrong", "(II)I"⟩
abbrev cX12_cue : ByteArray := prog_14_method_46_code
def yX12_cue : MethodName := ⟨RX12, "cue", "(IIII)I"⟩
abbrev cX12_clear : ByteArray := prog_14_method_47_code
def yX12_clear : MethodName := ⟨RX12, "clear", "()I"⟩
abbrev cX12_nextFor : ByteArray := prog_14_method_48_code
def yX12_nextFor : MethodName := ⟨RX12, "nextFor", "(II)I"⟩
abbrev cX12_callBy : ByteArray := prog_14_method_49_code
def yX12_callBy : MethodName := ⟨RX12, "callBy", "(II)I"⟩
abbrev cX12_done : ByteArray := prog_14_method_50_code
def yX12_done : MethodName := ⟨RX12, "done", "(I)I"⟩
abbrev cX12_comeTo : ByteArray := prog_14_method_51_code
def yX12_comeTo : MethodName := ⟨RX12, "comeTo", "(I)V"⟩
abbrev cX12_run : ByteArray := prog_14_method_52_code
def yX12_run : MethodName := ⟨RX12, "run", "(I)I"⟩
abbrev cX12_desk : ByteArray := prog_14_method_53_code
def yX12_desk : MethodName := ⟨RX12, "desk", "(I)I"⟩
abbrev cX12_told : ByteArray := prog_14_method_54_code
def yX12_told : MethodName := ⟨RX12, "told", "(I)I"⟩
abbrev cX12_count : ByteArray := prog_14_method_55_code
def yX12_count : MethodName := ⟨RX12, "count", "(I)I"⟩
abbrev cX12_forget : ByteArray := prog_14_method_56_code
def yX12_forget : MethodName := ⟨RX12, "forget", "()I"⟩
def RJ9 : String := "java/lang/Math"
def TJ9 : u_T := fun k => match k with
  | _ => ("", "", "", false)
def tyJ9 : Nat → FieldType := fun k => match k with
  | _ => .int
theorem nmJ9 : ∀ a, a < 0 → ∀ b, b < 0 → a ≠ b → (TJ9 a).2.1 ≠ (TJ9 b).2.1 := by decide +kernel
theorem tyJ9_ok : ∀ k, k < 0 → parseFieldDescriptor (TJ9 k).2.2.1 = some (tyJ9 k) := by decide +kernel
abbrev cJ9_min_7cf53 : ByteArray := prog_15_method_69_code
def yJ9_min_7cf53 : MethodName := ⟨RJ9, "min", "(II)I"⟩
def RJ10 : String := "java/lang/System"
def TJ10 : u_T := fun k => match k with
  | _ => ("", "", "", false)
def tyJ10 : Nat → FieldType := fun k => match k with
  | _ => .int
theorem nmJ10 : ∀ a, a < 0 → ∀ b, b < 0 → a ≠ b → (TJ10 a).2.1 ≠ (TJ10 b).2.1 := by decide +kernel
theorem tyJ10_ok : ∀ k, k < 0 → parseFieldDescriptor (TJ10 k).2.2.1 = some (tyJ10 k) := by decide +kernel
def RJ7 : String := "java/util/Arrays"
def TJ7 : u_T := fun k => match k with
  | _ => ("", "", "", false)
def tyJ7 : Nat → FieldType := fun k => match k with
  | _ => .int
theorem nmJ7 : ∀ a, a < 0 → ∀ b, b < 0 → a ≠ b → (TJ7 a).2.1 ≠ (TJ7 b).2.1 := by decide +kernel
theorem tyJ7_ok : ∀ k, k < 0 → parseFieldDescriptor (TJ7 k).2.2.1 = some (tyJ7 k) := by decide +kernel
abbrev cJ7_fill_53178 : ByteArray := prog_17_method_103_code
def yJ7_fill_53178 : MethodName := ⟨RJ7, "fill", "([II)V"⟩
def RL : String := "RehearsalDeskLaw"
abbrev cL_law : ByteArray := code
def yL_law : MethodName := ⟨RL, "law", "([I)Z"⟩
abbrev vwCl : List vw_C := [(RX0, TX0, 11), (RX1, TX1, 5), (RX2, TX2, 10), (RX3, TX3, 8), (RX4, TX4, 5), (RX5, TX5, 10), (RX6, TX6, 9), (RX7, TX7, 8), (RX8, TX8, 6), (RX9, TX9, 4), (RX10, TX10, 2), (RX11, TX11, 9), (RX12, TX12, 59)]
def rd_nth {α : Type} : List α → Nat → Option α
  | [], _ => none
  | a :: _, 0 => some a
  | _ :: l, n + 1 => rd_nth l n
def rd_cn : List String := ["RehearsalDesk$Board", "RehearsalDesk$Cues", "RehearsalDesk$Expectations", "RehearsalDesk$Faces", "RehearsalDesk$Log", "RehearsalDesk$Patterns", "RehearsalDesk$Rules", "RehearsalDesk$Stage", "RehearsalDesk$Stands", "RehearsalDesk$Tries", "RehearsalDesk$Wrongs", "RehearsalDesk", "RehearsalDeskModel", "RehearsalDeskLaw", "java/lang/Math", "java/util/Arrays"]
abbrev rd_M : Type := MethodName × ByteArray × Nat × Option FieldType
def rd_mt : List rd_M := [
  (yX0_init, cX0_init, 5, none),
  (yX0_isWornOut, cX0_isWornOut, 1, (some .boolean)),
  (yX0_cuesDone, cX0_cuesDone, 1, (some .int)),
  (yX0_begin, cX0_begin, 1, none),
  (yX0_isAtCue, cX0_isAtCue, 1, (some .boolean)),
  (yX0_doCue, cX0_doCue, 5, (some .int)),
  (yX0_callHeld, cX0_callHeld, 4, (some .int)),
  (yX0_bringAll, cX0_bringAll, 5, none),
  (yX0_tell, cX0_tell, 2, none),
  (yX0_recover, cX0_recover, 3, (some .boolean)),
  (yX0_arrive, cX0_arrive, 1, none),
  (yX0_toldSize, cX0_toldSize, 1, (some .int)),
  (yX0_toldNumber, cX0_toldNumber, 2, (some .int)),
  (yX0_emptyTold, cX0_emptyTold, 1, none),
  (yX1_init, cX1_init, 1, none),
  (yX1_isCue, cX1_isCue, 5, (some .boolean)),
  (yX1_isWithin, cX1_isWithin, 2, (some .boolean)),
  (yX1_size, cX1_size, 1, (some .int)),
  (yX1_add, cX1_add, 6, (some .int)),
  (yX1_removeAll, cX1_removeAll, 2, (some .int)),
  (yX2_init, cX2_init, 2, none),
  (yX2_add, cX2_add, 7, (some .int)),
  (yX2_orders, cX2_orders, 1, (some .int)),
  (yX2_addOrder, cX2_addOrder, 3, (some .int)),
  (yX2_countMeeting, cX2_countMeeting, 5, (some .int)),
  (yX2_survey, cX2_survey, 3, none),
  (yX2_surveyOne, cX2_surveyOne, 4, none),
  (yX2_meeting, cX2_meeting, 2, (some .int)),
  (yX2_isTooFew, cX2_isTooFew, 2, (some .boolean)),
  (yX2_isTooMany, cX2_isTooMany, 2, (some .boolean)),
  (yX2_isExpected, cX2_isExpected, 2, (some .boolean)),
  (yX2_callAhead, cX2_callAhead, 4, (some .int)),
  (yX3_init, cX3_init, 1, none),
  (yX3_size, cX3_size, 1, (some .int)),
  (yX3_has, cX3_has, 2, (some .boolean)),
  (yX3_add, cX3_add, 3, (some .int)),
  (yX3_inherit, cX3_inherit, 5, none),
  (yX3_isFixed, cX3_isFixed, 2, (some .boolean)),
  (yX3_fix, cX3_fix, 2, none),
  (yX3_addMethod, cX3_addMethod, 8, (some .int)),
  (yX3_methods, cX3_methods, 2, (some .int)),
  (yX3_lineage, cX3_lineage, 2, (some .int)),
  (yX3_signature, cX3_signature, 3, (some .int)),
  (yX3_takes, cX3_takes, 3, (some .boolean)),
  (yX3_takesStand, cX3_takesStand, 3, (some .boolean)),
  (yX3_gives, cX3_gives, 2, (some .int)),
  (yX3_mayFail, cX3_mayFail, 3, (some .boolean)),
  (yX4_init, cX4_init, 1, none),
  (yX4_hasLatest, cX4_hasLatest, 1, (some .boolean)),
  (yX4_size, cX4_size, 1, (some .int)),
  (yX4_lost, cX4_lost, 1, (some .int)),
  (yX4_column, cX4_column, 3, (some .int)),
  (yX4_keepLatest, cX4_keepLatest, 1, none),
  (yX4_empty, cX4_empty, 1, none),
  (yX5_init, cX5_init, 4, none),
  (yX5_size, cX5_size, 1, (some .int)),
  (yX5_has, cX5_has, 2, (some .boolean)),
  (yX5_add, cX5_add, 5, (some .int)),
  (yX5_signature, cX5_signature, 2, (some .int)),
  (yX5_hasParameter, cX5_hasParameter, 3, (some .boolean)),
  (yX5_isCatching, cX5_isCatching, 3, (some .boolean)),
  (yX5_setCondition, cX5_setCondition, 7, (some .int)),
  (yX5_isCondition, cX5_isCondition, 4, (some .boolean)),
  (yX5_fits, cX5_fits, 5, (some .boolean)),
  (yX5_holds, cX5_holds, 3, (some .boolean)),
  (yX6_init, cX6_init, 4, none),
  (yX6_isAnswer, cX6_isAnswer, 4, (some .boolean)),
  (yX6_addAnswer, cX6_addAnswer, 5, (some .int)),
  (yX6_find, cX6_find, 3, (some .int)),
  (yX6_use, cX6_use, 4, (some .int)),
  (yX6_answerKind, cX6_answerKind, 2, (some .int)),
  (yX6_answerValue, cX6_answerValue, 2, (some .int)),
  (yX6_holdsCaught, cX6_holdsCaught, 3, (some .boolean)),
  (yX6_caughtValue, cX6_caughtValue, 3, (some .int)),
  (yX6_release, cX6_release, 3, none),
  (yX6_startAgain, cX6_startAgain, 2, none),
  (yX7_init, cX7_init, 5, none),
  (yX7_begin, cX7_begin, 5, none),
  (yX7_bring, cX7_bring, 3, none),
  (yX7_perform, cX7_perform, 2, none),
  (yX7_answerBy, cX7_answerBy, 3, none),
  (yX7_callThrough, cX7_callThrough, 3, none),
  (yX7_giveParameter, cX7_giveParameter, 2, none),
  (yX7_giveWhole, cX7_giveWhole, 2, none),
  (yX7_giveStand, cX7_giveStand, 2, none),
  (yX7_failWith, cX7_failWith, 3, none),
  (yX8_init, cX8_init, 2, none),
  (yX8_size, cX8_size, 1, (some .int)),
  (yX8_has, cX8_has, 2, (some .boolean)),
  (yX8_add, cX8_add, 4, (some .int)),
  (yX8_isOf, cX8_isOf, 3, (some .boolean)),
  (yX8_thing, cX8_thing, 2, (some .int)),
  (yX8_signature, cX8_signature, 3, (some .int)),
  (yX8_hasNoneBeside, cX8_hasNoneBeside, 2, (some .boolean)),
  (yX8_setNoneBeside, cX8_setNoneBeside, 4, (some .boolean)),
  (yX9_init, cX9_init, 1, none),
  (yX9_closeAll, cX9_closeAll, 1, none),
  (yX9_open, cX9_open, 4, (some .boolean)),
  (yX9_closeLeft, cX9_closeLeft, 4, none),
  (yX9_take, cX9_take, 1, (some .int)),
  (yX10_init, cX10_init, 1, none),
  (yX10_size, cX10_size, 1, (some .int)),
  (yX10_part, cX10_part, 3, (some .int)),
  (yX10_find, cX10_find, 7, none),
  (yX10_findNumbers, cX10_findNumbers, 3, none),
  (yX10_findOrders, cX10_findOrders, 4, none),
  (yX10_add, cX10_add, 5, none),
  (yX11_init, cX11_init, 1, none),
  (yX11_face, cX11_face, 2, (some .int)),
  (yX11_method, cX11_method, 6, (some .int)),
  (yX11_stand, cX11_stand, 3, (some .int)),
  (yX11_of, cX11_of, 3, (some .int)),
  (yX11_level, cX11_level, 2, (some .int)),
  (yX11_rule, cX11_rule, 4, (some .int)),
  (yX11_on, cX11_on, 7, (some .int)),
  (yX11_answer, cX11_answer, 4, (some .int)),
  (yX11_caught, cX11_caught, 3, (some .int)),
  (yX11_call, cX11_call, 7, (some .int)),
  (yX11_canCome, cX11_canCome, 4, (some .boolean)),
  (yX11_came, cX11_came, 2, (some .int)),
  (yX11_recorded, cX11_recorded, 3, (some .int)),
  (yX11_expect, cX11_expect, 6, (some .int)),
  (yX11_with, cX11_with, 6, (some .int)),
  (yX11_order, cX11_order, 4, (some .int)),
  (yX11_beside, cX11_beside, 3, (some .int)),
  (yX11_met, cX11_met, 2, (some .int)),
  (yX11_verify, cX11_verify, 1, (some .int)),
  (yX11_wrong, cX11_wrong, 3, (some .int)),
  (yX11_cue, cX11_cue, 5, (some .int)),
  (yX11_clear, cX11_clear, 1, (some .int)),
  (yX11_run, cX11_run, 4, (some .int)),
  (yX11_desk, cX11_desk, 2, (some .int)),
  (yX11_told, cX11_told, 2, (some .int)),
  (yX11_count, cX11_count, 2, (some .int)),
  (yX11_countMethods, cX11_countMethods, 2, (some .int)),
  (yX11_forget, cX11_forget, 2, (some .int)),
  (yX12_init, cX12_init, 1, none),
  (yX12_in, cX12_in, 3, (some .boolean)),
  (yX12_face, cX12_face, 5, (some .int)),
  (yX12_isBelow, cX12_isBelow, 4, (some .boolean)),
  (yX12_method, cX12_method, 8, (some .int)),
  (yX12_stand, cX12_stand, 3, (some .int)),
  (yX12_isStand, cX12_isStand, 2, (some .boolean)),
  (yX12_of, cX12_of, 3, (some .int)),
  (yX12_level, cX12_level, 2, (some .int)),
  (yX12_isMethod, cX12_isMethod, 3, (some .boolean)),
  (yX12_methodAt, cX12_methodAt, 3, (some .int)),
  (yX12_isStandParameter, cX12_isStandParameter, 4, (some .boolean)),
  (yX12_begin, cX12_begin, 5, none),
  (yX12_putCondition, cX12_putCondition, 8, (some .int)),
  (yX12_holds, cX12_holds, 3, (some .boolean)),
  (yX12_meets, cX12_meets, 8, (some .boolean)),
  (yX12_isRule, cX12_isRule, 2, (some .boolean)),
  (yX12_rule, cX12_rule, 4, (some .int)),
  (yX12_on, cX12_on, 7, (some .int)),
  (yX12_answer, cX12_answer, 5, (some .int)),
  (yX12_caught, cX12_caught, 3, (some .int)),
  (yX12_give, cX12_give, 3, none),
  (yX12_fail, cX12_fail, 4, none),
  (yX12_sumOf, cX12_sumOf, 8, (some .int)),
  (yX12_through, cX12_through, 6, none),
  (yX12_ruleFor, cX12_ruleFor, 7, (some .int)),
  (yX12_byRule, cX12_byRule, 9, none),
  (yX12_answerCall, cX12_answerCall, 11, none),
  (yX12_mayCome, cX12_mayCome, 6, (some .boolean)),
  (yX12_call, cX12_call, 6, (some .int)),
  (yX12_came, cX12_came, 2, (some .int)),
  (yX12_recorded, cX12_recorded, 3, (some .int)),
  (yX12_isExpectation, cX12_isExpectation, 2, (some .boolean)),
  (yX12_expect, cX12_expect, 5, (some .int)),
  (yX12_with, cX12_with, 6, (some .int)),
  (yX12_order, cX12_order, 3, (some .int)),
  (yX12_beside, cX12_beside, 4, (some .int)),
  (yX12_callMeets, cX12_callMeets, 4, (some .boolean)),
  (yX12_metBy, cX12_metBy, 4, (some .int)),
  (yX12_met, cX12_met, 2, (some .int)),
  (yX12_note, cX12_note, 4, none),
  (yX12_wrongOrder, cX12_wrongOrder, 4, (some .int)),
  (yX12_meetsAny, cX12_meetsAny, 4, (some .boolean)),
  (yX12_verify, cX12_verify, 3, (some .int)),
  (yX12_wrong, cX12_wrong, 3, (some .int)),
  (yX12_cue, cX12_cue, 6, (some .int)),
  (yX12_clear, cX12_clear, 2, (some .int)),
  (yX12_nextFor, cX12_nextFor, 3, (some .int)),
  (yX12_callBy, cX12_callBy, 8, (some .int)),
  (yX12_done, cX12_done, 5, (some .int)),
  (yX12_comeTo, cX12_comeTo, 4, none),
  (yX12_run, cX12_run, 4, (some .int)),
  (yX12_desk, cX12_desk, 2, (some .int)),
  (yX12_told, cX12_told, 2, (some .int)),
  (yX12_count, cX12_count, 2, (some .int)),
  (yX12_forget, cX12_forget, 3, (some .int)),
  (yJ9_min_7cf53, cJ9_min_7cf53, 2, (some .int)),
  (yJ7_fill_53178, cJ7_fill_53178, 4, none),
  (yL_law, cL_law, 4, (some .boolean))]
/-- longest local table, whether the answer is a boolean that the machine cuts to a bit -/
def rd_inf : List (Nat × Bool) := [(5, false), (1, true), (1, false), (1, false), (1, true), (5, false), (4, false), (5, false), (2, false), (3, true), (1, false), (1, false), (2, false), (1, false), (1, false), (5, true), (2, true), (1, false), (6, false), (2, false), (2, false), (7, false), (1, false), (3, false), (5, false), (3, false), (4, false), (2, false), (2, true), (2, true), (2, true), (4, false), (1, false), (1, false), (2, true), (3, false), (5, false), (2, true), (2, false), (8, false), (2, false), (2, false), (3, false), (3, true), (3, true), (2, false), (3, true), (1, false), (1, true), (1, false), (1, false), (3, false), (1, false), (1, false), (4, false), (1, false), (2, true), (5, false), (2, false), (3, true), (3, true), (7, false), (4, true), (5, true), (3, true), (4, false), (4, true), (5, false), (3, false), (4, false), (2, false), (2, false), (3, true), (3, false), (3, false), (2, false), (5, false), (5, false), (3, false), (2, false), (3, false), (3, false), (2, false), (2, false), (2, false), (3, false), (2, false), (1, false), (2, true), (4, false), (3, true), (2, false), (3, false), (2, true), (4, true), (1, false), (1, false), (4, true), (4, false), (1, false), (1, false), (1, false), (3, false), (7, false), (3, false), (4, false), (5, false), (1, false), (2, false), (6, false), (3, false), (3, false), (2, false), (4, false), (7, false), (4, false), (3, false), (7, false), (4, true), (2, false), (3, false), (6, false), (6, false), (4, false), (3, false), (2, false), (1, false), (3, false), (5, false), (1, false), (4, false), (2, false), (2, false), (2, false), (2, false), (2, false), (1, false), (3, true), (5, false), (4, true), (8, false), (3, false), (2, true), (3, false), (2, false), (3, true), (3, false), (4, true), (5, false), (8, false), (3, true), (8, true), (2, true), (4, false), (7, false), (5, false), (3, false), (3, false), (4, false), (8, false), (6, false), (7, false), (9, false), (11, false), (6, true), (6, false), (2, false), (3, false), (2, true), (5, false), (6, false), (3, false), (4, false), (4, true), (4, false), (2, false), (4, false), (4, false), (4, true), (3, false), (3, false), (6, false), (2, false), (3, false), (8, false), (5, false), (4, false), (4, false), (2, false), (2, false), (2, false), (3, false), (2, false), (4, false), (4, false)]
/-- frames, cells, slots, locals -/
def rd_rm : List (Nat × Nat × Nat × Nat) := [(2, 7, 146, 40), (0, 0, 0, 0), (0, 0, 0, 0), (1, 0, 0, 23), (1, 0, 0, 20), (6, 0, 0, 134), (5, 0, 0, 111), (3, 0, 0, 66), (0, 0, 0, 0), (1, 0, 0, 20), (1, 0, 0, 23), (0, 0, 0, 0), (0, 0, 0, 0), (0, 0, 0, 0), (1, 4, 240, 20), (1, 0, 0, 21), (0, 0, 0, 0), (0, 0, 0, 0), (0, 0, 0, 0), (0, 0, 0, 0), (1, 8, 780, 20), (1, 0, 0, 24), (0, 0, 0, 0), (0, 0, 0, 0), (3, 0, 0, 68), (4, 0, 0, 91), (3, 0, 0, 68), (0, 0, 0, 0), (0, 0, 0, 0), (0, 0, 0, 0), (0, 0, 0, 0), (0, 0, 0, 0), (1, 7, 420, 20), (0, 0, 0, 0), (0, 0, 0, 0), (2, 0, 0, 50), (1, 0, 0, 26), (0, 0, 0, 0), (0, 0, 0, 0), (0, 0, 0, 0), (0, 0, 0, 0), (0, 0, 0, 0), (0, 0, 0, 0), (0, 0, 0, 0), (1, 0, 0, 22), (0, 0, 0, 0), (0, 0, 0, 0), (1, 2, 4509, 20), (0, 0, 0, 0), (0, 0, 0, 0), (0, 0, 0, 0), (0, 0, 0, 0), (1, 0, 0, 26), (0, 0, 0, 0), (1, 6, 960, 20), (0, 0, 0, 0), (0, 0, 0, 0), (0, 0, 0, 0), (0, 0, 0, 0), (1, 0, 0, 22), (0, 0, 0, 0), (2, 0, 0, 44), (1, 0, 0, 21), (2, 0, 0, 44), (1, 0, 0, 22), (1, 6, 1600, 20), (1, 0, 0, 22), (0, 0, 0, 0), (3, 0, 0, 68), (1, 0, 0, 22), (0, 0, 0, 0), (0, 0, 0, 0), (0, 0, 0, 0), (0, 0, 0, 0), (0, 0, 0, 0), (1, 0, 0, 23), (1, 1, 6, 20), (0, 0, 0, 0), (2, 0, 0, 44), (4, 0, 0, 90), (3, 0, 0, 66), (2, 0, 0, 44), (2, 0, 0, 44), (1, 0, 0, 21), (1, 0, 0, 21), (1, 0, 0, 22), (1, 4, 96, 20), (0, 0, 0, 0), (0, 0, 0, 0), (1, 0, 0, 21), (0, 0, 0, 0), (0, 0, 0, 0), (1, 0, 0, 22), (0, 0, 0, 0), (0, 0, 0, 0), (1, 3, 30, 20), (0, 0, 0, 0), (0, 0, 0, 0), (0, 0, 0, 0), (0, 0, 0, 0), (1, 1, 180, 20), (0, 0, 0, 0), (0, 0, 0, 0), (2, 0, 0, 47), (1, 0, 0, 24), (1, 0, 0, 24), (0, 0, 0, 0), (3, 63, 9981, 64), (3, 0, 0, 72), (1, 0, 0, 27), (2, 0, 0, 44), (1, 0, 0, 22), (0, 0, 0, 0), (2, 0, 0, 44), (3, 0, 0, 70), (2, 0, 0, 45), (2, 0, 0, 44), (5, 0, 0, 111), (2, 0, 0, 44), (1, 0, 0, 20), (1, 0, 0, 22), (2, 0, 0, 50), (3, 0, 0, 70), (1, 0, 0, 22), (1, 0, 0, 23), (4, 0, 0, 92), (5, 0, 0, 113), (1, 0, 0, 22), (2, 0, 0, 45), (1, 0, 0, 21), (7, 0, 0, 158), (0, 0, 0, 0), (1, 0, 0, 21), (2, 0, 0, 42), (1, 0, 0, 21), (2, 0, 0, 44), (1, 38, 8632, 20), (0, 0, 0, 0), (1, 0, 0, 22), (0, 0, 0, 0), (1, 0, 0, 23), (1, 0, 0, 22), (1, 0, 0, 22), (2, 0, 0, 43), (1, 0, 0, 22), (1, 0, 0, 22), (0, 0, 0, 0), (1, 0, 0, 22), (0, 0, 0, 0), (2, 0, 0, 45), (1, 0, 0, 23), (2, 0, 0, 45), (1, 0, 0, 22), (2, 0, 0, 44), (3, 0, 0, 72), (2, 0, 0, 43), (2, 0, 0, 43), (0, 0, 0, 0), (0, 0, 0, 0), (0, 0, 0, 0), (1, 0, 0, 23), (3, 0, 0, 72), (2, 0, 0, 48), (4, 0, 0, 98), (1, 0, 0, 22), (5, 0, 0, 128), (1, 0, 0, 22), (1, 0, 0, 22), (1, 0, 0, 22), (2, 0, 0, 44), (3, 0, 0, 72), (2, 0, 0, 43), (2, 0, 0, 43), (3, 0, 0, 72), (4, 0, 0, 95), (5, 0, 0, 118), (0, 0, 0, 0), (4, 0, 0, 95), (4, 0, 0, 95), (5, 0, 0, 118), (1, 0, 0, 22), (1, 0, 0, 22), (0, 0, 0, 0), (0, 0, 0, 0), (5, 0, 0, 128), (6, 0, 0, 155), (1, 0, 0, 22), (7, 0, 0, 179), (1, 0, 0, 22), (1, 0, 0, 22), (1, 0, 0, 22), (0, 0, 0, 0), (0, 0, 0, 0), (0, 0, 0, 0), (10, 600000, 7302250, 406)]
/-- field links: class of the code, index, class of the field, its slot, place of the word -/
def rd_fl : List (Nat × Nat × Nat × Nat × Nat) := [(0, 12, 0, 4, 369), (0, 18, 0, 5, 370), (0, 22, 0, 6, 372), (0, 25, 0, 7, 374), (0, 28, 0, 8, 375), (0, 32, 0, 9, 376), (0, 35, 0, 10, 377), (0, 38, 0, 0, 365), (0, 42, 0, 1, 366), (0, 46, 0, 2, 367), (0, 50, 0, 3, 368), (0, 69, 1, 2, 321), (0, 72, 1, 3, 323), (0, 75, 1, 4, 325), (0, 78, 1, 1, 319), (0, 114, 7, 4, 237), (1, 9, 1, 0, 317), (1, 15, 1, 1, 318), (1, 19, 1, 2, 320), (1, 22, 1, 3, 322), (1, 25, 1, 4, 324), (1, 32, 1, 999, 818), (2, 11, 2, 1, 268), (2, 15, 2, 2, 269), (2, 18, 2, 3, 270), (2, 22, 2, 4, 271), (2, 25, 2, 5, 272), (2, 28, 2, 6, 273), (2, 31, 2, 7, 274), (2, 34, 2, 8, 275), (2, 39, 2, 9, 276), (2, 43, 2, 0, 265), (2, 57, 4, 0, 208), (3, 9, 3, 0, 77), (3, 15, 3, 1, 78), (3, 19, 3, 2, 79), (3, 22, 3, 3, 80), (3, 26, 3, 4, 81), (3, 29, 3, 5, 82), (3, 32, 3, 6, 83), (3, 35, 3, 7, 84), (4, 11, 4, 0, 207), (4, 15, 4, 1, 209), (4, 18, 4, 2, 212), (4, 22, 4, 3, 213), (4, 26, 4, 4, 214), (5, 9, 5, 3, 140), (5, 15, 5, 0, 137), (5, 18, 5, 1, 138), (5, 22, 5, 2, 139), (5, 26, 5, 4, 141), (5, 30, 5, 5, 142), (5, 33, 5, 6, 143), (5, 36, 5, 7, 144), (5, 39, 5, 8, 145), (5, 42, 5, 9, 146), (6, 11, 6, 3, 176), (6, 15, 6, 4, 177), (6, 18, 6, 5, 178), (6, 21, 6, 6, 179), (6, 24, 6, 7, 180), (6, 28, 6, 8, 181), (6, 31, 6, 0, 172), (6, 35, 6, 1, 174), (6, 39, 6, 2, 175), (7, 9, 7, 5, 238), (7, 15, 7, 6, 240), (7, 19, 7, 7, 241), (7, 22, 7, 0, 232), (7, 26, 7, 1, 233), (7, 30, 7, 2, 234), (7, 34, 7, 3, 235), (7, 38, 4, 1, 210), (7, 43, 7, 4, 236), (8, 9, 8, 1, 111), (8, 15, 8, 2, 112), (8, 19, 8, 3, 113), (8, 22, 8, 4, 114), (8, 25, 8, 5, 115), (8, 29, 8, 0, 110), (9, 9, 9, 0, 349), (9, 15, 9, 1, 350), (9, 19, 9, 2, 351), (9, 22, 9, 3, 352), (10, 11, 10, 0, 304), (10, 15, 10, 1, 305), (10, 50, 2, 0, 266), (11, 10, 11, 0, 401), (11, 21, 11, 1, 402), (11, 35, 11, 2, 403), (11, 42, 11, 3, 404), (11, 51, 11, 4, 405), (11, 60, 11, 5, 406), (11, 67, 11, 6, 407), (11, 74, 11, 7, 408), (11, 83, 11, 8, 409), (11, 110, 7, 5, 239), (11, 117, 6, 0, 173), (11, 161, 4, 1, 211), (11, 180, 2, 0, 267), (11, 231, 0, 5, 371), (11, 234, 0, 6, 373), (12, 7, 12, 1, 971), (12, 13, 12, 2, 972), (12, 16, 12, 3, 973), (12, 19, 12, 4, 974), (12, 22, 12, 5, 975), (12, 25, 12, 6, 976), (12, 28, 12, 8, 978), (12, 31, 12, 9, 979), (12, 34, 12, 10, 980), (12, 37, 12, 11, 981), (12, 40, 12, 12, 982), (12, 43, 12, 13, 983), (12, 46, 12, 14, 984), (12, 49, 12, 15, 985), (12, 52, 12, 17, 987), (12, 55, 12, 18, 988), (12, 58, 12, 19, 989), (12, 61, 12, 20, 990), (12, 64, 12, 21, 991), (12, 68, 12, 22, 992), (12, 71, 12, 25, 995), (12, 74, 12, 27, 997), (12, 77, 12, 33, 1003), (12, 80, 12, 34, 1004), (12, 83, 12, 36, 1006), (12, 86, 12, 37, 1007), (12, 89, 12, 38, 1008), (12, 92, 12, 40, 1010), (12, 95, 12, 42, 1012), (12, 98, 12, 43, 1013), (12, 101, 12, 44, 1014), (12, 104, 12, 45, 1015), (12, 107, 12, 46, 1016), (12, 110, 12, 47, 1017), (12, 113, 12, 48, 1018), (12, 117, 12, 51, 1021), (12, 120, 12, 53, 1023), (12, 123, 12, 54, 1024), (12, 126, 12, 55, 1025), (12, 129, 12, 0, 970), (12, 137, 12, 7, 977), (12, 158, 12, 16, 986), (12, 175, 12, 28, 998), (12, 178, 12, 29, 999), (12, 181, 12, 30, 1000), (12, 184, 12, 31, 1001), (12, 212, 12, 26, 996), (12, 215, 12, 23, 993), (12, 218, 12, 24, 994), (12, 229, 12, 32, 1002), (12, 235, 12, 35, 1005), (12, 245, 12, 39, 1009), (12, 257, 12, 41, 1011), (12, 260, 12, 57, 1027), (12, 263, 12, 56, 1026), (12, 269, 12, 58, 1028), (12, 275, 12, 52, 1022), (12, 278, 12, 50, 1020), (12, 281, 12, 49, 1019)]
def rd_ml : List (Nat × Nat × Nat × Nat) := [(0, 3, 2000, 342), (0, 11, 95, 345), (0, 54, 193, 362), (0, 60, 96, 844), (0, 63, 17, 852), (0, 81, 88, 860), (0, 87, 6, 861), (0, 91, 97, 875), (0, 95, 8, 879), (0, 99, 92, 865), (0, 102, 77, 866), (0, 108, 7, 867), (0, 111, 79, 873), (0, 117, 45, 874), (0, 123, 44, 871), (0, 127, 78, 872), (0, 131, 99, 887), (0, 134, 98, 895), (1, 3, 2000, 316), (1, 28, 16, 815), (2, 3, 2000, 264), (2, 47, 57, 705), (2, 53, 49, 734), (2, 60, 63, 735), (2, 64, 55, 744), (2, 65, 26, 745), (3, 3, 2000, 76), (3, 38, 34, 441), (3, 42, 36, 442), (3, 46, 1000, 446), (3, 52, 43, 534), (4, 3, 2000, 206), (4, 29, 1000, 676), (5, 3, 2000, 136), (5, 45, 56, 522), (5, 49, 43, 526), (5, 55, 59, 518), (5, 58, 44, 530), (5, 61, 62, 535), (5, 65, 88, 539), (5, 68, 34, 540), (5, 69, 64, 612), (5, 72, 90, 616), (6, 3, 2000, 171), (6, 43, 88, 554), (6, 49, 58, 555), (6, 55, 43, 559), (6, 61, 55, 604), (6, 65, 63, 608), (6, 69, 60, 645), (6, 72, 1001, 649), (6, 78, 193, 958), (7, 3, 2000, 231), (7, 46, 43, 594), (7, 52, 44, 595), (7, 55, 68, 600), (7, 61, 45, 617), (7, 65, 81, 621), (7, 68, 69, 641), (7, 72, 80, 652), (7, 76, 52, 672), (7, 79, 71, 656), (7, 82, 70, 660), (7, 85, 83, 637), (7, 88, 84, 664), (7, 91, 85, 629), (7, 94, 82, 668), (7, 97, 91, 625), (7, 102, 46, 633), (8, 3, 2000, 109), (8, 33, 41, 469), (8, 38, 38, 473), (8, 42, 88, 501), (8, 46, 42, 502), (9, 3, 2000, 348), (10, 3, 2000, 303), (10, 19, 104, 753), (10, 23, 105, 774), (10, 26, 49, 786), (10, 31, 30, 787), (10, 37, 51, 791), (10, 41, 93, 792), (10, 46, 106, 766), (10, 54, 55, 757), (10, 57, 28, 758), (10, 60, 27, 762), (10, 64, 29, 770), (10, 67, 22, 778), (10, 70, 31, 782), (11, 1, 2000, 68), (11, 9, 32, 73), (11, 18, 86, 106), (11, 29, 54, 133), (11, 32, 65, 168), (11, 41, 47, 203), (11, 48, 76, 228), (11, 57, 20, 261), (11, 66, 100, 300), (11, 73, 14, 313), (11, 80, 0, 339), (11, 87, 34, 433), (11, 91, 35, 437), (11, 95, 37, 453), (11, 98, 39, 457), (11, 102, 89, 465), (11, 105, 88, 481), (11, 106, 90, 485), (11, 114, 92, 497), (11, 121, 57, 506), (11, 124, 61, 514), (11, 127, 74, 541), (11, 131, 56, 549), (11, 132, 66, 550), (11, 136, 67, 560), (11, 139, 59, 568), (11, 142, 72, 569), (11, 145, 73, 573), (11, 148, 118, 581), (11, 151, 77, 586), (11, 155, 78, 590), (11, 158, 79, 596), (11, 164, 44, 585), (11, 167, 48, 681), (11, 171, 49, 689), (11, 175, 51, 693), (11, 178, 21, 701), (11, 181, 23, 714), (11, 184, 94, 722), (11, 188, 24, 730), (11, 192, 25, 740), (11, 196, 103, 749), (11, 200, 101, 796), (11, 201, 102, 804), (11, 204, 15, 812), (11, 208, 18, 820), (11, 211, 19, 828), (11, 214, 1, 836), (11, 217, 3, 840), (11, 219, 4, 848), (11, 222, 5, 856), (11, 225, 9, 883), (11, 228, 10, 891), (11, 237, 11, 907), (11, 240, 12, 911), (11, 243, 33, 919), (11, 244, 87, 923), (11, 245, 55, 927), (11, 246, 50, 928), (11, 249, 22, 932), (11, 252, 17, 933), (11, 253, 2, 934), (11, 256, 134, 938), (11, 259, 40, 942), (11, 262, 53, 950), (11, 265, 75, 954), (11, 268, 13, 959), (11, 271, 193, 963), (12, 1, 2000, 969), (12, 133, 137, 1152), (12, 140, 139, 1159), (12, 144, 142, 1171), (12, 148, 146, 1203), (12, 152, 147, 1207), (12, 155, 150, 1239), (12, 161, 145, 1183), (12, 164, 148, 1187), (12, 168, 152, 1195), (12, 171, 149, 1199), (12, 187, 158, 1251), (12, 191, 157, 1247), (12, 194, 151, 1235), (12, 198, 159, 1255), (12, 202, 160, 1259), (12, 205, 161, 1231), (12, 208, 162, 1243), (12, 221, 164, 1223), (12, 225, 163, 1227), (12, 232, 168, 1279), (12, 238, 173, 1299), (12, 241, 174, 1295), (12, 248, 176, 1307), (12, 251, 177, 1311), (12, 254, 178, 1315), (12, 266, 183, 1347), (12, 272, 184, 1343), (12, 284, 186, 1335), (12, 288, 185, 1339), (13, 9, 107, 65), (13, 12, 136, 966), (13, 13, 108, 429), (13, 17, 138, 1148), (13, 18, 109, 449), (13, 22, 140, 1155), (13, 23, 110, 461), (13, 27, 141, 1163), (13, 28, 111, 477), (13, 31, 143, 1167), (13, 32, 112, 489), (13, 35, 144, 1175), (13, 36, 113, 493), (13, 39, 153, 1179), (13, 40, 114, 510), (13, 43, 154, 1191), (13, 44, 115, 545), (13, 48, 155, 1211), (13, 49, 116, 564), (13, 52, 156, 1215), (13, 53, 117, 577), (13, 56, 165, 1219), (13, 57, 119, 677), (13, 60, 166, 1263), (13, 61, 120, 685), (13, 64, 167, 1267), (13, 65, 121, 697), (13, 69, 169, 1271), (13, 70, 122, 706), (13, 73, 170, 1275), (13, 74, 123, 710), (13, 77, 171, 1283), (13, 78, 124, 718), (13, 82, 172, 1287), (13, 83, 125, 726), (13, 86, 175, 1291), (13, 87, 126, 736), (13, 91, 179, 1303), (13, 92, 127, 800), (13, 95, 180, 1319), (13, 96, 128, 808), (13, 99, 181, 1323), (13, 100, 129, 824), (13, 103, 182, 1327), (13, 104, 130, 832), (13, 107, 187, 1331), (13, 108, 131, 899), (13, 111, 188, 1351), (13, 112, 132, 903), (13, 115, 189, 1355), (13, 116, 133, 915), (13, 119, 190, 1359), (13, 120, 135, 946), (13, 123, 191, 1363)]
def rd_cl : List (Nat × Nat × Nat × Nat × Nat × Nat) := [(0, 9, 9, 343, 344, 58), (11, 7, 3, 71, 72, 48), (11, 16, 8, 104, 105, 49), (11, 25, 6, 129, 130, 50), (11, 27, 5, 131, 132, 51), (11, 39, 4, 201, 202, 52), (11, 46, 7, 226, 227, 53), (11, 55, 2, 259, 260, 54), (11, 64, 10, 298, 299, 55), (11, 71, 1, 311, 312, 56), (11, 78, 0, 337, 338, 57), (13, 7, 11, 63, 64, 47), (13, 10, 12, 964, 965, 60)]
def rd_oc : List Nat := [0, 0, 0, 0, 0, 0, 0, 0, 0, 0, 0, 0, 0, 0, 1, 1, 1, 1, 1, 1, 2, 2, 2, 2, 2, 2, 2, 2, 2, 2, 2, 2, 3, 3, 3, 3, 3, 3, 3, 3, 3, 3, 3, 3, 3, 3, 3, 4, 4, 4, 4, 4, 4, 4, 5, 5, 5, 5, 5, 5, 5, 5, 5, 5, 5, 6, 6, 6, 6, 6, 6, 6, 6, 6, 6, 6, 7, 7, 7, 7, 7, 7, 7, 7, 7, 7, 8, 8, 8, 8, 8, 8, 8, 8, 8, 9, 9, 9, 9, 9, 10, 10, 10, 10, 10, 10, 10, 11, 11, 11, 11, 11, 11, 11, 11, 11, 11, 11, 11, 11, 11, 11, 11, 11, 11, 11, 11, 11, 11, 11, 11, 11, 11, 11, 11, 11, 12, 12, 12, 12, 12, 12, 12, 12, 12, 12, 12, 12, 12, 12, 12, 12, 12, 12, 12, 12, 12, 12, 12, 12, 12, 12, 12, 12, 12, 12, 12, 12, 12, 12, 12, 12, 12, 12, 12, 12, 12, 12, 12, 12, 12, 12, 12, 12, 12, 12, 12, 12, 12, 12, 12, 12, 14, 15, 13]
def rd_np : List Nat := [4, 0, 0, 0, 0, 0, 2, 1, 1, 1, 0, 0, 1, 0, 0, 4, 2, 0, 4, 0, 1, 5, 0, 2, 2, 1, 2, 1, 1, 1, 1, 1, 0, 0, 1, 1, 2, 1, 1, 5, 1, 1, 2, 2, 2, 1, 2, 0, 0, 0, 0, 2, 0, 0, 3, 0, 1, 3, 1, 2, 2, 5, 3, 3, 2, 3, 3, 3, 1, 2, 1, 1, 2, 2, 2, 0, 4, 3, 2, 0, 1, 0, 1, 1, 1, 1, 1, 0, 1, 2, 2, 1, 2, 1, 2, 0, 0, 3, 1, 0, 0, 0, 2, 3, 1, 1, 3, 0, 1, 5, 2, 2, 1, 2, 5, 3, 2, 5, 3, 1, 2, 4, 5, 2, 2, 1, 0, 2, 4, 0, 1, 1, 1, 1, 1, 0, 0, 3, 1, 2, 5, 2, 1, 2, 1, 2, 2, 3, 3, 5, 2, 6, 1, 2, 5, 3, 2, 2, 2, 4, 3, 5, 6, 5, 4, 5, 1, 2, 1, 4, 5, 2, 2, 2, 1, 1, 3, 1, 1, 0, 2, 4, 0, 2, 2, 1, 1, 1, 1, 1, 1, 0, 2, 2, 1]
/-- places of a method's words: code, initialized, instanceMethod or static, selects; 0 virtual, 1 static, 2 a constructor -/
def rd_mp : List (Nat × Nat × Nat × Nat × Nat) := [(341, 57, 340, 0, 2), (839, 57, 837, 838, 0), (937, 57, 935, 936, 0), (843, 57, 841, 842, 0), (851, 57, 849, 850, 0), (859, 57, 857, 858, 0), (864, 57, 863, 14, 0), (870, 57, 869, 15, 0), (882, 57, 881, 16, 0), (886, 57, 884, 885, 0), (894, 57, 892, 893, 0), (910, 57, 908, 909, 0), (914, 57, 912, 913, 0), (962, 57, 960, 961, 0), (315, 56, 314, 0, 2), (814, 56, 813, 0, 1), (817, 56, 816, 0, 1), (855, 56, 853, 854, 0), (823, 56, 821, 822, 0), (831, 56, 829, 830, 0), (263, 54, 262, 0, 2), (704, 54, 702, 703, 0), (781, 54, 779, 780, 0), (717, 54, 715, 716, 0), (733, 54, 731, 732, 0), (743, 54, 741, 742, 0), (748, 54, 747, 10, 0), (765, 54, 763, 764, 0), (761, 54, 759, 760, 0), (773, 54, 771, 772, 0), (790, 54, 788, 789, 0), (785, 54, 783, 784, 0), (75, 48, 74, 0, 2), (922, 48, 920, 921, 0), (436, 48, 434, 435, 0), (440, 48, 438, 439, 0), (445, 48, 444, 0, 0), (456, 48, 454, 455, 0), (476, 48, 474, 475, 0), (460, 48, 458, 459, 0), (945, 48, 943, 944, 0), (472, 48, 470, 471, 0), (505, 48, 503, 504, 0), (529, 48, 527, 528, 0), (533, 48, 531, 532, 0), (620, 48, 618, 619, 0), (636, 48, 634, 635, 0), (205, 52, 204, 0, 2), (684, 52, 682, 683, 0), (692, 52, 690, 691, 0), (931, 52, 929, 930, 0), (696, 52, 694, 695, 0), (675, 52, 673, 674, 0), (953, 52, 951, 952, 0), (135, 51, 134, 0, 2), (607, 51, 605, 606, 0), (525, 51, 523, 524, 0), (509, 51, 507, 508, 0), (558, 51, 556, 557, 0), (521, 51, 519, 520, 0), (648, 51, 646, 647, 0), (517, 51, 515, 516, 0), (538, 51, 537, 1, 0), (611, 51, 609, 610, 0), (615, 51, 614, 3, 0), (170, 50, 169, 0, 2), (553, 50, 551, 552, 0), (563, 50, 561, 562, 0), (603, 50, 601, 602, 0), (644, 50, 642, 643, 0), (663, 50, 661, 662, 0), (659, 50, 657, 658, 0), (572, 50, 570, 571, 0), (576, 50, 574, 575, 0), (544, 50, 542, 543, 0), (957, 50, 955, 956, 0), (230, 53, 229, 0, 2), (589, 53, 587, 588, 0), (593, 53, 591, 592, 0), (599, 53, 597, 598, 0), (655, 53, 654, 7, 0), (624, 53, 623, 4, 0), (671, 53, 670, 9, 0), (640, 53, 639, 6, 0), (667, 53, 666, 8, 0), (632, 53, 631, 5, 0), (108, 49, 107, 0, 2), (926, 49, 924, 925, 0), (484, 49, 482, 483, 0), (468, 49, 466, 467, 0), (488, 49, 486, 487, 0), (628, 49, 626, 627, 0), (500, 49, 498, 499, 0), (795, 49, 793, 794, 0), (725, 49, 723, 724, 0), (347, 58, 346, 0, 2), (847, 58, 845, 846, 0), (878, 58, 876, 877, 0), (898, 58, 896, 897, 0), (890, 58, 888, 889, 0), (302, 55, 301, 0, 2), (799, 55, 797, 798, 0), (807, 55, 805, 806, 0), (752, 55, 750, 751, 0), (756, 55, 755, 11, 0), (777, 55, 776, 13, 0), (769, 55, 768, 12, 0), (67, 47, 66, 0, 2), (432, 47, 430, 431, 0), (452, 47, 450, 451, 0), (464, 47, 462, 463, 0), (480, 47, 478, 479, 0), (492, 47, 490, 491, 0), (496, 47, 494, 495, 0), (513, 47, 511, 512, 0), (548, 47, 546, 547, 0), (567, 47, 565, 566, 0), (580, 47, 578, 579, 0), (584, 47, 583, 2, 0), (680, 47, 678, 679, 0), (688, 47, 686, 687, 0), (700, 47, 698, 699, 0), (709, 47, 707, 708, 0), (713, 47, 711, 712, 0), (721, 47, 719, 720, 0), (729, 47, 727, 728, 0), (739, 47, 737, 738, 0), (803, 47, 801, 802, 0), (811, 47, 809, 810, 0), (827, 47, 825, 826, 0), (835, 47, 833, 834, 0), (902, 47, 900, 901, 0), (906, 47, 904, 905, 0), (918, 47, 916, 917, 0), (941, 47, 940, 17, 0), (949, 47, 947, 948, 0), (968, 60, 967, 0, 2), (1154, 60, 1153, 0, 1), (1151, 60, 1149, 1150, 0), (1162, 60, 1161, 18, 0), (1158, 60, 1156, 1157, 0), (1166, 60, 1164, 1165, 0), (1174, 60, 1173, 19, 0), (1170, 60, 1168, 1169, 0), (1178, 60, 1176, 1177, 0), (1186, 60, 1185, 20, 0), (1206, 60, 1205, 24, 0), (1210, 60, 1209, 25, 0), (1190, 60, 1189, 21, 0), (1202, 60, 1201, 23, 0), (1242, 60, 1241, 30, 0), (1238, 60, 1237, 29, 0), (1198, 60, 1197, 22, 0), (1182, 60, 1180, 1181, 0), (1194, 60, 1192, 1193, 0), (1214, 60, 1212, 1213, 0), (1218, 60, 1216, 1217, 0), (1250, 60, 1249, 32, 0), (1254, 60, 1253, 33, 0), (1258, 60, 1257, 34, 0), (1262, 60, 1261, 35, 0), (1234, 60, 1233, 28, 0), (1246, 60, 1245, 31, 0), (1230, 60, 1229, 27, 0), (1226, 60, 1225, 26, 0), (1222, 60, 1220, 1221, 0), (1266, 60, 1264, 1265, 0), (1270, 60, 1268, 1269, 0), (1282, 60, 1281, 36, 0), (1274, 60, 1272, 1273, 0), (1278, 60, 1276, 1277, 0), (1286, 60, 1284, 1285, 0), (1290, 60, 1288, 1289, 0), (1302, 60, 1301, 38, 0), (1298, 60, 1297, 37, 0), (1294, 60, 1292, 1293, 0), (1310, 60, 1309, 39, 0), (1314, 60, 1313, 40, 0), (1318, 60, 1317, 41, 0), (1306, 60, 1304, 1305, 0), (1322, 60, 1320, 1321, 0), (1326, 60, 1324, 1325, 0), (1330, 60, 1328, 1329, 0), (1350, 60, 1349, 45, 0), (1346, 60, 1345, 44, 0), (1342, 60, 1341, 43, 0), (1338, 60, 1337, 42, 0), (1334, 60, 1332, 1333, 0), (1354, 60, 1352, 1353, 0), (1358, 60, 1356, 1357, 0), (1362, 60, 1360, 1361, 0), (1366, 60, 1364, 1365, 0), (0, 0, 0, 0, 3), (364, 59, 363, 0, 1), (0, 0, 0, 0, 3)]
