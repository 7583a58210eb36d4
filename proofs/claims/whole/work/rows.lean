section
-- ===== PART A: goes FIRST, ahead of the names: the tables' words, and 'selects' of the private methods out of them =====
/-- a private method of a class that the tables say can be made, by its rows of tables_1 -/
def lw_okq (q : MethodName × Nat) : Prop := (q.1.cls ≠ "java/lang/invoke/MethodHandle" ∧ q.1.cls ≠ "java/lang/invoke/VarHandle") ∧ Cond.instantiable q.1.cls q.2 ∈ tables_1 ∧ Cond.privateMethod q.1 ∈ tables_1 ∧ Cond.instanceMethod q.1 ∈ tables_1
theorem lw_p0 : lw_okq (⟨"RehearsalDesk$Faces", "inherit", "(II)V"⟩, 8) := ⟨⟨by decide +kernel, by decide +kernel⟩, List.mem_of_getElem? (i := 26) (by decide +kernel), List.mem_of_getElem? (i := 397) (by decide +kernel), List.mem_of_getElem? (i := 398) (by decide +kernel)⟩
theorem lw_p1 : lw_okq (⟨"RehearsalDesk$Patterns", "isCondition", "(ZII)Z"⟩, 10) := ⟨⟨by decide +kernel, by decide +kernel⟩, List.mem_of_getElem? (i := 86) (by decide +kernel), List.mem_of_getElem? (i := 490) (by decide +kernel), List.mem_of_getElem? (i := 491) (by decide +kernel)⟩
theorem lw_p2 : lw_okq (⟨"RehearsalDesk", "canCome", "(III)Z"⟩, 9) := ⟨⟨by decide +kernel, by decide +kernel⟩, List.mem_of_getElem? (i := 18) (by decide +kernel), List.mem_of_getElem? (i := 536) (by decide +kernel), List.mem_of_getElem? (i := 537) (by decide +kernel)⟩
theorem lw_p3 : lw_okq (⟨"RehearsalDesk$Patterns", "holds", "(II)Z"⟩, 10) := ⟨⟨by decide +kernel, by decide +kernel⟩, List.mem_of_getElem? (i := 86) (by decide +kernel), List.mem_of_getElem? (i := 567) (by decide +kernel), List.mem_of_getElem? (i := 568) (by decide +kernel)⟩
theorem lw_p4 : lw_okq (⟨"RehearsalDesk$Stage", "callThrough", "()V"⟩, 8) := ⟨⟨by decide +kernel, by decide +kernel⟩, List.mem_of_getElem? (i := 181) (by decide +kernel), List.mem_of_getElem? (i := 576) (by decide +kernel), List.mem_of_getElem? (i := 577) (by decide +kernel)⟩
theorem lw_p5 : lw_okq (⟨"RehearsalDesk$Stage", "failWith", "(I)V"⟩, 8) := ⟨⟨by decide +kernel, by decide +kernel⟩, List.mem_of_getElem? (i := 181) (by decide +kernel), List.mem_of_getElem? (i := 584) (by decide +kernel), List.mem_of_getElem? (i := 585) (by decide +kernel)⟩
theorem lw_p6 : lw_okq (⟨"RehearsalDesk$Stage", "giveWhole", "(I)V"⟩, 8) := ⟨⟨by decide +kernel, by decide +kernel⟩, List.mem_of_getElem? (i := 181) (by decide +kernel), List.mem_of_getElem? (i := 592) (by decide +kernel), List.mem_of_getElem? (i := 593) (by decide +kernel)⟩
theorem lw_p7 : lw_okq (⟨"RehearsalDesk$Stage", "answerBy", "(I)V"⟩, 8) := ⟨⟨by decide +kernel, by decide +kernel⟩, List.mem_of_getElem? (i := 181) (by decide +kernel), List.mem_of_getElem? (i := 607) (by decide +kernel), List.mem_of_getElem? (i := 608) (by decide +kernel)⟩
theorem lw_p8 : lw_okq (⟨"RehearsalDesk$Stage", "giveStand", "(I)V"⟩, 8) := ⟨⟨by decide +kernel, by decide +kernel⟩, List.mem_of_getElem? (i := 181) (by decide +kernel), List.mem_of_getElem? (i := 619) (by decide +kernel), List.mem_of_getElem? (i := 620) (by decide +kernel)⟩
theorem lw_p9 : lw_okq (⟨"RehearsalDesk$Stage", "giveParameter", "(I)V"⟩, 8) := ⟨⟨by decide +kernel, by decide +kernel⟩, List.mem_of_getElem? (i := 181) (by decide +kernel), List.mem_of_getElem? (i := 623) (by decide +kernel), List.mem_of_getElem? (i := 624) (by decide +kernel)⟩
theorem lw_p10 : lw_okq (⟨"RehearsalDesk$Expectations", "surveyOne", "(ILRehearsalDesk$Log;)V"⟩, 10) := ⟨⟨by decide +kernel, by decide +kernel⟩, List.mem_of_getElem? (i := 214) (by decide +kernel), List.mem_of_getElem? (i := 700) (by decide +kernel), List.mem_of_getElem? (i := 701) (by decide +kernel)⟩
theorem lw_p11 : lw_okq (⟨"RehearsalDesk$Wrongs", "findNumbers", "(LRehearsalDesk$Expectations;)V"⟩, 2) := ⟨⟨by decide +kernel, by decide +kernel⟩, List.mem_of_getElem? (i := 253) (by decide +kernel), List.mem_of_getElem? (i := 708) (by decide +kernel), List.mem_of_getElem? (i := 709) (by decide +kernel)⟩
theorem lw_p12 : lw_okq (⟨"RehearsalDesk$Wrongs", "add", "(III)V"⟩, 2) := ⟨⟨by decide +kernel, by decide +kernel⟩, List.mem_of_getElem? (i := 253) (by decide +kernel), List.mem_of_getElem? (i := 721) (by decide +kernel), List.mem_of_getElem? (i := 722) (by decide +kernel)⟩
theorem lw_p13 : lw_okq (⟨"RehearsalDesk$Wrongs", "findOrders", "(LRehearsalDesk$Expectations;)V"⟩, 2) := ⟨⟨by decide +kernel, by decide +kernel⟩, List.mem_of_getElem? (i := 253) (by decide +kernel), List.mem_of_getElem? (i := 729) (by decide +kernel), List.mem_of_getElem? (i := 730) (by decide +kernel)⟩
theorem lw_p14 : lw_okq (⟨"RehearsalDesk$Board", "callHeld", "(II)I"⟩, 11) := ⟨⟨by decide +kernel, by decide +kernel⟩, List.mem_of_getElem? (i := 292) (by decide +kernel), List.mem_of_getElem? (i := 816) (by decide +kernel), List.mem_of_getElem? (i := 817) (by decide +kernel)⟩
theorem lw_p15 : lw_okq (⟨"RehearsalDesk$Board", "bringAll", "(I)V"⟩, 11) := ⟨⟨by decide +kernel, by decide +kernel⟩, List.mem_of_getElem? (i := 292) (by decide +kernel), List.mem_of_getElem? (i := 822) (by decide +kernel), List.mem_of_getElem? (i := 823) (by decide +kernel)⟩
def lw_privs_1 : List (MethodName × Nat) := [(⟨"RehearsalDesk$Faces", "inherit", "(II)V"⟩, 8), (⟨"RehearsalDesk$Patterns", "isCondition", "(ZII)Z"⟩, 10), (⟨"RehearsalDesk", "canCome", "(III)Z"⟩, 9), (⟨"RehearsalDesk$Patterns", "holds", "(II)Z"⟩, 10), (⟨"RehearsalDesk$Stage", "callThrough", "()V"⟩, 8), (⟨"RehearsalDesk$Stage", "failWith", "(I)V"⟩, 8), (⟨"RehearsalDesk$Stage", "giveWhole", "(I)V"⟩, 8), (⟨"RehearsalDesk$Stage", "answerBy", "(I)V"⟩, 8), (⟨"RehearsalDesk$Stage", "giveStand", "(I)V"⟩, 8), (⟨"RehearsalDesk$Stage", "giveParameter", "(I)V"⟩, 8), (⟨"RehearsalDesk$Expectations", "surveyOne", "(ILRehearsalDesk$Log;)V"⟩, 10), (⟨"RehearsalDesk$Wrongs", "findNumbers", "(LRehearsalDesk$Expectations;)V"⟩, 2), (⟨"RehearsalDesk$Wrongs", "add", "(III)V"⟩, 2), (⟨"RehearsalDesk$Wrongs", "findOrders", "(LRehearsalDesk$Expectations;)V"⟩, 2), (⟨"RehearsalDesk$Board", "callHeld", "(II)I"⟩, 11), (⟨"RehearsalDesk$Board", "bringAll", "(I)V"⟩, 11)]
theorem lw_r1 : ∀ q ∈ lw_privs_1, lw_okq q := List.forall_mem_cons.mpr ⟨lw_p0, List.forall_mem_cons.mpr ⟨lw_p1, List.forall_mem_cons.mpr ⟨lw_p2, List.forall_mem_cons.mpr ⟨lw_p3, List.forall_mem_cons.mpr ⟨lw_p4, List.forall_mem_cons.mpr ⟨lw_p5, List.forall_mem_cons.mpr ⟨lw_p6, List.forall_mem_cons.mpr ⟨lw_p7, List.forall_mem_cons.mpr ⟨lw_p8, List.forall_mem_cons.mpr ⟨lw_p9, List.forall_mem_cons.mpr ⟨lw_p10, List.forall_mem_cons.mpr ⟨lw_p11, List.forall_mem_cons.mpr ⟨lw_p12, List.forall_mem_cons.mpr ⟨lw_p13, List.forall_mem_cons.mpr ⟨lw_p14, List.forall_mem_cons.mpr ⟨lw_p15, fun _ h => absurd h List.not_mem_nil⟩⟩⟩⟩⟩⟩⟩⟩⟩⟩⟩⟩⟩⟩⟩⟩
theorem lw_p16 : lw_okq (⟨"RehearsalDesk$Board", "tell", "(I)V"⟩, 11) := ⟨⟨by decide +kernel, by decide +kernel⟩, List.mem_of_getElem? (i := 292) (by decide +kernel), List.mem_of_getElem? (i := 834) (by decide +kernel), List.mem_of_getElem? (i := 835) (by decide +kernel)⟩
theorem lw_p17 : lw_okq (⟨"RehearsalDesk", "countMethods", "(I)I"⟩, 9) := ⟨⟨by decide +kernel, by decide +kernel⟩, List.mem_of_getElem? (i := 18) (by decide +kernel), List.mem_of_getElem? (i := 893) (by decide +kernel), List.mem_of_getElem? (i := 894) (by decide +kernel)⟩
theorem lw_p18 : lw_okq (⟨"RehearsalDeskModel", "isBelow", "(II)Z"⟩, 59) := ⟨⟨by decide +kernel, by decide +kernel⟩, List.mem_of_getElem? (i := 919) (by decide +kernel), List.mem_of_getElem? (i := 1114) (by decide +kernel), List.mem_of_getElem? (i := 1115) (by decide +kernel)⟩
theorem lw_p19 : lw_okq (⟨"RehearsalDeskModel", "isStand", "(I)Z"⟩, 59) := ⟨⟨by decide +kernel, by decide +kernel⟩, List.mem_of_getElem? (i := 919) (by decide +kernel), List.mem_of_getElem? (i := 1126) (by decide +kernel), List.mem_of_getElem? (i := 1127) (by decide +kernel)⟩
theorem lw_p20 : lw_okq (⟨"RehearsalDeskModel", "isMethod", "(II)Z"⟩, 59) := ⟨⟨by decide +kernel, by decide +kernel⟩, List.mem_of_getElem? (i := 919) (by decide +kernel), List.mem_of_getElem? (i := 1138) (by decide +kernel), List.mem_of_getElem? (i := 1139) (by decide +kernel)⟩
theorem lw_p21 : lw_okq (⟨"RehearsalDeskModel", "begin", "(III)V"⟩, 59) := ⟨⟨by decide +kernel, by decide +kernel⟩, List.mem_of_getElem? (i := 919) (by decide +kernel), List.mem_of_getElem? (i := 1142) (by decide +kernel), List.mem_of_getElem? (i := 1143) (by decide +kernel)⟩
theorem lw_p22 : lw_okq (⟨"RehearsalDeskModel", "isRule", "(I)Z"⟩, 59) := ⟨⟨by decide +kernel, by decide +kernel⟩, List.mem_of_getElem? (i := 919) (by decide +kernel), List.mem_of_getElem? (i := 1150) (by decide +kernel), List.mem_of_getElem? (i := 1151) (by decide +kernel)⟩
theorem lw_p23 : lw_okq (⟨"RehearsalDeskModel", "putCondition", "(IIIII)I"⟩, 59) := ⟨⟨by decide +kernel, by decide +kernel⟩, List.mem_of_getElem? (i := 919) (by decide +kernel), List.mem_of_getElem? (i := 1154) (by decide +kernel), List.mem_of_getElem? (i := 1155) (by decide +kernel)⟩
theorem lw_p24 : lw_okq (⟨"RehearsalDeskModel", "methodAt", "(II)I"⟩, 59) := ⟨⟨by decide +kernel, by decide +kernel⟩, List.mem_of_getElem? (i := 919) (by decide +kernel), List.mem_of_getElem? (i := 1158) (by decide +kernel), List.mem_of_getElem? (i := 1159) (by decide +kernel)⟩
theorem lw_p25 : lw_okq (⟨"RehearsalDeskModel", "isStandParameter", "(III)Z"⟩, 59) := ⟨⟨by decide +kernel, by decide +kernel⟩, List.mem_of_getElem? (i := 919) (by decide +kernel), List.mem_of_getElem? (i := 1162) (by decide +kernel), List.mem_of_getElem? (i := 1163) (by decide +kernel)⟩
theorem lw_p26 : lw_okq (⟨"RehearsalDeskModel", "mayCome", "(IIII)Z"⟩, 59) := ⟨⟨by decide +kernel, by decide +kernel⟩, List.mem_of_getElem? (i := 919) (by decide +kernel), List.mem_of_getElem? (i := 1178) (by decide +kernel), List.mem_of_getElem? (i := 1179) (by decide +kernel)⟩
theorem lw_p27 : lw_okq (⟨"RehearsalDeskModel", "answerCall", "(IIIII)V"⟩, 59) := ⟨⟨by decide +kernel, by decide +kernel⟩, List.mem_of_getElem? (i := 919) (by decide +kernel), List.mem_of_getElem? (i := 1182) (by decide +kernel), List.mem_of_getElem? (i := 1183) (by decide +kernel)⟩
theorem lw_p28 : lw_okq (⟨"RehearsalDeskModel", "ruleFor", "(IIIII)I"⟩, 59) := ⟨⟨by decide +kernel, by decide +kernel⟩, List.mem_of_getElem? (i := 919) (by decide +kernel), List.mem_of_getElem? (i := 1186) (by decide +kernel), List.mem_of_getElem? (i := 1187) (by decide +kernel)⟩
theorem lw_p29 : lw_okq (⟨"RehearsalDeskModel", "meets", "(IIIIII)Z"⟩, 59) := ⟨⟨by decide +kernel, by decide +kernel⟩, List.mem_of_getElem? (i := 919) (by decide +kernel), List.mem_of_getElem? (i := 1190) (by decide +kernel), List.mem_of_getElem? (i := 1191) (by decide +kernel)⟩
theorem lw_p30 : lw_okq (⟨"RehearsalDeskModel", "holds", "(II)Z"⟩, 59) := ⟨⟨by decide +kernel, by decide +kernel⟩, List.mem_of_getElem? (i := 919) (by decide +kernel), List.mem_of_getElem? (i := 1194) (by decide +kernel), List.mem_of_getElem? (i := 1195) (by decide +kernel)⟩
theorem lw_p31 : lw_okq (⟨"RehearsalDeskModel", "byRule", "(IIIIII)V"⟩, 59) := ⟨⟨by decide +kernel, by decide +kernel⟩, List.mem_of_getElem? (i := 919) (by decide +kernel), List.mem_of_getElem? (i := 1198) (by decide +kernel), List.mem_of_getElem? (i := 1199) (by decide +kernel)⟩
def lw_privs_2 : List (MethodName × Nat) := [(⟨"RehearsalDesk$Board", "tell", "(I)V"⟩, 11), (⟨"RehearsalDesk", "countMethods", "(I)I"⟩, 9), (⟨"RehearsalDeskModel", "isBelow", "(II)Z"⟩, 59), (⟨"RehearsalDeskModel", "isStand", "(I)Z"⟩, 59), (⟨"RehearsalDeskModel", "isMethod", "(II)Z"⟩, 59), (⟨"RehearsalDeskModel", "begin", "(III)V"⟩, 59), (⟨"RehearsalDeskModel", "isRule", "(I)Z"⟩, 59), (⟨"RehearsalDeskModel", "putCondition", "(IIIII)I"⟩, 59), (⟨"RehearsalDeskModel", "methodAt", "(II)I"⟩, 59), (⟨"RehearsalDeskModel", "isStandParameter", "(III)Z"⟩, 59), (⟨"RehearsalDeskModel", "mayCome", "(IIII)Z"⟩, 59), (⟨"RehearsalDeskModel", "answerCall", "(IIIII)V"⟩, 59), (⟨"RehearsalDeskModel", "ruleFor", "(IIIII)I"⟩, 59), (⟨"RehearsalDeskModel", "meets", "(IIIIII)Z"⟩, 59), (⟨"RehearsalDeskModel", "holds", "(II)Z"⟩, 59), (⟨"RehearsalDeskModel", "byRule", "(IIIIII)V"⟩, 59)]
theorem lw_r2 : ∀ q ∈ lw_privs_2, lw_okq q := List.forall_mem_cons.mpr ⟨lw_p16, List.forall_mem_cons.mpr ⟨lw_p17, List.forall_mem_cons.mpr ⟨lw_p18, List.forall_mem_cons.mpr ⟨lw_p19, List.forall_mem_cons.mpr ⟨lw_p20, List.forall_mem_cons.mpr ⟨lw_p21, List.forall_mem_cons.mpr ⟨lw_p22, List.forall_mem_cons.mpr ⟨lw_p23, List.forall_mem_cons.mpr ⟨lw_p24, List.forall_mem_cons.mpr ⟨lw_p25, List.forall_mem_cons.mpr ⟨lw_p26, List.forall_mem_cons.mpr ⟨lw_p27, List.forall_mem_cons.mpr ⟨lw_p28, List.forall_mem_cons.mpr ⟨lw_p29, List.forall_mem_cons.mpr ⟨lw_p30, List.forall_mem_cons.mpr ⟨lw_p31, fun _ h => absurd h List.not_mem_nil⟩⟩⟩⟩⟩⟩⟩⟩⟩⟩⟩⟩⟩⟩⟩⟩
theorem lw_p32 : lw_okq (⟨"RehearsalDeskModel", "give", "(II)V"⟩, 59) := ⟨⟨by decide +kernel, by decide +kernel⟩, List.mem_of_getElem? (i := 919) (by decide +kernel), List.mem_of_getElem? (i := 1202) (by decide +kernel), List.mem_of_getElem? (i := 1203) (by decide +kernel)⟩
theorem lw_p33 : lw_okq (⟨"RehearsalDeskModel", "fail", "(II)V"⟩, 59) := ⟨⟨by decide +kernel, by decide +kernel⟩, List.mem_of_getElem? (i := 919) (by decide +kernel), List.mem_of_getElem? (i := 1206) (by decide +kernel), List.mem_of_getElem? (i := 1207) (by decide +kernel)⟩
theorem lw_p34 : lw_okq (⟨"RehearsalDeskModel", "sumOf", "(IIII)I"⟩, 59) := ⟨⟨by decide +kernel, by decide +kernel⟩, List.mem_of_getElem? (i := 919) (by decide +kernel), List.mem_of_getElem? (i := 1210) (by decide +kernel), List.mem_of_getElem? (i := 1211) (by decide +kernel)⟩
theorem lw_p35 : lw_okq (⟨"RehearsalDeskModel", "through", "(III)V"⟩, 59) := ⟨⟨by decide +kernel, by decide +kernel⟩, List.mem_of_getElem? (i := 919) (by decide +kernel), List.mem_of_getElem? (i := 1214) (by decide +kernel), List.mem_of_getElem? (i := 1215) (by decide +kernel)⟩
theorem lw_p36 : lw_okq (⟨"RehearsalDeskModel", "isExpectation", "(I)Z"⟩, 59) := ⟨⟨by decide +kernel, by decide +kernel⟩, List.mem_of_getElem? (i := 919) (by decide +kernel), List.mem_of_getElem? (i := 1234) (by decide +kernel), List.mem_of_getElem? (i := 1235) (by decide +kernel)⟩
theorem lw_p37 : lw_okq (⟨"RehearsalDeskModel", "metBy", "(I)I"⟩, 59) := ⟨⟨by decide +kernel, by decide +kernel⟩, List.mem_of_getElem? (i := 919) (by decide +kernel), List.mem_of_getElem? (i := 1250) (by decide +kernel), List.mem_of_getElem? (i := 1251) (by decide +kernel)⟩
theorem lw_p38 : lw_okq (⟨"RehearsalDeskModel", "callMeets", "(II)Z"⟩, 59) := ⟨⟨by decide +kernel, by decide +kernel⟩, List.mem_of_getElem? (i := 919) (by decide +kernel), List.mem_of_getElem? (i := 1254) (by decide +kernel), List.mem_of_getElem? (i := 1255) (by decide +kernel)⟩
theorem lw_p39 : lw_okq (⟨"RehearsalDeskModel", "note", "(III)V"⟩, 59) := ⟨⟨by decide +kernel, by decide +kernel⟩, List.mem_of_getElem? (i := 919) (by decide +kernel), List.mem_of_getElem? (i := 1262) (by decide +kernel), List.mem_of_getElem? (i := 1263) (by decide +kernel)⟩
theorem lw_p40 : lw_okq (⟨"RehearsalDeskModel", "wrongOrder", "(I)I"⟩, 59) := ⟨⟨by decide +kernel, by decide +kernel⟩, List.mem_of_getElem? (i := 919) (by decide +kernel), List.mem_of_getElem? (i := 1266) (by decide +kernel), List.mem_of_getElem? (i := 1267) (by decide +kernel)⟩
theorem lw_p41 : lw_okq (⟨"RehearsalDeskModel", "meetsAny", "(I)Z"⟩, 59) := ⟨⟨by decide +kernel, by decide +kernel⟩, List.mem_of_getElem? (i := 919) (by decide +kernel), List.mem_of_getElem? (i := 1270) (by decide +kernel), List.mem_of_getElem? (i := 1271) (by decide +kernel)⟩
theorem lw_p42 : lw_okq (⟨"RehearsalDeskModel", "comeTo", "(I)V"⟩, 59) := ⟨⟨by decide +kernel, by decide +kernel⟩, List.mem_of_getElem? (i := 919) (by decide +kernel), List.mem_of_getElem? (i := 1290) (by decide +kernel), List.mem_of_getElem? (i := 1291) (by decide +kernel)⟩
theorem lw_p43 : lw_okq (⟨"RehearsalDeskModel", "done", "(I)I"⟩, 59) := ⟨⟨by decide +kernel, by decide +kernel⟩, List.mem_of_getElem? (i := 919) (by decide +kernel), List.mem_of_getElem? (i := 1294) (by decide +kernel), List.mem_of_getElem? (i := 1295) (by decide +kernel)⟩
theorem lw_p44 : lw_okq (⟨"RehearsalDeskModel", "callBy", "(II)I"⟩, 59) := ⟨⟨by decide +kernel, by decide +kernel⟩, List.mem_of_getElem? (i := 919) (by decide +kernel), List.mem_of_getElem? (i := 1298) (by decide +kernel), List.mem_of_getElem? (i := 1299) (by decide +kernel)⟩
theorem lw_p45 : lw_okq (⟨"RehearsalDeskModel", "nextFor", "(II)I"⟩, 59) := ⟨⟨by decide +kernel, by decide +kernel⟩, List.mem_of_getElem? (i := 919) (by decide +kernel), List.mem_of_getElem? (i := 1302) (by decide +kernel), List.mem_of_getElem? (i := 1303) (by decide +kernel)⟩
def lw_privs_3 : List (MethodName × Nat) := [(⟨"RehearsalDeskModel", "give", "(II)V"⟩, 59), (⟨"RehearsalDeskModel", "fail", "(II)V"⟩, 59), (⟨"RehearsalDeskModel", "sumOf", "(IIII)I"⟩, 59), (⟨"RehearsalDeskModel", "through", "(III)V"⟩, 59), (⟨"RehearsalDeskModel", "isExpectation", "(I)Z"⟩, 59), (⟨"RehearsalDeskModel", "metBy", "(I)I"⟩, 59), (⟨"RehearsalDeskModel", "callMeets", "(II)Z"⟩, 59), (⟨"RehearsalDeskModel", "note", "(III)V"⟩, 59), (⟨"RehearsalDeskModel", "wrongOrder", "(I)I"⟩, 59), (⟨"RehearsalDeskModel", "meetsAny", "(I)Z"⟩, 59), (⟨"RehearsalDeskModel", "comeTo", "(I)V"⟩, 59), (⟨"RehearsalDeskModel", "done", "(I)I"⟩, 59), (⟨"RehearsalDeskModel", "callBy", "(II)I"⟩, 59), (⟨"RehearsalDeskModel", "nextFor", "(II)I"⟩, 59)]
theorem lw_r3 : ∀ q ∈ lw_privs_3, lw_okq q := List.forall_mem_cons.mpr ⟨lw_p32, List.forall_mem_cons.mpr ⟨lw_p33, List.forall_mem_cons.mpr ⟨lw_p34, List.forall_mem_cons.mpr ⟨lw_p35, List.forall_mem_cons.mpr ⟨lw_p36, List.forall_mem_cons.mpr ⟨lw_p37, List.forall_mem_cons.mpr ⟨lw_p38, List.forall_mem_cons.mpr ⟨lw_p39, List.forall_mem_cons.mpr ⟨lw_p40, List.forall_mem_cons.mpr ⟨lw_p41, List.forall_mem_cons.mpr ⟨lw_p42, List.forall_mem_cons.mpr ⟨lw_p43, List.forall_mem_cons.mpr ⟨lw_p44, List.forall_mem_cons.mpr ⟨lw_p45, fun _ h => absurd h List.not_mem_nil⟩⟩⟩⟩⟩⟩⟩⟩⟩⟩⟩⟩⟩⟩
def lw_privs : List (MethodName × Nat) := lw_privs_1 ++ (lw_privs_2 ++ (lw_privs_3))
def lw_tbl : List Cond := k2_sels lw_privs ++ tables_1
theorem lw_privs_ok : ∀ q ∈ lw_privs, lw_okq q := by
  show ∀ q ∈ lw_privs_1 ++ (lw_privs_2 ++ (lw_privs_3)), lw_okq q
  exact List.forall_mem_append.mpr ⟨lw_r1, List.forall_mem_append.mpr ⟨lw_r2, lw_r3⟩⟩
-- ===== names and tables of the program, by program out of the printed names =====
def RX0 : String := "RehearsalDesk$Board"
def TX0 : u_T := fun k => match k with
  | 0 => ("RehearsalDesk$Board", "cues", "LRehearsalDesk$Cues;", true)
  | 1 => ("RehearsalDesk$Board", "faces", "LRehearsalDesk$Faces;", true)
  | 2 => ("RehearsalDesk$Board", "cast", "LRehearsalDesk$Stands;", true)
  | 3 => ("RehearsalDesk$Board", "stage", "LRehearsalDesk$Stage;", true)
  | 4 => ("RehearsalDesk$Board", "tries", "LRehearsalDesk$Tries;", true)
  | 5 => ("RehearsalDesk$Board", "wholes", "[I", true)
  | 6 => ("RehearsalDesk$Board", "held", "[I", true)
  | 7 => ("RehearsalDesk$Board", "told", "[I", true)
  | 8 => ("RehearsalDesk$Board", "toldSize", "I", false)
  | 9 => ("RehearsalDesk$Board", "done", "I", false)
  | _ => ("RehearsalDesk$Board", "next", "I", false)
def tyX0 : Nat → FieldType := fun k => match k with
  | 0 => .object "RehearsalDesk$Cues"
  | 1 => .object "RehearsalDesk$Faces"
  | 2 => .object "RehearsalDesk$Stands"
  | 3 => .object "RehearsalDesk$Stage"
  | 4 => .object "RehearsalDesk$Tries"
  | 5 => .array .int
  | 6 => .array .int
  | 7 => .array .int
  | 8 => .int
  | 9 => .int
  | _ => .int
theorem nmX0 : ∀ a, a < 11 → ∀ b, b < 11 → a ≠ b → (TX0 a).2.1 ≠ (TX0 b).2.1 := by decide +kernel
theorem tyX0_ok : ∀ k, k < 11 → parseFieldDescriptor (TX0 k).2.2.1 = some (tyX0 k) := by decide +kernel
abbrev cX0_init : ByteArray := prog_2_method_1_code
def yX0_init : MethodName := ⟨RX0, "<init>", "(LRehearsalDesk$Cues;LRehearsalDesk$Faces;LRehearsalDesk$Stands;LRehearsalDesk$Stage;)V"⟩
abbrev cX0_isWornOut : ByteArray := prog_2_method_2_code
def yX0_isWornOut : MethodName := ⟨RX0, "isWornOut", "()Z"⟩
abbrev cX0_cuesDone : ByteArray := prog_2_method_3_code
def yX0_cuesDone : MethodName := ⟨RX0, "cuesDone", "()I"⟩
abbrev cX0_begin : ByteArray := prog_2_method_4_code
def yX0_begin : MethodName := ⟨RX0, "begin", "()V"⟩
abbrev cX0_isAtCue : ByteArray := prog_2_method_5_code
def yX0_isAtCue : MethodName := ⟨RX0, "isAtCue", "()Z"⟩
abbrev cX0_doCue : ByteArray := prog_2_method_6_code
def yX0_doCue : MethodName := ⟨RX0, "doCue", "()I"⟩
abbrev cX0_callHeld : ByteArray := prog_2_method_7_code
def yX0_callHeld : MethodName := ⟨RX0, "callHeld", "(II)I"⟩
abbrev cX0_bringAll : ByteArray := prog_2_method_8_code
def yX0_bringAll : MethodName := ⟨RX0, "bringAll", "(I)V"⟩
abbrev cX0_tell : ByteArray := prog_2_method_9_code
def yX0_tell : MethodName := ⟨RX0, "tell", "(I)V"⟩
abbrev cX0_recover : ByteArray := prog_2_method_10_code
def yX0_recover : MethodName := ⟨RX0, "recover", "(I)Z"⟩
abbrev cX0_arrive : ByteArray := prog_2_method_11_code
def yX0_arrive : MethodName := ⟨RX0, "arrive", "()V"⟩
abbrev cX0_toldSize : ByteArray := prog_2_method_12_code
def yX0_toldSize : MethodName := ⟨RX0, "toldSize", "()I"⟩
abbrev cX0_toldNumber : ByteArray := prog_2_method_13_code
def yX0_toldNumber : MethodName := ⟨RX0, "toldNumber", "(I)I"⟩
abbrev cX0_emptyTold : ByteArray := prog_2_method_14_code
def yX0_emptyTold : MethodName := ⟨RX0, "emptyTold", "()V"⟩
def RX1 : String := "RehearsalDesk$Cues"
def TX1 : u_T := fun k => match k with
  | 0 => ("RehearsalDesk$Cues", "size", "I", false)
  | 1 => ("RehearsalDesk$Cues", "kinds", "[I", true)
  | 2 => ("RehearsalDesk$Cues", "as", "[I", true)
  | 3 => ("RehearsalDesk$Cues", "bs", "[I", true)
  | _ => ("RehearsalDesk$Cues", "cs", "[I", true)
def tyX1 : Nat → FieldType := fun k => match k with
  | 0 => .int
  | 1 => .array .int
  | 2 => .array .int
  | 3 => .array .int
  | _ => .array .int
theorem nmX1 : ∀ a, a < 5 → ∀ b, b < 5 → a ≠ b → (TX1 a).2.1 ≠ (TX1 b).2.1 := by decide +kernel
theorem tyX1_ok : ∀ k, k < 5 → parseFieldDescriptor (TX1 k).2.2.1 = some (tyX1 k) := by decide +kernel
abbrev cX1_init : ByteArray := prog_3_method_1_code
def yX1_init : MethodName := ⟨RX1, "<init>", "()V"⟩
abbrev cX1_isCue : ByteArray := prog_3_method_2_code
def yX1_isCue : MethodName := ⟨RX1, "isCue", "(IIII)Z"⟩
abbrev cX1_isWithin : ByteArray := prog_3_method_3_code
def yX1_isWithin : MethodName := ⟨RX1, "isWithin", "(II)Z"⟩
abbrev cX1_size : ByteArray := prog_3_method_4_code
def yX1_size : MethodName := ⟨RX1, "size", "()I"⟩
abbrev cX1_add : ByteArray := prog_3_method_5_code
def yX1_add : MethodName := ⟨RX1, "add", "(IIII)I"⟩
abbrev cX1_removeAll : ByteArray := prog_3_method_6_code
def yX1_removeAll : MethodName := ⟨RX1, "removeAll", "()I"⟩
def RX2 : String := "RehearsalDesk$Expectations"
def TX2 : u_T := fun k => match k with
  | 0 => ("RehearsalDesk$Expectations", "patterns", "LRehearsalDesk$Patterns;", true)
  | 1 => ("RehearsalDesk$Expectations", "least", "[I", true)
  | 2 => ("RehearsalDesk$Expectations", "most", "[I", true)
  | 3 => ("RehearsalDesk$Expectations", "orders", "I", false)
  | 4 => ("RehearsalDesk$Expectations", "orderFirst", "[I", true)
  | 5 => ("RehearsalDesk$Expectations", "orderSecond", "[I", true)
  | 6 => ("RehearsalDesk$Expectations", "meeting", "[I", true)
  | 7 => ("RehearsalDesk$Expectations", "firstCall", "[I", true)
  | 8 => ("RehearsalDesk$Expectations", "lastCall", "[I", true)
  | _ => ("RehearsalDesk$Expectations", "expected", "[Z", true)
def tyX2 : Nat → FieldType := fun k => match k with
  | 0 => .object "RehearsalDesk$Patterns"
  | 1 => .array .int
  | 2 => .array .int
  | 3 => .int
  | 4 => .array .int
  | 5 => .array .int
  | 6 => .array .int
  | 7 => .array .int
  | 8 => .array .int
  | _ => .array .boolean
theorem nmX2 : ∀ a, a < 10 → ∀ b, b < 10 → a ≠ b → (TX2 a).2.1 ≠ (TX2 b).2.1 := by decide +kernel
theorem tyX2_ok : ∀ k, k < 10 → parseFieldDescriptor (TX2 k).2.2.1 = some (tyX2 k) := by decide +kernel
abbrev cX2_init : ByteArray := prog_4_method_1_code
def yX2_init : MethodName := ⟨RX2, "<init>", "(LRehearsalDesk$Patterns;)V"⟩
abbrev cX2_add : ByteArray := prog_4_method_2_code
def yX2_add : MethodName := ⟨RX2, "add", "(IIIII)I"⟩
abbrev cX2_orders : ByteArray := prog_4_method_3_code
def yX2_orders : MethodName := ⟨RX2, "orders", "()I"⟩
abbrev cX2_addOrder : ByteArray := prog_4_method_4_code
def yX2_addOrder : MethodName := ⟨RX2, "addOrder", "(II)I"⟩
abbrev cX2_countMeeting : ByteArray := prog_4_method_5_code
def yX2_countMeeting : MethodName := ⟨RX2, "countMeeting", "(ILRehearsalDesk$Log;)I"⟩
abbrev cX2_survey : ByteArray := prog_4_method_6_code
def yX2_survey : MethodName := ⟨RX2, "survey", "(LRehearsalDesk$Log;)V"⟩
abbrev cX2_surveyOne : ByteArray := prog_4_method_7_code
def yX2_surveyOne : MethodName := ⟨RX2, "surveyOne", "(ILRehearsalDesk$Log;)V"⟩
abbrev cX2_meeting : ByteArray := prog_4_method_8_code
def yX2_meeting : MethodName := ⟨RX2, "meeting", "(I)I"⟩
abbrev cX2_isTooFew : ByteArray := prog_4_method_9_code
def yX2_isTooFew : MethodName := ⟨RX2, "isTooFew", "(I)Z"⟩
abbrev cX2_isTooMany : ByteArray := prog_4_method_10_code
def yX2_isTooMany : MethodName := ⟨RX2, "isTooMany", "(I)Z"⟩
abbrev cX2_isExpected : ByteArray := prog_4_method_11_code
def yX2_isExpected : MethodName := ⟨RX2, "isExpected", "(I)Z"⟩
abbrev cX2_callAhead : ByteArray := prog_4_method_12_code
def yX2_callAhead : MethodName := ⟨RX2, "callAhead", "(I)I"⟩
def RX3 : String := "RehearsalDesk$Faces"
def TX3 : u_T := fun k => match k with
  | 0 => ("RehearsalDesk$Faces", "size", "I", false)
  | 1 => ("RehearsalDesk$Faces", "methods", "[I", true)
  | 2 => ("RehearsalDesk$Faces", "lineage", "[I", true)
  | 3 => ("RehearsalDesk$Faces", "fixed", "[Z", true)
  | 4 => ("RehearsalDesk$Faces", "parameters", "[I", true)
  | 5 => ("RehearsalDesk$Faces", "standBits", "[I", true)
  | 6 => ("RehearsalDesk$Faces", "gives", "[I", true)
  | _ => ("RehearsalDesk$Faces", "fails", "[I", true)
def tyX3 : Nat → FieldType := fun k => match k with
  | 0 => .int
  | 1 => .array .int
  | 2 => .array .int
  | 3 => .array .boolean
  | 4 => .array .int
  | 5 => .array .int
  | 6 => .array .int
  | _ => .array .int
theorem nmX3 : ∀ a, a < 8 → ∀ b, b < 8 → a ≠ b → (TX3 a).2.1 ≠ (TX3 b).2.1 := by decide +kernel
theorem tyX3_ok : ∀ k, k < 8 → parseFieldDescriptor (TX3 k).2.2.1 = some (tyX3 k) := by decide +kernel
abbrev cX3_init : ByteArray := prog_5_method_1_code
def yX3_init : MethodName := ⟨RX3, "<init>", "()V"⟩
abbrev cX3_size : ByteArray := prog_5_method_2_code
def yX3_size : MethodName := ⟨RX3, "size", "()I"⟩
abbrev cX3_has : ByteArray := prog_5_method_3_code
def yX3_has : MethodName := ⟨RX3, "has", "(I)Z"⟩
abbrev cX3_add : ByteArray := prog_5_method_4_code
def yX3_add : MethodName := ⟨RX3, "add", "(I)I"⟩
abbrev cX3_inherit : ByteArray := prog_5_method_5_code
def yX3_inherit : MethodName := ⟨RX3, "inherit", "(II)V"⟩
abbrev cX3_isFixed : ByteArray := prog_5_method_6_code
def yX3_isFixed : MethodName := ⟨RX3, "isFixed", "(I)Z"⟩
abbrev cX3_fix : ByteArray := prog_5_method_7_code
def yX3_fix : MethodName := ⟨RX3, "fix", "(I)V"⟩
abbrev cX3_addMethod : ByteArray := prog_5_method_8_code
def yX3_addMethod : MethodName := ⟨RX3, "addMethod", "(IIIII)I"⟩
abbrev cX3_methods : ByteArray := prog_5_method_9_code
def yX3_methods : MethodName := ⟨RX3, "methods", "(I)I"⟩
abbrev cX3_lineage : ByteArray := prog_5_method_10_code
def yX3_lineage : MethodName := ⟨RX3, "lineage", "(I)I"⟩
abbrev cX3_signature : ByteArray := prog_5_method_11_code
def yX3_signature : MethodName := ⟨RX3, "signature", "(II)I"⟩
abbrev cX3_takes : ByteArray := prog_5_method_12_code
def yX3_takes : MethodName := ⟨RX3, "takes", "(II)Z"⟩
abbrev cX3_takesStand : ByteArray := prog_5_method_13_code
def yX3_takesStand : MethodName := ⟨RX3, "takesStand", "(II)Z"⟩
abbrev cX3_gives : ByteArray := prog_5_method_14_code
def yX3_gives : MethodName := ⟨RX3, "gives", "(I)I"⟩
abbrev cX3_mayFail : ByteArray := prog_5_method_15_code
def yX3_mayFail : MethodName := ⟨RX3, "mayFail", "(II)Z"⟩
def RX4 : String := "RehearsalDesk$Log"
def TX4 : u_T := fun k => match k with
  | 0 => ("RehearsalDesk$Log", "rows", "[I", true)
  | 1 => ("RehearsalDesk$Log", "latest", "[I", true)
  | 2 => ("RehearsalDesk$Log", "any", "Z", false)
  | 3 => ("RehearsalDesk$Log", "size", "I", false)
  | _ => ("RehearsalDesk$Log", "lost", "I", false)
def tyX4 : Nat → FieldType := fun k => match k with
  | 0 => .array .int
  | 1 => .array .int
  | 2 => .boolean
  | 3 => .int
  | _ => .int
theorem nmX4 : ∀ a, a < 5 → ∀ b, b < 5 → a ≠ b → (TX4 a).2.1 ≠ (TX4 b).2.1 := by decide +kernel
theorem tyX4_ok : ∀ k, k < 5 → parseFieldDescriptor (TX4 k).2.2.1 = some (tyX4 k) := by decide +kernel
abbrev cX4_init : ByteArray := prog_6_method_1_code
def yX4_init : MethodName := ⟨RX4, "<init>", "()V"⟩
abbrev cX4_hasLatest : ByteArray := prog_6_method_2_code
def yX4_hasLatest : MethodName := ⟨RX4, "hasLatest", "()Z"⟩
abbrev cX4_size : ByteArray := prog_6_method_3_code
def yX4_size : MethodName := ⟨RX4, "size", "()I"⟩
abbrev cX4_lost : ByteArray := prog_6_method_4_code
def yX4_lost : MethodName := ⟨RX4, "lost", "()I"⟩
abbrev cX4_column : ByteArray := prog_6_method_5_code
def yX4_column : MethodName := ⟨RX4, "column", "(II)I"⟩
abbrev cX4_keepLatest : ByteArray := prog_6_method_6_code
def yX4_keepLatest : MethodName := ⟨RX4, "keepLatest", "()V"⟩
abbrev cX4_empty : ByteArray := prog_6_method_7_code
def yX4_empty : MethodName := ⟨RX4, "empty", "()V"⟩
def RX5 : String := "RehearsalDesk$Patterns"
def TX5 : u_T := fun k => match k with
  | 0 => ("RehearsalDesk$Patterns", "most", "I", true)
  | 1 => ("RehearsalDesk$Patterns", "faces", "LRehearsalDesk$Faces;", true)
  | 2 => ("RehearsalDesk$Patterns", "cast", "LRehearsalDesk$Stands;", true)
  | 3 => ("RehearsalDesk$Patterns", "size", "I", false)
  | 4 => ("RehearsalDesk$Patterns", "stands", "[I", true)
  | 5 => ("RehearsalDesk$Patterns", "methods", "[I", true)
  | 6 => ("RehearsalDesk$Patterns", "signatures", "[I", true)
  | 7 => ("RehearsalDesk$Patterns", "conditions", "[I", true)
  | 8 => ("RehearsalDesk$Patterns", "lows", "[I", true)
  | _ => ("RehearsalDesk$Patterns", "highs", "[I", true)
def tyX5 : Nat → FieldType := fun k => match k with
  | 0 => .int
  | 1 => .object "RehearsalDesk$Faces"
  | 2 => .object "RehearsalDesk$Stands"
  | 3 => .int
  | 4 => .array .int
  | 5 => .array .int
  | 6 => .array .int
  | 7 => .array .int
  | 8 => .array .int
  | _ => .array .int
theorem nmX5 : ∀ a, a < 10 → ∀ b, b < 10 → a ≠ b → (TX5 a).2.1 ≠ (TX5 b).2.1 := by decide +kernel
theorem tyX5_ok : ∀ k, k < 10 → parseFieldDescriptor (TX5 k).2.2.1 = some (tyX5 k) := by decide +kernel
abbrev cX5_init : ByteArray := prog_7_method_1_code
def yX5_init : MethodName := ⟨RX5, "<init>", "(ILRehearsalDesk$Faces;LRehearsalDesk$Stands;)V"⟩
abbrev cX5_size : ByteArray := prog_7_method_2_code
def yX5_size : MethodName := ⟨RX5, "size", "()I"⟩
abbrev cX5_has : ByteArray := prog_7_method_3_code
def yX5_has : MethodName := ⟨RX5, "has", "(I)Z"⟩
abbrev cX5_add : ByteArray := prog_7_method_4_code
def yX5_add : MethodName := ⟨RX5, "add", "(III)I"⟩
abbrev cX5_signature : ByteArray := prog_7_method_5_code
def yX5_signature : MethodName := ⟨RX5, "signature", "(I)I"⟩
abbrev cX5_hasParameter : ByteArray := prog_7_method_6_code
def yX5_hasParameter : MethodName := ⟨RX5, "hasParameter", "(II)Z"⟩
abbrev cX5_isCatching : ByteArray := prog_7_method_7_code
def yX5_isCatching : MethodName := ⟨RX5, "isCatching", "(II)Z"⟩
abbrev cX5_setCondition : ByteArray := prog_7_method_8_code
def yX5_setCondition : MethodName := ⟨RX5, "setCondition", "(IIIII)I"⟩
abbrev cX5_isCondition : ByteArray := prog_7_method_9_code
def yX5_isCondition : MethodName := ⟨RX5, "isCondition", "(ZII)Z"⟩
abbrev cX5_fits : ByteArray := prog_7_method_10_code
def yX5_fits : MethodName := ⟨RX5, "fits", "(I[II)Z"⟩
abbrev cX5_holds : ByteArray := prog_7_method_11_code
def yX5_holds : MethodName := ⟨RX5, "holds", "(II)Z"⟩
def RX6 : String := "RehearsalDesk$Rules"
def TX6 : u_T := fun k => match k with
  | 0 => ("RehearsalDesk$Rules", "patterns", "LRehearsalDesk$Patterns;", true)
  | 1 => ("RehearsalDesk$Rules", "faces", "LRehearsalDesk$Faces;", true)
  | 2 => ("RehearsalDesk$Rules", "cast", "LRehearsalDesk$Stands;", true)
  | 3 => ("RehearsalDesk$Rules", "answers", "[I", true)
  | 4 => ("RehearsalDesk$Rules", "answerKinds", "[I", true)
  | 5 => ("RehearsalDesk$Rules", "answerValues", "[I", true)
  | 6 => ("RehearsalDesk$Rules", "calls", "[I", true)
  | 7 => ("RehearsalDesk$Rules", "hasCaught", "[Z", true)
  | _ => ("RehearsalDesk$Rules", "caughtValues", "[I", true)
def tyX6 : Nat → FieldType := fun k => match k with
  | 0 => .object "RehearsalDesk$Patterns"
  | 1 => .object "RehearsalDesk$Faces"
  | 2 => .object "RehearsalDesk$Stands"
  | 3 => .array .int
  | 4 => .array .int
  | 5 => .array .int
  | 6 => .array .int
  | 7 => .array .boolean
  | _ => .array .int
theorem nmX6 : ∀ a, a < 9 → ∀ b, b < 9 → a ≠ b → (TX6 a).2.1 ≠ (TX6 b).2.1 := by decide +kernel
theorem tyX6_ok : ∀ k, k < 9 → parseFieldDescriptor (TX6 k).2.2.1 = some (tyX6 k) := by decide +kernel
abbrev cX6_init : ByteArray := prog_8_method_1_code
def yX6_init : MethodName := ⟨RX6, "<init>", "(LRehearsalDesk$Patterns;LRehearsalDesk$Faces;LRehearsalDesk$Stands;)V"⟩
abbrev cX6_isAnswer : ByteArray := prog_8_method_2_code
def yX6_isAnswer : MethodName := ⟨RX6, "isAnswer", "(III)Z"⟩
abbrev cX6_addAnswer : ByteArray := prog_8_method_3_code
def yX6_addAnswer : MethodName := ⟨RX6, "addAnswer", "(III)I"⟩
abbrev cX6_find : ByteArray := prog_8_method_4_code
def yX6_find : MethodName := ⟨RX6, "find", "([I)I"⟩
abbrev cX6_use : ByteArray := prog_8_method_5_code
def yX6_use : MethodName := ⟨RX6, "use", "(I[I)I"⟩
abbrev cX6_answerKind : ByteArray := prog_8_method_6_code
def yX6_answerKind : MethodName := ⟨RX6, "answerKind", "(I)I"⟩
abbrev cX6_answerValue : ByteArray := prog_8_method_7_code
def yX6_answerValue : MethodName := ⟨RX6, "answerValue", "(I)I"⟩
abbrev cX6_holdsCaught : ByteArray := prog_8_method_8_code
def yX6_holdsCaught : MethodName := ⟨RX6, "holdsCaught", "(II)Z"⟩
abbrev cX6_caughtValue : ByteArray := prog_8_method_9_code
def yX6_caughtValue : MethodName := ⟨RX6, "caughtValue", "(II)I"⟩
abbrev cX6_release : ByteArray := prog_8_method_10_code
def yX6_release : MethodName := ⟨RX6, "release", "(II)V"⟩
abbrev cX6_startAgain : ByteArray := prog_8_method_11_code
def yX6_startAgain : MethodName := ⟨RX6, "startAgain", "()V"⟩
def RX7 : String := "RehearsalDesk$Stage"
def TX7 : u_T := fun k => match k with
  | 0 => ("RehearsalDesk$Stage", "faces", "LRehearsalDesk$Faces;", true)
  | 1 => ("RehearsalDesk$Stage", "cast", "LRehearsalDesk$Stands;", true)
  | 2 => ("RehearsalDesk$Stage", "rules", "LRehearsalDesk$Rules;", true)
  | 3 => ("RehearsalDesk$Stage", "log", "LRehearsalDesk$Log;", true)
  | 4 => ("RehearsalDesk$Stage", "now", "[I", true)
  | 5 => ("RehearsalDesk$Stage", "levels", "[I", true)
  | 6 => ("RehearsalDesk$Stage", "signature", "I", false)
  | _ => ("RehearsalDesk$Stage", "sumOfWholes", "I", false)
def tyX7 : Nat → FieldType := fun k => match k with
  | 0 => .object "RehearsalDesk$Faces"
  | 1 => .object "RehearsalDesk$Stands"
  | 2 => .object "RehearsalDesk$Rules"
  | 3 => .object "RehearsalDesk$Log"
  | 4 => .array .int
  | 5 => .array .int
  | 6 => .int
  | _ => .int
theorem nmX7 : ∀ a, a < 8 → ∀ b, b < 8 → a ≠ b → (TX7 a).2.1 ≠ (TX7 b).2.1 := by decide +kernel
theorem tyX7_ok : ∀ k, k < 8 → parseFieldDescriptor (TX7 k).2.2.1 = some (tyX7 k) := by decide +kernel
abbrev cX7_init : ByteArray := prog_9_method_1_code
def yX7_init : MethodName := ⟨RX7, "<init>", "(LRehearsalDesk$Faces;LRehearsalDesk$Stands;LRehearsalDesk$Rules;LRehearsalDesk$Log;)V"⟩
abbrev cX7_begin : ByteArray := prog_9_method_2_code
def yX7_begin : MethodName := ⟨RX7, "begin", "(III)V"⟩
abbrev cX7_bring : ByteArray := prog_9_method_3_code
def yX7_bring : MethodName := ⟨RX7, "bring", "(II)V"⟩
abbrev cX7_perform : ByteArray := prog_9_method_4_code
def yX7_perform : MethodName := ⟨RX7, "perform", "()V"⟩
abbrev cX7_answerBy : ByteArray := prog_9_method_5_code
def yX7_answerBy : MethodName := ⟨RX7, "answerBy", "(I)V"⟩
abbrev cX7_callThrough : ByteArray := prog_9_method_6_code
def yX7_callThrough : MethodName := ⟨RX7, "callThrough", "()V"⟩
abbrev cX7_giveParameter : ByteArray := prog_9_method_7_code
def yX7_giveParameter : MethodName := ⟨RX7, "giveParameter", "(I)V"⟩
abbrev cX7_giveWhole : ByteArray := prog_9_method_8_code
def yX7_giveWhole : MethodName := ⟨RX7, "giveWhole", "(I)V"⟩
abbrev cX7_giveStand : ByteArray := prog_9_method_9_code
def yX7_giveStand : MethodName := ⟨RX7, "giveStand", "(I)V"⟩
abbrev cX7_failWith : ByteArray := prog_9_method_10_code
def yX7_failWith : MethodName := ⟨RX7, "failWith", "(I)V"⟩
def RX8 : String := "RehearsalDesk$Stands"
def TX8 : u_T := fun k => match k with
  | 0 => ("RehearsalDesk$Stands", "faces", "LRehearsalDesk$Faces;", true)
  | 1 => ("RehearsalDesk$Stands", "size", "I", false)
  | 2 => ("RehearsalDesk$Stands", "face", "[I", true)
  | 3 => ("RehearsalDesk$Stands", "lineage", "[I", true)
  | 4 => ("RehearsalDesk$Stands", "thing", "[I", true)
  | _ => ("RehearsalDesk$Stands", "noneBeside", "[Z", true)
def tyX8 : Nat → FieldType := fun k => match k with
  | 0 => .object "RehearsalDesk$Faces"
  | 1 => .int
  | 2 => .array .int
  | 3 => .array .int
  | 4 => .array .int
  | _ => .array .boolean
theorem nmX8 : ∀ a, a < 6 → ∀ b, b < 6 → a ≠ b → (TX8 a).2.1 ≠ (TX8 b).2.1 := by decide +kernel
theorem tyX8_ok : ∀ k, k < 6 → parseFieldDescriptor (TX8 k).2.2.1 = some (tyX8 k) := by decide +kernel
abbrev cX8_init : ByteArray := prog_10_method_1_code
def yX8_init : MethodName := ⟨RX8, "<init>", "(LRehearsalDesk$Faces;)V"⟩
abbrev cX8_size : ByteArray := prog_10_method_2_code
def yX8_size : MethodName := ⟨RX8, "size", "()I"⟩
abbrev cX8_has : ByteArray := prog_10_method_3_code
def yX8_has : MethodName := ⟨RX8, "has", "(I)Z"⟩
abbrev cX8_add : ByteArray := prog_10_method_4_code
def yX8_add : MethodName := ⟨RX8, "add", "(II)I"⟩
abbrev cX8_isOf : ByteArray := prog_10_method_5_code
def yX8_isOf : MethodName := ⟨RX8, "isOf", "(II)Z"⟩
abbrev cX8_thing : ByteArray := prog_10_method_6_code
def yX8_thing : MethodName := ⟨RX8, "thing", "(I)I"⟩
abbrev cX8_signature : ByteArray := prog_10_method_7_code
def yX8_signature : MethodName := ⟨RX8, "signature", "(II)I"⟩
abbrev cX8_hasNoneBeside : ByteArray := prog_10_method_8_code
def yX8_hasNoneBeside : MethodName := ⟨RX8, "hasNoneBeside", "(I)Z"⟩
abbrev cX8_setNoneBeside : ByteArray := prog_10_method_9_code
def yX8_setNoneBeside : MethodName := ⟨RX8, "setNoneBeside", "(IZ)Z"⟩
def RX9 : String := "RehearsalDesk$Tries"
def TX9 : u_T := fun k => match k with
  | 0 => ("RehearsalDesk$Tries", "size", "I", false)
  | 1 => ("RehearsalDesk$Tries", "from", "[I", true)
  | 2 => ("RehearsalDesk$Tries", "to", "[I", true)
  | _ => ("RehearsalDesk$Tries", "target", "[I", true)
def tyX9 : Nat → FieldType := fun k => match k with
  | 0 => .int
  | 1 => .array .int
  | 2 => .array .int
  | _ => .array .int
theorem nmX9 : ∀ a, a < 4 → ∀ b, b < 4 → a ≠ b → (TX9 a).2.1 ≠ (TX9 b).2.1 := by decide +kernel
theorem tyX9_ok : ∀ k, k < 4 → parseFieldDescriptor (TX9 k).2.2.1 = some (tyX9 k) := by decide +kernel
abbrev cX9_init : ByteArray := prog_11_method_1_code
def yX9_init : MethodName := ⟨RX9, "<init>", "()V"⟩
abbrev cX9_closeAll : ByteArray := prog_11_method_2_code
def yX9_closeAll : MethodName := ⟨RX9, "closeAll", "()V"⟩
abbrev cX9_open : ByteArray := prog_11_method_3_code
def yX9_open : MethodName := ⟨RX9, "open", "(III)Z"⟩
abbrev cX9_closeLeft : ByteArray := prog_11_method_4_code
def yX9_closeLeft : MethodName := ⟨RX9, "closeLeft", "(I)V"⟩
abbrev cX9_take : ByteArray := prog_11_method_5_code
def yX9_take : MethodName := ⟨RX9, "take", "()I"⟩
def RX10 : String := "RehearsalDesk$Wrongs"
def TX10 : u_T := fun k => match k with
  | 0 => ("RehearsalDesk$Wrongs", "rows", "[I", true)
  | _ => ("RehearsalDesk$Wrongs", "size", "I", false)
def tyX10 : Nat → FieldType := fun k => match k with
  | 0 => .array .int
  | _ => .int
theorem nmX10 : ∀ a, a < 2 → ∀ b, b < 2 → a ≠ b → (TX10 a).2.1 ≠ (TX10 b).2.1 := by decide +kernel
theorem tyX10_ok : ∀ k, k < 2 → parseFieldDescriptor (TX10 k).2.2.1 = some (tyX10 k) := by decide +kernel
abbrev cX10_init : ByteArray := prog_12_method_1_code
def yX10_init : MethodName := ⟨RX10, "<init>", "()V"⟩
abbrev cX10_size : ByteArray := prog_12_method_2_code
def yX10_size : MethodName := ⟨RX10, "size", "()I"⟩
abbrev cX10_part : ByteArray := prog_12_method_3_code
def yX10_part : MethodName := ⟨RX10, "part", "(II)I"⟩
abbrev cX10_find : ByteArray := prog_12_method_4_code
def yX10_find : MethodName := ⟨RX10, "find", "(LRehearsalDesk$Expectations;LRehearsalDesk$Log;LRehearsalDesk$Stands;)V"⟩
abbrev cX10_findNumbers : ByteArray := prog_12_method_5_code
def yX10_findNumbers : MethodName := ⟨RX10, "findNumbers", "(LRehearsalDesk$Expectations;)V"⟩
abbrev cX10_findOrders : ByteArray := prog_12_method_6_code
def yX10_findOrders : MethodName := ⟨RX10, "findOrders", "(LRehearsalDesk$Expectations;)V"⟩
abbrev cX10_add : ByteArray := prog_12_method_7_code
def yX10_add : MethodName := ⟨RX10, "add", "(III)V"⟩
def RX11 : String := "RehearsalDesk"
def TX11 : u_T := fun k => match k with
  | 0 => ("RehearsalDesk", "faces", "LRehearsalDesk$Faces;", true)
  | 1 => ("RehearsalDesk", "cast", "LRehearsalDesk$Stands;", true)
  | 2 => ("RehearsalDesk", "rules", "LRehearsalDesk$Rules;", true)
  | 3 => ("RehearsalDesk", "log", "LRehearsalDesk$Log;", true)
  | 4 => ("RehearsalDesk", "stage", "LRehearsalDesk$Stage;", true)
  | 5 => ("RehearsalDesk", "expectations", "LRehearsalDesk$Expectations;", true)
  | 6 => ("RehearsalDesk", "wrongs", "LRehearsalDesk$Wrongs;", true)
  | 7 => ("RehearsalDesk", "cues", "LRehearsalDesk$Cues;", true)
  | _ => ("RehearsalDesk", "board", "LRehearsalDesk$Board;", true)
def tyX11 : Nat → FieldType := fun k => match k with
  | 0 => .object "RehearsalDesk$Faces"
  | 1 => .object "RehearsalDesk$Stands"
  | 2 => .object "RehearsalDesk$Rules"
  | 3 => .object "RehearsalDesk$Log"
  | 4 => .object "RehearsalDesk$Stage"
  | 5 => .object "RehearsalDesk$Expectations"
  | 6 => .object "RehearsalDesk$Wrongs"
  | 7 => .object "RehearsalDesk$Cues"
  | _ => .object "RehearsalDesk$Board"
theorem nmX11 : ∀ a, a < 9 → ∀ b, b < 9 → a ≠ b → (TX11 a).2.1 ≠ (TX11 b).2.1 := by decide +kernel
theorem tyX11_ok : ∀ k, k < 9 → parseFieldDescriptor (TX11 k).2.2.1 = some (tyX11 k) := by decide +kernel
abbrev cX11_init : ByteArray := prog_1_method_1_code
def yX11_init : MethodName := ⟨RX11, "<init>", "()V"⟩
abbrev cX11_face : ByteArray := prog_1_method_2_code
def yX11_face : MethodName := ⟨RX11, "face", "(I)I"⟩
abbrev cX11_method : ByteArray := prog_1_method_3_code
def yX11_method : MethodName := ⟨RX11, "method", "(IIIII)I"⟩
abbrev cX11_stand : ByteArray := prog_1_method_4_code
def yX11_stand : MethodName := ⟨RX11, "stand", "(II)I"⟩
abbrev cX11_of : ByteArray := prog_1_method_5_code
def yX11_of : MethodName := ⟨RX11, "of", "(II)I"⟩
abbrev cX11_level : ByteArray := prog_1_method_6_code
def yX11_level : MethodName := ⟨RX11, "level", "(I)I"⟩
abbrev cX11_rule : ByteArray := prog_1_method_7_code
def yX11_rule : MethodName := ⟨RX11, "rule", "(II)I"⟩
abbrev cX11_on : ByteArray := prog_1_method_8_code
def yX11_on : MethodName := ⟨RX11, "on", "(IIIII)I"⟩
abbrev cX11_answer : ByteArray := prog_1_method_9_code
def yX11_answer : MethodName := ⟨RX11, "answer", "(III)I"⟩
abbrev cX11_caught : ByteArray := prog_1_method_10_code
def yX11_caught : MethodName := ⟨RX11, "caught", "(II)I"⟩
abbrev cX11_call : ByteArray := prog_1_method_11_code
def yX11_call : MethodName := ⟨RX11, "call", "(IIIII)I"⟩
abbrev cX11_canCome : ByteArray := prog_1_method_12_code
def yX11_canCome : MethodName := ⟨RX11, "canCome", "(III)Z"⟩
abbrev cX11_came : ByteArray := prog_1_method_13_code
def yX11_came : MethodName := ⟨RX11, "came", "(I)I"⟩
abbrev cX11_recorded : ByteArray := prog_1_method_14_code
def yX11_recorded : MethodName := ⟨RX11, "recorded", "(II)I"⟩
abbrev cX11_expect : ByteArray := prog_1_method_15_code
def yX11_expect : MethodName := ⟨RX11, "expect", "(IIII)I"⟩
abbrev cX11_with : ByteArray := prog_1_method_16_code
def yX11_with : MethodName := ⟨RX11, "with", "(IIIII)I"⟩
abbrev cX11_order : ByteArray := prog_1_method_17_code
def yX11_order : MethodName := ⟨RX11, "order", "(II)I"⟩
abbrev cX11_beside : ByteArray := prog_1_method_18_code
def yX11_beside : MethodName := ⟨RX11, "beside", "(IZ)I"⟩
abbrev cX11_met : ByteArray := prog_1_method_19_code
def yX11_met : MethodName := ⟨RX11, "met", "(I)I"⟩
abbrev cX11_verify : ByteArray := prog_1_method_20_code
def yX11_verify : MethodName := ⟨RX11, "verify", "()I"⟩
abbrev cX11_wrong : ByteArray := prog_1_method_21_code
def yX11_wrong : MethodName := ⟨RX11, "wrong", "(II)I"⟩
abbrev cX11_cue : ByteArray := prog_1_method_22_code
def yX11_cue : MethodName := ⟨RX11, "cue", "(IIII)I"⟩
abbrev cX11_clear : ByteArray := prog_1_method_23_code
def yX11_clear : MethodName := ⟨RX11, "clear", "()I"⟩
abbrev cX11_run : ByteArray := prog_1_method_24_code
def yX11_run : MethodName := ⟨RX11, "run", "(I)I"⟩
abbrev cX11_desk : ByteArray := prog_1_method_25_code
def yX11_desk : MethodName := ⟨RX11, "desk", "(I)I"⟩
abbrev cX11_told : ByteArray := prog_1_method_26_code
def yX11_told : MethodName := ⟨RX11, "told", "(I)I"⟩
abbrev cX11_count : ByteArray := prog_1_method_27_code
def yX11_count : MethodName := ⟨RX11, "count", "(I)I"⟩
abbrev cX11_countMethods : ByteArray := prog_1_method_28_code
def yX11_countMethods : MethodName := ⟨RX11, "countMethods", "(I)I"⟩
abbrev cX11_forget : ByteArray := prog_1_method_29_code
def yX11_forget : MethodName := ⟨RX11, "forget", "()I"⟩
def RX12 : String := "RehearsalDeskModel"
def TX12 : u_T := fun k => match k with
  | 0 => ("RehearsalDeskModel", "faces", "I", false)
  | 1 => ("RehearsalDeskModel", "below", "[I", true)
  | 2 => ("RehearsalDeskModel", "methods", "[I", true)
  | 3 => ("RehearsalDeskModel", "parameters", "[I", true)
  | 4 => ("RehearsalDeskModel", "standBits", "[I", true)
  | 5 => ("RehearsalDeskModel", "gives", "[I", true)
  | 6 => ("RehearsalDeskModel", "fails", "[I", true)
  | 7 => ("RehearsalDeskModel", "standMany", "I", false)
  | 8 => ("RehearsalDeskModel", "standFace", "[I", true)
  | 9 => ("RehearsalDeskModel", "standThing", "[I", true)
  | 10 => ("RehearsalDeskModel", "levels", "[I", true)
  | 11 => ("RehearsalDeskModel", "ofStand", "[I", true)
  | 12 => ("RehearsalDeskModel", "ofMethod", "[I", true)
  | 13 => ("RehearsalDeskModel", "condition", "[I", true)
  | 14 => ("RehearsalDeskModel", "first", "[I", true)
  | 15 => ("RehearsalDeskModel", "second", "[I", true)
  | 16 => ("RehearsalDeskModel", "rules", "I", false)
  | 17 => ("RehearsalDeskModel", "answers", "[I", true)
  | 18 => ("RehearsalDeskModel", "answerKind", "[I", true)
  | 19 => ("RehearsalDeskModel", "answerValue", "[I", true)
  | 20 => ("RehearsalDeskModel", "turns", "[I", true)
  | 21 => ("RehearsalDeskModel", "hasCaught", "[Z", true)
  | 22 => ("RehearsalDeskModel", "caughtValue", "[I", true)
  | 23 => ("RehearsalDeskModel", "records", "I", false)
  | 24 => ("RehearsalDeskModel", "lost", "I", false)
  | 25 => ("RehearsalDeskModel", "recorded", "[I", true)
  | 26 => ("RehearsalDeskModel", "hasCame", "Z", false)
  | 27 => ("RehearsalDeskModel", "came", "[I", true)
  | 28 => ("RehearsalDeskModel", "givenSort", "I", false)
  | 29 => ("RehearsalDeskModel", "given", "I", false)
  | 30 => ("RehearsalDeskModel", "failure", "I", false)
  | 31 => ("RehearsalDeskModel", "how", "I", false)
  | 32 => ("RehearsalDeskModel", "expectations", "I", false)
  | 33 => ("RehearsalDeskModel", "least", "[I", true)
  | 34 => ("RehearsalDeskModel", "most", "[I", true)
  | 35 => ("RehearsalDeskModel", "orders", "I", false)
  | 36 => ("RehearsalDeskModel", "orderFirst", "[I", true)
  | 37 => ("RehearsalDeskModel", "orderSecond", "[I", true)
  | 38 => ("RehearsalDeskModel", "noneBeside", "[Z", true)
  | 39 => ("RehearsalDeskModel", "wrongs", "I", false)
  | 40 => ("RehearsalDeskModel", "wrong", "[I", true)
  | 41 => ("RehearsalDeskModel", "cues", "I", false)
  | 42 => ("RehearsalDeskModel", "cueKind", "[I", true)
  | 43 => ("RehearsalDeskModel", "cueA", "[I", true)
  | 44 => ("RehearsalDeskModel", "cueB", "[I", true)
  | 45 => ("RehearsalDeskModel", "cueC", "[I", true)
  | 46 => ("RehearsalDeskModel", "wholes", "[I", true)
  | 47 => ("RehearsalDeskModel", "held", "[I", true)
  | 48 => ("RehearsalDeskModel", "isEmptyDesk", "Z", false)
  | 49 => ("RehearsalDeskModel", "all", "I", false)
  | 50 => ("RehearsalDeskModel", "told", "I", false)
  | 51 => ("RehearsalDeskModel", "tellings", "[I", true)
  | 52 => ("RehearsalDeskModel", "tries", "I", false)
  | 53 => ("RehearsalDeskModel", "tryFrom", "[I", true)
  | 54 => ("RehearsalDeskModel", "tryTo", "[I", true)
  | 55 => ("RehearsalDeskModel", "tryOn", "[I", true)
  | 56 => ("RehearsalDeskModel", "nextWhole", "I", false)
  | 57 => ("RehearsalDeskModel", "nextStand", "I", false)
  | _ => ("RehearsalDeskModel", "failed", "I", false)
def tyX12 : Nat → FieldType := fun k => match k with
  | 0 => .int
  | 1 => .array .int
  | 2 => .array .int
  | 3 => .array .int
  | 4 => .array .int
  | 5 => .array .int
  | 6 => .array .int
  | 7 => .int
  | 8 => .array .int
  | 9 => .array .int
  | 10 => .array .int
  | 11 => .array .int
  | 12 => .array .int
  | 13 => .array .int
  | 14 => .array .int
  | 15 => .array .int
  | 16 => .int
  | 17 => .array .int
  | 18 => .array .int
  | 19 => .array .int
  | 20 => .array .int
  | 21 => .array .boolean
  | 22 => .array .int
  | 23 => .int
  | 24 => .int
  | 25 => .array .int
  | 26 => .boolean
  | 27 => .array .int
  | 28 => .int
  | 29 => .int
  | 30 => .int
  | 31 => .int
  | 32 => .int
  | 33 => .array .int
  | 34 => .array .int
  | 35 => .int
  | 36 => .array .int
  | 37 => .array .int
  | 38 => .array .boolean
  | 39 => .int
  | 40 => .array .int
  | 41 => .int
  | 42 => .array .int
  | 43 => .array .int
  | 44 => .array .int
  | 45 => .array .int
  | 46 => .array .int
  | 47 => .array .int
  | 48 => .boolean
  | 49 => .int
  | 50 => .int
  | 51 => .array .int
  | 52 => .int
  | 53 => .array .int
  | 54 => .array .int
  | 55 => .array .int
  | 56 => .int
  | 57 => .int
  | _ => .int
theorem nmX12 : ∀ a, a < 59 → ∀ b, b < 59 → a ≠ b → (TX12 a).2.1 ≠ (TX12 b).2.1 := by decide +kernel
theorem tyX12_ok : ∀ k, k < 59 → parseFieldDescriptor (TX12 k).2.2.1 = some (tyX12 k) := by decide +kernel
abbrev cX12_init : ByteArray := prog_14_method_1_code
def yX12_init : MethodName := ⟨RX12, "<init>", "()V"⟩
abbrev cX12_in : ByteArray := prog_14_method_2_code
def yX12_in : MethodName := ⟨RX12, "in", "(III)Z"⟩
abbrev cX12_face : ByteArray := prog_14_method_3_code
def yX12_face : MethodName := ⟨RX12, "face", "(I)I"⟩
abbrev cX12_isBelow : ByteArray := prog_14_method_4_code
def yX12_isBelow : MethodName := ⟨RX12, "isBelow", "(II)Z"⟩
abbrev cX12_method : ByteArray := prog_14_method_5_code
def yX12_method : MethodName := ⟨RX12, "method", "(IIIII)I"⟩
abbrev cX12_stand : ByteArray := prog_14_method_6_code
def yX12_stand : MethodName := ⟨RX12, "stand", "(II)I"⟩
abbrev cX12_isStand : ByteArray := prog_14_method_7_code
def yX12_isStand : MethodName := ⟨RX12, "isStand", "(I)Z"⟩
abbrev cX12_of : ByteArray := prog_14_method_8_code
def yX12_of : MethodName := ⟨RX12, "of", "(II)I"⟩
abbrev cX12_level : ByteArray := prog_14_method_9_code
def yX12_level : MethodName := ⟨RX12, "level", "(I)I"⟩
abbrev cX12_isMethod : ByteArray := prog_14_method_10_code
def yX12_isMethod : MethodName := ⟨RX12, "isMethod", "(II)Z"⟩
abbrev cX12_methodAt : ByteArray := prog_14_method_11_code
def yX12_methodAt : MethodName := ⟨RX12, "methodAt", "(II)I"⟩
abbrev cX12_isStandParameter : ByteArray := prog_14_method_12_code
def yX12_isStandParameter : MethodName := ⟨RX12, "isStandParameter", "(III)Z"⟩
abbrev cX12_begin : ByteArray := prog_14_method_13_code
def yX12_begin : MethodName := ⟨RX12, "begin", "(III)V"⟩
abbrev cX12_putCondition : ByteArray := prog_14_method_14_code
def yX12_putCondition : MethodName := ⟨RX12, "putCondition", "(IIIII)I"⟩
abbrev cX12_holds : ByteArray := prog_14_method_15_code
def yX12_holds : MethodName := ⟨RX12, "holds", "(II)Z"⟩
abbrev cX12_meets : ByteArray := prog_14_method_16_code
def yX12_meets : MethodName := ⟨RX12, "meets", "(IIIIII)Z"⟩
abbrev cX12_isRule : ByteArray := prog_14_method_17_code
def yX12_isRule : MethodName := ⟨RX12, "isRule", "(I)Z"⟩
abbrev cX12_rule : ByteArray := prog_14_method_18_code
def yX12_rule : MethodName := ⟨RX12, "rule", "(II)I"⟩
abbrev cX12_on : ByteArray := prog_14_method_19_code
def yX12_on : MethodName := ⟨RX12, "on", "(IIIII)I"⟩
abbrev cX12_answer : ByteArray := prog_14_method_20_code
def yX12_answer : MethodName := ⟨RX12, "answer", "(III)I"⟩
abbrev cX12_caught : ByteArray := prog_14_method_21_code
def yX12_caught : MethodName := ⟨RX12, "caught", "(II)I"⟩
abbrev cX12_give : ByteArray := prog_14_method_22_code
def yX12_give : MethodName := ⟨RX12, "give", "(II)V"⟩
abbrev cX12_fail : ByteArray := prog_14_method_23_code
def yX12_fail : MethodName := ⟨RX12, "fail", "(II)V"⟩
abbrev cX12_sumOf : ByteArray := prog_14_method_24_code
def yX12_sumOf : MethodName := ⟨RX12, "sumOf", "(IIII)I"⟩
abbrev cX12_through : ByteArray := prog_14_method_25_code
def yX12_through : MethodName := ⟨RX12, "through", "(III)V"⟩
abbrev cX12_ruleFor : ByteArray := prog_14_method_26_code
def yX12_ruleFor : MethodName := ⟨RX12, "ruleFor", "(IIIII)I"⟩
abbrev cX12_byRule : ByteArray := prog_14_method_27_code
def yX12_byRule : MethodName := ⟨RX12, "byRule", "(IIIIII)V"⟩
abbrev cX12_answerCall : ByteArray := prog_14_method_28_code
def yX12_answerCall : MethodName := ⟨RX12, "answerCall", "(IIIII)V"⟩
abbrev cX12_mayCome : ByteArray := prog_14_method_29_code
def yX12_mayCome : MethodName := ⟨RX12, "mayCome", "(IIII)Z"⟩
abbrev cX12_call : ByteArray := prog_14_method_30_code
def yX12_call : MethodName := ⟨RX12, "call", "(IIIII)I"⟩
abbrev cX12_came : ByteArray := prog_14_method_31_code
def yX12_came : MethodName := ⟨RX12, "came", "(I)I"⟩
abbrev cX12_recorded : ByteArray := prog_14_method_32_code
def yX12_recorded : MethodName := ⟨RX12, "recorded", "(II)I"⟩
abbrev cX12_isExpectation : ByteArray := prog_14_method_33_code
def yX12_isExpectation : MethodName := ⟨RX12, "isExpectation", "(I)Z"⟩
abbrev cX12_expect : ByteArray := prog_14_method_34_code
def yX12_expect : MethodName := ⟨RX12, "expect", "(IIII)I"⟩
abbrev cX12_with : ByteArray := prog_14_method_35_code
def yX12_with : MethodName := ⟨RX12, "with", "(IIIII)I"⟩
abbrev cX12_order : ByteArray := prog_14_method_36_code
def yX12_order : MethodName := ⟨RX12, "order", "(II)I"⟩
abbrev cX12_beside : ByteArray := prog_14_method_37_code
def yX12_beside : MethodName := ⟨RX12, "beside", "(IZ)I"⟩
abbrev cX12_callMeets : ByteArray := prog_14_method_38_code
def yX12_callMeets : MethodName := ⟨RX12, "callMeets", "(II)Z"⟩
abbrev cX12_metBy : ByteArray := prog_14_method_39_code
def yX12_metBy : MethodName := ⟨RX12, "metBy", "(I)I"⟩
abbrev cX12_met : ByteArray := prog_14_method_40_code
def yX12_met : MethodName := ⟨RX12, "met", "(I)I"⟩
abbrev cX12_note : ByteArray := prog_14_method_41_code
def yX12_note : MethodName := ⟨RX12, "note", "(III)V"⟩
abbrev cX12_wrongOrder : ByteArray := prog_14_method_42_code
def yX12_wrongOrder : MethodName := ⟨RX12, "wrongOrder", "(I)I"⟩
abbrev cX12_meetsAny : ByteArray := prog_14_method_43_code
def yX12_meetsAny : MethodName := ⟨RX12, "meetsAny", "(I)Z"⟩
abbrev cX12_verify : ByteArray := prog_14_method_44_code
def yX12_verify : MethodName := ⟨RX12, "verify", "()I"⟩
abbrev cX12_wrong : ByteArray := prog_14_method_45_code
def yX12_wrong : MethodName := ⟨RX12, "wrong", "(II)I"⟩
abbrev cX12_cue : ByteArray := prog_14_method_46_code
def yX12_cue : MethodName := ⟨RX12, "cue", "(IIII)I"⟩
abbrev cX12_clear : ByteArray := prog_14_method_47_code
def yX12_clear : MethodName := ⟨RX12, "clear", "()I"⟩
abbrev cX12_nextFor : ByteArray := prog_14_method_48_code
def yX12_nextFor : MethodName := ⟨RX12, "nextFor", "(II)I"⟩
abbrev cX12_callBy : ByteArray := prog_14_method_49_code
def yX12_callBy : MethodName := ⟨RX12, "callBy", "(II)I"⟩
abbrev cX12_done : ByteArray := prog_14_method_50_code
def yX12_done : MethodName := ⟨RX12, "done", "(I)I"⟩
abbrev cX12_comeTo : ByteArray := prog_14_method_51_code
def yX12_comeTo : MethodName := ⟨RX12, "comeTo", "(I)V"⟩
abbrev cX12_run : ByteArray := prog_14_method_52_code
def yX12_run : MethodName := ⟨RX12, "run", "(I)I"⟩
abbrev cX12_desk : ByteArray := prog_14_method_53_code
def yX12_desk : MethodName := ⟨RX12, "desk", "(I)I"⟩
abbrev cX12_told : ByteArray := prog_14_method_54_code
def yX12_told : MethodName := ⟨RX12, "told", "(I)I"⟩
abbrev cX12_count : ByteArray := prog_14_method_55_code
def yX12_count : MethodName := ⟨RX12, "count", "(I)I"⟩
abbrev cX12_forget : ByteArray := prog_14_method_56_code
def yX12_forget : MethodName := ⟨RX12, "forget", "()I"⟩
def RJ9 : String := "java/lang/Math"
def TJ9 : u_T := fun k => match k with
  | _ => ("", "", "", false)
def tyJ9 : Nat → FieldType := fun k => match k with
  | _ => .int
theorem nmJ9 : ∀ a, a < 0 → ∀ b, b < 0 → a ≠ b → (TJ9 a).2.1 ≠ (TJ9 b).2.1 := by decide +kernel
theorem tyJ9_ok : ∀ k, k < 0 → parseFieldDescriptor (TJ9 k).2.2.1 = some (tyJ9 k) := by decide +kernel
abbrev cJ9_min_7cf53 : ByteArray := prog_15_method_69_code
def yJ9_min_7cf53 : MethodName := ⟨RJ9, "min", "(II)I"⟩
def RJ10 : String := "java/lang/System"
def TJ10 : u_T := fun k => match k with
  | _ => ("", "", "", false)
def tyJ10 : Nat → FieldType := fun k => match k with
  | _ => .int
theorem nmJ10 : ∀ a, a < 0 → ∀ b, b < 0 → a ≠ b → (TJ10 a).2.1 ≠ (TJ10 b).2.1 := by decide +kernel
theorem tyJ10_ok : ∀ k, k < 0 → parseFieldDescriptor (TJ10 k).2.2.1 = some (tyJ10 k) := by decide +kernel
def RJ7 : String := "java/util/Arrays"
def TJ7 : u_T := fun k => match k with
  | _ => ("", "", "", false)
def tyJ7 : Nat → FieldType := fun k => match k with
  | _ => .int
theorem nmJ7 : ∀ a, a < 0 → ∀ b, b < 0 → a ≠ b → (TJ7 a).2.1 ≠ (TJ7 b).2.1 := by decide +kernel
theorem tyJ7_ok : ∀ k, k < 0 → parseFieldDescriptor (TJ7 k).2.2.1 = some (tyJ7 k) := by decide +kernel
abbrev cJ7_fill_53178 : ByteArray := prog_17_method_103_code
def yJ7_fill_53178 : MethodName := ⟨RJ7, "fill", "([II)V"⟩
def RL : String := "RehearsalDeskLaw"
abbrev cL_law : ByteArray := code
def yL_law : MethodName := ⟨RL, "law", "([I)Z"⟩
abbrev vwCl : List vw_C := [(RX0, TX0, 11), (RX1, TX1, 5), (RX2, TX2, 10), (RX3, TX3, 8), (RX4, TX4, 5), (RX5, TX5, 10), (RX6, TX6, 9), (RX7, TX7, 8), (RX8, TX8, 6), (RX9, TX9, 4), (RX10, TX10, 2), (RX11, TX11, 9), (RX12, TX12, 59)]
def rd_nth {α : Type} : List α → Nat → Option α
  | [], _ => none
  | a :: _, 0 => some a
  | _ :: l, n + 1 => rd_nth l n
def rd_cn : List String := ["RehearsalDesk$Board", "RehearsalDesk$Cues", "RehearsalDesk$Expectations", "RehearsalDesk$Faces", "RehearsalDesk$Log", "RehearsalDesk$Patterns", "RehearsalDesk$Rules", "RehearsalDesk$Stage", "RehearsalDesk$Stands", "RehearsalDesk$Tries", "RehearsalDesk$Wrongs", "RehearsalDesk", "RehearsalDeskModel", "RehearsalDeskLaw", "java/lang/Math", "java/util/Arrays"]
abbrev rd_M : Type := MethodName × ByteArray × Nat × Option FieldType
def rd_mt : List rd_M := [
  (yX0_init, cX0_init, 5, none),
  (yX0_isWornOut, cX0_isWornOut, 1, (some .boolean)),
  (yX0_cuesDone, cX0_cuesDone, 1, (some .int)),
  (yX0_begin, cX0_begin, 1, none),
  (yX0_isAtCue, cX0_isAtCue, 1, (some .boolean)),
  (yX0_doCue, cX0_doCue, 5, (some .int)),
  (yX0_callHeld, cX0_callHeld, 4, (some .int)),
  (yX0_bringAll, cX0_bringAll, 5, none),
  (yX0_tell, cX0_tell, 2, none),
  (yX0_recover, cX0_recover, 3, (some .boolean)),
  (yX0_arrive, cX0_arrive, 1, none),
  (yX0_toldSize, cX0_toldSize, 1, (some .int)),
  (yX0_toldNumber, cX0_toldNumber, 2, (some .int)),
  (yX0_emptyTold, cX0_emptyTold, 1, none),
  (yX1_init, cX1_init, 1, none),
  (yX1_isCue, cX1_isCue, 5, (some .boolean)),
  (yX1_isWithin, cX1_isWithin, 2, (some .boolean)),
  (yX1_size, cX1_size, 1, (some .int)),
  (yX1_add, cX1_add, 6, (some .int)),
  (yX1_removeAll, cX1_removeAll, 2, (some .int)),
  (yX2_init, cX2_init, 2, none),
  (yX2_add, cX2_add, 7, (some .int)),
  (yX2_orders, cX2_orders, 1, (some .int)),
  (yX2_addOrder, cX2_addOrder, 3, (some .int)),
  (yX2_countMeeting, cX2_countMeeting, 5, (some .int)),
  (yX2_survey, cX2_survey, 3, none),
  (yX2_surveyOne, cX2_surveyOne, 4, none),
  (yX2_meeting, cX2_meeting, 2, (some .int)),
  (yX2_isTooFew, cX2_isTooFew, 2, (some .boolean)),
  (yX2_isTooMany, cX2_isTooMany, 2, (some .boolean)),
  (yX2_isExpected, cX2_isExpected, 2, (some .boolean)),
  (yX2_callAhead, cX2_callAhead, 4, (some .int)),
  (yX3_init, cX3_init, 1, none),
  (yX3_size, cX3_size, 1, (some .int)),
  (yX3_has, cX3_has, 2, (some .boolean)),
  (yX3_add, cX3_add, 3, (some .int)),
  (yX3_inherit, cX3_inherit, 5, none),
  (yX3_isFixed, cX3_isFixed, 2, (some .boolean)),
  (yX3_fix, cX3_fix, 2, none),
  (yX3_addMethod, cX3_addMethod, 8, (some .int)),
  (yX3_methods, cX3_methods, 2, (some .int)),
  (yX3_lineage, cX3_lineage, 2, (some .int)),
  (yX3_signature, cX3_signature, 3, (some .int)),
  (yX3_takes, cX3_takes, 3, (some .boolean)),
  (yX3_takesStand, cX3_takesStand, 3, (some .boolean)),
  (yX3_gives, cX3_gives, 2, (some .int)),
  (yX3_mayFail, cX3_mayFail, 3, (some .boolean)),
  (yX4_init, cX4_init, 1, none),
  (yX4_hasLatest, cX4_hasLatest, 1, (some .boolean)),
  (yX4_size, cX4_size, 1, (some .int)),
  (yX4_lost, cX4_lost, 1, (some .int)),
  (yX4_column, cX4_column, 3, (some .int)),
  (yX4_keepLatest, cX4_keepLatest, 1, none),
  (yX4_empty, cX4_empty, 1, none),
  (yX5_init, cX5_init, 4, none),
  (yX5_size, cX5_size, 1, (some .int)),
  (yX5_has, cX5_has, 2, (some .boolean)),
  (yX5_add, cX5_add, 5, (some .int)),
  (yX5_signature, cX5_signature, 2, (some .int)),
  (yX5_hasParameter, cX5_hasParameter, 3, (some .boolean)),
  (yX5_isCatching, cX5_isCatching, 3, (some .boolean)),
  (yX5_setCondition, cX5_setCondition, 7, (some .int)),
  (yX5_isCondition, cX5_isCondition, 4, (some .boolean)),
  (yX5_fits, cX5_fits, 5, (some .boolean)),
  (yX5_holds, cX5_holds, 3, (some .boolean)),
  (yX6_init, cX6_init, 4, none),
  (yX6_isAnswer, cX6_isAnswer, 4, (some .boolean)),
  (yX6_addAnswer, cX6_addAnswer, 5, (some .int)),
  (yX6_find, cX6_find, 3, (some .int)),
  (yX6_use, cX6_use, 4, (some .int)),
  (yX6_answerKind, cX6_answerKind, 2, (some .int)),
  (yX6_answerValue, cX6_answerValue, 2, (some .int)),
  (yX6_holdsCaught, cX6_holdsCaught, 3, (some .boolean)),
  (yX6_caughtValue, cX6_caughtValue, 3, (some .int)),
  (yX6_release, cX6_release, 3, none),
  (yX6_startAgain, cX6_startAgain, 2, none),
  (yX7_init, cX7_init, 5, none),
  (yX7_begin, cX7_begin, 5, none),
  (yX7_bring, cX7_bring, 3, none),
  (yX7_perform, cX7_perform, 2, none),
  (yX7_answerBy, cX7_answerBy, 3, none),
  (yX7_callThrough, cX7_callThrough, 3, none),
  (yX7_giveParameter, cX7_giveParameter, 2, none),
  (yX7_giveWhole, cX7_giveWhole, 2, none),
  (yX7_giveStand, cX7_giveStand, 2, none),
  (yX7_failWith, cX7_failWith, 3, none),
  (yX8_init, cX8_init, 2, none),
  (yX8_size, cX8_size, 1, (some .int)),
  (yX8_has, cX8_has, 2, (some .boolean)),
  (yX8_add, cX8_add, 4, (some .int)),
  (yX8_isOf, cX8_isOf, 3, (some .boolean)),
  (yX8_thing, cX8_thing, 2, (some .int)),
  (yX8_signature, cX8_signature, 3, (some .int)),
  (yX8_hasNoneBeside, cX8_hasNoneBeside, 2, (some .boolean)),
  (yX8_setNoneBeside, cX8_setNoneBeside, 4, (some .boolean)),
  (yX9_init, cX9_init, 1, none),
  (yX9_closeAll, cX9_closeAll, 1, none),
  (yX9_open, cX9_open, 4, (some .boolean)),
  (yX9_closeLeft, cX9_closeLeft, 4, none),
  (yX9_take, cX9_take, 1, (some .int)),
  (yX10_init, cX10_init, 1, none),
  (yX10_size, cX10_size, 1, (some .int)),
  (yX10_part, cX10_part, 3, (some .int)),
  (yX10_find, cX10_find, 7, none),
  (yX10_findNumbers, cX10_findNumbers, 3, none),
  (yX10_findOrders, cX10_findOrders, 4, none),
  (yX10_add, cX10_add, 5, none),
  (yX11_init, cX11_init, 1, none),
  (yX11_face, cX11_face, 2, (some .int)),
  (yX11_method, cX11_method, 6, (some .int)),
  (yX11_stand, cX11_stand, 3, (some .int)),
  (yX11_of, cX11_of, 3, (some .int)),
  (yX11_level, cX11_level, 2, (some .int)),
  (yX11_rule, cX11_rule, 4, (some .int)),
  (yX11_on, cX11_on, 7, (some .int)),
  (yX11_answer, cX11_answer, 4, (some .int)),
  (yX11_caught, cX11_caught, 3, (some .int)),
  (yX11_call, cX11_call, 7, (some .int)),
  (yX11_canCome, cX11_canCome, 4, (some .boolean)),
  (yX11_came, cX11_came, 2, (some .int)),
  (yX11_recorded, cX11_recorded, 3, (some .int)),
  (yX11_expect, cX11_expect, 6, (some .int)),
  (yX11_with, cX11_with, 6, (some .int)),
  (yX11_order, cX11_order, 4, (some .int)),
  (yX11_beside, cX11_beside, 3, (some .int)),
  (yX11_met, cX11_met, 2, (some .int)),
  (yX11_verify, cX11_verify, 1, (some .int)),
  (yX11_wrong, cX11_wrong, 3, (some .int)),
  (yX11_cue, cX11_cue, 5, (some .int)),
  (yX11_clear, cX11_clear, 1, (some .int)),
  (yX11_run, cX11_run, 4, (some .int)),
  (yX11_desk, cX11_desk, 2, (some .int)),
  (yX11_told, cX11_told, 2, (some .int)),
  (yX11_count, cX11_count, 2, (some .int)),
  (yX11_countMethods, cX11_countMethods, 2, (some .int)),
  (yX11_forget, cX11_forget, 2, (some .int)),
  (yX12_init, cX12_init, 1, none),
  (yX12_in, cX12_in, 3, (some .boolean)),
  (yX12_face, cX12_face, 5, (some .int)),
  (yX12_isBelow, cX12_isBelow, 4, (some .boolean)),
  (yX12_method, cX12_method, 8, (some .int)),
  (yX12_stand, cX12_stand, 3, (some .int)),
  (yX12_isStand, cX12_isStand, 2, (some .boolean)),
  (yX12_of, cX12_of, 3, (some .int)),
  (yX12_level, cX12_level, 2, (some .int)),
  (yX12_isMethod, cX12_isMethod, 3, (some .boolean)),
  (yX12_methodAt, cX12_methodAt, 3, (some .int)),
  (yX12_isStandParameter, cX12_isStandParameter, 4, (some .boolean)),
  (yX12_begin, cX12_begin, 5, none),
  (yX12_putCondition, cX12_putCondition, 8, (some .int)),
  (yX12_holds, cX12_holds, 3, (some .boolean)),
  (yX12_meets, cX12_meets, 8, (some .boolean)),
  (yX12_isRule, cX12_isRule, 2, (some .boolean)),
  (yX12_rule, cX12_rule, 4, (some .int)),
  (yX12_on, cX12_on, 7, (some .int)),
  (yX12_answer, cX12_answer, 5, (some .int)),
  (yX12_caught, cX12_caught, 3, (some .int)),
  (yX12_give, cX12_give, 3, none),
  (yX12_fail, cX12_fail, 4, none),
  (yX12_sumOf, cX12_sumOf, 8, (some .int)),
  (yX12_through, cX12_through, 6, none),
  (yX12_ruleFor, cX12_ruleFor, 7, (some .int)),
  (yX12_byRule, cX12_byRule, 9, none),
  (yX12_answerCall, cX12_answerCall, 11, none),
  (yX12_mayCome, cX12_mayCome, 6, (some .boolean)),
  (yX12_call, cX12_call, 6, (some .int)),
  (yX12_came, cX12_came, 2, (some .int)),
  (yX12_recorded, cX12_recorded, 3, (some .int)),
  (yX12_isExpectation, cX12_isExpectation, 2, (some .boolean)),
  (yX12_expect, cX12_expect, 5, (some .int)),
  (yX12_with, cX12_with, 6, (some .int)),
  (yX12_order, cX12_order, 3, (some .int)),
  (yX12_beside, cX12_beside, 4, (some .int)),
  (yX12_callMeets, cX12_callMeets, 4, (some .boolean)),
  (yX12_metBy, cX12_metBy, 4, (some .int)),
  (yX12_met, cX12_met, 2, (some .int)),
  (yX12_note, cX12_note, 4, none),
  (yX12_wrongOrder, cX12_wrongOrder, 4, (some .int)),
  (yX12_meetsAny, cX12_meetsAny, 4, (some .boolean)),
  (yX12_verify, cX12_verify, 3, (some .int)),
  (yX12_wrong, cX12_wrong, 3, (some .int)),
  (yX12_cue, cX12_cue, 6, (some .int)),
  (yX12_clear, cX12_clear, 2, (some .int)),
  (yX12_nextFor, cX12_nextFor, 3, (some .int)),
  (yX12_callBy, cX12_callBy, 8, (some .int)),
  (yX12_done, cX12_done, 5, (some .int)),
  (yX12_comeTo, cX12_comeTo, 4, none),
  (yX12_run, cX12_run, 4, (some .int)),
  (yX12_desk, cX12_desk, 2, (some .int)),
  (yX12_told, cX12_told, 2, (some .int)),
  (yX12_count, cX12_count, 2, (some .int)),
  (yX12_forget, cX12_forget, 3, (some .int)),
  (yJ9_min_7cf53, cJ9_min_7cf53, 2, (some .int)),
  (yJ7_fill_53178, cJ7_fill_53178, 4, none),
  (yL_law, cL_law, 4, (some .boolean))]
/-- longest local table, whether the answer is a boolean that the machine cuts to a bit -/
def rd_inf : List (Nat × Bool) := [(5, false), (1, true), (1, false), (1, false), (1, true), (5, false), (4, false), (5, false), (2, false), (3, true), (1, false), (1, false), (2, false), (1, false), (1, false), (5, true), (2, true), (1, false), (6, false), (2, false), (2, false), (7, false), (1, false), (3, false), (5, false), (3, false), (4, false), (2, false), (2, true), (2, true), (2, true), (4, false), (1, false), (1, false), (2, true), (3, false), (5, false), (2, true), (2, false), (8, false), (2, false), (2, false), (3, false), (3, true), (3, true), (2, false), (3, true), (1, false), (1, true), (1, false), (1, false), (3, false), (1, false), (1, false), (4, false), (1, false), (2, true), (5, false), (2, false), (3, true), (3, true), (7, false), (4, true), (5, true), (3, true), (4, false), (4, true), (5, false), (3, false), (4, false), (2, false), (2, false), (3, true), (3, false), (3, false), (2, false), (5, false), (5, false), (3, false), (2, false), (3, false), (3, false), (2, false), (2, false), (2, false), (3, false), (2, false), (1, false), (2, true), (4, false), (3, true), (2, false), (3, false), (2, true), (4, true), (1, false), (1, false), (4, true), (4, false), (1, false), (1, false), (1, false), (3, false), (7, false), (3, false), (4, false), (5, false), (1, false), (2, false), (6, false), (3, false), (3, false), (2, false), (4, false), (7, false), (4, false), (3, false), (7, false), (4, true), (2, false), (3, false), (6, false), (6, false), (4, false), (3, false), (2, false), (1, false), (3, false), (5, false), (1, false), (4, false), (2, false), (2, false), (2, false), (2, false), (2, false), (1, false), (3, true), (5, false), (4, true), (8, false), (3, false), (2, true), (3, false), (2, false), (3, true), (3, false), (4, true), (5, false), (8, false), (3, true), (8, true), (2, true), (4, false), (7, false), (5, false), (3, false), (3, false), (4, false), (8, false), (6, false), (7, false), (9, false), (11, false), (6, true), (6, false), (2, false), (3, false), (2, true), (5, false), (6, false), (3, false), (4, false), (4, true), (4, false), (2, false), (4, false), (4, false), (4, true), (3, false), (3, false), (6, false), (2, false), (3, false), (8, false), (5, false), (4, false), (4, false), (2, false), (2, false), (2, false), (3, false), (2, false), (4, false), (4, false)]
/-- frames, cells, slots, locals -/
def rd_rm : List (Nat × Nat × Nat × Nat) := [(2, 7, 146, 40), (0, 0, 0, 0), (0, 0, 0, 0), (1, 0, 0, 23), (1, 0, 0, 20), (6, 0, 0, 134), (5, 0, 0, 111), (3, 0, 0, 66), (0, 0, 0, 0), (1, 0, 0, 20), (1, 0, 0, 23), (0, 0, 0, 0), (0, 0, 0, 0), (0, 0, 0, 0), (1, 4, 240, 20), (1, 0, 0, 21), (0, 0, 0, 0), (0, 0, 0, 0), (0, 0, 0, 0), (0, 0, 0, 0), (1, 8, 780, 20), (1, 0, 0, 24), (0, 0, 0, 0), (0, 0, 0, 0), (3, 0, 0, 68), (4, 0, 0, 91), (3, 0, 0, 68), (0, 0, 0, 0), (0, 0, 0, 0), (0, 0, 0, 0), (0, 0, 0, 0), (0, 0, 0, 0), (1, 7, 420, 20), (0, 0, 0, 0), (0, 0, 0, 0), (2, 0, 0, 50), (1, 0, 0, 26), (0, 0, 0, 0), (0, 0, 0, 0), (0, 0, 0, 0), (0, 0, 0, 0), (0, 0, 0, 0), (0, 0, 0, 0), (0, 0, 0, 0), (1, 0, 0, 22), (0, 0, 0, 0), (0, 0, 0, 0), (1, 2, 4509, 20), (0, 0, 0, 0), (0, 0, 0, 0), (0, 0, 0, 0), (0, 0, 0, 0), (1, 0, 0, 26), (0, 0, 0, 0), (1, 6, 960, 20), (0, 0, 0, 0), (0, 0, 0, 0), (0, 0, 0, 0), (0, 0, 0, 0), (1, 0, 0, 22), (0, 0, 0, 0), (2, 0, 0, 44), (1, 0, 0, 21), (2, 0, 0, 44), (1, 0, 0, 22), (1, 6, 1600, 20), (1, 0, 0, 22), (0, 0, 0, 0), (3, 0, 0, 68), (1, 0, 0, 22), (0, 0, 0, 0), (0, 0, 0, 0), (0, 0, 0, 0), (0, 0, 0, 0), (0, 0, 0, 0), (1, 0, 0, 23), (1, 1, 6, 20), (0, 0, 0, 0), (2, 0, 0, 44), (4, 0, 0, 90), (3, 0, 0, 66), (2, 0, 0, 44), (2, 0, 0, 44), (1, 0, 0, 21), (1, 0, 0, 21), (1, 0, 0, 22), (1, 4, 96, 20), (0, 0, 0, 0), (0, 0, 0, 0), (1, 0, 0, 21), (0, 0, 0, 0), (0, 0, 0, 0), (1, 0, 0, 22), (0, 0, 0, 0), (0, 0, 0, 0), (1, 3, 30, 20), (0, 0, 0, 0), (0, 0, 0, 0), (0, 0, 0, 0), (0, 0, 0, 0), (1, 1, 180, 20), (0, 0, 0, 0), (0, 0, 0, 0), (2, 0, 0, 47), (1, 0, 0, 24), (1, 0, 0, 24), (0, 0, 0, 0), (3, 63, 9981, 64), (3, 0, 0, 72), (1, 0, 0, 27), (2, 0, 0, 44), (1, 0, 0, 22), (0, 0, 0, 0), (2, 0, 0, 44), (3, 0, 0, 70), (2, 0, 0, 45), (2, 0, 0, 44), (5, 0, 0, 111), (2, 0, 0, 44), (1, 0, 0, 20), (1, 0, 0, 22), (2, 0, 0, 50), (3, 0, 0, 70), (1, 0, 0, 22), (1, 0, 0, 23), (4, 0, 0, 92), (5, 0, 0, 113), (1, 0, 0, 22), (2, 0, 0, 45), (1, 0, 0, 21), (7, 0, 0, 158), (0, 0, 0, 0), (1, 0, 0, 21), (2, 0, 0, 42), (1, 0, 0, 21), (2, 0, 0, 44), (1, 38, 8632, 20), (0, 0, 0, 0), (1, 0, 0, 22), (0, 0, 0, 0), (1, 0, 0, 23), (1, 0, 0, 22), (1, 0, 0, 22), (2, 0, 0, 43), (1, 0, 0, 22), (1, 0, 0, 22), (0, 0, 0, 0), (1, 0, 0, 22), (0, 0, 0, 0), (2, 0, 0, 45), (1, 0, 0, 23), (2, 0, 0, 45), (1, 0, 0, 22), (2, 0, 0, 44), (3, 0, 0, 72), (2, 0, 0, 43), (2, 0, 0, 43), (0, 0, 0, 0), (0, 0, 0, 0), (0, 0, 0, 0), (1, 0, 0, 23), (3, 0, 0, 72), (2, 0, 0, 48), (4, 0, 0, 98), (1, 0, 0, 22), (5, 0, 0, 128), (1, 0, 0, 22), (1, 0, 0, 22), (1, 0, 0, 22), (2, 0, 0, 44), (3, 0, 0, 72), (2, 0, 0, 43), (2, 0, 0, 43), (3, 0, 0, 72), (4, 0, 0, 95), (5, 0, 0, 118), (0, 0, 0, 0), (4, 0, 0, 95), (4, 0, 0, 95), (5, 0, 0, 118), (1, 0, 0, 22), (1, 0, 0, 22), (0, 0, 0, 0), (0, 0, 0, 0), (5, 0, 0, 128), (6, 0, 0, 155), (1, 0, 0, 22), (7, 0, 0, 179), (1, 0, 0, 22), (1, 0, 0, 22), (1, 0, 0, 22), (0, 0, 0, 0), (0, 0, 0, 0), (0, 0, 0, 0), (10, 600000, 7302250, 406)]
/-- field links: class of the code, index, class of the field, its slot, place of the word -/
def rd_fl : List (Nat × Nat × Nat × Nat × Nat) := [(0, 12, 0, 4, 369), (0, 18, 0, 5, 370), (0, 22, 0, 6, 372), (0, 25, 0, 7, 374), (0, 28, 0, 8, 375), (0, 32, 0, 9, 376), (0, 35, 0, 10, 377), (0, 38, 0, 0, 365), (0, 42, 0, 1, 366), (0, 46, 0, 2, 367), (0, 50, 0, 3, 368), (0, 69, 1, 2, 321), (0, 72, 1, 3, 323), (0, 75, 1, 4, 325), (0, 78, 1, 1, 319), (0, 114, 7, 4, 237), (1, 9, 1, 0, 317), (1, 15, 1, 1, 318), (1, 19, 1, 2, 320), (1, 22, 1, 3, 322), (1, 25, 1, 4, 324), (1, 32, 1, 999, 818), (2, 11, 2, 1, 268), (2, 15, 2, 2, 269), (2, 18, 2, 3, 270), (2, 22, 2, 4, 271), (2, 25, 2, 5, 272), (2, 28, 2, 6, 273), (2, 31, 2, 7, 274), (2, 34, 2, 8, 275), (2, 39, 2, 9, 276), (2, 43, 2, 0, 265), (2, 57, 4, 0, 208), (3, 9, 3, 0, 77), (3, 15, 3, 1, 78), (3, 19, 3, 2, 79), (3, 22, 3, 3, 80), (3, 26, 3, 4, 81), (3, 29, 3, 5, 82), (3, 32, 3, 6, 83), (3, 35, 3, 7, 84), (4, 11, 4, 0, 207), (4, 15, 4, 1, 209), (4, 18, 4, 2, 212), (4, 22, 4, 3, 213), (4, 26, 4, 4, 214), (5, 9, 5, 3, 140), (5, 15, 5, 0, 137), (5, 18, 5, 1, 138), (5, 22, 5, 2, 139), (5, 26, 5, 4, 141), (5, 30, 5, 5, 142), (5, 33, 5, 6, 143), (5, 36, 5, 7, 144), (5, 39, 5, 8, 145), (5, 42, 5, 9, 146), (6, 11, 6, 3, 176), (6, 15, 6, 4, 177), (6, 18, 6, 5, 178), (6, 21, 6, 6, 179), (6, 24, 6, 7, 180), (6, 28, 6, 8, 181), (6, 31, 6, 0, 172), (6, 35, 6, 1, 174), (6, 39, 6, 2, 175), (7, 9, 7, 5, 238), (7, 15, 7, 6, 240), (7, 19, 7, 7, 241), (7, 22, 7, 0, 232), (7, 26, 7, 1, 233), (7, 30, 7, 2, 234), (7, 34, 7, 3, 235), (7, 38, 4, 1, 210), (7, 43, 7, 4, 236), (8, 9, 8, 1, 111), (8, 15, 8, 2, 112), (8, 19, 8, 3, 113), (8, 22, 8, 4, 114), (8, 25, 8, 5, 115), (8, 29, 8, 0, 110), (9, 9, 9, 0, 349), (9, 15, 9, 1, 350), (9, 19, 9, 2, 351), (9, 22, 9, 3, 352), (10, 11, 10, 0, 304), (10, 15, 10, 1, 305), (10, 50, 2, 0, 266), (11, 10, 11, 0, 401), (11, 21, 11, 1, 402), (11, 35, 11, 2, 403), (11, 42, 11, 3, 404), (11, 51, 11, 4, 405), (11, 60, 11, 5, 406), (11, 67, 11, 6, 407), (11, 74, 11, 7, 408), (11, 83, 11, 8, 409), (11, 110, 7, 5, 239), (11, 117, 6, 0, 173), (11, 161, 4, 1, 211), (11, 180, 2, 0, 267), (11, 231, 0, 5, 371), (11, 234, 0, 6, 373), (12, 7, 12, 1, 971), (12, 13, 12, 2, 972), (12, 16, 12, 3, 973), (12, 19, 12, 4, 974), (12, 22, 12, 5, 975), (12, 25, 12, 6, 976), (12, 28, 12, 8, 978), (12, 31, 12, 9, 979), (12, 34, 12, 10, 980), (12, 37, 12, 11, 981), (12, 40, 12, 12, 982), (12, 43, 12, 13, 983), (12, 46, 12, 14, 984), (12, 49, 12, 15, 985), (12, 52, 12, 17, 987), (12, 55, 12, 18, 988), (12, 58, 12, 19, 989), (12, 61, 12, 20, 990), (12, 64, 12, 21, 991), (12, 68, 12, 22, 992), (12, 71, 12, 25, 995), (12, 74, 12, 27, 997), (12, 77, 12, 33, 1003), (12, 80, 12, 34, 1004), (12, 83, 12, 36, 1006), (12, 86, 12, 37, 1007), (12, 89, 12, 38, 1008), (12, 92, 12, 40, 1010), (12, 95, 12, 42, 1012), (12, 98, 12, 43, 1013), (12, 101, 12, 44, 1014), (12, 104, 12, 45, 1015), (12, 107, 12, 46, 1016), (12, 110, 12, 47, 1017), (12, 113, 12, 48, 1018), (12, 117, 12, 51, 1021), (12, 120, 12, 53, 1023), (12, 123, 12, 54, 1024), (12, 126, 12, 55, 1025), (12, 129, 12, 0, 970), (12, 137, 12, 7, 977), (12, 158, 12, 16, 986), (12, 175, 12, 28, 998), (12, 178, 12, 29, 999), (12, 181, 12, 30, 1000), (12, 184, 12, 31, 1001), (12, 212, 12, 26, 996), (12, 215, 12, 23, 993), (12, 218, 12, 24, 994), (12, 229, 12, 32, 1002), (12, 235, 12, 35, 1005), (12, 245, 12, 39, 1009), (12, 257, 12, 41, 1011), (12, 260, 12, 57, 1027), (12, 263, 12, 56, 1026), (12, 269, 12, 58, 1028), (12, 275, 12, 52, 1022), (12, 278, 12, 50, 1020), (12, 281, 12, 49, 1019)]
def rd_ml : List (Nat × Nat × Nat × Nat) := [(0, 3, 2000, 342), (0, 11, 95, 345), (0, 54, 193, 362), (0, 60, 96, 844), (0, 63, 17, 852), (0, 81, 88, 860), (0, 87, 6, 861), (0, 91, 97, 875), (0, 95, 8, 879), (0, 99, 92, 865), (0, 102, 77, 866), (0, 108, 7, 867), (0, 111, 79, 873), (0, 117, 45, 874), (0, 123, 44, 871), (0, 127, 78, 872), (0, 131, 99, 887), (0, 134, 98, 895), (1, 3, 2000, 316), (1, 28, 16, 815), (2, 3, 2000, 264), (2, 47, 57, 705), (2, 53, 49, 734), (2, 60, 63, 735), (2, 64, 55, 744), (2, 65, 26, 745), (3, 3, 2000, 76), (3, 38, 34, 441), (3, 42, 36, 442), (3, 46, 1000, 446), (3, 52, 43, 534), (4, 3, 2000, 206), (4, 29, 1000, 676), (5, 3, 2000, 136), (5, 45, 56, 522), (5, 49, 43, 526), (5, 55, 59, 518), (5, 58, 44, 530), (5, 61, 62, 535), (5, 65, 88, 539), (5, 68, 34, 540), (5, 69, 64, 612), (5, 72, 90, 616), (6, 3, 2000, 171), (6, 43, 88, 554), (6, 49, 58, 555), (6, 55, 43, 559), (6, 61, 55, 604), (6, 65, 63, 608), (6, 69, 60, 645), (6, 72, 1001, 649), (6, 78, 193, 958), (7, 3, 2000, 231), (7, 46, 43, 594), (7, 52, 44, 595), (7, 55, 68, 600), (7, 61, 45, 617), (7, 65, 81, 621), (7, 68, 69, 641), (7, 72, 80, 652), (7, 76, 52, 672), (7, 79, 71, 656), (7, 82, 70, 660), (7, 85, 83, 637), (7, 88, 84, 664), (7, 91, 85, 629), (7, 94, 82, 668), (7, 97, 91, 625), (7, 102, 46, 633), (8, 3, 2000, 109), (8, 33, 41, 469), (8, 38, 38, 473), (8, 42, 88, 501), (8, 46, 42, 502), (9, 3, 2000, 348), (10, 3, 2000, 303), (10, 19, 104, 753), (10, 23, 105, 774), (10, 26, 49, 786), (10, 31, 30, 787), (10, 37, 51, 791), (10, 41, 93, 792), (10, 46, 106, 766), (10, 54, 55, 757), (10, 57, 28, 758), (10, 60, 27, 762), (10, 64, 29, 770), (10, 67, 22, 778), (10, 70, 31, 782), (11, 1, 2000, 68), (11, 9, 32, 73), (11, 18, 86, 106), (11, 29, 54, 133), (11, 32, 65, 168), (11, 41, 47, 203), (11, 48, 76, 228), (11, 57, 20, 261), (11, 66, 100, 300), (11, 73, 14, 313), (11, 80, 0, 339), (11, 87, 34, 433), (11, 91, 35, 437), (11, 95, 37, 453), (11, 98, 39, 457), (11, 102, 89, 465), (11, 105, 88, 481), (11, 106, 90, 485), (11, 114, 92, 497), (11, 121, 57, 506), (11, 124, 61, 514), (11, 127, 74, 541), (11, 131, 56, 549), (11, 132, 66, 550), (11, 136, 67, 560), (11, 139, 59, 568), (11, 142, 72, 569), (11, 145, 73, 573), (11, 148, 118, 581), (11, 151, 77, 586), (11, 155, 78, 590), (11, 158, 79, 596), (11, 164, 44, 585), (11, 167, 48, 681), (11, 171, 49, 689), (11, 175, 51, 693), (11, 178, 21, 701), (11, 181, 23, 714), (11, 184, 94, 722), (11, 188, 24, 730), (11, 192, 25, 740), (11, 196, 103, 749), (11, 200, 101, 796), (11, 201, 102, 804), (11, 204, 15, 812), (11, 208, 18, 820), (11, 211, 19, 828), (11, 214, 1, 836), (11, 217, 3, 840), (11, 219, 4, 848), (11, 222, 5, 856), (11, 225, 9, 883), (11, 228, 10, 891), (11, 237, 11, 907), (11, 240, 12, 911), (11, 243, 33, 919), (11, 244, 87, 923), (11, 245, 55, 927), (11, 246, 50, 928), (11, 249, 22, 932), (11, 252, 17, 933), (11, 253, 2, 934), (11, 256, 134, 938), (11, 259, 40, 942), (11, 262, 53, 950), (11, 265, 75, 954), (11, 268, 13, 959), (11, 271, 193, 963), (12, 1, 2000, 969), (12, 133, 137, 1152), (12, 140, 139, 1159), (12, 144, 142, 1171), (12, 148, 146, 1203), (12, 152, 147, 1207), (12, 155, 150, 1239), (12, 161, 145, 1183), (12, 164, 148, 1187), (12, 168, 152, 1195), (12, 171, 149, 1199), (12, 187, 158, 1251), (12, 191, 157, 1247), (12, 194, 151, 1235), (12, 198, 159, 1255), (12, 202, 160, 1259), (12, 205, 161, 1231), (12, 208, 162, 1243), (12, 221, 164, 1223), (12, 225, 163, 1227), (12, 232, 168, 1279), (12, 238, 173, 1299), (12, 241, 174, 1295), (12, 248, 176, 1307), (12, 251, 177, 1311), (12, 254, 178, 1315), (12, 266, 183, 1347), (12, 272, 184, 1343), (12, 284, 186, 1335), (12, 288, 185, 1339), (13, 9, 107, 65), (13, 12, 136, 966), (13, 13, 108, 429), (13, 17, 138, 1148), (13, 18, 109, 449), (13, 22, 140, 1155), (13, 23, 110, 461), (13, 27, 141, 1163), (13, 28, 111, 477), (13, 31, 143, 1167), (13, 32, 112, 489), (13, 35, 144, 1175), (13, 36, 113, 493), (13, 39, 153, 1179), (13, 40, 114, 510), (13, 43, 154, 1191), (13, 44, 115, 545), (13, 48, 155, 1211), (13, 49, 116, 564), (13, 52, 156, 1215), (13, 53, 117, 577), (13, 56, 165, 1219), (13, 57, 119, 677), (13, 60, 166, 1263), (13, 61, 120, 685), (13, 64, 167, 1267), (13, 65, 121, 697), (13, 69, 169, 1271), (13, 70, 122, 706), (13, 73, 170, 1275), (13, 74, 123, 710), (13, 77, 171, 1283), (13, 78, 124, 718), (13, 82, 172, 1287), (13, 83, 125, 726), (13, 86, 175, 1291), (13, 87, 126, 736), (13, 91, 179, 1303), (13, 92, 127, 800), (13, 95, 180, 1319), (13, 96, 128, 808), (13, 99, 181, 1323), (13, 100, 129, 824), (13, 103, 182, 1327), (13, 104, 130, 832), (13, 107, 187, 1331), (13, 108, 131, 899), (13, 111, 188, 1351), (13, 112, 132, 903), (13, 115, 189, 1355), (13, 116, 133, 915), (13, 119, 190, 1359), (13, 120, 135, 946), (13, 123, 191, 1363)]
def rd_cl : List (Nat × Nat × Nat × Nat × Nat × Nat) := [(0, 9, 9, 343, 344, 58), (11, 7, 3, 71, 72, 48), (11, 16, 8, 104, 105, 49), (11, 25, 6, 129, 130, 50), (11, 27, 5, 131, 132, 51), (11, 39, 4, 201, 202, 52), (11, 46, 7, 226, 227, 53), (11, 55, 2, 259, 260, 54), (11, 64, 10, 298, 299, 55), (11, 71, 1, 311, 312, 56), (11, 78, 0, 337, 338, 57), (13, 7, 11, 63, 64, 47), (13, 10, 12, 964, 965, 60)]
def rd_oc : List Nat := [0, 0, 0, 0, 0, 0, 0, 0, 0, 0, 0, 0, 0, 0, 1, 1, 1, 1, 1, 1, 2, 2, 2, 2, 2, 2, 2, 2, 2, 2, 2, 2, 3, 3, 3, 3, 3, 3, 3, 3, 3, 3, 3, 3, 3, 3, 3, 4, 4, 4, 4, 4, 4, 4, 5, 5, 5, 5, 5, 5, 5, 5, 5, 5, 5, 6, 6, 6, 6, 6, 6, 6, 6, 6, 6, 6, 7, 7, 7, 7, 7, 7, 7, 7, 7, 7, 8, 8, 8, 8, 8, 8, 8, 8, 8, 9, 9, 9, 9, 9, 10, 10, 10, 10, 10, 10, 10, 11, 11, 11, 11, 11, 11, 11, 11, 11, 11, 11, 11, 11, 11, 11, 11, 11, 11, 11, 11, 11, 11, 11, 11, 11, 11, 11, 11, 11, 12, 12, 12, 12, 12, 12, 12, 12, 12, 12, 12, 12, 12, 12, 12, 12, 12, 12, 12, 12, 12, 12, 12, 12, 12, 12, 12, 12, 12, 12, 12, 12, 12, 12, 12, 12, 12, 12, 12, 12, 12, 12, 12, 12, 12, 12, 12, 12, 12, 12, 12, 12, 12, 12, 12, 12, 14, 15, 13]
def rd_np : List Nat := [4, 0, 0, 0, 0, 0, 2, 1, 1, 1, 0, 0, 1, 0, 0, 4, 2, 0, 4, 0, 1, 5, 0, 2, 2, 1, 2, 1, 1, 1, 1, 1, 0, 0, 1, 1, 2, 1, 1, 5, 1, 1, 2, 2, 2, 1, 2, 0, 0, 0, 0, 2, 0, 0, 3, 0, 1, 3, 1, 2, 2, 5, 3, 3, 2, 3, 3, 3, 1, 2, 1, 1, 2, 2, 2, 0, 4, 3, 2, 0, 1, 0, 1, 1, 1, 1, 1, 0, 1, 2, 2, 1, 2, 1, 2, 0, 0, 3, 1, 0, 0, 0, 2, 3, 1, 1, 3, 0, 1, 5, 2, 2, 1, 2, 5, 3, 2, 5, 3, 1, 2, 4, 5, 2, 2, 1, 0, 2, 4, 0, 1, 1, 1, 1, 1, 0, 0, 3, 1, 2, 5, 2, 1, 2, 1, 2, 2, 3, 3, 5, 2, 6, 1, 2, 5, 3, 2, 2, 2, 4, 3, 5, 6, 5, 4, 5, 1, 2, 1, 4, 5, 2, 2, 2, 1, 1, 3, 1, 1, 0, 2, 4, 0, 2, 2, 1, 1, 1, 1, 1, 1, 0, 2, 2, 1]
/-- places of a method's words: code, initialized, instanceMethod or static, selects; 0 virtual, 1 static, 2 a constructor -/
def rd_mp : List (Nat × Nat × Nat × Nat × Nat) := [(341, 57, 340, 0, 2), (839, 57, 837, 838, 0), (937, 57, 935, 936, 0), (843, 57, 841, 842, 0), (851, 57, 849, 850, 0), (859, 57, 857, 858, 0), (864, 57, 863, 14, 0), (870, 57, 869, 15, 0), (882, 57, 881, 16, 0), (886, 57, 884, 885, 0), (894, 57, 892, 893, 0), (910, 57, 908, 909, 0), (914, 57, 912, 913, 0), (962, 57, 960, 961, 0), (315, 56, 314, 0, 2), (814, 56, 813, 0, 1), (817, 56, 816, 0, 1), (855, 56, 853, 854, 0), (823, 56, 821, 822, 0), (831, 56, 829, 830, 0), (263, 54, 262, 0, 2), (704, 54, 702, 703, 0), (781, 54, 779, 780, 0), (717, 54, 715, 716, 0), (733, 54, 731, 732, 0), (743, 54, 741, 742, 0), (748, 54, 747, 10, 0), (765, 54, 763, 764, 0), (761, 54, 759, 760, 0), (773, 54, 771, 772, 0), (790, 54, 788, 789, 0), (785, 54, 783, 784, 0), (75, 48, 74, 0, 2), (922, 48, 920, 921, 0), (436, 48, 434, 435, 0), (440, 48, 438, 439, 0), (445, 48, 444, 0, 0), (456, 48, 454, 455, 0), (476, 48, 474, 475, 0), (460, 48, 458, 459, 0), (945, 48, 943, 944, 0), (472, 48, 470, 471, 0), (505, 48, 503, 504, 0), (529, 48, 527, 528, 0), (533, 48, 531, 532, 0), (620, 48, 618, 619, 0), (636, 48, 634, 635, 0), (205, 52, 204, 0, 2), (684, 52, 682, 683, 0), (692, 52, 690, 691, 0), (931, 52, 929, 930, 0), (696, 52, 694, 695, 0), (675, 52, 673, 674, 0), (953, 52, 951, 952, 0), (135, 51, 134, 0, 2), (607, 51, 605, 606, 0), (525, 51, 523, 524, 0), (509, 51, 507, 508, 0), (558, 51, 556, 557, 0), (521, 51, 519, 520, 0), (648, 51, 646, 647, 0), (517, 51, 515, 516, 0), (538, 51, 537, 1, 0), (611, 51, 609, 610, 0), (615, 51, 614, 3, 0), (170, 50, 169, 0, 2), (553, 50, 551, 552, 0), (563, 50, 561, 562, 0), (603, 50, 601, 602, 0), (644, 50, 642, 643, 0), (663, 50, 661, 662, 0), (659, 50, 657, 658, 0), (572, 50, 570, 571, 0), (576, 50, 574, 575, 0), (544, 50, 542, 543, 0), (957, 50, 955, 956, 0), (230, 53, 229, 0, 2), (589, 53, 587, 588, 0), (593, 53, 591, 592, 0), (599, 53, 597, 598, 0), (655, 53, 654, 7, 0), (624, 53, 623, 4, 0), (671, 53, 670, 9, 0), (640, 53, 639, 6, 0), (667, 53, 666, 8, 0), (632, 53, 631, 5, 0), (108, 49, 107, 0, 2), (926, 49, 924, 925, 0), (484, 49, 482, 483, 0), (468, 49, 466, 467, 0), (488, 49, 486, 487, 0), (628, 49, 626, 627, 0), (500, 49, 498, 499, 0), (795, 49, 793, 794, 0), (725, 49, 723, 724, 0), (347, 58, 346, 0, 2), (847, 58, 845, 846, 0), (878, 58, 876, 877, 0), (898, 58, 896, 897, 0), (890, 58, 888, 889, 0), (302, 55, 301, 0, 2), (799, 55, 797, 798, 0), (807, 55, 805, 806, 0), (752, 55, 750, 751, 0), (756, 55, 755, 11, 0), (777, 55, 776, 13, 0), (769, 55, 768, 12, 0), (67, 47, 66, 0, 2), (432, 47, 430, 431, 0), (452, 47, 450, 451, 0), (464, 47, 462, 463, 0), (480, 47, 478, 479, 0), (492, 47, 490, 491, 0), (496, 47, 494, 495, 0), (513, 47, 511, 512, 0), (548, 47, 546, 547, 0), (567, 47, 565, 566, 0), (580, 47, 578, 579, 0), (584, 47, 583, 2, 0), (680, 47, 678, 679, 0), (688, 47, 686, 687, 0), (700, 47, 698, 699, 0), (709, 47, 707, 708, 0), (713, 47, 711, 712, 0), (721, 47, 719, 720, 0), (729, 47, 727, 728, 0), (739, 47, 737, 738, 0), (803, 47, 801, 802, 0), (811, 47, 809, 810, 0), (827, 47, 825, 826, 0), (835, 47, 833, 834, 0), (902, 47, 900, 901, 0), (906, 47, 904, 905, 0), (918, 47, 916, 917, 0), (941, 47, 940, 17, 0), (949, 47, 947, 948, 0), (968, 60, 967, 0, 2), (1154, 60, 1153, 0, 1), (1151, 60, 1149, 1150, 0), (1162, 60, 1161, 18, 0), (1158, 60, 1156, 1157, 0), (1166, 60, 1164, 1165, 0), (1174, 60, 1173, 19, 0), (1170, 60, 1168, 1169, 0), (1178, 60, 1176, 1177, 0), (1186, 60, 1185, 20, 0), (1206, 60, 1205, 24, 0), (1210, 60, 1209, 25, 0), (1190, 60, 1189, 21, 0), (1202, 60, 1201, 23, 0), (1242, 60, 1241, 30, 0), (1238, 60, 1237, 29, 0), (1198, 60, 1197, 22, 0), (1182, 60, 1180, 1181, 0), (1194, 60, 1192, 1193, 0), (1214, 60, 1212, 1213, 0), (1218, 60, 1216, 1217, 0), (1250, 60, 1249, 32, 0), (1254, 60, 1253, 33, 0), (1258, 60, 1257, 34, 0), (1262, 60, 1261, 35, 0), (1234, 60, 1233, 28, 0), (1246, 60, 1245, 31, 0), (1230, 60, 1229, 27, 0), (1226, 60, 1225, 26, 0), (1222, 60, 1220, 1221, 0), (1266, 60, 1264, 1265, 0), (1270, 60, 1268, 1269, 0), (1282, 60, 1281, 36, 0), (1274, 60, 1272, 1273, 0), (1278, 60, 1276, 1277, 0), (1286, 60, 1284, 1285, 0), (1290, 60, 1288, 1289, 0), (1302, 60, 1301, 38, 0), (1298, 60, 1297, 37, 0), (1294, 60, 1292, 1293, 0), (1310, 60, 1309, 39, 0), (1314, 60, 1313, 40, 0), (1318, 60, 1317, 41, 0), (1306, 60, 1304, 1305, 0), (1322, 60, 1320, 1321, 0), (1326, 60, 1324, 1325, 0), (1330, 60, 1328, 1329, 0), (1350, 60, 1349, 45, 0), (1346, 60, 1345, 44, 0), (1342, 60, 1341, 43, 0), (1338, 60, 1337, 42, 0), (1334, 60, 1332, 1333, 0), (1354, 60, 1352, 1353, 0), (1358, 60, 1356, 1357, 0), (1362, 60, 1360, 1361, 0), (1366, 60, 1364, 1365, 0), (0, 0, 0, 0, 3), (364, 59, 363, 0, 1), (0, 0, 0, 0, 3)]
end
section
abbrev rd_Et : Type := Nat × Instr × Nat × List Nat
def rd_c0 : List rd_Et := [(0, .aload_n 0, 1, []), (1, .invokespecial 3, 3, [2000, 0]), (4, .aload_n 0, 1, []), (5, .new 9, 3, [9, 4, 0]), (8, .dup, 1, []), (9, .invokespecial 11, 3, [95, 0, 1]), (12, .putfield 12, 3, [0, 4, 0, 2]), (15, .aload_n 0, 1, []), (16, .bipush 8, 2, []), (18, .newarray .int, 2, []), (20, .putfield 18, 3, [0, 5, 1, 2]), (23, .aload_n 0, 1, []), (24, .iconst 4, 1, []), (25, .newarray .int, 2, []), (27, .putfield 22, 3, [0, 6, 2, 2]), (30, .aload_n 0, 1, []), (31, .bipush 100, 2, []), (33, .newarray .int, 2, []), (35, .putfield 25, 3, [0, 7, 3, 2]), (38, .aload_n 0, 1, []), (39, .iconst 0, 1, []), (40, .putfield 28, 3, [0, 8, 4, 0]), (43, .aload_n 0, 1, []), (44, .iconst 0, 1, []), (45, .putfield 32, 3, [0, 9, 5, 0]), (48, .aload_n 0, 1, []), (49, .iconst 0, 1, []), (50, .putfield 35, 3, [0, 10, 6, 0]), (53, .aload_n 0, 1, []), (54, .aload_n 1, 1, []), (55, .putfield 38, 3, [0, 0, 7, 2]), (58, .aload_n 0, 1, []), (59, .aload_n 2, 1, []), (60, .putfield 42, 3, [0, 1, 8, 2]), (63, .aload_n 0, 1, []), (64, .aload_n 3, 1, []), (65, .putfield 46, 3, [0, 2, 9, 2]), (68, .aload_n 0, 1, []), (69, .aload 4, 2, []), (71, .putfield 50, 3, [0, 3, 10, 2]), (74, .aload_n 0, 1, []), (75, .getfield 22, 3, [0, 6, 2]), (78, .iconst (-1), 1, []), (79, .invokestatic 54, 3, [193, 2, 2]), (82, .return_, 1, [])]
def rd_c1 : List rd_Et := [(0, .aload_n 0, 1, []), (1, .getfield 32, 3, [0, 9, 5]), (4, .sipush 20000, 3, []), (7, .if_icmp .lt 7, 3, [6]), (10, .iconst 1, 1, []), (11, .goto 4, 3, [7]), (14, .iconst 0, 1, []), (15, .ireturn, 1, [])]
def rd_c2 : List rd_Et := [(0, .aload_n 0, 1, []), (1, .getfield 32, 3, [0, 9, 5]), (4, .ireturn, 1, [])]
def rd_c3 : List rd_Et := [(0, .aload_n 0, 1, []), (1, .getfield 18, 3, [0, 5, 1]), (4, .iconst 0, 1, []), (5, .invokestatic 54, 3, [193, 2, 2]), (8, .aload_n 0, 1, []), (9, .getfield 22, 3, [0, 6, 2]), (12, .iconst (-1), 1, []), (13, .invokestatic 54, 3, [193, 2, 2]), (16, .aload_n 0, 1, []), (17, .getfield 12, 3, [0, 4, 0]), (20, .invokevirtual 60, 3, [96, 0, 3, 9]), (23, .aload_n 0, 1, []), (24, .iconst 0, 1, []), (25, .putfield 35, 3, [0, 10, 6, 0]), (28, .return_, 1, [])]
def rd_c4 : List rd_Et := [(0, .aload_n 0, 1, []), (1, .getfield 35, 3, [0, 10, 6]), (4, .aload_n 0, 1, []), (5, .getfield 38, 3, [0, 0, 7]), (8, .invokevirtual 63, 3, [17, 0, 4, 1]), (11, .if_icmp .ge 7, 3, [8]), (14, .iconst 1, 1, []), (15, .goto 4, 3, [9]), (18, .iconst 0, 1, []), (19, .ireturn, 1, [])]
def rd_c5 : List rd_Et := [(0, .aload_n 0, 1, []), (1, .getfield 35, 3, [0, 10, 6]), (4, .istore_n 1, 1, []), (5, .aload_n 0, 1, []), (6, .getfield 38, 3, [0, 0, 7]), (9, .getfield 69, 3, [1, 2, 11]), (12, .iload_n 1, 1, []), (13, .iaload, 1, []), (14, .istore_n 2, 1, []), (15, .aload_n 0, 1, []), (16, .getfield 38, 3, [0, 0, 7]), (19, .getfield 72, 3, [1, 3, 12]), (22, .iload_n 1, 1, []), (23, .iaload, 1, []), (24, .istore_n 3, 1, []), (25, .aload_n 0, 1, []), (26, .getfield 38, 3, [0, 0, 7]), (29, .getfield 75, 3, [1, 4, 13]), (32, .iload_n 1, 1, []), (33, .iaload, 1, []), (34, .istore 4, 2, []), (36, .aload_n 0, 1, []), (37, .dup, 1, []), (38, .getfield 32, 3, [0, 9, 5]), (41, .iconst 1, 1, []), (42, .iadd, 1, []), (43, .putfield 32, 3, [0, 9, 5, 0]), (46, .aload_n 0, 1, []), (47, .iload_n 1, 1, []), (48, .iconst 1, 1, []), (49, .iadd, 1, []), (50, .putfield 35, 3, [0, 10, 6, 0]), (53, .aload_n 0, 1, []), (54, .getfield 38, 3, [0, 0, 7]), (57, .getfield 78, 3, [1, 1, 14]), (60, .iload_n 1, 1, []), (61, .iaload, 1, []), (62, .tableswitch 200 0 8 #[50, 59, 76, 100, 112, 119, 149, 169, 171], 50, [133, 38, 45, 58, 72, 80, 85, 102, 113, 115]), (112, .aload_n 0, 1, []), (113, .getfield 18, 3, [0, 5, 1]), (116, .iload_n 2, 1, []), (117, .iload_n 3, 1, []), (118, .iastore, 1, []), (119, .iconst (-1), 1, []), (120, .ireturn, 1, []), (121, .aload_n 0, 1, []), (122, .getfield 18, 3, [0, 5, 1]), (125, .iload_n 2, 1, []), (126, .dup2, 1, []), (127, .iaload, 1, []), (128, .aload_n 0, 1, []), (129, .getfield 18, 3, [0, 5, 1]), (132, .iload_n 3, 1, []), (133, .iaload, 1, []), (134, .iadd, 1, []), (135, .iastore, 1, []), (136, .iconst (-1), 1, []), (137, .ireturn, 1, []), (138, .aload_n 0, 1, []), (139, .getfield 22, 3, [0, 6, 2]), (142, .iload_n 2, 1, []), (143, .aload_n 0, 1, []), (144, .getfield 46, 3, [0, 2, 9]), (147, .iload_n 3, 1, []), (148, .invokevirtual 81, 3, [88, 1, 5, 8]), (151, .ifCond .eq 7, 3, [68]), (154, .iload_n 3, 1, []), (155, .goto 4, 3, [69]), (158, .iconst (-1), 1, []), (159, .iastore, 1, []), (160, .iconst (-1), 1, []), (161, .ireturn, 1, []), (162, .aload_n 0, 1, []), (163, .aload_n 0, 1, []), (164, .getfield 22, 3, [0, 6, 2]), (167, .iload_n 2, 1, []), (168, .iaload, 1, []), (169, .iload_n 3, 1, []), (170, .invokevirtual 87, 3, [6, 2, 6, 0]), (173, .ireturn, 1, []), (174, .aload_n 0, 1, []), (175, .iload_n 2, 1, []), (176, .putfield 35, 3, [0, 10, 6, 0]), (179, .iconst (-1), 1, []), (180, .ireturn, 1, []), (181, .aload_n 0, 1, []), (182, .aload_n 0, 1, []), (183, .getfield 18, 3, [0, 5, 1]), (186, .iload_n 2, 1, []), (187, .iaload, 1, []), (188, .aload_n 0, 1, []), (189, .getfield 18, 3, [0, 5, 1]), (192, .iload_n 3, 1, []), (193, .iaload, 1, []), (194, .if_icmp .ge 8, 3, [97]), (197, .iload 4, 2, []), (199, .goto 7, 3, [99]), (202, .aload_n 0, 1, []), (203, .getfield 35, 3, [0, 10, 6]), (206, .putfield 35, 3, [0, 10, 6, 0]), (209, .iconst (-1), 1, []), (210, .ireturn, 1, []), (211, .aload_n 0, 1, []), (212, .getfield 12, 3, [0, 4, 0]), (215, .iload_n 1, 1, []), (216, .iload_n 2, 1, []), (217, .iload_n 3, 1, []), (218, .invokevirtual 91, 3, [97, 3, 7, 9]), (221, .ifCond .eq 7, 3, [111]), (224, .iconst (-1), 1, []), (225, .goto 5, 3, [112]), (228, .bipush 11, 2, []), (230, .ireturn, 1, []), (231, .iload_n 2, 1, []), (232, .ireturn, 1, []), (233, .aload_n 0, 1, []), (234, .getfield 18, 3, [0, 5, 1]), (237, .iload 4, 2, []), (239, .aload_n 0, 1, []), (240, .getfield 22, 3, [0, 6, 2]), (243, .iload_n 2, 1, []), (244, .iaload, 1, []), (245, .aload_n 0, 1, []), (246, .getfield 22, 3, [0, 6, 2]), (249, .iload_n 3, 1, []), (250, .iaload, 1, []), (251, .if_icmp .ne 7, 3, [129]), (254, .iconst 1, 1, []), (255, .goto 4, 3, [130]), (258, .iconst 0, 1, []), (259, .iastore, 1, []), (260, .iconst (-1), 1, []), (261, .ireturn, 1, []), (262, .aload_n 0, 1, []), (263, .aload_n 0, 1, []), (264, .getfield 18, 3, [0, 5, 1]), (267, .iload_n 2, 1, []), (268, .iaload, 1, []), (269, .invokevirtual 95, 3, [8, 1, 8, 0]), (272, .iconst (-1), 1, []), (273, .ireturn, 1, [])]
def rd_c6 : List rd_Et := [(0, .iload_n 1, 1, []), (1, .iconst (-1), 1, []), (2, .if_icmp .ne 6, 3, [5]), (5, .bipush 9, 2, []), (7, .ireturn, 1, []), (8, .aload_n 0, 1, []), (9, .getfield 46, 3, [0, 2, 9]), (12, .iload_n 1, 1, []), (13, .iload_n 2, 1, []), (14, .invokevirtual 99, 3, [92, 2, 9, 8]), (17, .istore_n 3, 1, []), (18, .iload_n 3, 1, []), (19, .iconst (-1), 1, []), (20, .if_icmp .ne 6, 3, [16]), (23, .bipush 10, 2, []), (25, .ireturn, 1, []), (26, .aload_n 0, 1, []), (27, .getfield 50, 3, [0, 3, 10]), (30, .iload_n 1, 1, []), (31, .iload_n 2, 1, []), (32, .iload_n 3, 1, []), (33, .invokevirtual 102, 3, [77, 3, 10, 7]), (36, .aload_n 0, 1, []), (37, .iload_n 3, 1, []), (38, .invokevirtual 108, 3, [7, 1, 11, 0]), (41, .aload_n 0, 1, []), (42, .getfield 50, 3, [0, 3, 10]), (45, .invokevirtual 111, 3, [79, 0, 12, 7]), (48, .aload_n 0, 1, []), (49, .getfield 50, 3, [0, 3, 10]), (52, .getfield 114, 3, [7, 4, 15]), (55, .bipush 8, 2, []), (57, .iaload, 1, []), (58, .iconst (-1), 1, []), (59, .if_icmp .eq 14, 3, [41]), (62, .aload_n 0, 1, []), (63, .getfield 50, 3, [0, 3, 10]), (66, .getfield 114, 3, [7, 4, 15]), (69, .bipush 8, 2, []), (71, .iaload, 1, []), (72, .ireturn, 1, []), (73, .aload_n 0, 1, []), (74, .getfield 42, 3, [0, 1, 8]), (77, .iload_n 3, 1, []), (78, .invokevirtual 117, 3, [45, 1, 13, 3]), (81, .iconst 1, 1, []), (82, .if_icmp .ne 23, 3, [57]), (85, .aload_n 0, 1, []), (86, .getfield 18, 3, [0, 5, 1]), (89, .bipush 7, 2, []), (91, .aload_n 0, 1, []), (92, .getfield 50, 3, [0, 3, 10]), (95, .getfield 114, 3, [7, 4, 15]), (98, .bipush 7, 2, []), (100, .iaload, 1, []), (101, .iastore, 1, []), (102, .goto 31, 3, [72]), (105, .aload_n 0, 1, []), (106, .getfield 42, 3, [0, 1, 8]), (109, .iload_n 3, 1, []), (110, .invokevirtual 117, 3, [45, 1, 13, 3]), (113, .iconst 2, 1, []), (114, .if_icmp .ne 19, 3, [72]), (117, .aload_n 0, 1, []), (118, .getfield 22, 3, [0, 6, 2]), (121, .iconst 3, 1, []), (122, .aload_n 0, 1, []), (123, .getfield 50, 3, [0, 3, 10]), (126, .getfield 114, 3, [7, 4, 15]), (129, .bipush 7, 2, []), (131, .iaload, 1, []), (132, .iastore, 1, []), (133, .iconst (-1), 1, []), (134, .ireturn, 1, [])]
def rd_c7 : List rd_Et := [(0, .iconst 0, 1, []), (1, .istore_n 2, 1, []), (2, .iconst 0, 1, []), (3, .istore_n 3, 1, []), (4, .iconst 0, 1, []), (5, .istore 4, 2, []), (7, .iload 4, 2, []), (9, .iconst 3, 1, []), (10, .if_icmp .ge 61, 3, [36]), (13, .aload_n 0, 1, []), (14, .getfield 42, 3, [0, 1, 8]), (17, .iload_n 1, 1, []), (18, .iload 4, 2, []), (20, .invokevirtual 123, 3, [44, 2, 14, 3]), (23, .ifCond .eq 24, 3, [25]), (26, .aload_n 0, 1, []), (27, .getfield 50, 3, [0, 3, 10]), (30, .iload 4, 2, []), (32, .aload_n 0, 1, []), (33, .getfield 22, 3, [0, 6, 2]), (36, .iload_n 3, 1, []), (37, .iaload, 1, []), (38, .invokevirtual 127, 3, [78, 2, 15, 7]), (41, .iinc 3 1, 3, []), (44, .goto 21, 3, [34]), (47, .aload_n 0, 1, []), (48, .getfield 50, 3, [0, 3, 10]), (51, .iload 4, 2, []), (53, .aload_n 0, 1, []), (54, .getfield 18, 3, [0, 5, 1]), (57, .iload_n 2, 1, []), (58, .iaload, 1, []), (59, .invokevirtual 127, 3, [78, 2, 15, 7]), (62, .iinc 2 1, 3, []), (65, .iinc 4 1, 3, []), (68, .goto (-61), 3, [6]), (71, .return_, 1, [])]
def rd_c8 : List rd_Et := [(0, .aload_n 0, 1, []), (1, .getfield 28, 3, [0, 8, 4]), (4, .bipush 100, 2, []), (6, .if_icmp .ge 23, 3, [16]), (9, .aload_n 0, 1, []), (10, .getfield 25, 3, [0, 7, 3]), (13, .aload_n 0, 1, []), (14, .getfield 28, 3, [0, 8, 4]), (17, .iload_n 1, 1, []), (18, .iastore, 1, []), (19, .aload_n 0, 1, []), (20, .dup, 1, []), (21, .getfield 28, 3, [0, 8, 4]), (24, .iconst 1, 1, []), (25, .iadd, 1, []), (26, .putfield 28, 3, [0, 8, 4, 0]), (29, .return_, 1, [])]
def rd_c9 : List rd_Et := [(0, .aload_n 0, 1, []), (1, .getfield 12, 3, [0, 4, 0]), (4, .invokevirtual 131, 3, [99, 0, 16, 9]), (7, .istore_n 2, 1, []), (8, .iload_n 2, 1, []), (9, .iconst (-1), 1, []), (10, .if_icmp .ne 5, 3, [9]), (13, .iconst 0, 1, []), (14, .ireturn, 1, []), (15, .aload_n 0, 1, []), (16, .getfield 18, 3, [0, 5, 1]), (19, .bipush 6, 2, []), (21, .iload_n 1, 1, []), (22, .iastore, 1, []), (23, .aload_n 0, 1, []), (24, .iload_n 2, 1, []), (25, .putfield 35, 3, [0, 10, 6, 0]), (28, .iconst 1, 1, []), (29, .ireturn, 1, [])]
def rd_c10 : List rd_Et := [(0, .aload_n 0, 1, []), (1, .getfield 12, 3, [0, 4, 0]), (4, .aload_n 0, 1, []), (5, .getfield 35, 3, [0, 10, 6]), (8, .invokevirtual 134, 3, [98, 1, 17, 9]), (11, .return_, 1, [])]
def rd_c11 : List rd_Et := [(0, .aload_n 0, 1, []), (1, .getfield 28, 3, [0, 8, 4]), (4, .ireturn, 1, [])]
def rd_c12 : List rd_Et := [(0, .aload_n 0, 1, []), (1, .getfield 25, 3, [0, 7, 3]), (4, .iload_n 1, 1, []), (5, .iaload, 1, []), (6, .ireturn, 1, [])]
def rd_c13 : List rd_Et := [(0, .aload_n 0, 1, []), (1, .iconst 0, 1, []), (2, .putfield 28, 3, [0, 8, 4, 0]), (5, .return_, 1, [])]
def rd_c14 : List rd_Et := [(0, .aload_n 0, 1, []), (1, .invokespecial 3, 3, [2000, 18]), (4, .aload_n 0, 1, []), (5, .iconst 0, 1, []), (6, .putfield 9, 3, [1, 0, 16, 0]), (9, .aload_n 0, 1, []), (10, .bipush 60, 2, []), (12, .newarray .int, 2, []), (14, .putfield 15, 3, [1, 1, 17, 2]), (17, .aload_n 0, 1, []), (18, .bipush 60, 2, []), (20, .newarray .int, 2, []), (22, .putfield 19, 3, [1, 2, 18, 2]), (25, .aload_n 0, 1, []), (26, .bipush 60, 2, []), (28, .newarray .int, 2, []), (30, .putfield 22, 3, [1, 3, 19, 2]), (33, .aload_n 0, 1, []), (34, .bipush 60, 2, []), (36, .newarray .int, 2, []), (38, .putfield 25, 3, [1, 4, 20, 2]), (41, .return_, 1, [])]
def rd_c15 : List rd_Et := [(0, .iload_n 0, 1, []), (1, .ifCond .lt 9, 3, [5]), (4, .iload_n 0, 1, []), (5, .bipush 9, 2, []), (7, .if_icmp .le 5, 3, [7]), (10, .iconst 0, 1, []), (11, .ireturn, 1, []), (12, .iload_n 0, 1, []), (13, .bipush 6, 2, []), (15, .imul, 1, []), (16, .istore 4, 2, []), (18, .iload_n 1, 1, []), (19, .iload 4, 2, []), (21, .invokestatic 28, 3, [16, 2, 19]), (24, .ifCond .eq 29, 3, [29]), (27, .iload_n 2, 1, []), (28, .iload 4, 2, []), (30, .iconst 2, 1, []), (31, .iadd, 1, []), (32, .invokestatic 28, 3, [16, 2, 19]), (35, .ifCond .eq 18, 3, [29]), (38, .iload_n 3, 1, []), (39, .iload 4, 2, []), (41, .iconst 4, 1, []), (42, .iadd, 1, []), (43, .invokestatic 28, 3, [16, 2, 19]), (46, .ifCond .eq 7, 3, [29]), (49, .iconst 1, 1, []), (50, .goto 4, 3, [30]), (53, .iconst 0, 1, []), (54, .ireturn, 1, [])]
def rd_c16 : List rd_Et := [(0, .getstatic 32, 3, [21]), (3, .iload_n 1, 1, []), (4, .iaload, 1, []), (5, .iload_n 0, 1, []), (6, .if_icmp .gt 18, 3, [14]), (9, .iload_n 0, 1, []), (10, .getstatic 32, 3, [21]), (13, .iload_n 1, 1, []), (14, .iconst 1, 1, []), (15, .iadd, 1, []), (16, .iaload, 1, []), (17, .if_icmp .gt 7, 3, [14]), (20, .iconst 1, 1, []), (21, .goto 4, 3, [15]), (24, .iconst 0, 1, []), (25, .ireturn, 1, [])]
def rd_c17 : List rd_Et := [(0, .aload_n 0, 1, []), (1, .getfield 9, 3, [1, 0, 16]), (4, .ireturn, 1, [])]
def rd_c18 : List rd_Et := [(0, .aload_n 0, 1, []), (1, .getfield 9, 3, [1, 0, 16]), (4, .bipush 60, 2, []), (6, .if_icmp .lt 6, 3, [6]), (9, .bipush (-3), 2, []), (11, .ireturn, 1, []), (12, .aload_n 0, 1, []), (13, .getfield 9, 3, [1, 0, 16]), (16, .istore 5, 2, []), (18, .aload_n 0, 1, []), (19, .getfield 15, 3, [1, 1, 17]), (22, .iload 5, 2, []), (24, .iload_n 1, 1, []), (25, .iastore, 1, []), (26, .aload_n 0, 1, []), (27, .getfield 19, 3, [1, 2, 18]), (30, .iload 5, 2, []), (32, .iload_n 2, 1, []), (33, .iastore, 1, []), (34, .aload_n 0, 1, []), (35, .getfield 22, 3, [1, 3, 19]), (38, .iload 5, 2, []), (40, .iload_n 3, 1, []), (41, .iastore, 1, []), (42, .aload_n 0, 1, []), (43, .getfield 25, 3, [1, 4, 20]), (46, .iload 5, 2, []), (48, .iload 4, 2, []), (50, .iastore, 1, []), (51, .aload_n 0, 1, []), (52, .dup, 1, []), (53, .getfield 9, 3, [1, 0, 16]), (56, .iconst 1, 1, []), (57, .iadd, 1, []), (58, .putfield 9, 3, [1, 0, 16, 0]), (61, .iload 5, 2, []), (63, .ireturn, 1, [])]
def rd_c19 : List rd_Et := [(0, .aload_n 0, 1, []), (1, .getfield 9, 3, [1, 0, 16]), (4, .istore_n 1, 1, []), (5, .aload_n 0, 1, []), (6, .iconst 0, 1, []), (7, .putfield 9, 3, [1, 0, 16, 0]), (10, .iload_n 1, 1, []), (11, .ireturn, 1, [])]
def rd_c20 : List rd_Et := [(0, .aload_n 0, 1, []), (1, .invokespecial 3, 3, [2000, 20]), (4, .aload_n 0, 1, []), (5, .bipush 40, 2, []), (7, .newarray .int, 2, []), (9, .putfield 11, 3, [2, 1, 22, 2]), (12, .aload_n 0, 1, []), (13, .bipush 40, 2, []), (15, .newarray .int, 2, []), (17, .putfield 15, 3, [2, 2, 23, 2]), (20, .aload_n 0, 1, []), (21, .iconst 0, 1, []), (22, .putfield 18, 3, [2, 3, 24, 0]), (25, .aload_n 0, 1, []), (26, .bipush 40, 2, []), (28, .newarray .int, 2, []), (30, .putfield 22, 3, [2, 4, 25, 2]), (33, .aload_n 0, 1, []), (34, .bipush 40, 2, []), (36, .newarray .int, 2, []), (38, .putfield 25, 3, [2, 5, 26, 2]), (41, .aload_n 0, 1, []), (42, .bipush 40, 2, []), (44, .newarray .int, 2, []), (46, .putfield 28, 3, [2, 6, 27, 2]), (49, .aload_n 0, 1, []), (50, .bipush 40, 2, []), (52, .newarray .int, 2, []), (54, .putfield 31, 3, [2, 7, 28, 2]), (57, .aload_n 0, 1, []), (58, .bipush 40, 2, []), (60, .newarray .int, 2, []), (62, .putfield 34, 3, [2, 8, 29, 2]), (65, .aload_n 0, 1, []), (66, .sipush 500, 3, []), (69, .newarray .boolean, 2, []), (71, .putfield 39, 3, [2, 9, 30, 2]), (74, .aload_n 0, 1, []), (75, .aload_n 1, 1, []), (76, .putfield 43, 3, [2, 0, 31, 2]), (79, .return_, 1, [])]
def rd_c21 : List rd_Et := [(0, .aload_n 0, 1, []), (1, .getfield 43, 3, [2, 0, 31]), (4, .iload_n 1, 1, []), (5, .iload_n 2, 1, []), (6, .iload_n 3, 1, []), (7, .invokevirtual 47, 3, [57, 3, 21, 5]), (10, .istore 6, 2, []), (12, .iload 6, 2, []), (14, .bipush (-3), 2, []), (16, .if_icmp .eq 21, 3, [20]), (19, .aload_n 0, 1, []), (20, .getfield 11, 3, [2, 1, 22]), (23, .iload 6, 2, []), (25, .iload 4, 2, []), (27, .iastore, 1, []), (28, .aload_n 0, 1, []), (29, .getfield 15, 3, [2, 2, 23]), (32, .iload 6, 2, []), (34, .iload 5, 2, []), (36, .iastore, 1, []), (37, .iload 6, 2, []), (39, .ireturn, 1, [])]
def rd_c22 : List rd_Et := [(0, .aload_n 0, 1, []), (1, .getfield 18, 3, [2, 3, 24]), (4, .ireturn, 1, [])]
def rd_c23 : List rd_Et := [(0, .aload_n 0, 1, []), (1, .getfield 18, 3, [2, 3, 24]), (4, .bipush 40, 2, []), (6, .if_icmp .lt 6, 3, [6]), (9, .bipush (-3), 2, []), (11, .ireturn, 1, []), (12, .aload_n 0, 1, []), (13, .getfield 22, 3, [2, 4, 25]), (16, .aload_n 0, 1, []), (17, .getfield 18, 3, [2, 3, 24]), (20, .iload_n 1, 1, []), (21, .iastore, 1, []), (22, .aload_n 0, 1, []), (23, .getfield 25, 3, [2, 5, 26]), (26, .aload_n 0, 1, []), (27, .getfield 18, 3, [2, 3, 24]), (30, .iload_n 2, 1, []), (31, .iastore, 1, []), (32, .aload_n 0, 1, []), (33, .dup, 1, []), (34, .getfield 18, 3, [2, 3, 24]), (37, .iconst 1, 1, []), (38, .iadd, 1, []), (39, .putfield 18, 3, [2, 3, 24, 0]), (42, .aload_n 0, 1, []), (43, .getfield 18, 3, [2, 3, 24]), (46, .ireturn, 1, [])]
def rd_c24 : List rd_Et := [(0, .iconst 0, 1, []), (1, .istore_n 3, 1, []), (2, .iconst 0, 1, []), (3, .istore 4, 2, []), (5, .iload 4, 2, []), (7, .aload_n 2, 1, []), (8, .invokevirtual 53, 3, [49, 0, 22, 4]), (11, .if_icmp .ge 32, 3, [21]), (14, .aload_n 0, 1, []), (15, .getfield 43, 3, [2, 0, 31]), (18, .iload_n 1, 1, []), (19, .aload_n 2, 1, []), (20, .getfield 57, 3, [4, 0, 32]), (23, .iload 4, 2, []), (25, .bipush 9, 2, []), (27, .imul, 1, []), (28, .invokevirtual 60, 3, [63, 3, 23, 5]), (31, .ifCond .eq 6, 3, [19]), (34, .iinc 3 1, 3, []), (37, .iinc 4 1, 3, []), (40, .goto (-35), 3, [4]), (43, .iload_n 3, 1, []), (44, .ireturn, 1, [])]
def rd_c25 : List rd_Et := [(0, .iconst 0, 1, []), (1, .istore_n 2, 1, []), (2, .iload_n 2, 1, []), (3, .aload_n 1, 1, []), (4, .invokevirtual 53, 3, [49, 0, 22, 4]), (7, .if_icmp .ge 16, 3, [13]), (10, .aload_n 0, 1, []), (11, .getfield 39, 3, [2, 9, 30]), (14, .iload_n 2, 1, []), (15, .iconst 0, 1, []), (16, .bastore, 1, []), (17, .iinc 2 1, 3, []), (20, .goto (-18), 3, [2]), (23, .iconst 0, 1, []), (24, .istore_n 2, 1, []), (25, .iload_n 2, 1, []), (26, .aload_n 0, 1, []), (27, .getfield 43, 3, [2, 0, 31]), (30, .invokevirtual 64, 3, [55, 0, 24, 5]), (33, .if_icmp .ge 15, 3, [26]), (36, .aload_n 0, 1, []), (37, .iload_n 2, 1, []), (38, .aload_n 1, 1, []), (39, .invokevirtual 65, 3, [26, 2, 25, 2]), (42, .iinc 2 1, 3, []), (45, .goto (-20), 3, [15]), (48, .return_, 1, [])]
def rd_c26 : List rd_Et := [(0, .aload_n 0, 1, []), (1, .getfield 28, 3, [2, 6, 27]), (4, .iload_n 1, 1, []), (5, .iconst 0, 1, []), (6, .iastore, 1, []), (7, .aload_n 0, 1, []), (8, .getfield 31, 3, [2, 7, 28]), (11, .iload_n 1, 1, []), (12, .iconst (-1), 1, []), (13, .iastore, 1, []), (14, .aload_n 0, 1, []), (15, .getfield 34, 3, [2, 8, 29]), (18, .iload_n 1, 1, []), (19, .iconst (-1), 1, []), (20, .iastore, 1, []), (21, .iconst 0, 1, []), (22, .istore_n 3, 1, []), (23, .iload_n 3, 1, []), (24, .aload_n 2, 1, []), (25, .invokevirtual 53, 3, [49, 0, 22, 4]), (28, .if_icmp .ge 68, 3, [61]), (31, .aload_n 0, 1, []), (32, .getfield 43, 3, [2, 0, 31]), (35, .iload_n 1, 1, []), (36, .aload_n 2, 1, []), (37, .getfield 57, 3, [4, 0, 32]), (40, .iload_n 3, 1, []), (41, .bipush 9, 2, []), (43, .imul, 1, []), (44, .invokevirtual 60, 3, [63, 3, 23, 5]), (47, .ifCond .eq 43, 3, [59]), (50, .aload_n 0, 1, []), (51, .getfield 28, 3, [2, 6, 27]), (54, .iload_n 1, 1, []), (55, .iaload, 1, []), (56, .ifCond .ne 10, 3, [41]), (59, .aload_n 0, 1, []), (60, .getfield 31, 3, [2, 7, 28]), (63, .iload_n 1, 1, []), (64, .iload_n 3, 1, []), (65, .iastore, 1, []), (66, .aload_n 0, 1, []), (67, .getfield 34, 3, [2, 8, 29]), (70, .iload_n 1, 1, []), (71, .iload_n 3, 1, []), (72, .iastore, 1, []), (73, .aload_n 0, 1, []), (74, .getfield 28, 3, [2, 6, 27]), (77, .iload_n 1, 1, []), (78, .dup2, 1, []), (79, .iaload, 1, []), (80, .iconst 1, 1, []), (81, .iadd, 1, []), (82, .iastore, 1, []), (83, .aload_n 0, 1, []), (84, .getfield 39, 3, [2, 9, 30]), (87, .iload_n 3, 1, []), (88, .iconst 1, 1, []), (89, .bastore, 1, []), (90, .iinc 3 1, 3, []), (93, .goto (-70), 3, [17]), (96, .return_, 1, [])]
def rd_c27 : List rd_Et := [(0, .aload_n 0, 1, []), (1, .getfield 28, 3, [2, 6, 27]), (4, .iload_n 1, 1, []), (5, .iaload, 1, []), (6, .ireturn, 1, [])]
def rd_c28 : List rd_Et := [(0, .aload_n 0, 1, []), (1, .getfield 28, 3, [2, 6, 27]), (4, .iload_n 1, 1, []), (5, .iaload, 1, []), (6, .aload_n 0, 1, []), (7, .getfield 11, 3, [2, 1, 22]), (10, .iload_n 1, 1, []), (11, .iaload, 1, []), (12, .if_icmp .ge 7, 3, [11]), (15, .iconst 1, 1, []), (16, .goto 4, 3, [12]), (19, .iconst 0, 1, []), (20, .ireturn, 1, [])]
def rd_c29 : List rd_Et := [(0, .aload_n 0, 1, []), (1, .getfield 28, 3, [2, 6, 27]), (4, .iload_n 1, 1, []), (5, .iaload, 1, []), (6, .aload_n 0, 1, []), (7, .getfield 15, 3, [2, 2, 23]), (10, .iload_n 1, 1, []), (11, .iaload, 1, []), (12, .if_icmp .le 7, 3, [11]), (15, .iconst 1, 1, []), (16, .goto 4, 3, [12]), (19, .iconst 0, 1, []), (20, .ireturn, 1, [])]
def rd_c30 : List rd_Et := [(0, .aload_n 0, 1, []), (1, .getfield 39, 3, [2, 9, 30]), (4, .iload_n 1, 1, []), (5, .baload, 1, []), (6, .ireturn, 1, [])]
def rd_c31 : List rd_Et := [(0, .aload_n 0, 1, []), (1, .getfield 31, 3, [2, 7, 28]), (4, .aload_n 0, 1, []), (5, .getfield 25, 3, [2, 5, 26]), (8, .iload_n 1, 1, []), (9, .iaload, 1, []), (10, .iaload, 1, []), (11, .istore_n 2, 1, []), (12, .aload_n 0, 1, []), (13, .getfield 34, 3, [2, 8, 29]), (16, .aload_n 0, 1, []), (17, .getfield 22, 3, [2, 4, 25]), (20, .iload_n 1, 1, []), (21, .iaload, 1, []), (22, .iaload, 1, []), (23, .istore_n 3, 1, []), (24, .iload_n 2, 1, []), (25, .iconst (-1), 1, []), (26, .if_icmp .eq 12, 3, [24]), (29, .iload_n 2, 1, []), (30, .iload_n 3, 1, []), (31, .if_icmp .ge 7, 3, [24]), (34, .iload_n 2, 1, []), (35, .goto 4, 3, [25]), (38, .iconst (-1), 1, []), (39, .ireturn, 1, [])]
def rd_c32 : List rd_Et := [(0, .aload_n 0, 1, []), (1, .invokespecial 3, 3, [2000, 26]), (4, .aload_n 0, 1, []), (5, .iconst 0, 1, []), (6, .putfield 9, 3, [3, 0, 33, 0]), (9, .aload_n 0, 1, []), (10, .bipush 12, 2, []), (12, .newarray .int, 2, []), (14, .putfield 15, 3, [3, 1, 34, 2]), (17, .aload_n 0, 1, []), (18, .bipush 12, 2, []), (20, .newarray .int, 2, []), (22, .putfield 19, 3, [3, 2, 35, 2]), (25, .aload_n 0, 1, []), (26, .bipush 12, 2, []), (28, .newarray .boolean, 2, []), (30, .putfield 22, 3, [3, 3, 36, 2]), (33, .aload_n 0, 1, []), (34, .bipush 96, 2, []), (36, .newarray .int, 2, []), (38, .putfield 26, 3, [3, 4, 37, 2]), (41, .aload_n 0, 1, []), (42, .bipush 96, 2, []), (44, .newarray .int, 2, []), (46, .putfield 29, 3, [3, 5, 38, 2]), (49, .aload_n 0, 1, []), (50, .bipush 96, 2, []), (52, .newarray .int, 2, []), (54, .putfield 32, 3, [3, 6, 39, 2]), (57, .aload_n 0, 1, []), (58, .bipush 96, 2, []), (60, .newarray .int, 2, []), (62, .putfield 35, 3, [3, 7, 40, 2]), (65, .return_, 1, [])]
def rd_c33 : List rd_Et := [(0, .aload_n 0, 1, []), (1, .getfield 9, 3, [3, 0, 33]), (4, .ireturn, 1, [])]
def rd_c34 : List rd_Et := [(0, .iload_n 1, 1, []), (1, .ifCond .lt 15, 3, [8]), (4, .iload_n 1, 1, []), (5, .aload_n 0, 1, []), (6, .getfield 9, 3, [3, 0, 33]), (9, .if_icmp .ge 7, 3, [8]), (12, .iconst 1, 1, []), (13, .goto 4, 3, [9]), (16, .iconst 0, 1, []), (17, .ireturn, 1, [])]
def rd_c35 : List rd_Et := [(0, .aload_n 0, 1, []), (1, .getfield 9, 3, [3, 0, 33]), (4, .bipush 12, 2, []), (6, .if_icmp .lt 6, 3, [6]), (9, .bipush (-3), 2, []), (11, .ireturn, 1, []), (12, .aload_n 0, 1, []), (13, .getfield 9, 3, [3, 0, 33]), (16, .istore_n 2, 1, []), (17, .aload_n 0, 1, []), (18, .getfield 19, 3, [3, 2, 35]), (21, .iload_n 2, 1, []), (22, .iconst 1, 1, []), (23, .iload_n 2, 1, []), (24, .ishl, 1, []), (25, .iastore, 1, []), (26, .aload_n 0, 1, []), (27, .iload_n 1, 1, []), (28, .invokevirtual 38, 3, [34, 1, 27, 3]), (31, .ifCond .eq 9, 3, [24]), (34, .aload_n 0, 1, []), (35, .iload_n 2, 1, []), (36, .iload_n 1, 1, []), (37, .invokevirtual 42, 3, [36, 2, 28, 3]), (40, .aload_n 0, 1, []), (41, .dup, 1, []), (42, .getfield 9, 3, [3, 0, 33]), (45, .iconst 1, 1, []), (46, .iadd, 1, []), (47, .putfield 9, 3, [3, 0, 33, 0]), (50, .iload_n 2, 1, []), (51, .ireturn, 1, [])]
def rd_c36 : List rd_Et := [(0, .iload_n 1, 1, []), (1, .bipush 8, 2, []), (3, .imul, 1, []), (4, .istore_n 3, 1, []), (5, .iload_n 2, 1, []), (6, .bipush 8, 2, []), (8, .imul, 1, []), (9, .istore 4, 2, []), (11, .aload_n 0, 1, []), (12, .getfield 19, 3, [3, 2, 35]), (15, .iload_n 1, 1, []), (16, .dup2, 1, []), (17, .iaload, 1, []), (18, .aload_n 0, 1, []), (19, .getfield 19, 3, [3, 2, 35]), (22, .iload_n 2, 1, []), (23, .iaload, 1, []), (24, .ior, 1, []), (25, .iastore, 1, []), (26, .aload_n 0, 1, []), (27, .getfield 15, 3, [3, 1, 34]), (30, .iload_n 1, 1, []), (31, .aload_n 0, 1, []), (32, .getfield 15, 3, [3, 1, 34]), (35, .iload_n 2, 1, []), (36, .iaload, 1, []), (37, .iastore, 1, []), (38, .aload_n 0, 1, []), (39, .getfield 26, 3, [3, 4, 37]), (42, .iload 4, 2, []), (44, .aload_n 0, 1, []), (45, .getfield 26, 3, [3, 4, 37]), (48, .iload_n 3, 1, []), (49, .bipush 8, 2, []), (51, .invokestatic 46, 3, [1000, 29]), (54, .aload_n 0, 1, []), (55, .getfield 29, 3, [3, 5, 38]), (58, .iload 4, 2, []), (60, .aload_n 0, 1, []), (61, .getfield 29, 3, [3, 5, 38]), (64, .iload_n 3, 1, []), (65, .bipush 8, 2, []), (67, .invokestatic 46, 3, [1000, 29]), (70, .aload_n 0, 1, []), (71, .getfield 32, 3, [3, 6, 39]), (74, .iload 4, 2, []), (76, .aload_n 0, 1, []), (77, .getfield 32, 3, [3, 6, 39]), (80, .iload_n 3, 1, []), (81, .bipush 8, 2, []), (83, .invokestatic 46, 3, [1000, 29]), (86, .aload_n 0, 1, []), (87, .getfield 35, 3, [3, 7, 40]), (90, .iload 4, 2, []), (92, .aload_n 0, 1, []), (93, .getfield 35, 3, [3, 7, 40]), (96, .iload_n 3, 1, []), (97, .bipush 8, 2, []), (99, .invokestatic 46, 3, [1000, 29]), (102, .aload_n 0, 1, []), (103, .getfield 22, 3, [3, 3, 36]), (106, .iload_n 2, 1, []), (107, .iconst 1, 1, []), (108, .bastore, 1, []), (109, .return_, 1, [])]
def rd_c37 : List rd_Et := [(0, .aload_n 0, 1, []), (1, .getfield 22, 3, [3, 3, 36]), (4, .iload_n 1, 1, []), (5, .baload, 1, []), (6, .ireturn, 1, [])]
def rd_c38 : List rd_Et := [(0, .aload_n 0, 1, []), (1, .getfield 22, 3, [3, 3, 36]), (4, .iload_n 1, 1, []), (5, .iconst 1, 1, []), (6, .bastore, 1, []), (7, .return_, 1, [])]
def rd_c39 : List rd_Et := [(0, .aload_n 0, 1, []), (1, .getfield 15, 3, [3, 1, 34]), (4, .iload_n 1, 1, []), (5, .iaload, 1, []), (6, .istore 6, 2, []), (8, .iload 6, 2, []), (10, .bipush 8, 2, []), (12, .if_icmp .lt 6, 3, [10]), (15, .bipush (-3), 2, []), (17, .ireturn, 1, []), (18, .iload_n 1, 1, []), (19, .bipush 8, 2, []), (21, .imul, 1, []), (22, .iload 6, 2, []), (24, .iadd, 1, []), (25, .istore 7, 2, []), (27, .aload_n 0, 1, []), (28, .getfield 26, 3, [3, 4, 37]), (31, .iload 7, 2, []), (33, .iload_n 2, 1, []), (34, .iastore, 1, []), (35, .aload_n 0, 1, []), (36, .getfield 29, 3, [3, 5, 38]), (39, .iload 7, 2, []), (41, .iload_n 3, 1, []), (42, .iastore, 1, []), (43, .aload_n 0, 1, []), (44, .getfield 32, 3, [3, 6, 39]), (47, .iload 7, 2, []), (49, .iload 4, 2, []), (51, .iastore, 1, []), (52, .aload_n 0, 1, []), (53, .getfield 35, 3, [3, 7, 40]), (56, .iload 7, 2, []), (58, .iload 5, 2, []), (60, .iastore, 1, []), (61, .aload_n 0, 1, []), (62, .getfield 15, 3, [3, 1, 34]), (65, .iload_n 1, 1, []), (66, .dup2, 1, []), (67, .iaload, 1, []), (68, .iconst 1, 1, []), (69, .iadd, 1, []), (70, .iastore, 1, []), (71, .iload 6, 2, []), (73, .ireturn, 1, [])]
def rd_c40 : List rd_Et := [(0, .aload_n 0, 1, []), (1, .getfield 15, 3, [3, 1, 34]), (4, .iload_n 1, 1, []), (5, .iaload, 1, []), (6, .ireturn, 1, [])]
def rd_c41 : List rd_Et := [(0, .aload_n 0, 1, []), (1, .getfield 19, 3, [3, 2, 35]), (4, .iload_n 1, 1, []), (5, .iaload, 1, []), (6, .ireturn, 1, [])]
def rd_c42 : List rd_Et := [(0, .iload_n 2, 1, []), (1, .ifCond .lt 13, 3, [8]), (4, .iload_n 2, 1, []), (5, .aload_n 0, 1, []), (6, .getfield 15, 3, [3, 1, 34]), (9, .iload_n 1, 1, []), (10, .iaload, 1, []), (11, .if_icmp .lt 5, 3, [10]), (14, .iconst (-1), 1, []), (15, .ireturn, 1, []), (16, .iload_n 1, 1, []), (17, .bipush 8, 2, []), (19, .imul, 1, []), (20, .iload_n 2, 1, []), (21, .iadd, 1, []), (22, .ireturn, 1, [])]
def rd_c43 : List rd_Et := [(0, .iload_n 2, 1, []), (1, .ifCond .lt 17, 3, [10]), (4, .iload_n 2, 1, []), (5, .aload_n 0, 1, []), (6, .getfield 26, 3, [3, 4, 37]), (9, .iload_n 1, 1, []), (10, .iaload, 1, []), (11, .if_icmp .ge 7, 3, [10]), (14, .iconst 1, 1, []), (15, .goto 4, 3, [11]), (18, .iconst 0, 1, []), (19, .ireturn, 1, [])]
def rd_c44 : List rd_Et := [(0, .aload_n 0, 1, []), (1, .iload_n 1, 1, []), (2, .iload_n 2, 1, []), (3, .invokevirtual 52, 3, [43, 2, 30, 3]), (6, .ifCond .eq 21, 3, [17]), (9, .aload_n 0, 1, []), (10, .getfield 29, 3, [3, 5, 38]), (13, .iload_n 1, 1, []), (14, .iaload, 1, []), (15, .iload_n 2, 1, []), (16, .ishr, 1, []), (17, .iconst 1, 1, []), (18, .iand, 1, []), (19, .iconst 1, 1, []), (20, .if_icmp .ne 7, 3, [17]), (23, .iconst 1, 1, []), (24, .goto 4, 3, [18]), (27, .iconst 0, 1, []), (28, .ireturn, 1, [])]
def rd_c45 : List rd_Et := [(0, .aload_n 0, 1, []), (1, .getfield 32, 3, [3, 6, 39]), (4, .iload_n 1, 1, []), (5, .iaload, 1, []), (6, .ireturn, 1, [])]
def rd_c46 : List rd_Et := [(0, .aload_n 0, 1, []), (1, .getfield 35, 3, [3, 7, 40]), (4, .iload_n 1, 1, []), (5, .iaload, 1, []), (6, .iload_n 2, 1, []), (7, .ishr, 1, []), (8, .iconst 1, 1, []), (9, .iand, 1, []), (10, .iconst 1, 1, []), (11, .if_icmp .ne 7, 3, [12]), (14, .iconst 1, 1, []), (15, .goto 4, 3, [13]), (18, .iconst 0, 1, []), (19, .ireturn, 1, [])]
def rd_c47 : List rd_Et := [(0, .aload_n 0, 1, []), (1, .invokespecial 3, 3, [2000, 31]), (4, .aload_n 0, 1, []), (5, .sipush 4500, 3, []), (8, .newarray .int, 2, []), (10, .putfield 11, 3, [4, 0, 41, 2]), (13, .aload_n 0, 1, []), (14, .bipush 9, 2, []), (16, .newarray .int, 2, []), (18, .putfield 15, 3, [4, 1, 42, 2]), (21, .aload_n 0, 1, []), (22, .iconst 0, 1, []), (23, .putfield 18, 3, [4, 2, 43, 1]), (26, .aload_n 0, 1, []), (27, .iconst 0, 1, []), (28, .putfield 22, 3, [4, 3, 44, 0]), (31, .aload_n 0, 1, []), (32, .iconst 0, 1, []), (33, .putfield 26, 3, [4, 4, 45, 0]), (36, .return_, 1, [])]
def rd_c48 : List rd_Et := [(0, .aload_n 0, 1, []), (1, .getfield 18, 3, [4, 2, 43]), (4, .ireturn, 1, [])]
def rd_c49 : List rd_Et := [(0, .aload_n 0, 1, []), (1, .getfield 22, 3, [4, 3, 44]), (4, .ireturn, 1, [])]
def rd_c50 : List rd_Et := [(0, .aload_n 0, 1, []), (1, .getfield 26, 3, [4, 4, 45]), (4, .ireturn, 1, [])]
def rd_c51 : List rd_Et := [(0, .aload_n 0, 1, []), (1, .getfield 11, 3, [4, 0, 41]), (4, .iload_n 1, 1, []), (5, .bipush 9, 2, []), (7, .imul, 1, []), (8, .iload_n 2, 1, []), (9, .iadd, 1, []), (10, .iaload, 1, []), (11, .ireturn, 1, [])]
def rd_c52 : List rd_Et := [(0, .aload_n 0, 1, []), (1, .iconst 1, 1, []), (2, .putfield 18, 3, [4, 2, 43, 1]), (5, .aload_n 0, 1, []), (6, .getfield 22, 3, [4, 3, 44]), (9, .sipush 500, 3, []), (12, .if_icmp .lt 14, 3, [14]), (15, .aload_n 0, 1, []), (16, .dup, 1, []), (17, .getfield 26, 3, [4, 4, 45]), (20, .iconst 1, 1, []), (21, .iadd, 1, []), (22, .putfield 26, 3, [4, 4, 45, 0]), (25, .return_, 1, []), (26, .aload_n 0, 1, []), (27, .getfield 15, 3, [4, 1, 42]), (30, .iconst 0, 1, []), (31, .aload_n 0, 1, []), (32, .getfield 11, 3, [4, 0, 41]), (35, .aload_n 0, 1, []), (36, .getfield 22, 3, [4, 3, 44]), (39, .bipush 9, 2, []), (41, .imul, 1, []), (42, .bipush 9, 2, []), (44, .invokestatic 29, 3, [1000, 32]), (47, .aload_n 0, 1, []), (48, .dup, 1, []), (49, .getfield 22, 3, [4, 3, 44]), (52, .iconst 1, 1, []), (53, .iadd, 1, []), (54, .putfield 22, 3, [4, 3, 44, 0]), (57, .return_, 1, [])]
def rd_c53 : List rd_Et := [(0, .aload_n 0, 1, []), (1, .iconst 0, 1, []), (2, .putfield 22, 3, [4, 3, 44, 0]), (5, .aload_n 0, 1, []), (6, .iconst 0, 1, []), (7, .putfield 26, 3, [4, 4, 45, 0]), (10, .return_, 1, [])]
def rd_c54 : List rd_Et := [(0, .aload_n 0, 1, []), (1, .invokespecial 3, 3, [2000, 33]), (4, .aload_n 0, 1, []), (5, .iconst 0, 1, []), (6, .putfield 9, 3, [5, 3, 46, 0]), (9, .aload_n 0, 1, []), (10, .iload_n 1, 1, []), (11, .putfield 15, 3, [5, 0, 47, 3]), (14, .aload_n 0, 1, []), (15, .aload_n 2, 1, []), (16, .putfield 18, 3, [5, 1, 48, 2]), (19, .aload_n 0, 1, []), (20, .aload_n 3, 1, []), (21, .putfield 22, 3, [5, 2, 49, 2]), (24, .aload_n 0, 1, []), (25, .iload_n 1, 1, []), (26, .newarray .int, 2, []), (28, .putfield 26, 3, [5, 4, 50, 2]), (31, .aload_n 0, 1, []), (32, .iload_n 1, 1, []), (33, .newarray .int, 2, []), (35, .putfield 30, 3, [5, 5, 51, 2]), (38, .aload_n 0, 1, []), (39, .iload_n 1, 1, []), (40, .newarray .int, 2, []), (42, .putfield 33, 3, [5, 6, 52, 2]), (45, .aload_n 0, 1, []), (46, .iload_n 1, 1, []), (47, .iconst 3, 1, []), (48, .imul, 1, []), (49, .newarray .int, 2, []), (51, .putfield 36, 3, [5, 7, 53, 2]), (54, .aload_n 0, 1, []), (55, .iload_n 1, 1, []), (56, .iconst 3, 1, []), (57, .imul, 1, []), (58, .newarray .int, 2, []), (60, .putfield 39, 3, [5, 8, 54, 2]), (63, .aload_n 0, 1, []), (64, .iload_n 1, 1, []), (65, .iconst 3, 1, []), (66, .imul, 1, []), (67, .newarray .int, 2, []), (69, .putfield 42, 3, [5, 9, 55, 2]), (72, .return_, 1, [])]
def rd_c55 : List rd_Et := [(0, .aload_n 0, 1, []), (1, .getfield 9, 3, [5, 3, 46]), (4, .ireturn, 1, [])]
def rd_c56 : List rd_Et := [(0, .iload_n 1, 1, []), (1, .ifCond .lt 15, 3, [8]), (4, .iload_n 1, 1, []), (5, .aload_n 0, 1, []), (6, .getfield 9, 3, [5, 3, 46]), (9, .if_icmp .ge 7, 3, [8]), (12, .iconst 1, 1, []), (13, .goto 4, 3, [9]), (16, .iconst 0, 1, []), (17, .ireturn, 1, [])]
def rd_c57 : List rd_Et := [(0, .aload_n 0, 1, []), (1, .getfield 9, 3, [5, 3, 46]), (4, .aload_n 0, 1, []), (5, .getfield 15, 3, [5, 0, 47]), (8, .if_icmp .lt 6, 3, [7]), (11, .bipush (-3), 2, []), (13, .ireturn, 1, []), (14, .aload_n 0, 1, []), (15, .getfield 9, 3, [5, 3, 46]), (18, .istore 4, 2, []), (20, .aload_n 0, 1, []), (21, .getfield 26, 3, [5, 4, 50]), (24, .iload 4, 2, []), (26, .iload_n 1, 1, []), (27, .iastore, 1, []), (28, .aload_n 0, 1, []), (29, .getfield 30, 3, [5, 5, 51]), (32, .iload 4, 2, []), (34, .iload_n 2, 1, []), (35, .iastore, 1, []), (36, .aload_n 0, 1, []), (37, .getfield 33, 3, [5, 6, 52]), (40, .iload 4, 2, []), (42, .iload_n 3, 1, []), (43, .iastore, 1, []), (44, .aload_n 0, 1, []), (45, .dup, 1, []), (46, .getfield 9, 3, [5, 3, 46]), (49, .iconst 1, 1, []), (50, .iadd, 1, []), (51, .putfield 9, 3, [5, 3, 46, 0]), (54, .iload 4, 2, []), (56, .ireturn, 1, [])]
def rd_c58 : List rd_Et := [(0, .aload_n 0, 1, []), (1, .getfield 33, 3, [5, 6, 52]), (4, .iload_n 1, 1, []), (5, .iaload, 1, []), (6, .ireturn, 1, [])]
def rd_c59 : List rd_Et := [(0, .aload_n 0, 1, []), (1, .iload_n 1, 1, []), (2, .invokevirtual 45, 3, [56, 1, 34, 5]), (5, .ifCond .eq 24, 3, [15]), (8, .aload_n 0, 1, []), (9, .getfield 18, 3, [5, 1, 48]), (12, .aload_n 0, 1, []), (13, .getfield 33, 3, [5, 6, 52]), (16, .iload_n 1, 1, []), (17, .iaload, 1, []), (18, .iload_n 2, 1, []), (19, .invokevirtual 49, 3, [43, 2, 35, 3]), (22, .ifCond .eq 7, 3, [15]), (25, .iconst 1, 1, []), (26, .goto 4, 3, [16]), (29, .iconst 0, 1, []), (30, .ireturn, 1, [])]
def rd_c60 : List rd_Et := [(0, .aload_n 0, 1, []), (1, .getfield 36, 3, [5, 7, 53]), (4, .iload_n 1, 1, []), (5, .iconst 3, 1, []), (6, .imul, 1, []), (7, .iload_n 2, 1, []), (8, .iadd, 1, []), (9, .iaload, 1, []), (10, .bipush 6, 2, []), (12, .if_icmp .ne 7, 3, [12]), (15, .iconst 1, 1, []), (16, .goto 4, 3, [13]), (19, .iconst 0, 1, []), (20, .ireturn, 1, [])]
def rd_c61 : List rd_Et := [(0, .aload_n 0, 1, []), (1, .iload_n 1, 1, []), (2, .iload_n 2, 1, []), (3, .invokevirtual 55, 3, [59, 2, 36, 5]), (6, .ifCond .ne 5, 3, [7]), (9, .iconst (-1), 1, []), (10, .ireturn, 1, []), (11, .aload_n 0, 1, []), (12, .aload_n 0, 1, []), (13, .getfield 18, 3, [5, 1, 48]), (16, .aload_n 0, 1, []), (17, .getfield 33, 3, [5, 6, 52]), (20, .iload_n 1, 1, []), (21, .iaload, 1, []), (22, .iload_n 2, 1, []), (23, .invokevirtual 58, 3, [44, 2, 37, 3]), (26, .iload_n 3, 1, []), (27, .iload 4, 2, []), (29, .invokevirtual 61, 3, [62, 3, 38, 5]), (32, .ifCond .ne 5, 3, [22]), (35, .iconst (-1), 1, []), (36, .ireturn, 1, []), (37, .iload_n 1, 1, []), (38, .iconst 3, 1, []), (39, .imul, 1, []), (40, .iload_n 2, 1, []), (41, .iadd, 1, []), (42, .istore 6, 2, []), (44, .aload_n 0, 1, []), (45, .getfield 36, 3, [5, 7, 53]), (48, .iload 6, 2, []), (50, .iload_n 3, 1, []), (51, .iastore, 1, []), (52, .aload_n 0, 1, []), (53, .getfield 39, 3, [5, 8, 54]), (56, .iload 6, 2, []), (58, .iload 4, 2, []), (60, .iastore, 1, []), (61, .aload_n 0, 1, []), (62, .getfield 42, 3, [5, 9, 55]), (65, .iload 6, 2, []), (67, .iload 5, 2, []), (69, .iastore, 1, []), (70, .iconst 1, 1, []), (71, .ireturn, 1, [])]
def rd_c62 : List rd_Et := [(0, .iload_n 2, 1, []), (1, .tableswitch 122 0 6 #[43, 45, 66, 76, 97, 118, 120], 43, [47, 2, 4, 15, 21, 32, 43, 45]), (44, .iconst 1, 1, []), (45, .ireturn, 1, []), (46, .iload_n 1, 1, []), (47, .ifCond .eq 14, 3, [11]), (50, .aload_n 0, 1, []), (51, .getfield 22, 3, [5, 2, 49]), (54, .iload_n 3, 1, []), (55, .invokevirtual 65, 3, [88, 1, 39, 8]), (58, .ifCond .eq 7, 3, [13]), (61, .iconst 1, 1, []), (62, .goto 4, 3, [14]), (65, .iconst 0, 1, []), (66, .ireturn, 1, []), (67, .iload_n 1, 1, []), (68, .ifCond .ne 7, 3, [19]), (71, .iconst 1, 1, []), (72, .goto 4, 3, [20]), (75, .iconst 0, 1, []), (76, .ireturn, 1, []), (77, .iload_n 1, 1, []), (78, .ifCond .eq 14, 3, [28]), (81, .aload_n 0, 1, []), (82, .getfield 22, 3, [5, 2, 49]), (85, .iload_n 3, 1, []), (86, .invokevirtual 65, 3, [88, 1, 39, 8]), (89, .ifCond .eq 7, 3, [30]), (92, .iconst 1, 1, []), (93, .goto 4, 3, [31]), (96, .iconst 0, 1, []), (97, .ireturn, 1, []), (98, .iload_n 1, 1, []), (99, .ifCond .eq 18, 3, [41]), (102, .aload_n 0, 1, []), (103, .getfield 18, 3, [5, 1, 48]), (106, .iload_n 3, 1, []), (107, .invokevirtual 68, 3, [34, 1, 40, 3]), (110, .ifCond .eq 7, 3, [41]), (113, .iconst 1, 1, []), (114, .goto 4, 3, [42]), (117, .iconst 0, 1, []), (118, .ireturn, 1, []), (119, .iload_n 1, 1, []), (120, .ireturn, 1, []), (121, .iconst 1, 1, []), (122, .ireturn, 1, []), (123, .iconst 0, 1, []), (124, .ireturn, 1, [])]
def rd_c63 : List rd_Et := [(0, .aload_n 0, 1, []), (1, .getfield 26, 3, [5, 4, 50]), (4, .iload_n 1, 1, []), (5, .iaload, 1, []), (6, .aload_n 2, 1, []), (7, .iload_n 3, 1, []), (8, .iconst 0, 1, []), (9, .iadd, 1, []), (10, .iaload, 1, []), (11, .if_icmp .ne 17, 3, [20]), (14, .aload_n 0, 1, []), (15, .getfield 30, 3, [5, 5, 51]), (18, .iload_n 1, 1, []), (19, .iaload, 1, []), (20, .aload_n 2, 1, []), (21, .iload_n 3, 1, []), (22, .iconst 1, 1, []), (23, .iadd, 1, []), (24, .iaload, 1, []), (25, .if_icmp .eq 5, 3, [22]), (28, .iconst 0, 1, []), (29, .ireturn, 1, []), (30, .iconst 0, 1, []), (31, .istore 4, 2, []), (33, .iload 4, 2, []), (35, .iconst 3, 1, []), (36, .if_icmp .ge 32, 3, [46]), (39, .aload_n 0, 1, []), (40, .iload_n 1, 1, []), (41, .iconst 3, 1, []), (42, .imul, 1, []), (43, .iload 4, 2, []), (45, .iadd, 1, []), (46, .aload_n 2, 1, []), (47, .iload_n 3, 1, []), (48, .iconst 2, 1, []), (49, .iadd, 1, []), (50, .iload 4, 2, []), (52, .iadd, 1, []), (53, .iaload, 1, []), (54, .invokevirtual 69, 3, [64, 2, 41, 5]), (57, .ifCond .ne 5, 3, [44]), (60, .iconst 0, 1, []), (61, .ireturn, 1, []), (62, .iinc 4 1, 3, []), (65, .goto (-32), 3, [24]), (68, .iconst 1, 1, []), (69, .ireturn, 1, [])]
def rd_c64 : List rd_Et := [(0, .aload_n 0, 1, []), (1, .getfield 36, 3, [5, 7, 53]), (4, .iload_n 1, 1, []), (5, .iaload, 1, []), (6, .tableswitch 131 1 5 #[34, 50, 76, 92, 120], 34, [64, 5, 15, 31, 41, 57]), (40, .iload_n 2, 1, []), (41, .aload_n 0, 1, []), (42, .getfield 39, 3, [5, 8, 54]), (45, .iload_n 1, 1, []), (46, .iaload, 1, []), (47, .if_icmp .ne 7, 3, [13]), (50, .iconst 1, 1, []), (51, .goto 4, 3, [14]), (54, .iconst 0, 1, []), (55, .ireturn, 1, []), (56, .aload_n 0, 1, []), (57, .getfield 39, 3, [5, 8, 54]), (60, .iload_n 1, 1, []), (61, .iaload, 1, []), (62, .iload_n 2, 1, []), (63, .if_icmp .gt 17, 3, [29]), (66, .iload_n 2, 1, []), (67, .aload_n 0, 1, []), (68, .getfield 42, 3, [5, 9, 55]), (71, .iload_n 1, 1, []), (72, .iaload, 1, []), (73, .if_icmp .gt 7, 3, [29]), (76, .iconst 1, 1, []), (77, .goto 4, 3, [30]), (80, .iconst 0, 1, []), (81, .ireturn, 1, []), (82, .iload_n 2, 1, []), (83, .aload_n 0, 1, []), (84, .getfield 39, 3, [5, 8, 54]), (87, .iload_n 1, 1, []), (88, .iaload, 1, []), (89, .if_icmp .eq 7, 3, [39]), (92, .iconst 1, 1, []), (93, .goto 4, 3, [40]), (96, .iconst 0, 1, []), (97, .ireturn, 1, []), (98, .iload_n 2, 1, []), (99, .iconst (-1), 1, []), (100, .if_icmp .eq 24, 3, [55]), (103, .aload_n 0, 1, []), (104, .getfield 22, 3, [5, 2, 49]), (107, .iload_n 2, 1, []), (108, .aload_n 0, 1, []), (109, .getfield 39, 3, [5, 8, 54]), (112, .iload_n 1, 1, []), (113, .iaload, 1, []), (114, .invokevirtual 72, 3, [90, 2, 42, 8]), (117, .ifCond .eq 7, 3, [55]), (120, .iconst 1, 1, []), (121, .goto 4, 3, [56]), (124, .iconst 0, 1, []), (125, .ireturn, 1, []), (126, .iload_n 2, 1, []), (127, .iconst (-1), 1, []), (128, .if_icmp .ne 7, 3, [62]), (131, .iconst 1, 1, []), (132, .goto 4, 3, [63]), (135, .iconst 0, 1, []), (136, .ireturn, 1, []), (137, .iconst 1, 1, []), (138, .ireturn, 1, [])]
def rd_c65 : List rd_Et := [(0, .aload_n 0, 1, []), (1, .invokespecial 3, 3, [2000, 43]), (4, .aload_n 0, 1, []), (5, .bipush 80, 2, []), (7, .newarray .int, 2, []), (9, .putfield 11, 3, [6, 3, 56, 2]), (12, .aload_n 0, 1, []), (13, .sipush 480, 3, []), (16, .newarray .int, 2, []), (18, .putfield 15, 3, [6, 4, 57, 2]), (21, .aload_n 0, 1, []), (22, .sipush 480, 3, []), (25, .newarray .int, 2, []), (27, .putfield 18, 3, [6, 5, 58, 2]), (30, .aload_n 0, 1, []), (31, .bipush 80, 2, []), (33, .newarray .int, 2, []), (35, .putfield 21, 3, [6, 6, 59, 2]), (38, .aload_n 0, 1, []), (39, .sipush 240, 3, []), (42, .newarray .boolean, 2, []), (44, .putfield 24, 3, [6, 7, 60, 2]), (47, .aload_n 0, 1, []), (48, .sipush 240, 3, []), (51, .newarray .int, 2, []), (53, .putfield 28, 3, [6, 8, 61, 2]), (56, .aload_n 0, 1, []), (57, .aload_n 1, 1, []), (58, .putfield 31, 3, [6, 0, 62, 2]), (61, .aload_n 0, 1, []), (62, .aload_n 2, 1, []), (63, .putfield 35, 3, [6, 1, 63, 2]), (66, .aload_n 0, 1, []), (67, .aload_n 3, 1, []), (68, .putfield 39, 3, [6, 2, 64, 2]), (71, .return_, 1, [])]
def rd_c66 : List rd_Et := [(0, .iload_n 2, 1, []), (1, .tableswitch 100 0 5 #[39, 41, 63, 79, 81, 98], 39, [38, 2, 4, 16, 25, 27, 36]), (40, .iconst 1, 1, []), (41, .ireturn, 1, []), (42, .iload_n 3, 1, []), (43, .iconst (-1), 1, []), (44, .if_icmp .eq 14, 3, [12]), (47, .aload_n 0, 1, []), (48, .getfield 39, 3, [6, 2, 64]), (51, .iload_n 3, 1, []), (52, .invokevirtual 43, 3, [88, 1, 44, 8]), (55, .ifCond .eq 7, 3, [14]), (58, .iconst 1, 1, []), (59, .goto 4, 3, [15]), (62, .iconst 0, 1, []), (63, .ireturn, 1, []), (64, .iload_n 3, 1, []), (65, .ifCond .lt 13, 3, [23]), (68, .iload_n 3, 1, []), (69, .bipush 7, 2, []), (71, .if_icmp .gt 7, 3, [23]), (74, .iconst 1, 1, []), (75, .goto 4, 3, [24]), (78, .iconst 0, 1, []), (79, .ireturn, 1, []), (80, .iconst 1, 1, []), (81, .ireturn, 1, []), (82, .aload_n 0, 1, []), (83, .getfield 35, 3, [6, 1, 63]), (86, .aload_n 0, 1, []), (87, .getfield 31, 3, [6, 0, 62]), (90, .iload_n 1, 1, []), (91, .invokevirtual 49, 3, [58, 1, 45, 5]), (94, .iload_n 3, 1, []), (95, .invokevirtual 55, 3, [43, 2, 46, 3]), (98, .ireturn, 1, []), (99, .iconst 1, 1, []), (100, .ireturn, 1, []), (101, .iconst 0, 1, []), (102, .ireturn, 1, [])]
def rd_c67 : List rd_Et := [(0, .aload_n 0, 1, []), (1, .getfield 11, 3, [6, 3, 56]), (4, .iload_n 1, 1, []), (5, .iaload, 1, []), (6, .bipush 6, 2, []), (8, .if_icmp .lt 6, 3, [8]), (11, .bipush (-3), 2, []), (13, .ireturn, 1, []), (14, .iload_n 1, 1, []), (15, .bipush 6, 2, []), (17, .imul, 1, []), (18, .aload_n 0, 1, []), (19, .getfield 11, 3, [6, 3, 56]), (22, .iload_n 1, 1, []), (23, .iaload, 1, []), (24, .iadd, 1, []), (25, .istore 4, 2, []), (27, .aload_n 0, 1, []), (28, .getfield 15, 3, [6, 4, 57]), (31, .iload 4, 2, []), (33, .iload_n 2, 1, []), (34, .iastore, 1, []), (35, .aload_n 0, 1, []), (36, .getfield 18, 3, [6, 5, 58]), (39, .iload 4, 2, []), (41, .iload_n 3, 1, []), (42, .iastore, 1, []), (43, .aload_n 0, 1, []), (44, .getfield 11, 3, [6, 3, 56]), (47, .iload_n 1, 1, []), (48, .dup2, 1, []), (49, .iaload, 1, []), (50, .iconst 1, 1, []), (51, .iadd, 1, []), (52, .iastore, 1, []), (53, .aload_n 0, 1, []), (54, .getfield 11, 3, [6, 3, 56]), (57, .iload_n 1, 1, []), (58, .iaload, 1, []), (59, .ireturn, 1, [])]
def rd_c68 : List rd_Et := [(0, .aload_n 0, 1, []), (1, .getfield 31, 3, [6, 0, 62]), (4, .invokevirtual 61, 3, [55, 0, 47, 5]), (7, .iconst 1, 1, []), (8, .isub, 1, []), (9, .istore_n 2, 1, []), (10, .iload_n 2, 1, []), (11, .ifCond .lt 33, 3, [24]), (14, .aload_n 0, 1, []), (15, .getfield 11, 3, [6, 3, 56]), (18, .iload_n 2, 1, []), (19, .iaload, 1, []), (20, .ifCond .le 18, 3, [22]), (23, .aload_n 0, 1, []), (24, .getfield 31, 3, [6, 0, 62]), (27, .iload_n 2, 1, []), (28, .aload_n 1, 1, []), (29, .iconst 0, 1, []), (30, .invokevirtual 65, 3, [63, 3, 48, 5]), (33, .ifCond .eq 5, 3, [22]), (36, .iload_n 2, 1, []), (37, .ireturn, 1, []), (38, .iinc 2 (-1), 3, []), (41, .goto (-31), 3, [6]), (44, .iconst (-1), 1, []), (45, .ireturn, 1, [])]
def rd_c69 : List rd_Et := [(0, .iconst 0, 1, []), (1, .istore_n 3, 1, []), (2, .iload_n 3, 1, []), (3, .iconst 3, 1, []), (4, .if_icmp .ge 47, 3, [35]), (7, .aload_n 0, 1, []), (8, .getfield 31, 3, [6, 0, 62]), (11, .iload_n 1, 1, []), (12, .iload_n 3, 1, []), (13, .invokevirtual 69, 3, [60, 2, 49, 5]), (16, .ifCond .eq 29, 3, [33]), (19, .aload_n 0, 1, []), (20, .getfield 24, 3, [6, 7, 60]), (23, .iload_n 1, 1, []), (24, .iconst 3, 1, []), (25, .imul, 1, []), (26, .iload_n 3, 1, []), (27, .iadd, 1, []), (28, .iconst 1, 1, []), (29, .bastore, 1, []), (30, .aload_n 0, 1, []), (31, .getfield 28, 3, [6, 8, 61]), (34, .iload_n 1, 1, []), (35, .iconst 3, 1, []), (36, .imul, 1, []), (37, .iload_n 3, 1, []), (38, .iadd, 1, []), (39, .aload_n 2, 1, []), (40, .iconst 2, 1, []), (41, .iload_n 3, 1, []), (42, .iadd, 1, []), (43, .iaload, 1, []), (44, .iastore, 1, []), (45, .iinc 3 1, 3, []), (48, .goto (-46), 3, [2]), (51, .aload_n 0, 1, []), (52, .getfield 21, 3, [6, 6, 59]), (55, .iload_n 1, 1, []), (56, .iaload, 1, []), (57, .aload_n 0, 1, []), (58, .getfield 11, 3, [6, 3, 56]), (61, .iload_n 1, 1, []), (62, .iaload, 1, []), (63, .iconst 1, 1, []), (64, .isub, 1, []), (65, .invokestatic 72, 3, [1001, 50]), (68, .istore_n 3, 1, []), (69, .aload_n 0, 1, []), (70, .getfield 21, 3, [6, 6, 59]), (73, .iload_n 1, 1, []), (74, .aload_n 0, 1, []), (75, .getfield 21, 3, [6, 6, 59]), (78, .iload_n 1, 1, []), (79, .iaload, 1, []), (80, .iconst 1, 1, []), (81, .iadd, 1, []), (82, .bipush 6, 2, []), (84, .invokestatic 72, 3, [1001, 50]), (87, .iastore, 1, []), (88, .iload_n 1, 1, []), (89, .bipush 6, 2, []), (91, .imul, 1, []), (92, .iload_n 3, 1, []), (93, .iadd, 1, []), (94, .ireturn, 1, [])]
def rd_c70 : List rd_Et := [(0, .aload_n 0, 1, []), (1, .getfield 15, 3, [6, 4, 57]), (4, .iload_n 1, 1, []), (5, .iaload, 1, []), (6, .ireturn, 1, [])]
def rd_c71 : List rd_Et := [(0, .aload_n 0, 1, []), (1, .getfield 18, 3, [6, 5, 58]), (4, .iload_n 1, 1, []), (5, .iaload, 1, []), (6, .ireturn, 1, [])]
def rd_c72 : List rd_Et := [(0, .aload_n 0, 1, []), (1, .getfield 24, 3, [6, 7, 60]), (4, .iload_n 1, 1, []), (5, .iconst 3, 1, []), (6, .imul, 1, []), (7, .iload_n 2, 1, []), (8, .iadd, 1, []), (9, .baload, 1, []), (10, .ireturn, 1, [])]
def rd_c73 : List rd_Et := [(0, .aload_n 0, 1, []), (1, .getfield 28, 3, [6, 8, 61]), (4, .iload_n 1, 1, []), (5, .iconst 3, 1, []), (6, .imul, 1, []), (7, .iload_n 2, 1, []), (8, .iadd, 1, []), (9, .iaload, 1, []), (10, .ireturn, 1, [])]
def rd_c74 : List rd_Et := [(0, .aload_n 0, 1, []), (1, .getfield 24, 3, [6, 7, 60]), (4, .iload_n 1, 1, []), (5, .iconst 3, 1, []), (6, .imul, 1, []), (7, .iload_n 2, 1, []), (8, .iadd, 1, []), (9, .iconst 0, 1, []), (10, .bastore, 1, []), (11, .return_, 1, [])]
def rd_c75 : List rd_Et := [(0, .aload_n 0, 1, []), (1, .getfield 21, 3, [6, 6, 59]), (4, .iconst 0, 1, []), (5, .invokestatic 78, 3, [193, 2, 51]), (8, .iconst 0, 1, []), (9, .istore_n 1, 1, []), (10, .iload_n 1, 1, []), (11, .aload_n 0, 1, []), (12, .getfield 24, 3, [6, 7, 60]), (15, .arraylength, 1, []), (16, .if_icmp .ge 16, 3, [18]), (19, .aload_n 0, 1, []), (20, .getfield 24, 3, [6, 7, 60]), (23, .iload_n 1, 1, []), (24, .iconst 0, 1, []), (25, .bastore, 1, []), (26, .iinc 1 1, 3, []), (29, .goto (-19), 3, [6]), (32, .return_, 1, [])]
def rd_c76 : List rd_Et := [(0, .aload_n 0, 1, []), (1, .invokespecial 3, 3, [2000, 52]), (4, .aload_n 0, 1, []), (5, .bipush 6, 2, []), (7, .newarray .int, 2, []), (9, .putfield 9, 3, [7, 5, 65, 2]), (12, .aload_n 0, 1, []), (13, .iconst 0, 1, []), (14, .putfield 15, 3, [7, 6, 66, 0]), (17, .aload_n 0, 1, []), (18, .iconst 0, 1, []), (19, .putfield 19, 3, [7, 7, 67, 0]), (22, .aload_n 0, 1, []), (23, .aload_n 1, 1, []), (24, .putfield 22, 3, [7, 0, 68, 2]), (27, .aload_n 0, 1, []), (28, .aload_n 2, 1, []), (29, .putfield 26, 3, [7, 1, 69, 2]), (32, .aload_n 0, 1, []), (33, .aload_n 3, 1, []), (34, .putfield 30, 3, [7, 2, 70, 2]), (37, .aload_n 0, 1, []), (38, .aload 4, 2, []), (40, .putfield 34, 3, [7, 3, 71, 2]), (43, .aload_n 0, 1, []), (44, .aload 4, 2, []), (46, .getfield 38, 3, [4, 1, 72]), (49, .putfield 43, 3, [7, 4, 73, 2]), (52, .return_, 1, [])]
def rd_c77 : List rd_Et := [(0, .aload_n 0, 1, []), (1, .iload_n 3, 1, []), (2, .putfield 15, 3, [7, 6, 66, 0]), (5, .aload_n 0, 1, []), (6, .iconst 0, 1, []), (7, .putfield 19, 3, [7, 7, 67, 0]), (10, .aload_n 0, 1, []), (11, .getfield 43, 3, [7, 4, 73]), (14, .iconst 0, 1, []), (15, .iload_n 1, 1, []), (16, .iastore, 1, []), (17, .aload_n 0, 1, []), (18, .getfield 43, 3, [7, 4, 73]), (21, .iconst 1, 1, []), (22, .iload_n 2, 1, []), (23, .iastore, 1, []), (24, .iconst 0, 1, []), (25, .istore 4, 2, []), (27, .iload 4, 2, []), (29, .iconst 3, 1, []), (30, .if_icmp .ge 19, 3, [30]), (33, .aload_n 0, 1, []), (34, .getfield 43, 3, [7, 4, 73]), (37, .iconst 2, 1, []), (38, .iload 4, 2, []), (40, .iadd, 1, []), (41, .iconst 0, 1, []), (42, .iastore, 1, []), (43, .iinc 4 1, 3, []), (46, .goto (-19), 3, [18]), (49, .return_, 1, [])]
def rd_c78 : List rd_Et := [(0, .aload_n 0, 1, []), (1, .getfield 22, 3, [7, 0, 68]), (4, .aload_n 0, 1, []), (5, .getfield 15, 3, [7, 6, 66]), (8, .iload_n 1, 1, []), (9, .invokevirtual 46, 3, [43, 2, 53, 3]), (12, .ifCond .ne 4, 3, [8]), (15, .return_, 1, []), (16, .aload_n 0, 1, []), (17, .getfield 43, 3, [7, 4, 73]), (20, .iconst 2, 1, []), (21, .iload_n 1, 1, []), (22, .iadd, 1, []), (23, .iload_n 2, 1, []), (24, .iastore, 1, []), (25, .aload_n 0, 1, []), (26, .getfield 22, 3, [7, 0, 68]), (29, .aload_n 0, 1, []), (30, .getfield 15, 3, [7, 6, 66]), (33, .iload_n 1, 1, []), (34, .invokevirtual 52, 3, [44, 2, 54, 3]), (37, .ifCond .ne 13, 3, [28]), (40, .aload_n 0, 1, []), (41, .dup, 1, []), (42, .getfield 19, 3, [7, 7, 67]), (45, .iload_n 2, 1, []), (46, .iadd, 1, []), (47, .putfield 19, 3, [7, 7, 67, 0]), (50, .return_, 1, [])]
def rd_c79 : List rd_Et := [(0, .aload_n 0, 1, []), (1, .getfield 30, 3, [7, 2, 70]), (4, .aload_n 0, 1, []), (5, .getfield 43, 3, [7, 4, 73]), (8, .invokevirtual 55, 3, [68, 1, 55, 6]), (11, .istore_n 1, 1, []), (12, .aload_n 0, 1, []), (13, .getfield 43, 3, [7, 4, 73]), (16, .iconst 5, 1, []), (17, .iconst 0, 1, []), (18, .iastore, 1, []), (19, .aload_n 0, 1, []), (20, .getfield 43, 3, [7, 4, 73]), (23, .bipush 6, 2, []), (25, .iload_n 1, 1, []), (26, .iastore, 1, []), (27, .aload_n 0, 1, []), (28, .getfield 43, 3, [7, 4, 73]), (31, .bipush 7, 2, []), (33, .aload_n 0, 1, []), (34, .getfield 22, 3, [7, 0, 68]), (37, .aload_n 0, 1, []), (38, .getfield 15, 3, [7, 6, 66]), (41, .invokevirtual 61, 3, [45, 1, 56, 3]), (44, .iconst 2, 1, []), (45, .if_icmp .ne 7, 3, [28]), (48, .iconst (-1), 1, []), (49, .goto 4, 3, [29]), (52, .iconst 0, 1, []), (53, .iastore, 1, []), (54, .aload_n 0, 1, []), (55, .getfield 43, 3, [7, 4, 73]), (58, .bipush 8, 2, []), (60, .iconst (-1), 1, []), (61, .iastore, 1, []), (62, .iload_n 1, 1, []), (63, .iconst (-1), 1, []), (64, .if_icmp .ne 10, 3, [41]), (67, .aload_n 0, 1, []), (68, .invokevirtual 65, 3, [81, 0, 57, 7]), (71, .goto 19, 3, [49]), (74, .aload_n 0, 1, []), (75, .aload_n 0, 1, []), (76, .getfield 30, 3, [7, 2, 70]), (79, .iload_n 1, 1, []), (80, .aload_n 0, 1, []), (81, .getfield 43, 3, [7, 4, 73]), (84, .invokevirtual 68, 3, [69, 2, 58, 6]), (87, .invokevirtual 72, 3, [80, 1, 59, 7]), (90, .aload_n 0, 1, []), (91, .getfield 34, 3, [7, 3, 71]), (94, .invokevirtual 76, 3, [52, 0, 60, 4]), (97, .return_, 1, [])]
def rd_c80 : List rd_Et := [(0, .aload_n 0, 1, []), (1, .getfield 30, 3, [7, 2, 70]), (4, .iload_n 1, 1, []), (5, .invokevirtual 79, 3, [71, 1, 61, 6]), (8, .istore_n 2, 1, []), (9, .aload_n 0, 1, []), (10, .getfield 30, 3, [7, 2, 70]), (13, .iload_n 1, 1, []), (14, .invokevirtual 82, 3, [70, 1, 62, 6]), (17, .tableswitch 80 0 4 #[35, 43, 51, 59, 72], 35, [33, 10, 14, 18, 22, 29]), (52, .aload_n 0, 1, []), (53, .iload_n 2, 1, []), (54, .invokevirtual 85, 3, [83, 1, 63, 7]), (57, .goto 44, 3, [35]), (60, .aload_n 0, 1, []), (61, .iload_n 2, 1, []), (62, .invokevirtual 88, 3, [84, 1, 64, 7]), (65, .goto 36, 3, [35]), (68, .aload_n 0, 1, []), (69, .iload_n 2, 1, []), (70, .invokevirtual 91, 3, [85, 1, 65, 7]), (73, .goto 28, 3, [35]), (76, .aload_n 0, 1, []), (77, .iload_n 2, 1, []), (78, .aload_n 0, 1, []), (79, .getfield 19, 3, [7, 7, 67]), (82, .iadd, 1, []), (83, .invokevirtual 85, 3, [83, 1, 63, 7]), (86, .goto 15, 3, [35]), (89, .aload_n 0, 1, []), (90, .iload_n 2, 1, []), (91, .invokevirtual 94, 3, [82, 1, 66, 7]), (94, .goto 7, 3, [35]), (97, .aload_n 0, 1, []), (98, .invokevirtual 65, 3, [81, 0, 57, 7]), (101, .return_, 1, [])]
def rd_c81 : List rd_Et := [(0, .aload_n 0, 1, []), (1, .getfield 26, 3, [7, 1, 69]), (4, .aload_n 0, 1, []), (5, .getfield 43, 3, [7, 4, 73]), (8, .iconst 0, 1, []), (9, .iaload, 1, []), (10, .invokevirtual 97, 3, [91, 1, 67, 8]), (13, .istore_n 1, 1, []), (14, .iload_n 1, 1, []), (15, .iconst (-1), 1, []), (16, .if_icmp .ne 11, 3, [17]), (19, .aload_n 0, 1, []), (20, .getfield 43, 3, [7, 4, 73]), (23, .iconst 5, 1, []), (24, .iconst 3, 1, []), (25, .iastore, 1, []), (26, .return_, 1, []), (27, .aload_n 0, 1, []), (28, .getfield 9, 3, [7, 5, 65]), (31, .iload_n 1, 1, []), (32, .iaload, 1, []), (33, .aload_n 0, 1, []), (34, .getfield 19, 3, [7, 7, 67]), (37, .iadd, 1, []), (38, .istore_n 2, 1, []), (39, .iload_n 2, 1, []), (40, .ifCond .lt 10, 3, [30]), (43, .iload_n 2, 1, []), (44, .sipush 255, 3, []), (47, .if_icmp .le 10, 3, [34]), (50, .aload_n 0, 1, []), (51, .bipush 7, 2, []), (53, .invokevirtual 91, 3, [85, 1, 65, 7]), (56, .return_, 1, []), (57, .aload_n 0, 1, []), (58, .getfield 9, 3, [7, 5, 65]), (61, .iload_n 1, 1, []), (62, .iload_n 2, 1, []), (63, .iastore, 1, []), (64, .aload_n 0, 1, []), (65, .iload_n 2, 1, []), (66, .invokevirtual 85, 3, [83, 1, 63, 7]), (69, .return_, 1, [])]
def rd_c82 : List rd_Et := [(0, .aload_n 0, 1, []), (1, .getfield 22, 3, [7, 0, 68]), (4, .aload_n 0, 1, []), (5, .getfield 15, 3, [7, 6, 66]), (8, .iload_n 1, 1, []), (9, .invokevirtual 52, 3, [44, 2, 54, 3]), (12, .ifCond .eq 18, 3, [16]), (15, .aload_n 0, 1, []), (16, .aload_n 0, 1, []), (17, .getfield 43, 3, [7, 4, 73]), (20, .iconst 2, 1, []), (21, .iload_n 1, 1, []), (22, .iadd, 1, []), (23, .iaload, 1, []), (24, .invokevirtual 88, 3, [84, 1, 64, 7]), (27, .goto 15, 3, [24]), (30, .aload_n 0, 1, []), (31, .aload_n 0, 1, []), (32, .getfield 43, 3, [7, 4, 73]), (35, .iconst 2, 1, []), (36, .iload_n 1, 1, []), (37, .iadd, 1, []), (38, .iaload, 1, []), (39, .invokevirtual 85, 3, [83, 1, 63, 7]), (42, .return_, 1, [])]
def rd_c83 : List rd_Et := [(0, .aload_n 0, 1, []), (1, .getfield 22, 3, [7, 0, 68]), (4, .aload_n 0, 1, []), (5, .getfield 15, 3, [7, 6, 66]), (8, .invokevirtual 61, 3, [45, 1, 56, 3]), (11, .iconst 1, 1, []), (12, .if_icmp .ne 11, 3, [12]), (15, .aload_n 0, 1, []), (16, .getfield 43, 3, [7, 4, 73]), (19, .bipush 7, 2, []), (21, .iload_n 1, 1, []), (22, .iastore, 1, []), (23, .return_, 1, [])]
def rd_c84 : List rd_Et := [(0, .aload_n 0, 1, []), (1, .getfield 22, 3, [7, 0, 68]), (4, .aload_n 0, 1, []), (5, .getfield 15, 3, [7, 6, 66]), (8, .invokevirtual 61, 3, [45, 1, 56, 3]), (11, .iconst 2, 1, []), (12, .if_icmp .ne 11, 3, [12]), (15, .aload_n 0, 1, []), (16, .getfield 43, 3, [7, 4, 73]), (19, .bipush 7, 2, []), (21, .iload_n 1, 1, []), (22, .iastore, 1, []), (23, .return_, 1, [])]
def rd_c85 : List rd_Et := [(0, .aload_n 0, 1, []), (1, .getfield 22, 3, [7, 0, 68]), (4, .aload_n 0, 1, []), (5, .getfield 15, 3, [7, 6, 66]), (8, .iload_n 1, 1, []), (9, .invokevirtual 102, 3, [46, 2, 68, 3]), (12, .istore_n 2, 1, []), (13, .aload_n 0, 1, []), (14, .getfield 43, 3, [7, 4, 73]), (17, .iconst 5, 1, []), (18, .iload_n 2, 1, []), (19, .ifCond .eq 7, 3, [14]), (22, .iconst 1, 1, []), (23, .goto 4, 3, [15]), (26, .iconst 2, 1, []), (27, .iastore, 1, []), (28, .aload_n 0, 1, []), (29, .getfield 43, 3, [7, 4, 73]), (32, .bipush 8, 2, []), (34, .iload_n 2, 1, []), (35, .ifCond .eq 7, 3, [23]), (38, .iload_n 1, 1, []), (39, .goto 5, 3, [24]), (42, .bipush 8, 2, []), (44, .iastore, 1, []), (45, .return_, 1, [])]
def rd_c86 : List rd_Et := [(0, .aload_n 0, 1, []), (1, .invokespecial 3, 3, [2000, 69]), (4, .aload_n 0, 1, []), (5, .iconst 0, 1, []), (6, .putfield 9, 3, [8, 1, 74, 0]), (9, .aload_n 0, 1, []), (10, .bipush 24, 2, []), (12, .newarray .int, 2, []), (14, .putfield 15, 3, [8, 2, 75, 2]), (17, .aload_n 0, 1, []), (18, .bipush 24, 2, []), (20, .newarray .int, 2, []), (22, .putfield 19, 3, [8, 3, 76, 2]), (25, .aload_n 0, 1, []), (26, .bipush 24, 2, []), (28, .newarray .int, 2, []), (30, .putfield 22, 3, [8, 4, 77, 2]), (33, .aload_n 0, 1, []), (34, .bipush 24, 2, []), (36, .newarray .boolean, 2, []), (38, .putfield 25, 3, [8, 5, 78, 2]), (41, .aload_n 0, 1, []), (42, .aload_n 1, 1, []), (43, .putfield 29, 3, [8, 0, 79, 2]), (46, .return_, 1, [])]
def rd_c87 : List rd_Et := [(0, .aload_n 0, 1, []), (1, .getfield 9, 3, [8, 1, 74]), (4, .ireturn, 1, [])]
def rd_c88 : List rd_Et := [(0, .iload_n 1, 1, []), (1, .ifCond .lt 15, 3, [8]), (4, .iload_n 1, 1, []), (5, .aload_n 0, 1, []), (6, .getfield 9, 3, [8, 1, 74]), (9, .if_icmp .ge 7, 3, [8]), (12, .iconst 1, 1, []), (13, .goto 4, 3, [9]), (16, .iconst 0, 1, []), (17, .ireturn, 1, [])]
def rd_c89 : List rd_Et := [(0, .aload_n 0, 1, []), (1, .getfield 9, 3, [8, 1, 74]), (4, .bipush 24, 2, []), (6, .if_icmp .lt 6, 3, [6]), (9, .bipush (-3), 2, []), (11, .ireturn, 1, []), (12, .aload_n 0, 1, []), (13, .getfield 9, 3, [8, 1, 74]), (16, .istore_n 3, 1, []), (17, .aload_n 0, 1, []), (18, .getfield 15, 3, [8, 2, 75]), (21, .iload_n 3, 1, []), (22, .iload_n 1, 1, []), (23, .iastore, 1, []), (24, .aload_n 0, 1, []), (25, .getfield 19, 3, [8, 3, 76]), (28, .iload_n 3, 1, []), (29, .aload_n 0, 1, []), (30, .getfield 29, 3, [8, 0, 79]), (33, .iload_n 1, 1, []), (34, .invokevirtual 33, 3, [41, 1, 70, 3]), (37, .iastore, 1, []), (38, .aload_n 0, 1, []), (39, .getfield 22, 3, [8, 4, 77]), (42, .iload_n 3, 1, []), (43, .iload_n 2, 1, []), (44, .iastore, 1, []), (45, .aload_n 0, 1, []), (46, .getfield 29, 3, [8, 0, 79]), (49, .iload_n 1, 1, []), (50, .invokevirtual 38, 3, [38, 1, 71, 3]), (53, .aload_n 0, 1, []), (54, .dup, 1, []), (55, .getfield 9, 3, [8, 1, 74]), (58, .iconst 1, 1, []), (59, .iadd, 1, []), (60, .putfield 9, 3, [8, 1, 74, 0]), (63, .iload_n 3, 1, []), (64, .ireturn, 1, [])]
def rd_c90 : List rd_Et := [(0, .aload_n 0, 1, []), (1, .getfield 19, 3, [8, 3, 76]), (4, .iload_n 1, 1, []), (5, .iaload, 1, []), (6, .iload_n 2, 1, []), (7, .ishr, 1, []), (8, .iconst 1, 1, []), (9, .iand, 1, []), (10, .iconst 1, 1, []), (11, .if_icmp .ne 7, 3, [12]), (14, .iconst 1, 1, []), (15, .goto 4, 3, [13]), (18, .iconst 0, 1, []), (19, .ireturn, 1, [])]
def rd_c91 : List rd_Et := [(0, .aload_n 0, 1, []), (1, .getfield 22, 3, [8, 4, 77]), (4, .iload_n 1, 1, []), (5, .iaload, 1, []), (6, .ireturn, 1, [])]
def rd_c92 : List rd_Et := [(0, .aload_n 0, 1, []), (1, .iload_n 1, 1, []), (2, .invokevirtual 42, 3, [88, 1, 72, 8]), (5, .ifCond .eq 20, 3, [13]), (8, .aload_n 0, 1, []), (9, .getfield 29, 3, [8, 0, 79]), (12, .aload_n 0, 1, []), (13, .getfield 15, 3, [8, 2, 75]), (16, .iload_n 1, 1, []), (17, .iaload, 1, []), (18, .iload_n 2, 1, []), (19, .invokevirtual 46, 3, [42, 2, 73, 3]), (22, .goto 4, 3, [14]), (25, .iconst (-1), 1, []), (26, .ireturn, 1, [])]
def rd_c93 : List rd_Et := [(0, .aload_n 0, 1, []), (1, .getfield 25, 3, [8, 5, 78]), (4, .iload_n 1, 1, []), (5, .baload, 1, []), (6, .ireturn, 1, [])]
def rd_c94 : List rd_Et := [(0, .aload_n 0, 1, []), (1, .getfield 25, 3, [8, 5, 78]), (4, .iload_n 1, 1, []), (5, .baload, 1, []), (6, .istore_n 3, 1, []), (7, .aload_n 0, 1, []), (8, .getfield 25, 3, [8, 5, 78]), (11, .iload_n 1, 1, []), (12, .iload_n 2, 1, []), (13, .bastore, 1, []), (14, .iload_n 3, 1, []), (15, .ireturn, 1, [])]
def rd_c95 : List rd_Et := [(0, .aload_n 0, 1, []), (1, .invokespecial 3, 3, [2000, 74]), (4, .aload_n 0, 1, []), (5, .iconst 0, 1, []), (6, .putfield 9, 3, [9, 0, 80, 0]), (9, .aload_n 0, 1, []), (10, .bipush 10, 2, []), (12, .newarray .int, 2, []), (14, .putfield 15, 3, [9, 1, 81, 2]), (17, .aload_n 0, 1, []), (18, .bipush 10, 2, []), (20, .newarray .int, 2, []), (22, .putfield 19, 3, [9, 2, 82, 2]), (25, .aload_n 0, 1, []), (26, .bipush 10, 2, []), (28, .newarray .int, 2, []), (30, .putfield 22, 3, [9, 3, 83, 2]), (33, .return_, 1, [])]
def rd_c96 : List rd_Et := [(0, .aload_n 0, 1, []), (1, .iconst 0, 1, []), (2, .putfield 9, 3, [9, 0, 80, 0]), (5, .return_, 1, [])]
def rd_c97 : List rd_Et := [(0, .aload_n 0, 1, []), (1, .getfield 9, 3, [9, 0, 80]), (4, .bipush 10, 2, []), (6, .if_icmp .lt 5, 3, [6]), (9, .iconst 0, 1, []), (10, .ireturn, 1, []), (11, .aload_n 0, 1, []), (12, .getfield 15, 3, [9, 1, 81]), (15, .aload_n 0, 1, []), (16, .getfield 9, 3, [9, 0, 80]), (19, .iload_n 1, 1, []), (20, .iconst 1, 1, []), (21, .iadd, 1, []), (22, .iastore, 1, []), (23, .aload_n 0, 1, []), (24, .getfield 19, 3, [9, 2, 82]), (27, .aload_n 0, 1, []), (28, .getfield 9, 3, [9, 0, 80]), (31, .iload_n 1, 1, []), (32, .iload_n 2, 1, []), (33, .iadd, 1, []), (34, .iastore, 1, []), (35, .aload_n 0, 1, []), (36, .getfield 22, 3, [9, 3, 83]), (39, .aload_n 0, 1, []), (40, .getfield 9, 3, [9, 0, 80]), (43, .iload_n 3, 1, []), (44, .iastore, 1, []), (45, .aload_n 0, 1, []), (46, .dup, 1, []), (47, .getfield 9, 3, [9, 0, 80]), (50, .iconst 1, 1, []), (51, .iadd, 1, []), (52, .putfield 9, 3, [9, 0, 80, 0]), (55, .iconst 1, 1, []), (56, .ireturn, 1, [])]
def rd_c98 : List rd_Et := [(0, .iconst 0, 1, []), (1, .istore_n 2, 1, []), (2, .iconst 0, 1, []), (3, .istore_n 3, 1, []), (4, .iload_n 3, 1, []), (5, .aload_n 0, 1, []), (6, .getfield 9, 3, [9, 0, 80]), (9, .if_icmp .ge 68, 3, [47]), (12, .aload_n 0, 1, []), (13, .getfield 15, 3, [9, 1, 81]), (16, .iload_n 3, 1, []), (17, .iaload, 1, []), (18, .iload_n 1, 1, []), (19, .if_icmp .gt 52, 3, [45]), (22, .iload_n 1, 1, []), (23, .aload_n 0, 1, []), (24, .getfield 19, 3, [9, 2, 82]), (27, .iload_n 3, 1, []), (28, .iaload, 1, []), (29, .if_icmp .gt 42, 3, [45]), (32, .aload_n 0, 1, []), (33, .getfield 15, 3, [9, 1, 81]), (36, .iload_n 2, 1, []), (37, .aload_n 0, 1, []), (38, .getfield 15, 3, [9, 1, 81]), (41, .iload_n 3, 1, []), (42, .iaload, 1, []), (43, .iastore, 1, []), (44, .aload_n 0, 1, []), (45, .getfield 19, 3, [9, 2, 82]), (48, .iload_n 2, 1, []), (49, .aload_n 0, 1, []), (50, .getfield 19, 3, [9, 2, 82]), (53, .iload_n 3, 1, []), (54, .iaload, 1, []), (55, .iastore, 1, []), (56, .aload_n 0, 1, []), (57, .getfield 22, 3, [9, 3, 83]), (60, .iload_n 2, 1, []), (61, .aload_n 0, 1, []), (62, .getfield 22, 3, [9, 3, 83]), (65, .iload_n 3, 1, []), (66, .iaload, 1, []), (67, .iastore, 1, []), (68, .iinc 2 1, 3, []), (71, .iinc 3 1, 3, []), (74, .goto (-70), 3, [4]), (77, .aload_n 0, 1, []), (78, .iload_n 2, 1, []), (79, .putfield 9, 3, [9, 0, 80, 0]), (82, .return_, 1, [])]
def rd_c99 : List rd_Et := [(0, .aload_n 0, 1, []), (1, .getfield 9, 3, [9, 0, 80]), (4, .ifCond .ne 5, 3, [5]), (7, .iconst (-1), 1, []), (8, .ireturn, 1, []), (9, .aload_n 0, 1, []), (10, .dup, 1, []), (11, .getfield 9, 3, [9, 0, 80]), (14, .iconst 1, 1, []), (15, .isub, 1, []), (16, .putfield 9, 3, [9, 0, 80, 0]), (19, .aload_n 0, 1, []), (20, .getfield 22, 3, [9, 3, 83]), (23, .aload_n 0, 1, []), (24, .getfield 9, 3, [9, 0, 80]), (27, .iaload, 1, []), (28, .ireturn, 1, [])]
def rd_c100 : List rd_Et := [(0, .aload_n 0, 1, []), (1, .invokespecial 3, 3, [2000, 75]), (4, .aload_n 0, 1, []), (5, .sipush 180, 3, []), (8, .newarray .int, 2, []), (10, .putfield 11, 3, [10, 0, 84, 2]), (13, .aload_n 0, 1, []), (14, .iconst 0, 1, []), (15, .putfield 15, 3, [10, 1, 85, 0]), (18, .return_, 1, [])]
def rd_c101 : List rd_Et := [(0, .aload_n 0, 1, []), (1, .getfield 15, 3, [10, 1, 85]), (4, .ireturn, 1, [])]
def rd_c102 : List rd_Et := [(0, .aload_n 0, 1, []), (1, .getfield 11, 3, [10, 0, 84]), (4, .iload_n 1, 1, []), (5, .iconst 3, 1, []), (6, .imul, 1, []), (7, .iload_n 2, 1, []), (8, .iadd, 1, []), (9, .iaload, 1, []), (10, .ireturn, 1, [])]
def rd_c103 : List rd_Et := [(0, .aload_n 0, 1, []), (1, .iconst 0, 1, []), (2, .putfield 15, 3, [10, 1, 85, 0]), (5, .aload_n 0, 1, []), (6, .aload_n 1, 1, []), (7, .invokevirtual 19, 3, [104, 1, 76, 10]), (10, .aload_n 0, 1, []), (11, .aload_n 1, 1, []), (12, .invokevirtual 23, 3, [105, 1, 77, 10]), (15, .iconst 0, 1, []), (16, .istore 4, 2, []), (18, .iload 4, 2, []), (20, .aload_n 2, 1, []), (21, .invokevirtual 26, 3, [49, 0, 78, 4]), (24, .if_icmp .ge 87, 3, [58]), (27, .aload_n 1, 1, []), (28, .iload 4, 2, []), (30, .invokevirtual 31, 3, [30, 1, 79, 2]), (33, .istore 5, 2, []), (35, .aload_n 2, 1, []), (36, .iload 4, 2, []), (38, .iconst 5, 1, []), (39, .invokevirtual 37, 3, [51, 2, 80, 4]), (42, .istore 6, 2, []), (44, .iload 5, 2, []), (46, .ifCond .ne 25, 3, [38]), (49, .aload_n 3, 1, []), (50, .aload_n 2, 1, []), (51, .iload 4, 2, []), (53, .iconst 0, 1, []), (54, .invokevirtual 37, 3, [51, 2, 80, 4]), (57, .invokevirtual 41, 3, [93, 1, 81, 8]), (60, .ifCond .eq 11, 3, [38]), (63, .aload_n 0, 1, []), (64, .iconst 4, 1, []), (65, .iload 4, 2, []), (67, .iconst 0, 1, []), (68, .invokevirtual 46, 3, [106, 3, 82, 10]), (71, .iload 6, 2, []), (73, .iconst 2, 1, []), (74, .if_icmp .ne 11, 3, [46]), (77, .aload_n 0, 1, []), (78, .iconst 5, 1, []), (79, .iload 4, 2, []), (81, .iconst 0, 1, []), (82, .invokevirtual 46, 3, [106, 3, 82, 10]), (85, .iload 5, 2, []), (87, .ifCond .ne 18, 3, [56]), (90, .iload 6, 2, []), (92, .iconst 3, 1, []), (93, .if_icmp .ne 12, 3, [56]), (96, .aload_n 0, 1, []), (97, .bipush 6, 2, []), (99, .iload 4, 2, []), (101, .iconst 0, 1, []), (102, .invokevirtual 46, 3, [106, 3, 82, 10]), (105, .iinc 4 1, 3, []), (108, .goto (-90), 3, [11]), (111, .return_, 1, [])]
def rd_c104 : List rd_Et := [(0, .iconst 0, 1, []), (1, .istore_n 2, 1, []), (2, .iload_n 2, 1, []), (3, .aload_n 1, 1, []), (4, .getfield 50, 3, [2, 0, 86]), (7, .invokevirtual 54, 3, [55, 0, 83, 5]), (10, .if_icmp .ge 50, 3, [32]), (13, .aload_n 1, 1, []), (14, .iload_n 2, 1, []), (15, .invokevirtual 57, 3, [28, 1, 84, 2]), (18, .ifCond .eq 17, 3, [19]), (21, .aload_n 0, 1, []), (22, .iconst 1, 1, []), (23, .iload_n 2, 1, []), (24, .aload_n 1, 1, []), (25, .iload_n 2, 1, []), (26, .invokevirtual 60, 3, [27, 1, 85, 2]), (29, .invokevirtual 46, 3, [106, 3, 82, 10]), (32, .goto 22, 3, [30]), (35, .aload_n 1, 1, []), (36, .iload_n 2, 1, []), (37, .invokevirtual 64, 3, [29, 1, 86, 2]), (40, .ifCond .eq 14, 3, [30]), (43, .aload_n 0, 1, []), (44, .iconst 2, 1, []), (45, .iload_n 2, 1, []), (46, .aload_n 1, 1, []), (47, .iload_n 2, 1, []), (48, .invokevirtual 60, 3, [27, 1, 85, 2]), (51, .invokevirtual 46, 3, [106, 3, 82, 10]), (54, .iinc 2 1, 3, []), (57, .goto (-55), 3, [2]), (60, .return_, 1, [])]
def rd_c105 : List rd_Et := [(0, .iconst 0, 1, []), (1, .istore_n 2, 1, []), (2, .iload_n 2, 1, []), (3, .aload_n 1, 1, []), (4, .invokevirtual 67, 3, [22, 0, 87, 2]), (7, .if_icmp .ge 27, 3, [20]), (10, .aload_n 1, 1, []), (11, .iload_n 2, 1, []), (12, .invokevirtual 70, 3, [31, 1, 88, 2]), (15, .istore_n 3, 1, []), (16, .iload_n 3, 1, []), (17, .iconst (-1), 1, []), (18, .if_icmp .eq 10, 3, [18]), (21, .aload_n 0, 1, []), (22, .iconst 3, 1, []), (23, .iload_n 2, 1, []), (24, .iload_n 3, 1, []), (25, .invokevirtual 46, 3, [106, 3, 82, 10]), (28, .iinc 2 1, 3, []), (31, .goto (-29), 3, [2]), (34, .return_, 1, [])]
def rd_c106 : List rd_Et := [(0, .aload_n 0, 1, []), (1, .getfield 15, 3, [10, 1, 85]), (4, .bipush 60, 2, []), (6, .if_icmp .lt 4, 3, [5]), (9, .return_, 1, []), (10, .aload_n 0, 1, []), (11, .getfield 15, 3, [10, 1, 85]), (14, .iconst 3, 1, []), (15, .imul, 1, []), (16, .istore 4, 2, []), (18, .aload_n 0, 1, []), (19, .getfield 11, 3, [10, 0, 84]), (22, .iload 4, 2, []), (24, .iload_n 1, 1, []), (25, .iastore, 1, []), (26, .aload_n 0, 1, []), (27, .getfield 11, 3, [10, 0, 84]), (30, .iload 4, 2, []), (32, .iconst 1, 1, []), (33, .iadd, 1, []), (34, .iload_n 2, 1, []), (35, .iastore, 1, []), (36, .aload_n 0, 1, []), (37, .getfield 11, 3, [10, 0, 84]), (40, .iload 4, 2, []), (42, .iconst 2, 1, []), (43, .iadd, 1, []), (44, .iload_n 3, 1, []), (45, .iastore, 1, []), (46, .aload_n 0, 1, []), (47, .dup, 1, []), (48, .getfield 15, 3, [10, 1, 85]), (51, .iconst 1, 1, []), (52, .iadd, 1, []), (53, .putfield 15, 3, [10, 1, 85, 0]), (56, .return_, 1, [])]
def rd_c107 : List rd_Et := [(0, .aload_n 0, 1, []), (1, .invokespecial 1, 3, [2000, 89]), (4, .aload_n 0, 1, []), (5, .new 7, 3, [3, 8, 1]), (8, .dup, 1, []), (9, .invokespecial 9, 3, [32, 0, 90]), (12, .putfield 10, 3, [11, 0, 87, 2]), (15, .aload_n 0, 1, []), (16, .new 16, 3, [8, 6, 2]), (19, .dup, 1, []), (20, .aload_n 0, 1, []), (21, .getfield 10, 3, [11, 0, 87]), (24, .invokespecial 18, 3, [86, 1, 91]), (27, .putfield 21, 3, [11, 1, 88, 2]), (30, .aload_n 0, 1, []), (31, .new 25, 3, [6, 9, 3]), (34, .dup, 1, []), (35, .new 27, 3, [5, 10, 4]), (38, .dup, 1, []), (39, .bipush 80, 2, []), (41, .aload_n 0, 1, []), (42, .getfield 10, 3, [11, 0, 87]), (45, .aload_n 0, 1, []), (46, .getfield 21, 3, [11, 1, 88]), (49, .invokespecial 29, 3, [54, 3, 92]), (52, .aload_n 0, 1, []), (53, .getfield 10, 3, [11, 0, 87]), (56, .aload_n 0, 1, []), (57, .getfield 21, 3, [11, 1, 88]), (60, .invokespecial 32, 3, [65, 3, 93]), (63, .putfield 35, 3, [11, 2, 89, 2]), (66, .aload_n 0, 1, []), (67, .new 39, 3, [4, 5, 5]), (70, .dup, 1, []), (71, .invokespecial 41, 3, [47, 0, 94]), (74, .putfield 42, 3, [11, 3, 90, 2]), (77, .aload_n 0, 1, []), (78, .new 46, 3, [7, 8, 6]), (81, .dup, 1, []), (82, .aload_n 0, 1, []), (83, .getfield 10, 3, [11, 0, 87]), (86, .aload_n 0, 1, []), (87, .getfield 21, 3, [11, 1, 88]), (90, .aload_n 0, 1, []), (91, .getfield 35, 3, [11, 2, 89]), (94, .aload_n 0, 1, []), (95, .getfield 42, 3, [11, 3, 90]), (98, .invokespecial 48, 3, [76, 4, 95]), (101, .putfield 51, 3, [11, 4, 91, 2]), (104, .aload_n 0, 1, []), (105, .new 55, 3, [2, 10, 7]), (108, .dup, 1, []), (109, .new 27, 3, [5, 10, 4]), (112, .dup, 1, []), (113, .bipush 40, 2, []), (115, .aload_n 0, 1, []), (116, .getfield 10, 3, [11, 0, 87]), (119, .aload_n 0, 1, []), (120, .getfield 21, 3, [11, 1, 88]), (123, .invokespecial 29, 3, [54, 3, 92]), (126, .invokespecial 57, 3, [20, 1, 96]), (129, .putfield 60, 3, [11, 5, 92, 2]), (132, .aload_n 0, 1, []), (133, .new 64, 3, [10, 2, 8]), (136, .dup, 1, []), (137, .invokespecial 66, 3, [100, 0, 97]), (140, .putfield 67, 3, [11, 6, 93, 2]), (143, .aload_n 0, 1, []), (144, .new 71, 3, [1, 5, 9]), (147, .dup, 1, []), (148, .invokespecial 73, 3, [14, 0, 98]), (151, .putfield 74, 3, [11, 7, 94, 2]), (154, .aload_n 0, 1, []), (155, .new 78, 3, [0, 11, 10]), (158, .dup, 1, []), (159, .aload_n 0, 1, []), (160, .getfield 74, 3, [11, 7, 94]), (163, .aload_n 0, 1, []), (164, .getfield 10, 3, [11, 0, 87]), (167, .aload_n 0, 1, []), (168, .getfield 21, 3, [11, 1, 88]), (171, .aload_n 0, 1, []), (172, .getfield 51, 3, [11, 4, 91]), (175, .invokespecial 80, 3, [0, 4, 99]), (178, .putfield 83, 3, [11, 8, 95, 2]), (181, .return_, 1, [])]
def rd_c108 : List rd_Et := [(0, .iload_n 1, 1, []), (1, .iconst (-1), 1, []), (2, .if_icmp .eq 16, 3, [10]), (5, .aload_n 0, 1, []), (6, .getfield 10, 3, [11, 0, 87]), (9, .iload_n 1, 1, []), (10, .invokevirtual 87, 3, [34, 1, 100, 3]), (13, .ifCond .ne 5, 3, [10]), (16, .iconst (-1), 1, []), (17, .ireturn, 1, []), (18, .aload_n 0, 1, []), (19, .getfield 10, 3, [11, 0, 87]), (22, .iload_n 1, 1, []), (23, .invokevirtual 91, 3, [35, 1, 101, 3]), (26, .ireturn, 1, [])]
def rd_c109 : List rd_Et := [(0, .aload_n 0, 1, []), (1, .getfield 10, 3, [11, 0, 87]), (4, .iload_n 1, 1, []), (5, .invokevirtual 87, 3, [34, 1, 100, 3]), (8, .ifCond .eq 23, 3, [17]), (11, .iload_n 2, 1, []), (12, .ifCond .lt 19, 3, [17]), (15, .iload_n 2, 1, []), (16, .iconst 3, 1, []), (17, .if_icmp .gt 14, 3, [17]), (20, .iload_n 3, 1, []), (21, .ifCond .lt 10, 3, [17]), (24, .iload_n 3, 1, []), (25, .iconst 1, 1, []), (26, .iload_n 2, 1, []), (27, .ishl, 1, []), (28, .if_icmp .lt 5, 3, [19]), (31, .iconst (-1), 1, []), (32, .ireturn, 1, []), (33, .iload 4, 2, []), (35, .ifCond .lt 22, 3, [29]), (38, .iload 4, 2, []), (40, .iconst 2, 1, []), (41, .if_icmp .gt 16, 3, [29]), (44, .iload 5, 2, []), (46, .ifCond .lt 11, 3, [29]), (49, .iload 5, 2, []), (51, .sipush 255, 3, []), (54, .if_icmp .le 5, 3, [31]), (57, .iconst (-1), 1, []), (58, .ireturn, 1, []), (59, .aload_n 0, 1, []), (60, .getfield 10, 3, [11, 0, 87]), (63, .iload_n 1, 1, []), (64, .invokevirtual 95, 3, [37, 1, 102, 3]), (67, .ifCond .eq 6, 3, [38]), (70, .bipush (-2), 2, []), (72, .ireturn, 1, []), (73, .aload_n 0, 1, []), (74, .getfield 10, 3, [11, 0, 87]), (77, .iload_n 1, 1, []), (78, .iload_n 2, 1, []), (79, .iload_n 3, 1, []), (80, .iload 4, 2, []), (82, .iload 5, 2, []), (84, .invokevirtual 98, 3, [39, 5, 103, 3]), (87, .ireturn, 1, [])]
def rd_c110 : List rd_Et := [(0, .aload_n 0, 1, []), (1, .getfield 10, 3, [11, 0, 87]), (4, .iload_n 1, 1, []), (5, .invokevirtual 87, 3, [34, 1, 100, 3]), (8, .ifCond .eq 14, 3, [11]), (11, .iload_n 2, 1, []), (12, .iconst (-1), 1, []), (13, .if_icmp .lt 9, 3, [11]), (16, .iload_n 2, 1, []), (17, .bipush 6, 2, []), (19, .if_icmp .lt 5, 3, [13]), (22, .iconst (-1), 1, []), (23, .ireturn, 1, []), (24, .aload_n 0, 1, []), (25, .getfield 21, 3, [11, 1, 88]), (28, .iload_n 1, 1, []), (29, .iload_n 2, 1, []), (30, .invokevirtual 102, 3, [89, 2, 104, 8]), (33, .ireturn, 1, [])]
def rd_c111 : List rd_Et := [(0, .aload_n 0, 1, []), (1, .getfield 21, 3, [11, 1, 88]), (4, .iload_n 1, 1, []), (5, .invokevirtual 105, 3, [88, 1, 105, 8]), (8, .ifCond .eq 14, 3, [10]), (11, .aload_n 0, 1, []), (12, .getfield 10, 3, [11, 0, 87]), (15, .iload_n 2, 1, []), (16, .invokevirtual 87, 3, [34, 1, 100, 3]), (19, .ifCond .ne 5, 3, [12]), (22, .iconst (-1), 1, []), (23, .ireturn, 1, []), (24, .aload_n 0, 1, []), (25, .getfield 21, 3, [11, 1, 88]), (28, .iload_n 1, 1, []), (29, .iload_n 2, 1, []), (30, .invokevirtual 106, 3, [90, 2, 106, 8]), (33, .ifCond .eq 7, 3, [20]), (36, .iconst 1, 1, []), (37, .goto 4, 3, [21]), (40, .iconst 0, 1, []), (41, .ireturn, 1, [])]
def rd_c112 : List rd_Et := [(0, .iload_n 1, 1, []), (1, .ifCond .lt 9, 3, [5]), (4, .iload_n 1, 1, []), (5, .bipush 6, 2, []), (7, .if_icmp .lt 5, 3, [7]), (10, .iconst (-1), 1, []), (11, .ireturn, 1, []), (12, .aload_n 0, 1, []), (13, .getfield 51, 3, [11, 4, 91]), (16, .getfield 110, 3, [7, 5, 96]), (19, .iload_n 1, 1, []), (20, .iaload, 1, []), (21, .ireturn, 1, [])]
def rd_c113 : List rd_Et := [(0, .aload_n 0, 1, []), (1, .getfield 21, 3, [11, 1, 88]), (4, .iload_n 1, 1, []), (5, .iload_n 2, 1, []), (6, .invokevirtual 114, 3, [92, 2, 107, 8]), (9, .istore_n 3, 1, []), (10, .iload_n 3, 1, []), (11, .iconst (-1), 1, []), (12, .if_icmp .ne 5, 3, [11]), (15, .iconst (-1), 1, []), (16, .ireturn, 1, []), (17, .aload_n 0, 1, []), (18, .getfield 35, 3, [11, 2, 89]), (21, .getfield 117, 3, [6, 0, 97]), (24, .iload_n 1, 1, []), (25, .iload_n 2, 1, []), (26, .iload_n 3, 1, []), (27, .invokevirtual 121, 3, [57, 3, 108, 5]), (30, .ireturn, 1, [])]
def rd_c114 : List rd_Et := [(0, .aload_n 0, 1, []), (1, .getfield 35, 3, [11, 2, 89]), (4, .getfield 117, 3, [6, 0, 97]), (7, .iload_n 1, 1, []), (8, .iload_n 2, 1, []), (9, .iload_n 3, 1, []), (10, .iload 4, 2, []), (12, .iload 5, 2, []), (14, .invokevirtual 124, 3, [61, 5, 109, 5]), (17, .istore 6, 2, []), (19, .iload 6, 2, []), (21, .iconst (-1), 1, []), (22, .if_icmp .eq 12, 3, [18]), (25, .aload_n 0, 1, []), (26, .getfield 35, 3, [11, 2, 89]), (29, .iload_n 1, 1, []), (30, .iload_n 2, 1, []), (31, .invokevirtual 127, 3, [74, 2, 110, 6]), (34, .iload 6, 2, []), (36, .ireturn, 1, [])]
def rd_c115 : List rd_Et := [(0, .aload_n 0, 1, []), (1, .getfield 35, 3, [11, 2, 89]), (4, .getfield 117, 3, [6, 0, 97]), (7, .iload_n 1, 1, []), (8, .invokevirtual 131, 3, [56, 1, 111, 5]), (11, .ifCond .eq 16, 3, [13]), (14, .aload_n 0, 1, []), (15, .getfield 35, 3, [11, 2, 89]), (18, .iload_n 1, 1, []), (19, .iload_n 2, 1, []), (20, .iload_n 3, 1, []), (21, .invokevirtual 132, 3, [66, 3, 112, 6]), (24, .ifCond .ne 5, 3, [15]), (27, .iconst (-1), 1, []), (28, .ireturn, 1, []), (29, .aload_n 0, 1, []), (30, .getfield 35, 3, [11, 2, 89]), (33, .iload_n 1, 1, []), (34, .iload_n 2, 1, []), (35, .iload_n 3, 1, []), (36, .invokevirtual 136, 3, [67, 3, 113, 6]), (39, .ireturn, 1, [])]
def rd_c116 : List rd_Et := [(0, .aload_n 0, 1, []), (1, .getfield 35, 3, [11, 2, 89]), (4, .getfield 117, 3, [6, 0, 97]), (7, .iload_n 1, 1, []), (8, .iload_n 2, 1, []), (9, .invokevirtual 139, 3, [59, 2, 114, 5]), (12, .ifCond .ne 7, 3, [9]), (15, .sipush (-1001), 3, []), (18, .ireturn, 1, []), (19, .aload_n 0, 1, []), (20, .getfield 35, 3, [11, 2, 89]), (23, .iload_n 1, 1, []), (24, .iload_n 2, 1, []), (25, .invokevirtual 142, 3, [72, 2, 115, 6]), (28, .ifCond .eq 15, 3, [21]), (31, .aload_n 0, 1, []), (32, .getfield 35, 3, [11, 2, 89]), (35, .iload_n 1, 1, []), (36, .iload_n 2, 1, []), (37, .invokevirtual 145, 3, [73, 2, 116, 6]), (40, .goto 6, 3, [22]), (43, .sipush (-1002), 3, []), (46, .ireturn, 1, [])]
def rd_c117 : List rd_Et := [(0, .aload_n 0, 1, []), (1, .getfield 21, 3, [11, 1, 88]), (4, .iload_n 1, 1, []), (5, .iload_n 2, 1, []), (6, .invokevirtual 114, 3, [92, 2, 107, 8]), (9, .istore 6, 2, []), (11, .iload 6, 2, []), (13, .iconst (-1), 1, []), (14, .if_icmp .ne 5, 3, [11]), (17, .iconst (-1), 1, []), (18, .ireturn, 1, []), (19, .aload_n 0, 1, []), (20, .iload 6, 2, []), (22, .iconst 0, 1, []), (23, .iload_n 3, 1, []), (24, .invokevirtual 148, 3, [118, 3, 117, 11]), (27, .ifCond .eq 27, 3, [29]), (30, .aload_n 0, 1, []), (31, .iload 6, 2, []), (33, .iconst 1, 1, []), (34, .iload 4, 2, []), (36, .invokevirtual 148, 3, [118, 3, 117, 11]), (39, .ifCond .eq 15, 3, [29]), (42, .aload_n 0, 1, []), (43, .iload 6, 2, []), (45, .iconst 2, 1, []), (46, .iload 5, 2, []), (48, .invokevirtual 148, 3, [118, 3, 117, 11]), (51, .ifCond .ne 5, 3, [31]), (54, .iconst (-1), 1, []), (55, .ireturn, 1, []), (56, .aload_n 0, 1, []), (57, .getfield 51, 3, [11, 4, 91]), (60, .iload_n 1, 1, []), (61, .iload_n 2, 1, []), (62, .iload 6, 2, []), (64, .invokevirtual 151, 3, [77, 3, 118, 7]), (67, .aload_n 0, 1, []), (68, .getfield 51, 3, [11, 4, 91]), (71, .iconst 0, 1, []), (72, .iload_n 3, 1, []), (73, .invokevirtual 155, 3, [78, 2, 119, 7]), (76, .aload_n 0, 1, []), (77, .getfield 51, 3, [11, 4, 91]), (80, .iconst 1, 1, []), (81, .iload 4, 2, []), (83, .invokevirtual 155, 3, [78, 2, 119, 7]), (86, .aload_n 0, 1, []), (87, .getfield 51, 3, [11, 4, 91]), (90, .iconst 2, 1, []), (91, .iload 5, 2, []), (93, .invokevirtual 155, 3, [78, 2, 119, 7]), (96, .aload_n 0, 1, []), (97, .getfield 51, 3, [11, 4, 91]), (100, .invokevirtual 158, 3, [79, 0, 120, 7]), (103, .aload_n 0, 1, []), (104, .getfield 42, 3, [11, 3, 90]), (107, .getfield 161, 3, [4, 1, 98]), (110, .iconst 5, 1, []), (111, .iaload, 1, []), (112, .ireturn, 1, [])]
def rd_c118 : List rd_Et := [(0, .aload_n 0, 1, []), (1, .getfield 10, 3, [11, 0, 87]), (4, .iload_n 1, 1, []), (5, .iload_n 2, 1, []), (6, .invokevirtual 164, 3, [44, 2, 121, 3]), (9, .ifCond .eq 19, 3, [14]), (12, .iload_n 3, 1, []), (13, .iconst (-1), 1, []), (14, .if_icmp .eq 14, 3, [14]), (17, .aload_n 0, 1, []), (18, .getfield 21, 3, [11, 1, 88]), (21, .iload_n 3, 1, []), (22, .invokevirtual 105, 3, [88, 1, 105, 8]), (25, .ifCond .eq 7, 3, [16]), (28, .iconst 1, 1, []), (29, .goto 4, 3, [17]), (32, .iconst 0, 1, []), (33, .ireturn, 1, [])]
def rd_c119 : List rd_Et := [(0, .aload_n 0, 1, []), (1, .getfield 42, 3, [11, 3, 90]), (4, .invokevirtual 167, 3, [48, 0, 122, 4]), (7, .ifCond .ne 7, 3, [6]), (10, .sipush (-1001), 3, []), (13, .ireturn, 1, []), (14, .iload_n 1, 1, []), (15, .tableswitch 72 0 3 #[29, 39, 50, 61], 29, [32, 8, 14, 20, 26]), (44, .aload_n 0, 1, []), (45, .getfield 42, 3, [11, 3, 90]), (48, .getfield 161, 3, [4, 1, 98]), (51, .iconst 5, 1, []), (52, .iaload, 1, []), (53, .ireturn, 1, []), (54, .aload_n 0, 1, []), (55, .getfield 42, 3, [11, 3, 90]), (58, .getfield 161, 3, [4, 1, 98]), (61, .bipush 7, 2, []), (63, .iaload, 1, []), (64, .ireturn, 1, []), (65, .aload_n 0, 1, []), (66, .getfield 42, 3, [11, 3, 90]), (69, .getfield 161, 3, [4, 1, 98]), (72, .bipush 8, 2, []), (74, .iaload, 1, []), (75, .ireturn, 1, []), (76, .aload_n 0, 1, []), (77, .getfield 42, 3, [11, 3, 90]), (80, .getfield 161, 3, [4, 1, 98]), (83, .bipush 6, 2, []), (85, .iaload, 1, []), (86, .ireturn, 1, []), (87, .sipush (-1001), 3, []), (90, .ireturn, 1, [])]
def rd_c120 : List rd_Et := [(0, .iload_n 1, 1, []), (1, .ifCond .lt 24, 3, [12]), (4, .iload_n 1, 1, []), (5, .aload_n 0, 1, []), (6, .getfield 42, 3, [11, 3, 90]), (9, .invokevirtual 171, 3, [49, 0, 123, 4]), (12, .if_icmp .ge 13, 3, [12]), (15, .iload_n 2, 1, []), (16, .ifCond .lt 9, 3, [12]), (19, .iload_n 2, 1, []), (20, .bipush 9, 2, []), (22, .if_icmp .lt 7, 3, [14]), (25, .sipush (-1001), 3, []), (28, .ireturn, 1, []), (29, .aload_n 0, 1, []), (30, .getfield 42, 3, [11, 3, 90]), (33, .iload_n 1, 1, []), (34, .iload_n 2, 1, []), (35, .invokevirtual 175, 3, [51, 2, 124, 4]), (38, .ireturn, 1, [])]
def rd_c121 : List rd_Et := [(0, .aload_n 0, 1, []), (1, .getfield 21, 3, [11, 1, 88]), (4, .iload_n 1, 1, []), (5, .iload_n 2, 1, []), (6, .invokevirtual 114, 3, [92, 2, 107, 8]), (9, .istore 5, 2, []), (11, .iload 5, 2, []), (13, .iconst (-1), 1, []), (14, .if_icmp .eq 13, 3, [14]), (17, .iload_n 3, 1, []), (18, .ifCond .lt 9, 3, [14]), (21, .iload 4, 2, []), (23, .iload_n 3, 1, []), (24, .if_icmp .ge 5, 3, [16]), (27, .iconst (-1), 1, []), (28, .ireturn, 1, []), (29, .aload_n 0, 1, []), (30, .getfield 60, 3, [11, 5, 92]), (33, .iload_n 1, 1, []), (34, .iload_n 2, 1, []), (35, .iload 5, 2, []), (37, .iload_n 3, 1, []), (38, .iload 4, 2, []), (40, .invokevirtual 178, 3, [21, 5, 125, 2]), (43, .ireturn, 1, [])]
def rd_c122 : List rd_Et := [(0, .aload_n 0, 1, []), (1, .getfield 60, 3, [11, 5, 92]), (4, .getfield 180, 3, [2, 0, 99]), (7, .iload_n 1, 1, []), (8, .iload_n 2, 1, []), (9, .iload_n 3, 1, []), (10, .iload 4, 2, []), (12, .iload 5, 2, []), (14, .invokevirtual 124, 3, [61, 5, 109, 5]), (17, .ireturn, 1, [])]
def rd_c123 : List rd_Et := [(0, .aload_n 0, 1, []), (1, .getfield 60, 3, [11, 5, 92]), (4, .getfield 180, 3, [2, 0, 99]), (7, .astore_n 3, 1, []), (8, .aload_n 3, 1, []), (9, .iload_n 1, 1, []), (10, .invokevirtual 131, 3, [56, 1, 111, 5]), (13, .ifCond .eq 16, 3, [15]), (16, .aload_n 3, 1, []), (17, .iload_n 2, 1, []), (18, .invokevirtual 131, 3, [56, 1, 111, 5]), (21, .ifCond .eq 8, 3, [15]), (24, .iload_n 1, 1, []), (25, .iload_n 2, 1, []), (26, .if_icmp .ne 5, 3, [17]), (29, .iconst (-1), 1, []), (30, .ireturn, 1, []), (31, .aload_n 0, 1, []), (32, .getfield 60, 3, [11, 5, 92]), (35, .iload_n 1, 1, []), (36, .iload_n 2, 1, []), (37, .invokevirtual 181, 3, [23, 2, 126, 2]), (40, .ireturn, 1, [])]
def rd_c124 : List rd_Et := [(0, .aload_n 0, 1, []), (1, .getfield 21, 3, [11, 1, 88]), (4, .iload_n 1, 1, []), (5, .invokevirtual 105, 3, [88, 1, 105, 8]), (8, .ifCond .ne 5, 3, [7]), (11, .iconst (-1), 1, []), (12, .ireturn, 1, []), (13, .aload_n 0, 1, []), (14, .getfield 21, 3, [11, 1, 88]), (17, .iload_n 1, 1, []), (18, .iload_n 2, 1, []), (19, .invokevirtual 184, 3, [94, 2, 127, 8]), (22, .ifCond .eq 7, 3, [15]), (25, .iconst 1, 1, []), (26, .goto 4, 3, [16]), (29, .iconst 0, 1, []), (30, .ireturn, 1, [])]
def rd_c125 : List rd_Et := [(0, .aload_n 0, 1, []), (1, .getfield 60, 3, [11, 5, 92]), (4, .getfield 180, 3, [2, 0, 99]), (7, .iload_n 1, 1, []), (8, .invokevirtual 131, 3, [56, 1, 111, 5]), (11, .ifCond .ne 5, 3, [8]), (14, .iconst (-1), 1, []), (15, .ireturn, 1, []), (16, .aload_n 0, 1, []), (17, .getfield 60, 3, [11, 5, 92]), (20, .iload_n 1, 1, []), (21, .aload_n 0, 1, []), (22, .getfield 42, 3, [11, 3, 90]), (25, .invokevirtual 188, 3, [24, 2, 128, 2]), (28, .ireturn, 1, [])]
def rd_c126 : List rd_Et := [(0, .aload_n 0, 1, []), (1, .getfield 60, 3, [11, 5, 92]), (4, .aload_n 0, 1, []), (5, .getfield 42, 3, [11, 3, 90]), (8, .invokevirtual 192, 3, [25, 1, 129, 2]), (11, .aload_n 0, 1, []), (12, .getfield 67, 3, [11, 6, 93]), (15, .aload_n 0, 1, []), (16, .getfield 60, 3, [11, 5, 92]), (19, .aload_n 0, 1, []), (20, .getfield 42, 3, [11, 3, 90]), (23, .aload_n 0, 1, []), (24, .getfield 21, 3, [11, 1, 88]), (27, .invokevirtual 196, 3, [103, 3, 130, 10]), (30, .aload_n 0, 1, []), (31, .getfield 67, 3, [11, 6, 93]), (34, .invokevirtual 200, 3, [101, 0, 131, 10]), (37, .ireturn, 1, [])]
def rd_c127 : List rd_Et := [(0, .iload_n 1, 1, []), (1, .ifCond .lt 23, 3, [12]), (4, .iload_n 1, 1, []), (5, .aload_n 0, 1, []), (6, .getfield 67, 3, [11, 6, 93]), (9, .invokevirtual 200, 3, [101, 0, 131, 10]), (12, .if_icmp .ge 12, 3, [12]), (15, .iload_n 2, 1, []), (16, .ifCond .lt 8, 3, [12]), (19, .iload_n 2, 1, []), (20, .iconst 3, 1, []), (21, .if_icmp .lt 5, 3, [14]), (24, .iconst (-1), 1, []), (25, .ireturn, 1, []), (26, .aload_n 0, 1, []), (27, .getfield 67, 3, [11, 6, 93]), (30, .iload_n 1, 1, []), (31, .iload_n 2, 1, []), (32, .invokevirtual 201, 3, [102, 2, 132, 10]), (35, .ireturn, 1, [])]
def rd_c128 : List rd_Et := [(0, .iload_n 1, 1, []), (1, .iload_n 2, 1, []), (2, .iload_n 3, 1, []), (3, .iload 4, 2, []), (5, .invokestatic 204, 3, [15, 4, 133]), (8, .ifCond .ne 5, 3, [8]), (11, .iconst (-1), 1, []), (12, .ireturn, 1, []), (13, .aload_n 0, 1, []), (14, .getfield 74, 3, [11, 7, 94]), (17, .iload_n 1, 1, []), (18, .iload_n 2, 1, []), (19, .iload_n 3, 1, []), (20, .iload 4, 2, []), (22, .invokevirtual 208, 3, [18, 4, 134, 1]), (25, .ireturn, 1, [])]
def rd_c129 : List rd_Et := [(0, .aload_n 0, 1, []), (1, .getfield 74, 3, [11, 7, 94]), (4, .invokevirtual 211, 3, [19, 0, 135, 1]), (7, .ireturn, 1, [])]
def rd_c130 : List rd_Et := [(0, .iload_n 1, 1, []), (1, .iconst 1, 1, []), (2, .if_icmp .lt 10, 3, [6]), (5, .iload_n 1, 1, []), (6, .sipush 1000, 3, []), (9, .if_icmp .le 5, 3, [8]), (12, .iconst (-1), 1, []), (13, .ireturn, 1, []), (14, .aload_n 0, 1, []), (15, .getfield 83, 3, [11, 8, 95]), (18, .invokevirtual 214, 3, [1, 0, 136, 0]), (21, .ifCond .eq 6, 3, [14]), (24, .bipush (-3), 2, []), (26, .ireturn, 1, []), (27, .aload_n 0, 1, []), (28, .getfield 83, 3, [11, 8, 95]), (31, .invokevirtual 217, 3, [3, 0, 137, 0]), (34, .iconst 0, 1, []), (35, .istore_n 2, 1, []), (36, .iload_n 2, 1, []), (37, .iload_n 1, 1, []), (38, .if_icmp .ge 54, 3, [47]), (41, .aload_n 0, 1, []), (42, .getfield 83, 3, [11, 8, 95]), (45, .invokevirtual 219, 3, [4, 0, 138, 0]), (48, .ifCond .eq 44, 3, [47]), (51, .aload_n 0, 1, []), (52, .getfield 83, 3, [11, 8, 95]), (55, .invokevirtual 222, 3, [5, 0, 139, 0]), (58, .istore_n 3, 1, []), (59, .iload_n 3, 1, []), (60, .iconst (-1), 1, []), (61, .if_icmp .eq 18, 3, [42]), (64, .aload_n 0, 1, []), (65, .getfield 83, 3, [11, 8, 95]), (68, .iload_n 3, 1, []), (69, .invokevirtual 225, 3, [9, 1, 140, 0]), (72, .ifCond .ne 7, 3, [42]), (75, .iload_n 3, 1, []), (76, .iconst 1, 1, []), (77, .iadd, 1, []), (78, .ireturn, 1, []), (79, .aload_n 0, 1, []), (80, .getfield 83, 3, [11, 8, 95]), (83, .invokevirtual 228, 3, [10, 0, 141, 0]), (86, .iinc 2 1, 3, []), (89, .goto (-53), 3, [19]), (92, .aload_n 0, 1, []), (93, .getfield 83, 3, [11, 8, 95]), (96, .invokevirtual 219, 3, [4, 0, 138, 0]), (99, .ifCond .eq 8, 3, [53]), (102, .bipush (-4), 2, []), (104, .goto 4, 3, [54]), (107, .iconst 0, 1, []), (108, .ireturn, 1, [])]
def rd_c131 : List rd_Et := [(0, .iload_n 1, 1, []), (1, .ifCond .lt 9, 3, [5]), (4, .iload_n 1, 1, []), (5, .bipush 12, 2, []), (7, .if_icmp .lt 7, 3, [7]), (10, .sipush (-1001), 3, []), (13, .ireturn, 1, []), (14, .iload_n 1, 1, []), (15, .bipush 8, 2, []), (17, .if_icmp .ge 15, 3, [16]), (20, .aload_n 0, 1, []), (21, .getfield 83, 3, [11, 8, 95]), (24, .getfield 231, 3, [0, 5, 100]), (27, .iload_n 1, 1, []), (28, .iaload, 1, []), (29, .goto 15, 3, [23]), (32, .aload_n 0, 1, []), (33, .getfield 83, 3, [11, 8, 95]), (36, .getfield 234, 3, [0, 6, 101]), (39, .iload_n 1, 1, []), (40, .bipush 8, 2, []), (42, .isub, 1, []), (43, .iaload, 1, []), (44, .ireturn, 1, [])]
def rd_c132 : List rd_Et := [(0, .iload_n 1, 1, []), (1, .ifCond .lt 14, 3, [7]), (4, .iload_n 1, 1, []), (5, .aload_n 0, 1, []), (6, .getfield 83, 3, [11, 8, 95]), (9, .invokevirtual 237, 3, [11, 0, 142, 0]), (12, .if_icmp .lt 7, 3, [9]), (15, .sipush (-1001), 3, []), (18, .ireturn, 1, []), (19, .aload_n 0, 1, []), (20, .getfield 83, 3, [11, 8, 95]), (23, .iload_n 1, 1, []), (24, .invokevirtual 240, 3, [12, 1, 143, 0]), (27, .ireturn, 1, [])]
def rd_c133 : List rd_Et := [(0, .iload_n 1, 1, []), (1, .tableswitch 141 0 9 #[55, 63, 71, 82, 90, 98, 109, 117, 125, 133], 55, [44, 2, 6, 10, 15, 19, 23, 28, 32, 36, 40]), (56, .aload_n 0, 1, []), (57, .getfield 10, 3, [11, 0, 87]), (60, .invokevirtual 243, 3, [33, 0, 144, 3]), (63, .ireturn, 1, []), (64, .aload_n 0, 1, []), (65, .getfield 21, 3, [11, 1, 88]), (68, .invokevirtual 244, 3, [87, 0, 145, 8]), (71, .ireturn, 1, []), (72, .aload_n 0, 1, []), (73, .getfield 35, 3, [11, 2, 89]), (76, .getfield 117, 3, [6, 0, 97]), (79, .invokevirtual 245, 3, [55, 0, 146, 5]), (82, .ireturn, 1, []), (83, .aload_n 0, 1, []), (84, .getfield 42, 3, [11, 3, 90]), (87, .invokevirtual 171, 3, [49, 0, 123, 4]), (90, .ireturn, 1, []), (91, .aload_n 0, 1, []), (92, .getfield 42, 3, [11, 3, 90]), (95, .invokevirtual 246, 3, [50, 0, 147, 4]), (98, .ireturn, 1, []), (99, .aload_n 0, 1, []), (100, .getfield 60, 3, [11, 5, 92]), (103, .getfield 180, 3, [2, 0, 99]), (106, .invokevirtual 245, 3, [55, 0, 146, 5]), (109, .ireturn, 1, []), (110, .aload_n 0, 1, []), (111, .getfield 60, 3, [11, 5, 92]), (114, .invokevirtual 249, 3, [22, 0, 148, 2]), (117, .ireturn, 1, []), (118, .aload_n 0, 1, []), (119, .getfield 74, 3, [11, 7, 94]), (122, .invokevirtual 252, 3, [17, 0, 149, 1]), (125, .ireturn, 1, []), (126, .aload_n 0, 1, []), (127, .getfield 83, 3, [11, 8, 95]), (130, .invokevirtual 253, 3, [2, 0, 150, 0]), (133, .ireturn, 1, []), (134, .aload_n 0, 1, []), (135, .getfield 83, 3, [11, 8, 95]), (138, .invokevirtual 237, 3, [11, 0, 142, 0]), (141, .ireturn, 1, []), (142, .aload_n 0, 1, []), (143, .iload_n 1, 1, []), (144, .invokevirtual 256, 3, [134, 1, 151, 11]), (147, .ireturn, 1, [])]
def rd_c134 : List rd_Et := [(0, .iload_n 1, 1, []), (1, .bipush 10, 2, []), (3, .if_icmp .lt 17, 3, [10]), (6, .aload_n 0, 1, []), (7, .getfield 10, 3, [11, 0, 87]), (10, .iload_n 1, 1, []), (11, .bipush 10, 2, []), (13, .isub, 1, []), (14, .invokevirtual 87, 3, [34, 1, 100, 3]), (17, .ifCond .ne 5, 3, [12]), (20, .iconst (-1), 1, []), (21, .ireturn, 1, []), (22, .aload_n 0, 1, []), (23, .getfield 10, 3, [11, 0, 87]), (26, .iload_n 1, 1, []), (27, .bipush 10, 2, []), (29, .isub, 1, []), (30, .invokevirtual 259, 3, [40, 1, 152, 3]), (33, .ireturn, 1, [])]
def rd_c135 : List rd_Et := [(0, .aload_n 0, 1, []), (1, .getfield 42, 3, [11, 3, 90]), (4, .invokevirtual 171, 3, [49, 0, 123, 4]), (7, .istore_n 1, 1, []), (8, .aload_n 0, 1, []), (9, .getfield 42, 3, [11, 3, 90]), (12, .invokevirtual 262, 3, [53, 0, 153, 4]), (15, .aload_n 0, 1, []), (16, .getfield 35, 3, [11, 2, 89]), (19, .invokevirtual 265, 3, [75, 0, 154, 6]), (22, .aload_n 0, 1, []), (23, .getfield 83, 3, [11, 8, 95]), (26, .invokevirtual 268, 3, [13, 0, 155, 0]), (29, .aload_n 0, 1, []), (30, .getfield 51, 3, [11, 4, 91]), (33, .getfield 110, 3, [7, 5, 96]), (36, .iconst 0, 1, []), (37, .invokestatic 271, 3, [193, 2, 156]), (40, .iload_n 1, 1, []), (41, .ireturn, 1, [])]
def rd_c136 : List rd_Et := [(0, .aload_n 0, 1, []), (1, .invokespecial 1, 3, [2000, 157]), (4, .aload_n 0, 1, []), (5, .bipush 12, 2, []), (7, .newarray .int, 2, []), (9, .putfield 7, 3, [12, 1, 102, 2]), (12, .aload_n 0, 1, []), (13, .bipush 12, 2, []), (15, .newarray .int, 2, []), (17, .putfield 13, 3, [12, 2, 103, 2]), (20, .aload_n 0, 1, []), (21, .bipush 96, 2, []), (23, .newarray .int, 2, []), (25, .putfield 16, 3, [12, 3, 104, 2]), (28, .aload_n 0, 1, []), (29, .bipush 96, 2, []), (31, .newarray .int, 2, []), (33, .putfield 19, 3, [12, 4, 105, 2]), (36, .aload_n 0, 1, []), (37, .bipush 96, 2, []), (39, .newarray .int, 2, []), (41, .putfield 22, 3, [12, 5, 106, 2]), (44, .aload_n 0, 1, []), (45, .bipush 96, 2, []), (47, .newarray .int, 2, []), (49, .putfield 25, 3, [12, 6, 107, 2]), (52, .aload_n 0, 1, []), (53, .bipush 24, 2, []), (55, .newarray .int, 2, []), (57, .putfield 28, 3, [12, 8, 108, 2]), (60, .aload_n 0, 1, []), (61, .bipush 24, 2, []), (63, .newarray .int, 2, []), (65, .putfield 31, 3, [12, 9, 109, 2]), (68, .aload_n 0, 1, []), (69, .bipush 6, 2, []), (71, .newarray .int, 2, []), (73, .putfield 34, 3, [12, 10, 110, 2]), (76, .aload_n 0, 1, []), (77, .bipush 120, 2, []), (79, .newarray .int, 2, []), (81, .putfield 37, 3, [12, 11, 111, 2]), (84, .aload_n 0, 1, []), (85, .bipush 120, 2, []), (87, .newarray .int, 2, []), (89, .putfield 40, 3, [12, 12, 112, 2]), (92, .aload_n 0, 1, []), (93, .sipush 360, 3, []), (96, .newarray .int, 2, []), (98, .putfield 43, 3, [12, 13, 113, 2]), (101, .aload_n 0, 1, []), (102, .sipush 360, 3, []), (105, .newarray .int, 2, []), (107, .putfield 46, 3, [12, 14, 114, 2]), (110, .aload_n 0, 1, []), (111, .sipush 360, 3, []), (114, .newarray .int, 2, []), (116, .putfield 49, 3, [12, 15, 115, 2]), (119, .aload_n 0, 1, []), (120, .bipush 80, 2, []), (122, .newarray .int, 2, []), (124, .putfield 52, 3, [12, 17, 116, 2]), (127, .aload_n 0, 1, []), (128, .sipush 480, 3, []), (131, .newarray .int, 2, []), (133, .putfield 55, 3, [12, 18, 117, 2]), (136, .aload_n 0, 1, []), (137, .sipush 480, 3, []), (140, .newarray .int, 2, []), (142, .putfield 58, 3, [12, 19, 118, 2]), (145, .aload_n 0, 1, []), (146, .bipush 80, 2, []), (148, .newarray .int, 2, []), (150, .putfield 61, 3, [12, 20, 119, 2]), (153, .aload_n 0, 1, []), (154, .sipush 240, 3, []), (157, .newarray .boolean, 2, []), (159, .putfield 64, 3, [12, 21, 120, 2]), (162, .aload_n 0, 1, []), (163, .sipush 240, 3, []), (166, .newarray .int, 2, []), (168, .putfield 68, 3, [12, 22, 121, 2]), (171, .aload_n 0, 1, []), (172, .sipush 4500, 3, []), (175, .newarray .int, 2, []), (177, .putfield 71, 3, [12, 25, 122, 2]), (180, .aload_n 0, 1, []), (181, .iconst 4, 1, []), (182, .newarray .int, 2, []), (184, .putfield 74, 3, [12, 27, 123, 2]), (187, .aload_n 0, 1, []), (188, .bipush 40, 2, []), (190, .newarray .int, 2, []), (192, .putfield 77, 3, [12, 33, 124, 2]), (195, .aload_n 0, 1, []), (196, .bipush 40, 2, []), (198, .newarray .int, 2, []), (200, .putfield 80, 3, [12, 34, 125, 2]), (203, .aload_n 0, 1, []), (204, .bipush 40, 2, []), (206, .newarray .int, 2, []), (208, .putfield 83, 3, [12, 36, 126, 2]), (211, .aload_n 0, 1, []), (212, .bipush 40, 2, []), (214, .newarray .int, 2, []), (216, .putfield 86, 3, [12, 37, 127, 2]), (219, .aload_n 0, 1, []), (220, .bipush 24, 2, []), (222, .newarray .boolean, 2, []), (224, .putfield 89, 3, [12, 38, 128, 2]), (227, .aload_n 0, 1, []), (228, .sipush 180, 3, []), (231, .newarray .int, 2, []), (233, .putfield 92, 3, [12, 40, 129, 2]), (236, .aload_n 0, 1, []), (237, .bipush 60, 2, []), (239, .newarray .int, 2, []), (241, .putfield 95, 3, [12, 42, 130, 2]), (244, .aload_n 0, 1, []), (245, .bipush 60, 2, []), (247, .newarray .int, 2, []), (249, .putfield 98, 3, [12, 43, 131, 2]), (252, .aload_n 0, 1, []), (253, .bipush 60, 2, []), (255, .newarray .int, 2, []), (257, .putfield 101, 3, [12, 44, 132, 2]), (260, .aload_n 0, 1, []), (261, .bipush 60, 2, []), (263, .newarray .int, 2, []), (265, .putfield 104, 3, [12, 45, 133, 2]), (268, .aload_n 0, 1, []), (269, .bipush 8, 2, []), (271, .newarray .int, 2, []), (273, .putfield 107, 3, [12, 46, 134, 2]), (276, .aload_n 0, 1, []), (277, .iconst 4, 1, []), (278, .newarray .int, 2, []), (280, .putfield 110, 3, [12, 47, 135, 2]), (283, .aload_n 0, 1, []), (284, .iconst 1, 1, []), (285, .putfield 113, 3, [12, 48, 136, 1]), (288, .aload_n 0, 1, []), (289, .bipush 100, 2, []), (291, .newarray .int, 2, []), (293, .putfield 117, 3, [12, 51, 137, 2]), (296, .aload_n 0, 1, []), (297, .bipush 10, 2, []), (299, .newarray .int, 2, []), (301, .putfield 120, 3, [12, 53, 138, 2]), (304, .aload_n 0, 1, []), (305, .bipush 10, 2, []), (307, .newarray .int, 2, []), (309, .putfield 123, 3, [12, 54, 139, 2]), (312, .aload_n 0, 1, []), (313, .bipush 10, 2, []), (315, .newarray .int, 2, []), (317, .putfield 126, 3, [12, 55, 140, 2]), (320, .return_, 1, [])]
def rd_c137 : List rd_Et := [(0, .iload_n 0, 1, []), (1, .iload_n 1, 1, []), (2, .if_icmp .lt 12, 3, [8]), (5, .iload_n 0, 1, []), (6, .iload_n 2, 1, []), (7, .if_icmp .gt 7, 3, [8]), (10, .iconst 1, 1, []), (11, .goto 4, 3, [9]), (14, .iconst 0, 1, []), (15, .ireturn, 1, [])]
def rd_c138 : List rd_Et := [(0, .iload_n 1, 1, []), (1, .iconst (-1), 1, []), (2, .aload_n 0, 1, []), (3, .getfield 129, 3, [12, 0, 141]), (6, .iconst 1, 1, []), (7, .isub, 1, []), (8, .invokestatic 133, 3, [137, 3, 158]), (11, .ifCond .ne 5, 3, [10]), (14, .iconst (-1), 1, []), (15, .ireturn, 1, []), (16, .aload_n 0, 1, []), (17, .getfield 129, 3, [12, 0, 141]), (20, .bipush 12, 2, []), (22, .if_icmp .ne 6, 3, [16]), (25, .bipush (-3), 2, []), (27, .ireturn, 1, []), (28, .aload_n 0, 1, []), (29, .getfield 7, 3, [12, 1, 102]), (32, .aload_n 0, 1, []), (33, .getfield 129, 3, [12, 0, 141]), (36, .iload_n 1, 1, []), (37, .iastore, 1, []), (38, .aload_n 0, 1, []), (39, .getfield 13, 3, [12, 2, 103]), (42, .aload_n 0, 1, []), (43, .getfield 129, 3, [12, 0, 141]), (46, .iload_n 1, 1, []), (47, .ifCond .ge 7, 3, [30]), (50, .iconst 0, 1, []), (51, .goto 9, 3, [34]), (54, .aload_n 0, 1, []), (55, .getfield 13, 3, [12, 2, 103]), (58, .iload_n 1, 1, []), (59, .iaload, 1, []), (60, .iastore, 1, []), (61, .iconst 0, 1, []), (62, .istore_n 2, 1, []), (63, .iload_n 2, 1, []), (64, .aload_n 0, 1, []), (65, .getfield 13, 3, [12, 2, 103]), (68, .aload_n 0, 1, []), (69, .getfield 129, 3, [12, 0, 141]), (72, .iaload, 1, []), (73, .if_icmp .ge 79, 3, [91]), (76, .bipush 8, 2, []), (78, .iload_n 1, 1, []), (79, .imul, 1, []), (80, .iload_n 2, 1, []), (81, .iadd, 1, []), (82, .istore_n 3, 1, []), (83, .bipush 8, 2, []), (85, .aload_n 0, 1, []), (86, .getfield 129, 3, [12, 0, 141]), (89, .imul, 1, []), (90, .iload_n 2, 1, []), (91, .iadd, 1, []), (92, .istore 4, 2, []), (94, .aload_n 0, 1, []), (95, .getfield 16, 3, [12, 3, 104]), (98, .iload 4, 2, []), (100, .aload_n 0, 1, []), (101, .getfield 16, 3, [12, 3, 104]), (104, .iload_n 3, 1, []), (105, .iaload, 1, []), (106, .iastore, 1, []), (107, .aload_n 0, 1, []), (108, .getfield 19, 3, [12, 4, 105]), (111, .iload 4, 2, []), (113, .aload_n 0, 1, []), (114, .getfield 19, 3, [12, 4, 105]), (117, .iload_n 3, 1, []), (118, .iaload, 1, []), (119, .iastore, 1, []), (120, .aload_n 0, 1, []), (121, .getfield 22, 3, [12, 5, 106]), (124, .iload 4, 2, []), (126, .aload_n 0, 1, []), (127, .getfield 22, 3, [12, 5, 106]), (130, .iload_n 3, 1, []), (131, .iaload, 1, []), (132, .iastore, 1, []), (133, .aload_n 0, 1, []), (134, .getfield 25, 3, [12, 6, 107]), (137, .iload 4, 2, []), (139, .aload_n 0, 1, []), (140, .getfield 25, 3, [12, 6, 107]), (143, .iload_n 3, 1, []), (144, .iaload, 1, []), (145, .iastore, 1, []), (146, .iinc 2 1, 3, []), (149, .goto (-86), 3, [37]), (152, .aload_n 0, 1, []), (153, .dup, 1, []), (154, .getfield 129, 3, [12, 0, 141]), (157, .iconst 1, 1, []), (158, .iadd, 1, []), (159, .putfield 129, 3, [12, 0, 141, 0]), (162, .aload_n 0, 1, []), (163, .getfield 129, 3, [12, 0, 141]), (166, .iconst 1, 1, []), (167, .isub, 1, []), (168, .ireturn, 1, [])]
def rd_c139 : List rd_Et := [(0, .iload_n 1, 1, []), (1, .istore_n 3, 1, []), (2, .iload_n 3, 1, []), (3, .ifCond .lt 18, 3, [13]), (6, .iload_n 3, 1, []), (7, .iload_n 2, 1, []), (8, .if_icmp .eq 13, 3, [13]), (11, .aload_n 0, 1, []), (12, .getfield 7, 3, [12, 1, 102]), (15, .iload_n 3, 1, []), (16, .iaload, 1, []), (17, .istore_n 3, 1, []), (18, .goto (-16), 3, [2]), (21, .iload_n 3, 1, []), (22, .ifCond .lt 7, 3, [17]), (25, .iconst 1, 1, []), (26, .goto 4, 3, [18]), (29, .iconst 0, 1, []), (30, .ireturn, 1, [])]
def rd_c140 : List rd_Et := [(0, .iload_n 1, 1, []), (1, .iconst 0, 1, []), (2, .aload_n 0, 1, []), (3, .getfield 129, 3, [12, 0, 141]), (6, .iconst 1, 1, []), (7, .isub, 1, []), (8, .invokestatic 133, 3, [137, 3, 158]), (11, .ifCond .eq 47, 3, [32]), (14, .iload_n 2, 1, []), (15, .iconst 0, 1, []), (16, .iconst 3, 1, []), (17, .invokestatic 133, 3, [137, 3, 158]), (20, .ifCond .eq 38, 3, [32]), (23, .iload_n 3, 1, []), (24, .iconst 0, 1, []), (25, .iconst 1, 1, []), (26, .iload_n 2, 1, []), (27, .ishl, 1, []), (28, .iconst 1, 1, []), (29, .isub, 1, []), (30, .invokestatic 133, 3, [137, 3, 158]), (33, .ifCond .eq 25, 3, [32]), (36, .iload 4, 2, []), (38, .iconst 0, 1, []), (39, .iconst 2, 1, []), (40, .invokestatic 133, 3, [137, 3, 158]), (43, .ifCond .eq 15, 3, [32]), (46, .iload 5, 2, []), (48, .iconst 0, 1, []), (49, .sipush 255, 3, []), (52, .invokestatic 133, 3, [137, 3, 158]), (55, .ifCond .ne 5, 3, [34]), (58, .iconst (-1), 1, []), (59, .ireturn, 1, []), (60, .iconst 0, 1, []), (61, .istore 6, 2, []), (63, .iconst 0, 1, []), (64, .istore 7, 2, []), (66, .iload 7, 2, []), (68, .aload_n 0, 1, []), (69, .getfield 129, 3, [12, 0, 141]), (72, .if_icmp .ge 32, 3, [56]), (75, .iload 6, 2, []), (77, .ifCond .ne 14, 3, [50]), (80, .aload_n 0, 1, []), (81, .getfield 7, 3, [12, 1, 102]), (84, .iload 7, 2, []), (86, .iaload, 1, []), (87, .iload_n 1, 1, []), (88, .if_icmp .ne 7, 3, [52]), (91, .iconst 1, 1, []), (92, .goto 4, 3, [53]), (95, .iconst 0, 1, []), (96, .istore 6, 2, []), (98, .iinc 7 1, 3, []), (101, .goto (-35), 3, [38]), (104, .iconst 0, 1, []), (105, .istore 7, 2, []), (107, .iload 7, 2, []), (109, .aload_n 0, 1, []), (110, .getfield 137, 3, [12, 7, 142]), (113, .if_icmp .ge 36, 3, [78]), (116, .iload 6, 2, []), (118, .ifCond .ne 18, 3, [72]), (121, .aload_n 0, 1, []), (122, .aload_n 0, 1, []), (123, .getfield 28, 3, [12, 8, 108]), (126, .iload 7, 2, []), (128, .iaload, 1, []), (129, .iload_n 1, 1, []), (130, .invokevirtual 140, 3, [139, 2, 159, 12]), (133, .ifCond .eq 7, 3, [74]), (136, .iconst 1, 1, []), (137, .goto 4, 3, [75]), (140, .iconst 0, 1, []), (141, .istore 6, 2, []), (143, .iinc 7 1, 3, []), (146, .goto (-39), 3, [58]), (149, .iload 6, 2, []), (151, .ifCond .eq 6, 3, [82]), (154, .bipush (-2), 2, []), (156, .ireturn, 1, []), (157, .aload_n 0, 1, []), (158, .getfield 13, 3, [12, 2, 103]), (161, .iload_n 1, 1, []), (162, .iaload, 1, []), (163, .bipush 8, 2, []), (165, .if_icmp .ne 6, 3, [90]), (168, .bipush (-3), 2, []), (170, .ireturn, 1, []), (171, .bipush 8, 2, []), (173, .iload_n 1, 1, []), (174, .imul, 1, []), (175, .aload_n 0, 1, []), (176, .getfield 13, 3, [12, 2, 103]), (179, .iload_n 1, 1, []), (180, .iaload, 1, []), (181, .iadd, 1, []), (182, .istore 7, 2, []), (184, .aload_n 0, 1, []), (185, .getfield 16, 3, [12, 3, 104]), (188, .iload 7, 2, []), (190, .iload_n 2, 1, []), (191, .iastore, 1, []), (192, .aload_n 0, 1, []), (193, .getfield 19, 3, [12, 4, 105]), (196, .iload 7, 2, []), (198, .iload_n 3, 1, []), (199, .iastore, 1, []), (200, .aload_n 0, 1, []), (201, .getfield 22, 3, [12, 5, 106]), (204, .iload 7, 2, []), (206, .iload 4, 2, []), (208, .iastore, 1, []), (209, .aload_n 0, 1, []), (210, .getfield 25, 3, [12, 6, 107]), (213, .iload 7, 2, []), (215, .iload 5, 2, []), (217, .iastore, 1, []), (218, .aload_n 0, 1, []), (219, .getfield 13, 3, [12, 2, 103]), (222, .iload_n 1, 1, []), (223, .dup2, 1, []), (224, .iaload, 1, []), (225, .iconst 1, 1, []), (226, .iadd, 1, []), (227, .iastore, 1, []), (228, .aload_n 0, 1, []), (229, .getfield 13, 3, [12, 2, 103]), (232, .iload_n 1, 1, []), (233, .iaload, 1, []), (234, .iconst 1, 1, []), (235, .isub, 1, []), (236, .ireturn, 1, [])]
def rd_c141 : List rd_Et := [(0, .iload_n 1, 1, []), (1, .iconst 0, 1, []), (2, .aload_n 0, 1, []), (3, .getfield 129, 3, [12, 0, 141]), (6, .iconst 1, 1, []), (7, .isub, 1, []), (8, .invokestatic 133, 3, [137, 3, 158]), (11, .ifCond .eq 12, 3, [13]), (14, .iload_n 2, 1, []), (15, .iconst (-1), 1, []), (16, .iconst 5, 1, []), (17, .invokestatic 133, 3, [137, 3, 158]), (20, .ifCond .ne 5, 3, [15]), (23, .iconst (-1), 1, []), (24, .ireturn, 1, []), (25, .aload_n 0, 1, []), (26, .getfield 137, 3, [12, 7, 142]), (29, .bipush 24, 2, []), (31, .if_icmp .ne 6, 3, [21]), (34, .bipush (-3), 2, []), (36, .ireturn, 1, []), (37, .aload_n 0, 1, []), (38, .getfield 28, 3, [12, 8, 108]), (41, .aload_n 0, 1, []), (42, .getfield 137, 3, [12, 7, 142]), (45, .iload_n 1, 1, []), (46, .iastore, 1, []), (47, .aload_n 0, 1, []), (48, .getfield 31, 3, [12, 9, 109]), (51, .aload_n 0, 1, []), (52, .getfield 137, 3, [12, 7, 142]), (55, .iload_n 2, 1, []), (56, .iastore, 1, []), (57, .aload_n 0, 1, []), (58, .dup, 1, []), (59, .getfield 137, 3, [12, 7, 142]), (62, .iconst 1, 1, []), (63, .iadd, 1, []), (64, .putfield 137, 3, [12, 7, 142, 0]), (67, .aload_n 0, 1, []), (68, .getfield 137, 3, [12, 7, 142]), (71, .iconst 1, 1, []), (72, .isub, 1, []), (73, .ireturn, 1, [])]
def rd_c142 : List rd_Et := [(0, .iload_n 1, 1, []), (1, .iconst 0, 1, []), (2, .aload_n 0, 1, []), (3, .getfield 137, 3, [12, 7, 142]), (6, .iconst 1, 1, []), (7, .isub, 1, []), (8, .invokestatic 133, 3, [137, 3, 158]), (11, .ireturn, 1, [])]
def rd_c143 : List rd_Et := [(0, .aload_n 0, 1, []), (1, .iload_n 1, 1, []), (2, .invokevirtual 144, 3, [142, 1, 160, 12]), (5, .ifCond .eq 17, 3, [12]), (8, .iload_n 2, 1, []), (9, .iconst 0, 1, []), (10, .aload_n 0, 1, []), (11, .getfield 129, 3, [12, 0, 141]), (14, .iconst 1, 1, []), (15, .isub, 1, []), (16, .invokestatic 133, 3, [137, 3, 158]), (19, .ifCond .ne 7, 3, [14]), (22, .iconst (-1), 1, []), (23, .goto 22, 3, [25]), (26, .aload_n 0, 1, []), (27, .aload_n 0, 1, []), (28, .getfield 28, 3, [12, 8, 108]), (31, .iload_n 1, 1, []), (32, .iaload, 1, []), (33, .iload_n 2, 1, []), (34, .invokevirtual 140, 3, [139, 2, 159, 12]), (37, .ifCond .eq 7, 3, [24]), (40, .iconst 1, 1, []), (41, .goto 4, 3, [25]), (44, .iconst 0, 1, []), (45, .ireturn, 1, [])]
def rd_c144 : List rd_Et := [(0, .iload_n 1, 1, []), (1, .iconst 0, 1, []), (2, .iconst 5, 1, []), (3, .invokestatic 133, 3, [137, 3, 158]), (6, .ifCond .eq 12, 3, [10]), (9, .aload_n 0, 1, []), (10, .getfield 34, 3, [12, 10, 110]), (13, .iload_n 1, 1, []), (14, .iaload, 1, []), (15, .goto 4, 3, [11]), (18, .iconst (-1), 1, []), (19, .ireturn, 1, [])]
def rd_c145 : List rd_Et := [(0, .iload_n 2, 1, []), (1, .iconst 0, 1, []), (2, .aload_n 0, 1, []), (3, .getfield 13, 3, [12, 2, 103]), (6, .aload_n 0, 1, []), (7, .getfield 28, 3, [12, 8, 108]), (10, .iload_n 1, 1, []), (11, .iaload, 1, []), (12, .iaload, 1, []), (13, .iconst 1, 1, []), (14, .isub, 1, []), (15, .invokestatic 133, 3, [137, 3, 158]), (18, .ireturn, 1, [])]
def rd_c146 : List rd_Et := [(0, .bipush 8, 2, []), (2, .aload_n 0, 1, []), (3, .getfield 28, 3, [12, 8, 108]), (6, .iload_n 1, 1, []), (7, .iaload, 1, []), (8, .imul, 1, []), (9, .iload_n 2, 1, []), (10, .iadd, 1, []), (11, .ireturn, 1, [])]
def rd_c147 : List rd_Et := [(0, .aload_n 0, 1, []), (1, .getfield 19, 3, [12, 4, 105]), (4, .aload_n 0, 1, []), (5, .iload_n 1, 1, []), (6, .iload_n 2, 1, []), (7, .invokevirtual 148, 3, [146, 2, 161, 12]), (10, .iaload, 1, []), (11, .iload_n 3, 1, []), (12, .ishr, 1, []), (13, .iconst 1, 1, []), (14, .iand, 1, []), (15, .iconst 1, 1, []), (16, .if_icmp .ne 7, 3, [15]), (19, .iconst 1, 1, []), (20, .goto 4, 3, [16]), (23, .iconst 0, 1, []), (24, .ireturn, 1, [])]
def rd_c148 : List rd_Et := [(0, .aload_n 0, 1, []), (1, .getfield 37, 3, [12, 11, 111]), (4, .iload_n 1, 1, []), (5, .iload_n 2, 1, []), (6, .iastore, 1, []), (7, .aload_n 0, 1, []), (8, .getfield 40, 3, [12, 12, 112]), (11, .iload_n 1, 1, []), (12, .iload_n 3, 1, []), (13, .iastore, 1, []), (14, .iconst 0, 1, []), (15, .istore 4, 2, []), (17, .iload 4, 2, []), (19, .iconst 3, 1, []), (20, .if_icmp .ge 21, 3, [26]), (23, .aload_n 0, 1, []), (24, .getfield 43, 3, [12, 13, 113]), (27, .iconst 3, 1, []), (28, .iload_n 1, 1, []), (29, .imul, 1, []), (30, .iload 4, 2, []), (32, .iadd, 1, []), (33, .iconst 0, 1, []), (34, .iastore, 1, []), (35, .iinc 4 1, 3, []), (38, .goto (-21), 3, [12]), (41, .return_, 1, [])]
def rd_c149 : List rd_Et := [(0, .aload_n 0, 1, []), (1, .getfield 37, 3, [12, 11, 111]), (4, .iload_n 1, 1, []), (5, .iaload, 1, []), (6, .istore 6, 2, []), (8, .iload_n 2, 1, []), (9, .iconst 0, 1, []), (10, .aload_n 0, 1, []), (11, .getfield 16, 3, [12, 3, 104]), (14, .aload_n 0, 1, []), (15, .iload 6, 2, []), (17, .aload_n 0, 1, []), (18, .getfield 40, 3, [12, 12, 112]), (21, .iload_n 1, 1, []), (22, .iaload, 1, []), (23, .invokevirtual 148, 3, [146, 2, 161, 12]), (26, .iaload, 1, []), (27, .iconst 1, 1, []), (28, .isub, 1, []), (29, .invokestatic 133, 3, [137, 3, 158]), (32, .ifCond .eq 13, 3, [26]), (35, .iload_n 3, 1, []), (36, .iconst 0, 1, []), (37, .bipush 6, 2, []), (39, .invokestatic 133, 3, [137, 3, 158]), (42, .ifCond .ne 5, 3, [28]), (45, .iconst (-1), 1, []), (46, .ireturn, 1, []), (47, .aload_n 0, 1, []), (48, .iload 6, 2, []), (50, .aload_n 0, 1, []), (51, .getfield 40, 3, [12, 12, 112]), (54, .iload_n 1, 1, []), (55, .iaload, 1, []), (56, .iload_n 2, 1, []), (57, .invokevirtual 152, 3, [147, 3, 162, 12]), (60, .istore 7, 2, []), (62, .iload 7, 2, []), (64, .ifCond .eq 11, 3, [43]), (67, .iload_n 3, 1, []), (68, .iconst 2, 1, []), (69, .if_icmp .ne 18, 3, [51]), (72, .goto 13, 3, [49]), (75, .iload_n 3, 1, []), (76, .iconst 4, 1, []), (77, .if_icmp .eq 8, 3, [49]), (80, .iload_n 3, 1, []), (81, .iconst 5, 1, []), (82, .if_icmp .ne 5, 3, [51]), (85, .iconst (-1), 1, []), (86, .ireturn, 1, []), (87, .iload 7, 2, []), (89, .ifCond .eq 22, 3, [63]), (92, .iload_n 3, 1, []), (93, .iconst 1, 1, []), (94, .if_icmp .eq 8, 3, [59]), (97, .iload_n 3, 1, []), (98, .iconst 3, 1, []), (99, .if_icmp .ne 12, 3, [63]), (102, .aload_n 0, 1, []), (103, .iload 4, 2, []), (105, .invokevirtual 144, 3, [142, 1, 160, 12]), (108, .ifCond .eq 23, 3, [74]), (111, .iload_n 3, 1, []), (112, .iconst 4, 1, []), (113, .if_icmp .ne 20, 3, [76]), (116, .iload 4, 2, []), (118, .iconst 0, 1, []), (119, .aload_n 0, 1, []), (120, .getfield 129, 3, [12, 0, 141]), (123, .iconst 1, 1, []), (124, .isub, 1, []), (125, .invokestatic 133, 3, [137, 3, 158]), (128, .ifCond .ne 5, 3, [76]), (131, .iconst (-1), 1, []), (132, .ireturn, 1, []), (133, .aload_n 0, 1, []), (134, .getfield 43, 3, [12, 13, 113]), (137, .iconst 3, 1, []), (138, .iload_n 1, 1, []), (139, .imul, 1, []), (140, .iload_n 2, 1, []), (141, .iadd, 1, []), (142, .iload_n 3, 1, []), (143, .iastore, 1, []), (144, .aload_n 0, 1, []), (145, .getfield 46, 3, [12, 14, 114]), (148, .iconst 3, 1, []), (149, .iload_n 1, 1, []), (150, .imul, 1, []), (151, .iload_n 2, 1, []), (152, .iadd, 1, []), (153, .iload 4, 2, []), (155, .iastore, 1, []), (156, .aload_n 0, 1, []), (157, .getfield 49, 3, [12, 15, 115]), (160, .iconst 3, 1, []), (161, .iload_n 1, 1, []), (162, .imul, 1, []), (163, .iload_n 2, 1, []), (164, .iadd, 1, []), (165, .iload 5, 2, []), (167, .iastore, 1, []), (168, .iconst 1, 1, []), (169, .ireturn, 1, [])]
def rd_c150 : List rd_Et := [(0, .aload_n 0, 1, []), (1, .getfield 43, 3, [12, 13, 113]), (4, .iload_n 1, 1, []), (5, .iaload, 1, []), (6, .tableswitch 122 1 5 #[34, 50, 67, 83, 112], 34, [59, 5, 15, 26, 36, 53]), (40, .iload_n 2, 1, []), (41, .aload_n 0, 1, []), (42, .getfield 46, 3, [12, 14, 114]), (45, .iload_n 1, 1, []), (46, .iaload, 1, []), (47, .if_icmp .ne 7, 3, [13]), (50, .iconst 1, 1, []), (51, .goto 4, 3, [14]), (54, .iconst 0, 1, []), (55, .ireturn, 1, []), (56, .iload_n 2, 1, []), (57, .aload_n 0, 1, []), (58, .getfield 46, 3, [12, 14, 114]), (61, .iload_n 1, 1, []), (62, .iaload, 1, []), (63, .aload_n 0, 1, []), (64, .getfield 49, 3, [12, 15, 115]), (67, .iload_n 1, 1, []), (68, .iaload, 1, []), (69, .invokestatic 133, 3, [137, 3, 158]), (72, .ireturn, 1, []), (73, .iload_n 2, 1, []), (74, .aload_n 0, 1, []), (75, .getfield 46, 3, [12, 14, 114]), (78, .iload_n 1, 1, []), (79, .iaload, 1, []), (80, .if_icmp .eq 7, 3, [34]), (83, .iconst 1, 1, []), (84, .goto 4, 3, [35]), (87, .iconst 0, 1, []), (88, .ireturn, 1, []), (89, .iload_n 2, 1, []), (90, .ifCond .lt 26, 3, [51]), (93, .aload_n 0, 1, []), (94, .aload_n 0, 1, []), (95, .getfield 28, 3, [12, 8, 108]), (98, .iload_n 2, 1, []), (99, .iaload, 1, []), (100, .aload_n 0, 1, []), (101, .getfield 46, 3, [12, 14, 114]), (104, .iload_n 1, 1, []), (105, .iaload, 1, []), (106, .invokevirtual 140, 3, [139, 2, 159, 12]), (109, .ifCond .eq 7, 3, [51]), (112, .iconst 1, 1, []), (113, .goto 4, 3, [52]), (116, .iconst 0, 1, []), (117, .ireturn, 1, []), (118, .iload_n 2, 1, []), (119, .ifCond .ge 7, 3, [57]), (122, .iconst 1, 1, []), (123, .goto 4, 3, [58]), (126, .iconst 0, 1, []), (127, .ireturn, 1, []), (128, .iconst 1, 1, []), (129, .ireturn, 1, [])]
def rd_c151 : List rd_Et := [(0, .aload_n 0, 1, []), (1, .getfield 37, 3, [12, 11, 111]), (4, .iload_n 1, 1, []), (5, .iaload, 1, []), (6, .iload_n 2, 1, []), (7, .if_icmp .ne 13, 3, [12]), (10, .aload_n 0, 1, []), (11, .getfield 40, 3, [12, 12, 112]), (14, .iload_n 1, 1, []), (15, .iaload, 1, []), (16, .iload_n 3, 1, []), (17, .if_icmp .eq 5, 3, [14]), (20, .iconst 0, 1, []), (21, .ireturn, 1, []), (22, .aload_n 0, 1, []), (23, .getfield 16, 3, [12, 3, 104]), (26, .aload_n 0, 1, []), (27, .iload_n 2, 1, []), (28, .iload_n 3, 1, []), (29, .invokevirtual 148, 3, [146, 2, 161, 12]), (32, .iaload, 1, []), (33, .istore 7, 2, []), (35, .iload 7, 2, []), (37, .iconst 1, 1, []), (38, .if_icmp .lt 15, 3, [32]), (41, .aload_n 0, 1, []), (42, .iconst 3, 1, []), (43, .iload_n 1, 1, []), (44, .imul, 1, []), (45, .iload 4, 2, []), (47, .invokevirtual 155, 3, [150, 2, 163, 12]), (50, .ifCond .eq 47, 3, [58]), (53, .iload 7, 2, []), (55, .iconst 2, 1, []), (56, .if_icmp .lt 17, 3, [44]), (59, .aload_n 0, 1, []), (60, .iconst 3, 1, []), (61, .iload_n 1, 1, []), (62, .imul, 1, []), (63, .iconst 1, 1, []), (64, .iadd, 1, []), (65, .iload 5, 2, []), (67, .invokevirtual 155, 3, [150, 2, 163, 12]), (70, .ifCond .eq 27, 3, [58]), (73, .iload 7, 2, []), (75, .iconst 3, 1, []), (76, .if_icmp .lt 17, 3, [56]), (79, .aload_n 0, 1, []), (80, .iconst 3, 1, []), (81, .iload_n 1, 1, []), (82, .imul, 1, []), (83, .iconst 2, 1, []), (84, .iadd, 1, []), (85, .iload 6, 2, []), (87, .invokevirtual 155, 3, [150, 2, 163, 12]), (90, .ifCond .eq 7, 3, [58]), (93, .iconst 1, 1, []), (94, .goto 4, 3, [59]), (97, .iconst 0, 1, []), (98, .ireturn, 1, [])]
def rd_c152 : List rd_Et := [(0, .iload_n 1, 1, []), (1, .iconst 0, 1, []), (2, .aload_n 0, 1, []), (3, .getfield 158, 3, [12, 16, 143]), (6, .iconst 1, 1, []), (7, .isub, 1, []), (8, .invokestatic 133, 3, [137, 3, 158]), (11, .ireturn, 1, [])]
def rd_c153 : List rd_Et := [(0, .aload_n 0, 1, []), (1, .iload_n 1, 1, []), (2, .invokevirtual 144, 3, [142, 1, 160, 12]), (5, .ifCond .eq 12, 3, [9]), (8, .aload_n 0, 1, []), (9, .iload_n 1, 1, []), (10, .iload_n 2, 1, []), (11, .invokevirtual 161, 3, [145, 2, 164, 12]), (14, .ifCond .ne 5, 3, [11]), (17, .iconst (-1), 1, []), (18, .ireturn, 1, []), (19, .aload_n 0, 1, []), (20, .getfield 158, 3, [12, 16, 143]), (23, .bipush 80, 2, []), (25, .if_icmp .ne 6, 3, [17]), (28, .bipush (-3), 2, []), (30, .ireturn, 1, []), (31, .aload_n 0, 1, []), (32, .aload_n 0, 1, []), (33, .getfield 158, 3, [12, 16, 143]), (36, .iload_n 1, 1, []), (37, .iload_n 2, 1, []), (38, .invokevirtual 164, 3, [148, 3, 165, 12]), (41, .aload_n 0, 1, []), (42, .getfield 52, 3, [12, 17, 116]), (45, .aload_n 0, 1, []), (46, .getfield 158, 3, [12, 16, 143]), (49, .iconst 0, 1, []), (50, .iastore, 1, []), (51, .aload_n 0, 1, []), (52, .getfield 61, 3, [12, 20, 119]), (55, .aload_n 0, 1, []), (56, .getfield 158, 3, [12, 16, 143]), (59, .iconst 0, 1, []), (60, .iastore, 1, []), (61, .iconst 0, 1, []), (62, .istore_n 3, 1, []), (63, .iload_n 3, 1, []), (64, .iconst 3, 1, []), (65, .if_icmp .ge 23, 3, [52]), (68, .aload_n 0, 1, []), (69, .getfield 64, 3, [12, 21, 120]), (72, .iconst 3, 1, []), (73, .aload_n 0, 1, []), (74, .getfield 158, 3, [12, 16, 143]), (77, .imul, 1, []), (78, .iload_n 3, 1, []), (79, .iadd, 1, []), (80, .iconst 0, 1, []), (81, .bastore, 1, []), (82, .iinc 3 1, 3, []), (85, .goto (-22), 3, [37]), (88, .aload_n 0, 1, []), (89, .dup, 1, []), (90, .getfield 158, 3, [12, 16, 143]), (93, .iconst 1, 1, []), (94, .iadd, 1, []), (95, .putfield 158, 3, [12, 16, 143, 0]), (98, .aload_n 0, 1, []), (99, .getfield 158, 3, [12, 16, 143]), (102, .iconst 1, 1, []), (103, .isub, 1, []), (104, .ireturn, 1, [])]
def rd_c154 : List rd_Et := [(0, .aload_n 0, 1, []), (1, .iload_n 1, 1, []), (2, .invokevirtual 168, 3, [152, 1, 166, 12]), (5, .ifCond .ne 5, 3, [6]), (8, .iconst (-1), 1, []), (9, .ireturn, 1, []), (10, .aload_n 0, 1, []), (11, .iload_n 1, 1, []), (12, .iload_n 2, 1, []), (13, .iload_n 3, 1, []), (14, .iload 4, 2, []), (16, .iload 5, 2, []), (18, .invokevirtual 171, 3, [149, 5, 167, 12]), (21, .istore 6, 2, []), (23, .iload 6, 2, []), (25, .iconst 1, 1, []), (26, .if_icmp .ne 14, 3, [26]), (29, .aload_n 0, 1, []), (30, .getfield 64, 3, [12, 21, 120]), (33, .iconst 3, 1, []), (34, .iload_n 1, 1, []), (35, .imul, 1, []), (36, .iload_n 2, 1, []), (37, .iadd, 1, []), (38, .iconst 0, 1, []), (39, .bastore, 1, []), (40, .iload 6, 2, []), (42, .ireturn, 1, [])]
def rd_c155 : List rd_Et := [(0, .aload_n 0, 1, []), (1, .iload_n 1, 1, []), (2, .invokevirtual 168, 3, [152, 1, 166, 12]), (5, .ifCond .eq 12, 3, [9]), (8, .iload_n 2, 1, []), (9, .iconst 0, 1, []), (10, .iconst 5, 1, []), (11, .invokestatic 133, 3, [137, 3, 158]), (14, .ifCond .ne 5, 3, [11]), (17, .iconst (-1), 1, []), (18, .ireturn, 1, []), (19, .aload_n 0, 1, []), (20, .getfield 16, 3, [12, 3, 104]), (23, .aload_n 0, 1, []), (24, .aload_n 0, 1, []), (25, .getfield 37, 3, [12, 11, 111]), (28, .iload_n 1, 1, []), (29, .iaload, 1, []), (30, .aload_n 0, 1, []), (31, .getfield 40, 3, [12, 12, 112]), (34, .iload_n 1, 1, []), (35, .iaload, 1, []), (36, .invokevirtual 148, 3, [146, 2, 161, 12]), (39, .iaload, 1, []), (40, .istore 4, 2, []), (42, .iload_n 2, 1, []), (43, .iconst 1, 1, []), (44, .if_icmp .ne 17, 3, [36]), (47, .iload_n 3, 1, []), (48, .iconst (-1), 1, []), (49, .aload_n 0, 1, []), (50, .getfield 137, 3, [12, 7, 142]), (53, .iconst 1, 1, []), (54, .isub, 1, []), (55, .invokestatic 133, 3, [137, 3, 158]), (58, .ifCond .eq 35, 3, [54]), (61, .iload_n 2, 1, []), (62, .iconst 2, 1, []), (63, .if_icmp .ne 13, 3, [44]), (66, .iload_n 3, 1, []), (67, .iconst 0, 1, []), (68, .bipush 7, 2, []), (70, .invokestatic 133, 3, [137, 3, 158]), (73, .ifCond .eq 20, 3, [54]), (76, .iload_n 2, 1, []), (77, .iconst 4, 1, []), (78, .if_icmp .ne 17, 3, [56]), (81, .iload_n 3, 1, []), (82, .iconst 0, 1, []), (83, .iload 4, 2, []), (85, .iconst 1, 1, []), (86, .isub, 1, []), (87, .invokestatic 133, 3, [137, 3, 158]), (90, .ifCond .ne 5, 3, [56]), (93, .iconst (-1), 1, []), (94, .ireturn, 1, []), (95, .aload_n 0, 1, []), (96, .getfield 52, 3, [12, 17, 116]), (99, .iload_n 1, 1, []), (100, .iaload, 1, []), (101, .bipush 6, 2, []), (103, .if_icmp .ne 6, 3, [64]), (106, .bipush (-3), 2, []), (108, .ireturn, 1, []), (109, .aload_n 0, 1, []), (110, .getfield 55, 3, [12, 18, 117]), (113, .bipush 6, 2, []), (115, .iload_n 1, 1, []), (116, .imul, 1, []), (117, .aload_n 0, 1, []), (118, .getfield 52, 3, [12, 17, 116]), (121, .iload_n 1, 1, []), (122, .iaload, 1, []), (123, .iadd, 1, []), (124, .iload_n 2, 1, []), (125, .iastore, 1, []), (126, .aload_n 0, 1, []), (127, .getfield 58, 3, [12, 19, 118]), (130, .bipush 6, 2, []), (132, .iload_n 1, 1, []), (133, .imul, 1, []), (134, .aload_n 0, 1, []), (135, .getfield 52, 3, [12, 17, 116]), (138, .iload_n 1, 1, []), (139, .iaload, 1, []), (140, .iadd, 1, []), (141, .iload_n 3, 1, []), (142, .iastore, 1, []), (143, .aload_n 0, 1, []), (144, .getfield 52, 3, [12, 17, 116]), (147, .iload_n 1, 1, []), (148, .dup2, 1, []), (149, .iaload, 1, []), (150, .iconst 1, 1, []), (151, .iadd, 1, []), (152, .iastore, 1, []), (153, .aload_n 0, 1, []), (154, .getfield 52, 3, [12, 17, 116]), (157, .iload_n 1, 1, []), (158, .iaload, 1, []), (159, .ireturn, 1, [])]
def rd_c156 : List rd_Et := [(0, .aload_n 0, 1, []), (1, .iload_n 1, 1, []), (2, .invokevirtual 168, 3, [152, 1, 166, 12]), (5, .ifCond .eq 34, 3, [23]), (8, .iload_n 2, 1, []), (9, .iconst 0, 1, []), (10, .aload_n 0, 1, []), (11, .getfield 16, 3, [12, 3, 104]), (14, .aload_n 0, 1, []), (15, .aload_n 0, 1, []), (16, .getfield 37, 3, [12, 11, 111]), (19, .iload_n 1, 1, []), (20, .iaload, 1, []), (21, .aload_n 0, 1, []), (22, .getfield 40, 3, [12, 12, 112]), (25, .iload_n 1, 1, []), (26, .iaload, 1, []), (27, .invokevirtual 148, 3, [146, 2, 161, 12]), (30, .iaload, 1, []), (31, .iconst 1, 1, []), (32, .isub, 1, []), (33, .invokestatic 133, 3, [137, 3, 158]), (36, .ifCond .ne 7, 3, [25]), (39, .sipush (-1001), 3, []), (42, .ireturn, 1, []), (43, .aload_n 0, 1, []), (44, .getfield 43, 3, [12, 13, 113]), (47, .iconst 3, 1, []), (48, .iload_n 1, 1, []), (49, .imul, 1, []), (50, .iload_n 2, 1, []), (51, .iadd, 1, []), (52, .iaload, 1, []), (53, .bipush 6, 2, []), (55, .if_icmp .ne 29, 3, [53]), (58, .aload_n 0, 1, []), (59, .getfield 64, 3, [12, 21, 120]), (62, .iconst 3, 1, []), (63, .iload_n 1, 1, []), (64, .imul, 1, []), (65, .iload_n 2, 1, []), (66, .iadd, 1, []), (67, .baload, 1, []), (68, .ifCond .eq 16, 3, [53]), (71, .aload_n 0, 1, []), (72, .getfield 68, 3, [12, 22, 121]), (75, .iconst 3, 1, []), (76, .iload_n 1, 1, []), (77, .imul, 1, []), (78, .iload_n 2, 1, []), (79, .iadd, 1, []), (80, .iaload, 1, []), (81, .goto 6, 3, [54]), (84, .sipush (-1002), 3, []), (87, .ireturn, 1, [])]
def rd_c157 : List rd_Et := [(0, .aload_n 0, 1, []), (1, .iload_n 1, 1, []), (2, .putfield 175, 3, [12, 28, 144, 0]), (5, .aload_n 0, 1, []), (6, .iload_n 2, 1, []), (7, .putfield 178, 3, [12, 29, 145, 0]), (10, .return_, 1, [])]
def rd_c158 : List rd_Et := [(0, .aload_n 0, 1, []), (1, .getfield 25, 3, [12, 6, 107]), (4, .iload_n 1, 1, []), (5, .iaload, 1, []), (6, .iload_n 2, 1, []), (7, .ishr, 1, []), (8, .iconst 1, 1, []), (9, .iand, 1, []), (10, .iconst 1, 1, []), (11, .if_icmp .ne 7, 3, [12]), (14, .iconst 1, 1, []), (15, .goto 4, 3, [13]), (18, .iconst 0, 1, []), (19, .istore_n 3, 1, []), (20, .aload_n 0, 1, []), (21, .iload_n 3, 1, []), (22, .ifCond .eq 7, 3, [19]), (25, .iload_n 2, 1, []), (26, .goto 5, 3, [20]), (29, .bipush 8, 2, []), (31, .putfield 181, 3, [12, 30, 146, 0]), (34, .aload_n 0, 1, []), (35, .iload_n 3, 1, []), (36, .ifCond .eq 7, 3, [26]), (39, .iconst 1, 1, []), (40, .goto 4, 3, [27]), (43, .iconst 2, 1, []), (44, .putfield 184, 3, [12, 31, 147, 0]), (47, .return_, 1, [])]
def rd_c159 : List rd_Et := [(0, .aload_n 0, 1, []), (1, .getfield 16, 3, [12, 3, 104]), (4, .iload_n 1, 1, []), (5, .iaload, 1, []), (6, .istore 5, 2, []), (8, .aload_n 0, 1, []), (9, .getfield 19, 3, [12, 4, 105]), (12, .iload_n 1, 1, []), (13, .iaload, 1, []), (14, .istore 6, 2, []), (16, .iload 5, 2, []), (18, .ifCond .le 14, 3, [18]), (21, .iload 6, 2, []), (23, .iconst 1, 1, []), (24, .iand, 1, []), (25, .ifCond .ne 7, 3, [18]), (28, .iload_n 2, 1, []), (29, .goto 4, 3, [19]), (32, .iconst 0, 1, []), (33, .istore 7, 2, []), (35, .iload 7, 2, []), (37, .iload 5, 2, []), (39, .iconst 1, 1, []), (40, .if_icmp .le 14, 3, [30]), (43, .iload 6, 2, []), (45, .iconst 2, 1, []), (46, .iand, 1, []), (47, .ifCond .ne 7, 3, [30]), (50, .iload_n 3, 1, []), (51, .goto 4, 3, [31]), (54, .iconst 0, 1, []), (55, .iadd, 1, []), (56, .istore 7, 2, []), (58, .iload 7, 2, []), (60, .iload 5, 2, []), (62, .iconst 2, 1, []), (63, .if_icmp .le 15, 3, [43]), (66, .iload 6, 2, []), (68, .iconst 4, 1, []), (69, .iand, 1, []), (70, .ifCond .ne 8, 3, [43]), (73, .iload 4, 2, []), (75, .goto 4, 3, [44]), (78, .iconst 0, 1, []), (79, .iadd, 1, []), (80, .ireturn, 1, [])]
def rd_c160 : List rd_Et := [(0, .aload_n 0, 1, []), (1, .getfield 31, 3, [12, 9, 109]), (4, .iload_n 1, 1, []), (5, .iaload, 1, []), (6, .istore 4, 2, []), (8, .iload 4, 2, []), (10, .ifCond .ge 9, 3, [11]), (13, .aload_n 0, 1, []), (14, .iconst 3, 1, []), (15, .putfield 184, 3, [12, 31, 147, 0]), (18, .return_, 1, []), (19, .aload_n 0, 1, []), (20, .getfield 34, 3, [12, 10, 110]), (23, .iload 4, 2, []), (25, .iaload, 1, []), (26, .iload_n 3, 1, []), (27, .iadd, 1, []), (28, .istore 5, 2, []), (30, .iload 5, 2, []), (32, .iconst 0, 1, []), (33, .sipush 255, 3, []), (36, .invokestatic 133, 3, [137, 3, 158]), (39, .ifCond .ne 11, 3, [28]), (42, .aload_n 0, 1, []), (43, .iload_n 2, 1, []), (44, .bipush 7, 2, []), (46, .invokevirtual 187, 3, [158, 2, 168, 12]), (49, .return_, 1, []), (50, .aload_n 0, 1, []), (51, .getfield 34, 3, [12, 10, 110]), (54, .iload 4, 2, []), (56, .iload 5, 2, []), (58, .iastore, 1, []), (59, .aload_n 0, 1, []), (60, .iconst 1, 1, []), (61, .iload 5, 2, []), (63, .invokevirtual 191, 3, [157, 2, 169, 12]), (66, .return_, 1, [])]
def rd_c161 : List rd_Et := [(0, .aload_n 0, 1, []), (1, .getfield 158, 3, [12, 16, 143]), (4, .iconst 1, 1, []), (5, .isub, 1, []), (6, .istore 6, 2, []), (8, .iload 6, 2, []), (10, .ifCond .lt 38, 3, [25]), (13, .aload_n 0, 1, []), (14, .getfield 52, 3, [12, 17, 116]), (17, .iload 6, 2, []), (19, .iaload, 1, []), (20, .ifCond .le 22, 3, [23]), (23, .aload_n 0, 1, []), (24, .iload 6, 2, []), (26, .iload_n 1, 1, []), (27, .iload_n 2, 1, []), (28, .iload_n 3, 1, []), (29, .iload 4, 2, []), (31, .iload 5, 2, []), (33, .invokevirtual 194, 3, [151, 6, 170, 12]), (36, .ifCond .eq 6, 3, [23]), (39, .iload 6, 2, []), (41, .ireturn, 1, []), (42, .iinc 6 (-1), 3, []), (45, .goto (-37), 3, [5]), (48, .iconst (-1), 1, []), (49, .ireturn, 1, [])]
def rd_c162 : List rd_Et := [(0, .aload_n 0, 1, []), (1, .getfield 61, 3, [12, 20, 119]), (4, .iload_n 1, 1, []), (5, .iaload, 1, []), (6, .aload_n 0, 1, []), (7, .getfield 52, 3, [12, 17, 116]), (10, .iload_n 1, 1, []), (11, .iaload, 1, []), (12, .if_icmp .ge 12, 3, [14]), (15, .aload_n 0, 1, []), (16, .getfield 61, 3, [12, 20, 119]), (19, .iload_n 1, 1, []), (20, .iaload, 1, []), (21, .goto 11, 3, [20]), (24, .aload_n 0, 1, []), (25, .getfield 52, 3, [12, 17, 116]), (28, .iload_n 1, 1, []), (29, .iaload, 1, []), (30, .iconst 1, 1, []), (31, .isub, 1, []), (32, .istore 7, 2, []), (34, .aload_n 0, 1, []), (35, .getfield 61, 3, [12, 20, 119]), (38, .iload_n 1, 1, []), (39, .dup2, 1, []), (40, .iaload, 1, []), (41, .iconst 1, 1, []), (42, .iadd, 1, []), (43, .iastore, 1, []), (44, .iconst 0, 1, []), (45, .istore 8, 2, []), (47, .iload 8, 2, []), (49, .aload_n 0, 1, []), (50, .getfield 16, 3, [12, 3, 104]), (53, .iload_n 3, 1, []), (54, .iaload, 1, []), (55, .if_icmp .ge 71, 3, [76]), (58, .aload_n 0, 1, []), (59, .getfield 43, 3, [12, 13, 113]), (62, .iconst 3, 1, []), (63, .iload_n 1, 1, []), (64, .imul, 1, []), (65, .iload 8, 2, []), (67, .iadd, 1, []), (68, .iaload, 1, []), (69, .bipush 6, 2, []), (71, .if_icmp .ne 49, 3, [74]), (74, .aload_n 0, 1, []), (75, .getfield 64, 3, [12, 21, 120]), (78, .iconst 3, 1, []), (79, .iload_n 1, 1, []), (80, .imul, 1, []), (81, .iload 8, 2, []), (83, .iadd, 1, []), (84, .iconst 1, 1, []), (85, .bastore, 1, []), (86, .aload_n 0, 1, []), (87, .getfield 68, 3, [12, 22, 121]), (90, .iconst 3, 1, []), (91, .iload_n 1, 1, []), (92, .imul, 1, []), (93, .iload 8, 2, []), (95, .iadd, 1, []), (96, .iload 8, 2, []), (98, .ifCond .ne 8, 3, [67]), (101, .iload 4, 2, []), (103, .goto 16, 3, [73]), (106, .iload 8, 2, []), (108, .iconst 1, 1, []), (109, .if_icmp .ne 8, 3, [72]), (112, .iload 5, 2, []), (114, .goto 5, 3, [73]), (117, .iload 6, 2, []), (119, .iastore, 1, []), (120, .iinc 8 1, 3, []), (123, .goto (-76), 3, [31]), (126, .aload_n 0, 1, []), (127, .getfield 58, 3, [12, 19, 118]), (130, .bipush 6, 2, []), (132, .iload_n 1, 1, []), (133, .imul, 1, []), (134, .iload 7, 2, []), (136, .iadd, 1, []), (137, .iaload, 1, []), (138, .istore 8, 2, []), (140, .aload_n 0, 1, []), (141, .getfield 55, 3, [12, 18, 117]), (144, .bipush 6, 2, []), (146, .iload_n 1, 1, []), (147, .imul, 1, []), (148, .iload 7, 2, []), (150, .iadd, 1, []), (151, .iaload, 1, []), (152, .tableswitch 138 0 4 #[36, 46, 56, 66, 88], 36, [147, 94, 99, 104, 109, 121]), (188, .aload_n 0, 1, []), (189, .iconst 1, 1, []), (190, .iload 8, 2, []), (192, .invokevirtual 191, 3, [157, 2, 169, 12]), (195, .goto 112, 3, [157]), (198, .aload_n 0, 1, []), (199, .iconst 2, 1, []), (200, .iload 8, 2, []), (202, .invokevirtual 191, 3, [157, 2, 169, 12]), (205, .goto 102, 3, [157]), (208, .aload_n 0, 1, []), (209, .iload_n 3, 1, []), (210, .iload 8, 2, []), (212, .invokevirtual 187, 3, [158, 2, 168, 12]), (215, .goto 92, 3, [157]), (218, .aload_n 0, 1, []), (219, .iconst 1, 1, []), (220, .iload 8, 2, []), (222, .aload_n 0, 1, []), (223, .iload_n 3, 1, []), (224, .iload 4, 2, []), (226, .iload 5, 2, []), (228, .iload 6, 2, []), (230, .invokevirtual 198, 3, [159, 4, 171, 12]), (233, .iadd, 1, []), (234, .invokevirtual 191, 3, [157, 2, 169, 12]), (237, .goto 70, 3, [157]), (240, .aload_n 0, 1, []), (241, .aload_n 0, 1, []), (242, .getfield 19, 3, [12, 4, 105]), (245, .iload_n 3, 1, []), (246, .iaload, 1, []), (247, .iload 8, 2, []), (249, .ishr, 1, []), (250, .iconst 1, 1, []), (251, .iand, 1, []), (252, .iconst 1, 1, []), (253, .if_icmp .ne 7, 3, [134]), (256, .iconst 2, 1, []), (257, .goto 4, 3, [135]), (260, .iconst 1, 1, []), (261, .iload 8, 2, []), (263, .ifCond .ne 8, 3, [139]), (266, .iload 4, 2, []), (268, .goto 16, 3, [145]), (271, .iload 8, 2, []), (273, .iconst 1, 1, []), (274, .if_icmp .ne 8, 3, [144]), (277, .iload 5, 2, []), (279, .goto 5, 3, [145]), (282, .iload 6, 2, []), (284, .invokevirtual 191, 3, [157, 2, 169, 12]), (287, .goto 20, 3, [157]), (290, .aload_n 0, 1, []), (291, .iload_n 2, 1, []), (292, .iload_n 3, 1, []), (293, .aload_n 0, 1, []), (294, .iload_n 3, 1, []), (295, .iload 4, 2, []), (297, .iload 5, 2, []), (299, .iload 6, 2, []), (301, .invokevirtual 198, 3, [159, 4, 171, 12]), (304, .invokevirtual 202, 3, [160, 3, 172, 12]), (307, .return_, 1, [])]
def rd_c163 : List rd_Et := [(0, .aload_n 0, 1, []), (1, .iload_n 1, 1, []), (2, .iload_n 2, 1, []), (3, .invokevirtual 148, 3, [146, 2, 161, 12]), (6, .istore 6, 2, []), (8, .aload_n 0, 1, []), (9, .getfield 16, 3, [12, 3, 104]), (12, .iload 6, 2, []), (14, .iaload, 1, []), (15, .istore 7, 2, []), (17, .aload_n 0, 1, []), (18, .iconst 0, 1, []), (19, .putfield 175, 3, [12, 28, 144, 0]), (22, .aload_n 0, 1, []), (23, .iconst 0, 1, []), (24, .putfield 178, 3, [12, 29, 145, 0]), (27, .aload_n 0, 1, []), (28, .iconst (-1), 1, []), (29, .putfield 181, 3, [12, 30, 146, 0]), (32, .aload_n 0, 1, []), (33, .iconst 0, 1, []), (34, .putfield 184, 3, [12, 31, 147, 0]), (37, .aload_n 0, 1, []), (38, .iload_n 1, 1, []), (39, .iload_n 2, 1, []), (40, .iload_n 3, 1, []), (41, .iload 4, 2, []), (43, .iload 5, 2, []), (45, .invokevirtual 205, 3, [161, 5, 173, 12]), (48, .istore 8, 2, []), (50, .iload 8, 2, []), (52, .ifCond .lt 20, 3, [41]), (55, .aload_n 0, 1, []), (56, .iload 8, 2, []), (58, .iload_n 1, 1, []), (59, .iload 6, 2, []), (61, .iload_n 3, 1, []), (62, .iload 4, 2, []), (64, .iload 5, 2, []), (66, .invokevirtual 208, 3, [162, 6, 174, 12]), (69, .goto 21, 3, [51]), (72, .aload_n 0, 1, []), (73, .iload_n 1, 1, []), (74, .iload 6, 2, []), (76, .aload_n 0, 1, []), (77, .iload 6, 2, []), (79, .iload_n 3, 1, []), (80, .iload 4, 2, []), (82, .iload 5, 2, []), (84, .invokevirtual 198, 3, [159, 4, 171, 12]), (87, .invokevirtual 202, 3, [160, 3, 172, 12]), (90, .aload_n 0, 1, []), (91, .getfield 22, 3, [12, 5, 106]), (94, .iload 6, 2, []), (96, .iaload, 1, []), (97, .iconst 1, 1, []), (98, .if_icmp .ne 22, 3, [66]), (101, .aload_n 0, 1, []), (102, .getfield 175, 3, [12, 28, 144]), (105, .iconst 1, 1, []), (106, .if_icmp .ne 10, 3, [64]), (109, .aload_n 0, 1, []), (110, .getfield 178, 3, [12, 29, 145]), (113, .goto 38, 3, [82]), (116, .iconst 0, 1, []), (117, .goto 34, 3, [82]), (120, .aload_n 0, 1, []), (121, .getfield 22, 3, [12, 5, 106]), (124, .iload 6, 2, []), (126, .iaload, 1, []), (127, .iconst 2, 1, []), (128, .if_icmp .ne 22, 3, [81]), (131, .aload_n 0, 1, []), (132, .getfield 175, 3, [12, 28, 144]), (135, .iconst 2, 1, []), (136, .if_icmp .ne 10, 3, [79]), (139, .aload_n 0, 1, []), (140, .getfield 178, 3, [12, 29, 145]), (143, .goto 8, 3, [82]), (146, .iconst (-1), 1, []), (147, .goto 4, 3, [82]), (150, .iconst 0, 1, []), (151, .istore 9, 2, []), (153, .aload_n 0, 1, []), (154, .iload 9, 2, []), (156, .putfield 178, 3, [12, 29, 145, 0]), (159, .aload_n 0, 1, []), (160, .getfield 74, 3, [12, 27, 123]), (163, .iconst 0, 1, []), (164, .aload_n 0, 1, []), (165, .getfield 184, 3, [12, 31, 147]), (168, .iastore, 1, []), (169, .aload_n 0, 1, []), (170, .getfield 74, 3, [12, 27, 123]), (173, .iconst 1, 1, []), (174, .iload 9, 2, []), (176, .iastore, 1, []), (177, .aload_n 0, 1, []), (178, .getfield 74, 3, [12, 27, 123]), (181, .iconst 2, 1, []), (182, .aload_n 0, 1, []), (183, .getfield 181, 3, [12, 30, 146]), (186, .iastore, 1, []), (187, .aload_n 0, 1, []), (188, .getfield 74, 3, [12, 27, 123]), (191, .iconst 3, 1, []), (192, .iload 8, 2, []), (194, .iastore, 1, []), (195, .aload_n 0, 1, []), (196, .iconst 1, 1, []), (197, .putfield 212, 3, [12, 26, 148, 1]), (200, .aload_n 0, 1, []), (201, .getfield 215, 3, [12, 23, 149]), (204, .sipush 500, 3, []), (207, .if_icmp .ne 14, 3, [122]), (210, .aload_n 0, 1, []), (211, .dup, 1, []), (212, .getfield 218, 3, [12, 24, 150]), (215, .iconst 1, 1, []), (216, .iadd, 1, []), (217, .putfield 218, 3, [12, 24, 150, 0]), (220, .return_, 1, []), (221, .bipush 9, 2, []), (223, .aload_n 0, 1, []), (224, .getfield 215, 3, [12, 23, 149]), (227, .imul, 1, []), (228, .istore 10, 2, []), (230, .aload_n 0, 1, []), (231, .getfield 71, 3, [12, 25, 122]), (234, .iload 10, 2, []), (236, .iload_n 1, 1, []), (237, .iastore, 1, []), (238, .aload_n 0, 1, []), (239, .getfield 71, 3, [12, 25, 122]), (242, .iload 10, 2, []), (244, .iconst 1, 1, []), (245, .iadd, 1, []), (246, .iload_n 2, 1, []), (247, .iastore, 1, []), (248, .aload_n 0, 1, []), (249, .getfield 71, 3, [12, 25, 122]), (252, .iload 10, 2, []), (254, .iconst 2, 1, []), (255, .iadd, 1, []), (256, .iload 7, 2, []), (258, .ifCond .le 7, 3, [148]), (261, .iload_n 3, 1, []), (262, .goto 4, 3, [149]), (265, .iconst 0, 1, []), (266, .iastore, 1, []), (267, .aload_n 0, 1, []), (268, .getfield 71, 3, [12, 25, 122]), (271, .iload 10, 2, []), (273, .iconst 3, 1, []), (274, .iadd, 1, []), (275, .iload 7, 2, []), (277, .iconst 1, 1, []), (278, .if_icmp .le 8, 3, [160]), (281, .iload 4, 2, []), (283, .goto 4, 3, [161]), (286, .iconst 0, 1, []), (287, .iastore, 1, []), (288, .aload_n 0, 1, []), (289, .getfield 71, 3, [12, 25, 122]), (292, .iload 10, 2, []), (294, .iconst 4, 1, []), (295, .iadd, 1, []), (296, .iload 7, 2, []), (298, .iconst 2, 1, []), (299, .if_icmp .le 8, 3, [172]), (302, .iload 5, 2, []), (304, .goto 4, 3, [173]), (307, .iconst 0, 1, []), (308, .iastore, 1, []), (309, .aload_n 0, 1, []), (310, .getfield 71, 3, [12, 25, 122]), (313, .iload 10, 2, []), (315, .iconst 5, 1, []), (316, .iadd, 1, []), (317, .aload_n 0, 1, []), (318, .getfield 184, 3, [12, 31, 147]), (321, .iastore, 1, []), (322, .aload_n 0, 1, []), (323, .getfield 71, 3, [12, 25, 122]), (326, .iload 10, 2, []), (328, .bipush 6, 2, []), (330, .iadd, 1, []), (331, .iload 8, 2, []), (333, .iastore, 1, []), (334, .aload_n 0, 1, []), (335, .getfield 71, 3, [12, 25, 122]), (338, .iload 10, 2, []), (340, .bipush 7, 2, []), (342, .iadd, 1, []), (343, .iload 9, 2, []), (345, .iastore, 1, []), (346, .aload_n 0, 1, []), (347, .getfield 71, 3, [12, 25, 122]), (350, .iload 10, 2, []), (352, .bipush 8, 2, []), (354, .iadd, 1, []), (355, .aload_n 0, 1, []), (356, .getfield 181, 3, [12, 30, 146]), (359, .iastore, 1, []), (360, .aload_n 0, 1, []), (361, .dup, 1, []), (362, .getfield 215, 3, [12, 23, 149]), (365, .iconst 1, 1, []), (366, .iadd, 1, []), (367, .putfield 215, 3, [12, 23, 149, 0]), (370, .return_, 1, [])]
def rd_c164 : List rd_Et := [(0, .aload_n 0, 1, []), (1, .iload_n 1, 1, []), (2, .iload_n 2, 1, []), (3, .invokevirtual 148, 3, [146, 2, 161, 12]), (6, .istore 5, 2, []), (8, .iload_n 3, 1, []), (9, .aload_n 0, 1, []), (10, .getfield 16, 3, [12, 3, 104]), (13, .iload 5, 2, []), (15, .iaload, 1, []), (16, .if_icmp .ge 32, 3, [28]), (19, .aload_n 0, 1, []), (20, .getfield 19, 3, [12, 4, 105]), (23, .iload 5, 2, []), (25, .iaload, 1, []), (26, .iload_n 3, 1, []), (27, .ishr, 1, []), (28, .iconst 1, 1, []), (29, .iand, 1, []), (30, .ifCond .eq 18, 3, [28]), (33, .iload 4, 2, []), (35, .iconst (-1), 1, []), (36, .aload_n 0, 1, []), (37, .getfield 137, 3, [12, 7, 142]), (40, .iconst 1, 1, []), (41, .isub, 1, []), (42, .invokestatic 133, 3, [137, 3, 158]), (45, .ifCond .eq 7, 3, [30]), (48, .iconst 1, 1, []), (49, .goto 4, 3, [31]), (52, .iconst 0, 1, []), (53, .ireturn, 1, [])]
def rd_c165 : List rd_Et := [(0, .aload_n 0, 1, []), (1, .iload_n 1, 1, []), (2, .invokevirtual 144, 3, [142, 1, 160, 12]), (5, .ifCond .eq 47, 3, [30]), (8, .aload_n 0, 1, []), (9, .iload_n 1, 1, []), (10, .iload_n 2, 1, []), (11, .invokevirtual 161, 3, [145, 2, 164, 12]), (14, .ifCond .eq 38, 3, [30]), (17, .aload_n 0, 1, []), (18, .iload_n 1, 1, []), (19, .iload_n 2, 1, []), (20, .iconst 0, 1, []), (21, .iload_n 3, 1, []), (22, .invokevirtual 221, 3, [164, 4, 175, 12]), (25, .ifCond .eq 27, 3, [30]), (28, .aload_n 0, 1, []), (29, .iload_n 1, 1, []), (30, .iload_n 2, 1, []), (31, .iconst 1, 1, []), (32, .iload 4, 2, []), (34, .invokevirtual 221, 3, [164, 4, 175, 12]), (37, .ifCond .eq 15, 3, [30]), (40, .aload_n 0, 1, []), (41, .iload_n 1, 1, []), (42, .iload_n 2, 1, []), (43, .iconst 2, 1, []), (44, .iload 5, 2, []), (46, .invokevirtual 221, 3, [164, 4, 175, 12]), (49, .ifCond .ne 5, 3, [32]), (52, .iconst (-1), 1, []), (53, .ireturn, 1, []), (54, .aload_n 0, 1, []), (55, .iload_n 1, 1, []), (56, .iload_n 2, 1, []), (57, .iload_n 3, 1, []), (58, .iload 4, 2, []), (60, .iload 5, 2, []), (62, .invokevirtual 225, 3, [163, 5, 176, 12]), (65, .aload_n 0, 1, []), (66, .getfield 184, 3, [12, 31, 147]), (69, .ireturn, 1, [])]
def rd_c166 : List rd_Et := [(0, .aload_n 0, 1, []), (1, .getfield 212, 3, [12, 26, 148]), (4, .ifCond .eq 21, 3, [13]), (7, .iload_n 1, 1, []), (8, .iconst 0, 1, []), (9, .iconst 3, 1, []), (10, .invokestatic 133, 3, [137, 3, 158]), (13, .ifCond .eq 12, 3, [13]), (16, .aload_n 0, 1, []), (17, .getfield 74, 3, [12, 27, 123]), (20, .iload_n 1, 1, []), (21, .iaload, 1, []), (22, .goto 6, 3, [14]), (25, .sipush (-1001), 3, []), (28, .ireturn, 1, [])]
def rd_c167 : List rd_Et := [(0, .iload_n 1, 1, []), (1, .iconst 0, 1, []), (2, .aload_n 0, 1, []), (3, .getfield 215, 3, [12, 23, 149]), (6, .iconst 1, 1, []), (7, .isub, 1, []), (8, .invokestatic 133, 3, [137, 3, 158]), (11, .ifCond .eq 27, 3, [22]), (14, .iload_n 2, 1, []), (15, .iconst 0, 1, []), (16, .bipush 8, 2, []), (18, .invokestatic 133, 3, [137, 3, 158]), (21, .ifCond .eq 17, 3, [22]), (24, .aload_n 0, 1, []), (25, .getfield 71, 3, [12, 25, 122]), (28, .bipush 9, 2, []), (30, .iload_n 1, 1, []), (31, .imul, 1, []), (32, .iload_n 2, 1, []), (33, .iadd, 1, []), (34, .iaload, 1, []), (35, .goto 6, 3, [23]), (38, .sipush (-1001), 3, []), (41, .ireturn, 1, [])]
def rd_c168 : List rd_Et := [(0, .iload_n 1, 1, []), (1, .iconst 0, 1, []), (2, .aload_n 0, 1, []), (3, .getfield 229, 3, [12, 32, 151]), (6, .iconst 1, 1, []), (7, .isub, 1, []), (8, .invokestatic 133, 3, [137, 3, 158]), (11, .ireturn, 1, [])]
def rd_c169 : List rd_Et := [(0, .aload_n 0, 1, []), (1, .iload_n 1, 1, []), (2, .invokevirtual 144, 3, [142, 1, 160, 12]), (5, .ifCond .eq 22, 3, [14]), (8, .aload_n 0, 1, []), (9, .iload_n 1, 1, []), (10, .iload_n 2, 1, []), (11, .invokevirtual 161, 3, [145, 2, 164, 12]), (14, .ifCond .eq 13, 3, [14]), (17, .iload_n 3, 1, []), (18, .ifCond .lt 9, 3, [14]), (21, .iload 4, 2, []), (23, .iload_n 3, 1, []), (24, .if_icmp .ge 5, 3, [16]), (27, .iconst (-1), 1, []), (28, .ireturn, 1, []), (29, .aload_n 0, 1, []), (30, .getfield 229, 3, [12, 32, 151]), (33, .bipush 40, 2, []), (35, .if_icmp .ne 6, 3, [22]), (38, .bipush (-3), 2, []), (40, .ireturn, 1, []), (41, .aload_n 0, 1, []), (42, .bipush 80, 2, []), (44, .aload_n 0, 1, []), (45, .getfield 229, 3, [12, 32, 151]), (48, .iadd, 1, []), (49, .iload_n 1, 1, []), (50, .iload_n 2, 1, []), (51, .invokevirtual 164, 3, [148, 3, 165, 12]), (54, .aload_n 0, 1, []), (55, .getfield 77, 3, [12, 33, 124]), (58, .aload_n 0, 1, []), (59, .getfield 229, 3, [12, 32, 151]), (62, .iload_n 3, 1, []), (63, .iastore, 1, []), (64, .aload_n 0, 1, []), (65, .getfield 80, 3, [12, 34, 125]), (68, .aload_n 0, 1, []), (69, .getfield 229, 3, [12, 32, 151]), (72, .iload 4, 2, []), (74, .iastore, 1, []), (75, .aload_n 0, 1, []), (76, .dup, 1, []), (77, .getfield 229, 3, [12, 32, 151]), (80, .iconst 1, 1, []), (81, .iadd, 1, []), (82, .putfield 229, 3, [12, 32, 151, 0]), (85, .aload_n 0, 1, []), (86, .getfield 229, 3, [12, 32, 151]), (89, .iconst 1, 1, []), (90, .isub, 1, []), (91, .ireturn, 1, [])]
def rd_c170 : List rd_Et := [(0, .aload_n 0, 1, []), (1, .iload_n 1, 1, []), (2, .invokevirtual 232, 3, [168, 1, 177, 12]), (5, .ifCond .eq 20, 3, [14]), (8, .aload_n 0, 1, []), (9, .bipush 80, 2, []), (11, .iload_n 1, 1, []), (12, .iadd, 1, []), (13, .iload_n 2, 1, []), (14, .iload_n 3, 1, []), (15, .iload 4, 2, []), (17, .iload 5, 2, []), (19, .invokevirtual 171, 3, [149, 5, 167, 12]), (22, .goto 4, 3, [15]), (25, .iconst (-1), 1, []), (26, .ireturn, 1, [])]
def rd_c171 : List rd_Et := [(0, .aload_n 0, 1, []), (1, .iload_n 1, 1, []), (2, .invokevirtual 232, 3, [168, 1, 177, 12]), (5, .ifCond .eq 16, 3, [11]), (8, .aload_n 0, 1, []), (9, .iload_n 2, 1, []), (10, .invokevirtual 232, 3, [168, 1, 177, 12]), (13, .ifCond .eq 8, 3, [11]), (16, .iload_n 1, 1, []), (17, .iload_n 2, 1, []), (18, .if_icmp .ne 5, 3, [13]), (21, .iconst (-1), 1, []), (22, .ireturn, 1, []), (23, .aload_n 0, 1, []), (24, .getfield 235, 3, [12, 35, 152]), (27, .bipush 40, 2, []), (29, .if_icmp .ne 6, 3, [19]), (32, .bipush (-3), 2, []), (34, .ireturn, 1, []), (35, .aload_n 0, 1, []), (36, .getfield 83, 3, [12, 36, 126]), (39, .aload_n 0, 1, []), (40, .getfield 235, 3, [12, 35, 152]), (43, .iload_n 1, 1, []), (44, .iastore, 1, []), (45, .aload_n 0, 1, []), (46, .getfield 86, 3, [12, 37, 127]), (49, .aload_n 0, 1, []), (50, .getfield 235, 3, [12, 35, 152]), (53, .iload_n 2, 1, []), (54, .iastore, 1, []), (55, .aload_n 0, 1, []), (56, .dup, 1, []), (57, .getfield 235, 3, [12, 35, 152]), (60, .iconst 1, 1, []), (61, .iadd, 1, []), (62, .putfield 235, 3, [12, 35, 152, 0]), (65, .aload_n 0, 1, []), (66, .getfield 235, 3, [12, 35, 152]), (69, .ireturn, 1, [])]
def rd_c172 : List rd_Et := [(0, .aload_n 0, 1, []), (1, .iload_n 1, 1, []), (2, .invokevirtual 144, 3, [142, 1, 160, 12]), (5, .ifCond .ne 5, 3, [6]), (8, .iconst (-1), 1, []), (9, .ireturn, 1, []), (10, .aload_n 0, 1, []), (11, .getfield 89, 3, [12, 38, 128]), (14, .iload_n 1, 1, []), (15, .baload, 1, []), (16, .ifCond .eq 7, 3, [13]), (19, .iconst 1, 1, []), (20, .goto 4, 3, [14]), (23, .iconst 0, 1, []), (24, .istore_n 3, 1, []), (25, .aload_n 0, 1, []), (26, .getfield 89, 3, [12, 38, 128]), (29, .iload_n 1, 1, []), (30, .iload_n 2, 1, []), (31, .bastore, 1, []), (32, .iload_n 3, 1, []), (33, .ireturn, 1, [])]
def rd_c173 : List rd_Et := [(0, .bipush 9, 2, []), (2, .iload_n 1, 1, []), (3, .imul, 1, []), (4, .istore_n 3, 1, []), (5, .aload_n 0, 1, []), (6, .bipush 80, 2, []), (8, .iload_n 2, 1, []), (9, .iadd, 1, []), (10, .aload_n 0, 1, []), (11, .getfield 71, 3, [12, 25, 122]), (14, .iload_n 3, 1, []), (15, .iaload, 1, []), (16, .aload_n 0, 1, []), (17, .getfield 71, 3, [12, 25, 122]), (20, .iload_n 3, 1, []), (21, .iconst 1, 1, []), (22, .iadd, 1, []), (23, .iaload, 1, []), (24, .aload_n 0, 1, []), (25, .getfield 71, 3, [12, 25, 122]), (28, .iload_n 3, 1, []), (29, .iconst 2, 1, []), (30, .iadd, 1, []), (31, .iaload, 1, []), (32, .aload_n 0, 1, []), (33, .getfield 71, 3, [12, 25, 122]), (36, .iload_n 3, 1, []), (37, .iconst 3, 1, []), (38, .iadd, 1, []), (39, .iaload, 1, []), (40, .aload_n 0, 1, []), (41, .getfield 71, 3, [12, 25, 122]), (44, .iload_n 3, 1, []), (45, .iconst 4, 1, []), (46, .iadd, 1, []), (47, .iaload, 1, []), (48, .invokevirtual 194, 3, [151, 6, 170, 12]), (51, .ireturn, 1, [])]
def rd_c174 : List rd_Et := [(0, .iconst 0, 1, []), (1, .istore_n 2, 1, []), (2, .iconst 0, 1, []), (3, .istore_n 3, 1, []), (4, .iload_n 3, 1, []), (5, .aload_n 0, 1, []), (6, .getfield 215, 3, [12, 23, 149]), (9, .if_icmp .ge 26, 3, [21]), (12, .iload_n 2, 1, []), (13, .aload_n 0, 1, []), (14, .iload_n 3, 1, []), (15, .iload_n 1, 1, []), (16, .invokevirtual 238, 3, [173, 2, 178, 12]), (19, .ifCond .eq 7, 3, [16]), (22, .iconst 1, 1, []), (23, .goto 4, 3, [17]), (26, .iconst 0, 1, []), (27, .iadd, 1, []), (28, .istore_n 2, 1, []), (29, .iinc 3 1, 3, []), (32, .goto (-28), 3, [4]), (35, .iload_n 2, 1, []), (36, .ireturn, 1, [])]
def rd_c175 : List rd_Et := [(0, .aload_n 0, 1, []), (1, .iload_n 1, 1, []), (2, .invokevirtual 232, 3, [168, 1, 177, 12]), (5, .ifCond .eq 11, 3, [8]), (8, .aload_n 0, 1, []), (9, .iload_n 1, 1, []), (10, .invokevirtual 241, 3, [174, 1, 179, 12]), (13, .goto 4, 3, [9]), (16, .iconst (-1), 1, []), (17, .ireturn, 1, [])]
def rd_c176 : List rd_Et := [(0, .aload_n 0, 1, []), (1, .getfield 245, 3, [12, 39, 153]), (4, .bipush 60, 2, []), (6, .if_icmp .ge 53, 3, [38]), (9, .aload_n 0, 1, []), (10, .getfield 92, 3, [12, 40, 129]), (13, .iconst 3, 1, []), (14, .aload_n 0, 1, []), (15, .getfield 245, 3, [12, 39, 153]), (18, .imul, 1, []), (19, .iload_n 1, 1, []), (20, .iastore, 1, []), (21, .aload_n 0, 1, []), (22, .getfield 92, 3, [12, 40, 129]), (25, .iconst 3, 1, []), (26, .aload_n 0, 1, []), (27, .getfield 245, 3, [12, 39, 153]), (30, .imul, 1, []), (31, .iconst 1, 1, []), (32, .iadd, 1, []), (33, .iload_n 2, 1, []), (34, .iastore, 1, []), (35, .aload_n 0, 1, []), (36, .getfield 92, 3, [12, 40, 129]), (39, .iconst 3, 1, []), (40, .aload_n 0, 1, []), (41, .getfield 245, 3, [12, 39, 153]), (44, .imul, 1, []), (45, .iconst 2, 1, []), (46, .iadd, 1, []), (47, .iload_n 3, 1, []), (48, .iastore, 1, []), (49, .aload_n 0, 1, []), (50, .dup, 1, []), (51, .getfield 245, 3, [12, 39, 153]), (54, .iconst 1, 1, []), (55, .iadd, 1, []), (56, .putfield 245, 3, [12, 39, 153, 0]), (59, .return_, 1, [])]
def rd_c177 : List rd_Et := [(0, .iconst (-1), 1, []), (1, .istore_n 2, 1, []), (2, .iconst 0, 1, []), (3, .istore_n 3, 1, []), (4, .iload_n 3, 1, []), (5, .aload_n 0, 1, []), (6, .getfield 215, 3, [12, 23, 149]), (9, .if_icmp .ge 29, 3, [22]), (12, .aload_n 0, 1, []), (13, .iload_n 3, 1, []), (14, .aload_n 0, 1, []), (15, .getfield 83, 3, [12, 36, 126]), (18, .iload_n 1, 1, []), (19, .iaload, 1, []), (20, .invokevirtual 238, 3, [173, 2, 178, 12]), (23, .ifCond .eq 7, 3, [18]), (26, .iload_n 3, 1, []), (27, .goto 4, 3, [19]), (30, .iload_n 2, 1, []), (31, .istore_n 2, 1, []), (32, .iinc 3 1, 3, []), (35, .goto (-31), 3, [4]), (38, .iconst 0, 1, []), (39, .istore_n 3, 1, []), (40, .iload_n 3, 1, []), (41, .iload_n 2, 1, []), (42, .if_icmp .ge 25, 3, [39]), (45, .aload_n 0, 1, []), (46, .iload_n 3, 1, []), (47, .aload_n 0, 1, []), (48, .getfield 86, 3, [12, 37, 127]), (51, .iload_n 1, 1, []), (52, .iaload, 1, []), (53, .invokevirtual 238, 3, [173, 2, 178, 12]), (56, .ifCond .eq 5, 3, [37]), (59, .iload_n 3, 1, []), (60, .ireturn, 1, []), (61, .iinc 3 1, 3, []), (64, .goto (-24), 3, [24]), (67, .iconst (-1), 1, []), (68, .ireturn, 1, [])]
def rd_c178 : List rd_Et := [(0, .iconst 0, 1, []), (1, .istore_n 2, 1, []), (2, .iconst 0, 1, []), (3, .istore_n 3, 1, []), (4, .iload_n 3, 1, []), (5, .aload_n 0, 1, []), (6, .getfield 229, 3, [12, 32, 151]), (9, .if_icmp .ge 20, 3, [17]), (12, .iload_n 2, 1, []), (13, .ifCond .ne 16, 3, [17]), (16, .aload_n 0, 1, []), (17, .iload_n 1, 1, []), (18, .iload_n 3, 1, []), (19, .invokevirtual 238, 3, [173, 2, 178, 12]), (22, .istore_n 2, 1, []), (23, .iinc 3 1, 3, []), (26, .goto (-22), 3, [4]), (29, .iload_n 2, 1, []), (30, .ireturn, 1, [])]
def rd_c179 : List rd_Et := [(0, .aload_n 0, 1, []), (1, .iconst 0, 1, []), (2, .putfield 245, 3, [12, 39, 153, 0]), (5, .iconst 0, 1, []), (6, .istore_n 1, 1, []), (7, .iload_n 1, 1, []), (8, .aload_n 0, 1, []), (9, .getfield 229, 3, [12, 32, 151]), (12, .if_icmp .ge 56, 3, [40]), (15, .aload_n 0, 1, []), (16, .iload_n 1, 1, []), (17, .invokevirtual 241, 3, [174, 1, 179, 12]), (20, .istore_n 2, 1, []), (21, .iload_n 2, 1, []), (22, .aload_n 0, 1, []), (23, .getfield 77, 3, [12, 33, 124]), (26, .iload_n 1, 1, []), (27, .iaload, 1, []), (28, .if_icmp .lt 13, 3, [25]), (31, .iload_n 2, 1, []), (32, .aload_n 0, 1, []), (33, .getfield 80, 3, [12, 34, 125]), (36, .iload_n 1, 1, []), (37, .iaload, 1, []), (38, .if_icmp .le 24, 3, [38]), (41, .aload_n 0, 1, []), (42, .iload_n 2, 1, []), (43, .aload_n 0, 1, []), (44, .getfield 77, 3, [12, 33, 124]), (47, .iload_n 1, 1, []), (48, .iaload, 1, []), (49, .if_icmp .ge 7, 3, [34]), (52, .iconst 1, 1, []), (53, .goto 4, 3, [35]), (56, .iconst 2, 1, []), (57, .iload_n 1, 1, []), (58, .iload_n 2, 1, []), (59, .invokevirtual 248, 3, [176, 3, 180, 12]), (62, .iinc 1 1, 3, []), (65, .goto (-58), 3, [5]), (68, .iconst 0, 1, []), (69, .istore_n 1, 1, []), (70, .iload_n 1, 1, []), (71, .aload_n 0, 1, []), (72, .getfield 235, 3, [12, 35, 152]), (75, .if_icmp .ge 26, 3, [59]), (78, .aload_n 0, 1, []), (79, .iload_n 1, 1, []), (80, .invokevirtual 251, 3, [177, 1, 181, 12]), (83, .istore_n 2, 1, []), (84, .iload_n 2, 1, []), (85, .ifCond .lt 10, 3, [57]), (88, .aload_n 0, 1, []), (89, .iconst 3, 1, []), (90, .iload_n 1, 1, []), (91, .iload_n 2, 1, []), (92, .invokevirtual 248, 3, [176, 3, 180, 12]), (95, .iinc 1 1, 3, []), (98, .goto (-28), 3, [42]), (101, .iconst 0, 1, []), (102, .istore_n 1, 1, []), (103, .iload_n 1, 1, []), (104, .aload_n 0, 1, []), (105, .getfield 215, 3, [12, 23, 149]), (108, .if_icmp .ge 100, 3, [124]), (111, .aload_n 0, 1, []), (112, .iload_n 1, 1, []), (113, .invokevirtual 254, 3, [178, 1, 182, 12]), (116, .ifCond .ne 7, 3, [71]), (119, .iconst 1, 1, []), (120, .goto 4, 3, [72]), (123, .iconst 0, 1, []), (124, .istore_n 2, 1, []), (125, .iload_n 2, 1, []), (126, .ifCond .eq 27, 3, [90]), (129, .aload_n 0, 1, []), (130, .getfield 89, 3, [12, 38, 128]), (133, .aload_n 0, 1, []), (134, .getfield 71, 3, [12, 25, 122]), (137, .bipush 9, 2, []), (139, .iload_n 1, 1, []), (140, .imul, 1, []), (141, .iaload, 1, []), (142, .baload, 1, []), (143, .ifCond .eq 10, 3, [90]), (146, .aload_n 0, 1, []), (147, .iconst 4, 1, []), (148, .iload_n 1, 1, []), (149, .iconst 0, 1, []), (150, .invokevirtual 248, 3, [176, 3, 180, 12]), (153, .aload_n 0, 1, []), (154, .getfield 71, 3, [12, 25, 122]), (157, .bipush 9, 2, []), (159, .iload_n 1, 1, []), (160, .imul, 1, []), (161, .iconst 5, 1, []), (162, .iadd, 1, []), (163, .iaload, 1, []), (164, .iconst 2, 1, []), (165, .if_icmp .ne 10, 3, [105]), (168, .aload_n 0, 1, []), (169, .iconst 5, 1, []), (170, .iload_n 1, 1, []), (171, .iconst 0, 1, []), (172, .invokevirtual 248, 3, [176, 3, 180, 12]), (175, .iload_n 2, 1, []), (176, .ifCond .eq 26, 3, [122]), (179, .aload_n 0, 1, []), (180, .getfield 71, 3, [12, 25, 122]), (183, .bipush 9, 2, []), (185, .iload_n 1, 1, []), (186, .imul, 1, []), (187, .iconst 5, 1, []), (188, .iadd, 1, []), (189, .iaload, 1, []), (190, .iconst 3, 1, []), (191, .if_icmp .ne 11, 3, [122]), (194, .aload_n 0, 1, []), (195, .bipush 6, 2, []), (197, .iload_n 1, 1, []), (198, .iconst 0, 1, []), (199, .invokevirtual 248, 3, [176, 3, 180, 12]), (202, .iinc 1 1, 3, []), (205, .goto (-102), 3, [61]), (208, .aload_n 0, 1, []), (209, .getfield 245, 3, [12, 39, 153]), (212, .ireturn, 1, [])]
def rd_c180 : List rd_Et := [(0, .iload_n 1, 1, []), (1, .iconst 0, 1, []), (2, .aload_n 0, 1, []), (3, .getfield 245, 3, [12, 39, 153]), (6, .iconst 1, 1, []), (7, .isub, 1, []), (8, .invokestatic 133, 3, [137, 3, 158]), (11, .ifCond .eq 25, 3, [22]), (14, .iload_n 2, 1, []), (15, .iconst 0, 1, []), (16, .iconst 2, 1, []), (17, .invokestatic 133, 3, [137, 3, 158]), (20, .ifCond .eq 16, 3, [22]), (23, .aload_n 0, 1, []), (24, .getfield 92, 3, [12, 40, 129]), (27, .iconst 3, 1, []), (28, .iload_n 1, 1, []), (29, .imul, 1, []), (30, .iload_n 2, 1, []), (31, .iadd, 1, []), (32, .iaload, 1, []), (33, .goto 4, 3, [23]), (36, .iconst (-1), 1, []), (37, .ireturn, 1, [])]
def rd_c181 : List rd_Et := [(0, .iload_n 1, 1, []), (1, .iconst 0, 1, []), (2, .bipush 9, 2, []), (4, .invokestatic 133, 3, [137, 3, 158]), (7, .istore 5, 2, []), (9, .iload_n 1, 1, []), (10, .tableswitch 288 0 9 #[54, 66, 96, 125, 154, 166, 207, 237, 249, 54], 54, [125, 7, 13, 28, 43, 58, 64, 84, 99, 105, 7]), (64, .iload_n 2, 1, []), (65, .iconst 0, 1, []), (66, .bipush 7, 2, []), (68, .invokestatic 133, 3, [137, 3, 158]), (71, .istore 5, 2, []), (73, .goto 225, 3, [125]), (76, .iload_n 2, 1, []), (77, .iconst 0, 1, []), (78, .bipush 7, 2, []), (80, .invokestatic 133, 3, [137, 3, 158]), (83, .ifCond .eq 17, 3, [25]), (86, .iload_n 3, 1, []), (87, .iconst 0, 1, []), (88, .bipush 7, 2, []), (90, .invokestatic 133, 3, [137, 3, 158]), (93, .ifCond .eq 7, 3, [25]), (96, .iconst 1, 1, []), (97, .goto 4, 3, [26]), (100, .iconst 0, 1, []), (101, .istore 5, 2, []), (103, .goto 195, 3, [125]), (106, .iload_n 2, 1, []), (107, .iconst 0, 1, []), (108, .iconst 3, 1, []), (109, .invokestatic 133, 3, [137, 3, 158]), (112, .ifCond .eq 17, 3, [40]), (115, .iload_n 3, 1, []), (116, .iconst (-1), 1, []), (117, .bipush 23, 2, []), (119, .invokestatic 133, 3, [137, 3, 158]), (122, .ifCond .eq 7, 3, [40]), (125, .iconst 1, 1, []), (126, .goto 4, 3, [41]), (129, .iconst 0, 1, []), (130, .istore 5, 2, []), (132, .goto 166, 3, [125]), (135, .iload_n 2, 1, []), (136, .iconst 0, 1, []), (137, .iconst 3, 1, []), (138, .invokestatic 133, 3, [137, 3, 158]), (141, .ifCond .eq 17, 3, [55]), (144, .iload_n 3, 1, []), (145, .iconst 0, 1, []), (146, .bipush 7, 2, []), (148, .invokestatic 133, 3, [137, 3, 158]), (151, .ifCond .eq 7, 3, [55]), (154, .iconst 1, 1, []), (155, .goto 4, 3, [56]), (158, .iconst 0, 1, []), (159, .istore 5, 2, []), (161, .goto 137, 3, [125]), (164, .iload_n 2, 1, []), (165, .iconst 0, 1, []), (166, .bipush 60, 2, []), (168, .invokestatic 133, 3, [137, 3, 158]), (171, .istore 5, 2, []), (173, .goto 125, 3, [125]), (176, .iload_n 2, 1, []), (177, .iconst 0, 1, []), (178, .bipush 7, 2, []), (180, .invokestatic 133, 3, [137, 3, 158]), (183, .ifCond .eq 28, 3, [81]), (186, .iload_n 3, 1, []), (187, .iconst 0, 1, []), (188, .bipush 7, 2, []), (190, .invokestatic 133, 3, [137, 3, 158]), (193, .ifCond .eq 18, 3, [81]), (196, .iload 4, 2, []), (198, .iconst 0, 1, []), (199, .bipush 60, 2, []), (201, .invokestatic 133, 3, [137, 3, 158]), (204, .ifCond .eq 7, 3, [81]), (207, .iconst 1, 1, []), (208, .goto 4, 3, [82]), (211, .iconst 0, 1, []), (212, .istore 5, 2, []), (214, .goto 84, 3, [125]), (217, .iload_n 2, 1, []), (218, .iconst 1, 1, []), (219, .bipush 59, 2, []), (221, .invokestatic 133, 3, [137, 3, 158]), (224, .ifCond .eq 17, 3, [96]), (227, .iload_n 3, 1, []), (228, .iconst 0, 1, []), (229, .bipush 60, 2, []), (231, .invokestatic 133, 3, [137, 3, 158]), (234, .ifCond .eq 7, 3, [96]), (237, .iconst 1, 1, []), (238, .goto 4, 3, [97]), (241, .iconst 0, 1, []), (242, .istore 5, 2, []), (244, .goto 54, 3, [125]), (247, .iload_n 2, 1, []), (248, .iconst 0, 1, []), (249, .bipush 11, 2, []), (251, .invokestatic 133, 3, [137, 3, 158]), (254, .istore 5, 2, []), (256, .goto 42, 3, [125]), (259, .iload_n 2, 1, []), (260, .iconst 0, 1, []), (261, .iconst 3, 1, []), (262, .invokestatic 133, 3, [137, 3, 158]), (265, .ifCond .eq 27, 3, [122]), (268, .iload_n 3, 1, []), (269, .iconst 0, 1, []), (270, .iconst 3, 1, []), (271, .invokestatic 133, 3, [137, 3, 158]), (274, .ifCond .eq 18, 3, [122]), (277, .iload 4, 2, []), (279, .iconst 0, 1, []), (280, .bipush 7, 2, []), (282, .invokestatic 133, 3, [137, 3, 158]), (285, .ifCond .eq 7, 3, [122]), (288, .iconst 1, 1, []), (289, .goto 4, 3, [123]), (292, .iconst 0, 1, []), (293, .istore 5, 2, []), (295, .goto 3, 3, [125]), (298, .iload 5, 2, []), (300, .ifCond .ne 5, 3, [129]), (303, .iconst (-1), 1, []), (304, .ireturn, 1, []), (305, .aload_n 0, 1, []), (306, .getfield 257, 3, [12, 41, 154]), (309, .bipush 60, 2, []), (311, .if_icmp .ne 6, 3, [135]), (314, .bipush (-3), 2, []), (316, .ireturn, 1, []), (317, .aload_n 0, 1, []), (318, .getfield 95, 3, [12, 42, 130]), (321, .aload_n 0, 1, []), (322, .getfield 257, 3, [12, 41, 154]), (325, .iload_n 1, 1, []), (326, .iastore, 1, []), (327, .aload_n 0, 1, []), (328, .getfield 98, 3, [12, 43, 131]), (331, .aload_n 0, 1, []), (332, .getfield 257, 3, [12, 41, 154]), (335, .iload_n 2, 1, []), (336, .iastore, 1, []), (337, .aload_n 0, 1, []), (338, .getfield 101, 3, [12, 44, 132]), (341, .aload_n 0, 1, []), (342, .getfield 257, 3, [12, 41, 154]), (345, .iload_n 3, 1, []), (346, .iastore, 1, []), (347, .aload_n 0, 1, []), (348, .getfield 104, 3, [12, 45, 133]), (351, .aload_n 0, 1, []), (352, .getfield 257, 3, [12, 41, 154]), (355, .iload 4, 2, []), (357, .iastore, 1, []), (358, .aload_n 0, 1, []), (359, .dup, 1, []), (360, .getfield 257, 3, [12, 41, 154]), (363, .iconst 1, 1, []), (364, .iadd, 1, []), (365, .putfield 257, 3, [12, 41, 154, 0]), (368, .aload_n 0, 1, []), (369, .getfield 257, 3, [12, 41, 154]), (372, .iconst 1, 1, []), (373, .isub, 1, []), (374, .ireturn, 1, [])]
def rd_c182 : List rd_Et := [(0, .aload_n 0, 1, []), (1, .getfield 257, 3, [12, 41, 154]), (4, .istore_n 1, 1, []), (5, .aload_n 0, 1, []), (6, .iconst 0, 1, []), (7, .putfield 257, 3, [12, 41, 154, 0]), (10, .iload_n 1, 1, []), (11, .ireturn, 1, [])]
def rd_c183 : List rd_Et := [(0, .iload_n 2, 1, []), (1, .aload_n 0, 1, []), (2, .getfield 16, 3, [12, 3, 104]), (5, .iload_n 1, 1, []), (6, .iaload, 1, []), (7, .if_icmp .lt 5, 3, [8]), (10, .iconst 0, 1, []), (11, .ireturn, 1, []), (12, .aload_n 0, 1, []), (13, .getfield 19, 3, [12, 4, 105]), (16, .iload_n 1, 1, []), (17, .iaload, 1, []), (18, .iload_n 2, 1, []), (19, .ishr, 1, []), (20, .iconst 1, 1, []), (21, .iand, 1, []), (22, .iconst 1, 1, []), (23, .if_icmp .ne 25, 3, [32]), (26, .aload_n 0, 1, []), (27, .dup, 1, []), (28, .getfield 260, 3, [12, 57, 155]), (31, .iconst 1, 1, []), (32, .iadd, 1, []), (33, .putfield 260, 3, [12, 57, 155, 0]), (36, .aload_n 0, 1, []), (37, .getfield 110, 3, [12, 47, 135]), (40, .aload_n 0, 1, []), (41, .getfield 260, 3, [12, 57, 155]), (44, .iconst 1, 1, []), (45, .isub, 1, []), (46, .iaload, 1, []), (47, .ireturn, 1, []), (48, .aload_n 0, 1, []), (49, .dup, 1, []), (50, .getfield 263, 3, [12, 56, 156]), (53, .iconst 1, 1, []), (54, .iadd, 1, []), (55, .putfield 263, 3, [12, 56, 156, 0]), (58, .aload_n 0, 1, []), (59, .getfield 107, 3, [12, 46, 134]), (62, .aload_n 0, 1, []), (63, .getfield 263, 3, [12, 56, 156]), (66, .iconst 1, 1, []), (67, .isub, 1, []), (68, .iaload, 1, []), (69, .ireturn, 1, [])]
def rd_c184 : List rd_Et := [(0, .aload_n 0, 1, []), (1, .getfield 110, 3, [12, 47, 135]), (4, .iload_n 1, 1, []), (5, .iaload, 1, []), (6, .istore_n 3, 1, []), (7, .iload_n 3, 1, []), (8, .ifCond .ge 6, 3, [9]), (11, .bipush 9, 2, []), (13, .ireturn, 1, []), (14, .aload_n 0, 1, []), (15, .iload_n 3, 1, []), (16, .iload_n 2, 1, []), (17, .invokevirtual 161, 3, [145, 2, 164, 12]), (20, .ifCond .ne 6, 3, [16]), (23, .bipush 10, 2, []), (25, .ireturn, 1, []), (26, .aload_n 0, 1, []), (27, .iload_n 3, 1, []), (28, .iload_n 2, 1, []), (29, .invokevirtual 148, 3, [146, 2, 161, 12]), (32, .istore 4, 2, []), (34, .aload_n 0, 1, []), (35, .iconst 0, 1, []), (36, .putfield 263, 3, [12, 56, 156, 0]), (39, .aload_n 0, 1, []), (40, .iconst 0, 1, []), (41, .putfield 260, 3, [12, 57, 155, 0]), (44, .aload_n 0, 1, []), (45, .iload 4, 2, []), (47, .iconst 0, 1, []), (48, .invokevirtual 266, 3, [183, 2, 183, 12]), (51, .istore 5, 2, []), (53, .aload_n 0, 1, []), (54, .iload 4, 2, []), (56, .iconst 1, 1, []), (57, .invokevirtual 266, 3, [183, 2, 183, 12]), (60, .istore 6, 2, []), (62, .aload_n 0, 1, []), (63, .iload 4, 2, []), (65, .iconst 2, 1, []), (66, .invokevirtual 266, 3, [183, 2, 183, 12]), (69, .istore 7, 2, []), (71, .aload_n 0, 1, []), (72, .iload_n 3, 1, []), (73, .iload_n 2, 1, []), (74, .iload 5, 2, []), (76, .iload 6, 2, []), (78, .iload 7, 2, []), (80, .invokevirtual 225, 3, [163, 5, 176, 12]), (83, .aload_n 0, 1, []), (84, .getfield 181, 3, [12, 30, 146]), (87, .ifCond .lt 8, 3, [55]), (90, .aload_n 0, 1, []), (91, .getfield 181, 3, [12, 30, 146]), (94, .ireturn, 1, []), (95, .aload_n 0, 1, []), (96, .getfield 22, 3, [12, 5, 106]), (99, .iload 4, 2, []), (101, .iaload, 1, []), (102, .iconst 1, 1, []), (103, .if_icmp .ne 17, 3, [68]), (106, .aload_n 0, 1, []), (107, .getfield 107, 3, [12, 46, 134]), (110, .bipush 7, 2, []), (112, .aload_n 0, 1, []), (113, .getfield 178, 3, [12, 29, 145]), (116, .iastore, 1, []), (117, .goto 24, 3, [80]), (120, .aload_n 0, 1, []), (121, .getfield 22, 3, [12, 5, 106]), (124, .iload 4, 2, []), (126, .iaload, 1, []), (127, .iconst 2, 1, []), (128, .if_icmp .ne 13, 3, [80]), (131, .aload_n 0, 1, []), (132, .getfield 110, 3, [12, 47, 135]), (135, .iconst 3, 1, []), (136, .aload_n 0, 1, []), (137, .getfield 178, 3, [12, 29, 145]), (140, .iastore, 1, []), (141, .iconst (-1), 1, []), (142, .ireturn, 1, [])]
def rd_c185 : List rd_Et := [(0, .aload_n 0, 1, []), (1, .getfield 98, 3, [12, 43, 131]), (4, .iload_n 1, 1, []), (5, .iaload, 1, []), (6, .istore_n 2, 1, []), (7, .aload_n 0, 1, []), (8, .getfield 101, 3, [12, 44, 132]), (11, .iload_n 1, 1, []), (12, .iaload, 1, []), (13, .istore_n 3, 1, []), (14, .aload_n 0, 1, []), (15, .getfield 104, 3, [12, 45, 133]), (18, .iload_n 1, 1, []), (19, .iaload, 1, []), (20, .istore 4, 2, []), (22, .aload_n 0, 1, []), (23, .iconst (-1), 1, []), (24, .putfield 269, 3, [12, 58, 157, 0]), (27, .aload_n 0, 1, []), (28, .getfield 95, 3, [12, 42, 130]), (31, .iload_n 1, 1, []), (32, .iaload, 1, []), (33, .tableswitch 243 0 8 #[51, 61, 79, 101, 114, 116, 140, 205, 213], 51, [135, 23, 29, 41, 53, 60, 62, 77, 114, 118]), (84, .aload_n 0, 1, []), (85, .getfield 107, 3, [12, 46, 134]), (88, .iload_n 2, 1, []), (89, .iload_n 3, 1, []), (90, .iastore, 1, []), (91, .goto 219, 3, [154]), (94, .aload_n 0, 1, []), (95, .getfield 107, 3, [12, 46, 134]), (98, .iload_n 2, 1, []), (99, .dup2, 1, []), (100, .iaload, 1, []), (101, .aload_n 0, 1, []), (102, .getfield 107, 3, [12, 46, 134]), (105, .iload_n 3, 1, []), (106, .iaload, 1, []), (107, .iadd, 1, []), (108, .iastore, 1, []), (109, .goto 201, 3, [154]), (112, .aload_n 0, 1, []), (113, .getfield 110, 3, [12, 47, 135]), (116, .iload_n 2, 1, []), (117, .aload_n 0, 1, []), (118, .iload_n 3, 1, []), (119, .invokevirtual 144, 3, [142, 1, 160, 12]), (122, .ifCond .eq 7, 3, [50]), (125, .iload_n 3, 1, []), (126, .goto 4, 3, [51]), (129, .iconst (-1), 1, []), (130, .iastore, 1, []), (131, .goto 179, 3, [154]), (134, .aload_n 0, 1, []), (135, .aload_n 0, 1, []), (136, .iload_n 2, 1, []), (137, .iload_n 3, 1, []), (138, .invokevirtual 272, 3, [184, 2, 184, 12]), (141, .putfield 269, 3, [12, 58, 157, 0]), (144, .goto 166, 3, [154]), (147, .iload_n 2, 1, []), (148, .ireturn, 1, []), (149, .aload_n 0, 1, []), (150, .getfield 107, 3, [12, 46, 134]), (153, .iload_n 2, 1, []), (154, .iaload, 1, []), (155, .aload_n 0, 1, []), (156, .getfield 107, 3, [12, 46, 134]), (159, .iload_n 3, 1, []), (160, .iaload, 1, []), (161, .if_icmp .ge 8, 3, [73]), (164, .iload 4, 2, []), (166, .goto 6, 3, [76]), (169, .iload_n 1, 1, []), (170, .iconst 1, 1, []), (171, .iadd, 1, []), (172, .ireturn, 1, []), (173, .aload_n 0, 1, []), (174, .getfield 275, 3, [12, 52, 158]), (177, .bipush 10, 2, []), (179, .if_icmp .ne 12, 3, [85]), (182, .aload_n 0, 1, []), (183, .bipush 11, 2, []), (185, .putfield 269, 3, [12, 58, 157, 0]), (188, .goto 122, 3, [154]), (191, .aload_n 0, 1, []), (192, .getfield 120, 3, [12, 53, 138]), (195, .aload_n 0, 1, []), (196, .getfield 275, 3, [12, 52, 158]), (199, .iload_n 1, 1, []), (200, .iconst 1, 1, []), (201, .iadd, 1, []), (202, .iastore, 1, []), (203, .aload_n 0, 1, []), (204, .getfield 123, 3, [12, 54, 139]), (207, .aload_n 0, 1, []), (208, .getfield 275, 3, [12, 52, 158]), (211, .iload_n 1, 1, []), (212, .iload_n 2, 1, []), (213, .iadd, 1, []), (214, .iastore, 1, []), (215, .aload_n 0, 1, []), (216, .getfield 126, 3, [12, 55, 140]), (219, .aload_n 0, 1, []), (220, .getfield 275, 3, [12, 52, 158]), (223, .iload_n 3, 1, []), (224, .iastore, 1, []), (225, .aload_n 0, 1, []), (226, .dup, 1, []), (227, .getfield 275, 3, [12, 52, 158]), (230, .iconst 1, 1, []), (231, .iadd, 1, []), (232, .putfield 275, 3, [12, 52, 158, 0]), (235, .goto 75, 3, [154]), (238, .aload_n 0, 1, []), (239, .iload_n 2, 1, []), (240, .putfield 269, 3, [12, 58, 157, 0]), (243, .goto 67, 3, [154]), (246, .aload_n 0, 1, []), (247, .getfield 107, 3, [12, 46, 134]), (250, .iload 4, 2, []), (252, .aload_n 0, 1, []), (253, .getfield 110, 3, [12, 47, 135]), (256, .iload_n 2, 1, []), (257, .iaload, 1, []), (258, .aload_n 0, 1, []), (259, .getfield 110, 3, [12, 47, 135]), (262, .iload_n 3, 1, []), (263, .iaload, 1, []), (264, .if_icmp .ne 7, 3, [132]), (267, .iconst 1, 1, []), (268, .goto 4, 3, [133]), (271, .iconst 0, 1, []), (272, .iastore, 1, []), (273, .goto 37, 3, [154]), (276, .aload_n 0, 1, []), (277, .getfield 278, 3, [12, 50, 159]), (280, .bipush 100, 2, []), (282, .if_icmp .ge 28, 3, [154]), (285, .aload_n 0, 1, []), (286, .getfield 117, 3, [12, 51, 137]), (289, .aload_n 0, 1, []), (290, .getfield 278, 3, [12, 50, 159]), (293, .aload_n 0, 1, []), (294, .getfield 107, 3, [12, 46, 134]), (297, .iload_n 2, 1, []), (298, .iaload, 1, []), (299, .iastore, 1, []), (300, .aload_n 0, 1, []), (301, .dup, 1, []), (302, .getfield 278, 3, [12, 50, 159]), (305, .iconst 1, 1, []), (306, .iadd, 1, []), (307, .putfield 278, 3, [12, 50, 159, 0]), (310, .iload_n 1, 1, []), (311, .iconst 1, 1, []), (312, .iadd, 1, []), (313, .ireturn, 1, [])]
def rd_c186 : List rd_Et := [(0, .iconst 0, 1, []), (1, .istore_n 2, 1, []), (2, .iconst 0, 1, []), (3, .istore_n 3, 1, []), (4, .iload_n 3, 1, []), (5, .aload_n 0, 1, []), (6, .getfield 275, 3, [12, 52, 158]), (9, .if_icmp .ge 67, 3, [46]), (12, .iload_n 1, 1, []), (13, .aload_n 0, 1, []), (14, .getfield 120, 3, [12, 53, 138]), (17, .iload_n 3, 1, []), (18, .iaload, 1, []), (19, .aload_n 0, 1, []), (20, .getfield 123, 3, [12, 54, 139]), (23, .iload_n 3, 1, []), (24, .iaload, 1, []), (25, .invokestatic 133, 3, [137, 3, 158]), (28, .ifCond .eq 42, 3, [44]), (31, .aload_n 0, 1, []), (32, .getfield 120, 3, [12, 53, 138]), (35, .iload_n 2, 1, []), (36, .aload_n 0, 1, []), (37, .getfield 120, 3, [12, 53, 138]), (40, .iload_n 3, 1, []), (41, .iaload, 1, []), (42, .iastore, 1, []), (43, .aload_n 0, 1, []), (44, .getfield 123, 3, [12, 54, 139]), (47, .iload_n 2, 1, []), (48, .aload_n 0, 1, []), (49, .getfield 123, 3, [12, 54, 139]), (52, .iload_n 3, 1, []), (53, .iaload, 1, []), (54, .iastore, 1, []), (55, .aload_n 0, 1, []), (56, .getfield 126, 3, [12, 55, 140]), (59, .iload_n 2, 1, []), (60, .aload_n 0, 1, []), (61, .getfield 126, 3, [12, 55, 140]), (64, .iload_n 3, 1, []), (65, .iaload, 1, []), (66, .iastore, 1, []), (67, .iinc 2 1, 3, []), (70, .iinc 3 1, 3, []), (73, .goto (-69), 3, [4]), (76, .aload_n 0, 1, []), (77, .iload_n 2, 1, []), (78, .putfield 275, 3, [12, 52, 158, 0]), (81, .return_, 1, [])]
def rd_c187 : List rd_Et := [(0, .iload_n 1, 1, []), (1, .iconst 1, 1, []), (2, .sipush 1000, 3, []), (5, .invokestatic 133, 3, [137, 3, 158]), (8, .ifCond .ne 5, 3, [7]), (11, .iconst (-1), 1, []), (12, .ireturn, 1, []), (13, .aload_n 0, 1, []), (14, .getfield 281, 3, [12, 49, 160]), (17, .sipush 20000, 3, []), (20, .if_icmp .lt 6, 3, [13]), (23, .bipush (-3), 2, []), (25, .ireturn, 1, []), (26, .iconst 0, 1, []), (27, .istore_n 2, 1, []), (28, .iload_n 2, 1, []), (29, .bipush 8, 2, []), (31, .if_icmp .ge 16, 3, [25]), (34, .aload_n 0, 1, []), (35, .getfield 107, 3, [12, 46, 134]), (38, .iload_n 2, 1, []), (39, .iconst 0, 1, []), (40, .iastore, 1, []), (41, .iinc 2 1, 3, []), (44, .goto (-16), 3, [15]), (47, .iconst 0, 1, []), (48, .istore_n 2, 1, []), (49, .iload_n 2, 1, []), (50, .iconst 4, 1, []), (51, .if_icmp .ge 16, 3, [37]), (54, .aload_n 0, 1, []), (55, .getfield 110, 3, [12, 47, 135]), (58, .iload_n 2, 1, []), (59, .iconst (-1), 1, []), (60, .iastore, 1, []), (61, .iinc 2 1, 3, []), (64, .goto (-15), 3, [27]), (67, .aload_n 0, 1, []), (68, .iconst 0, 1, []), (69, .putfield 113, 3, [12, 48, 136, 1]), (72, .aload_n 0, 1, []), (73, .iconst 0, 1, []), (74, .putfield 275, 3, [12, 52, 158, 0]), (77, .iconst 0, 1, []), (78, .istore_n 2, 1, []), (79, .iconst 0, 1, []), (80, .istore_n 3, 1, []), (81, .iload_n 2, 1, []), (82, .aload_n 0, 1, []), (83, .getfield 257, 3, [12, 41, 154]), (86, .if_icmp .ge 90, 3, [100]), (89, .iload_n 3, 1, []), (90, .iload_n 1, 1, []), (91, .if_icmp .ne 6, 3, [56]), (94, .bipush (-4), 2, []), (96, .ireturn, 1, []), (97, .aload_n 0, 1, []), (98, .iload_n 2, 1, []), (99, .invokevirtual 284, 3, [186, 1, 185, 12]), (102, .iinc 3 1, 3, []), (105, .aload_n 0, 1, []), (106, .dup, 1, []), (107, .getfield 281, 3, [12, 49, 160]), (110, .iconst 1, 1, []), (111, .iadd, 1, []), (112, .putfield 281, 3, [12, 49, 160, 0]), (115, .aload_n 0, 1, []), (116, .iload_n 2, 1, []), (117, .invokevirtual 288, 3, [185, 1, 186, 12]), (120, .istore_n 2, 1, []), (121, .aload_n 0, 1, []), (122, .getfield 269, 3, [12, 58, 157]), (125, .ifCond .lt (-44), 3, [47]), (128, .aload_n 0, 1, []), (129, .getfield 275, 3, [12, 52, 158]), (132, .ifCond .ne 10, 3, [81]), (135, .iconst 1, 1, []), (136, .aload_n 0, 1, []), (137, .getfield 269, 3, [12, 58, 157]), (140, .iadd, 1, []), (141, .ireturn, 1, []), (142, .aload_n 0, 1, []), (143, .dup, 1, []), (144, .getfield 275, 3, [12, 52, 158]), (147, .iconst 1, 1, []), (148, .isub, 1, []), (149, .putfield 275, 3, [12, 52, 158, 0]), (152, .aload_n 0, 1, []), (153, .getfield 107, 3, [12, 46, 134]), (156, .bipush 6, 2, []), (158, .aload_n 0, 1, []), (159, .getfield 269, 3, [12, 58, 157]), (162, .iastore, 1, []), (163, .aload_n 0, 1, []), (164, .getfield 126, 3, [12, 55, 140]), (167, .aload_n 0, 1, []), (168, .getfield 275, 3, [12, 52, 158]), (171, .iaload, 1, []), (172, .istore_n 2, 1, []), (173, .goto (-92), 3, [47]), (176, .iconst 0, 1, []), (177, .ireturn, 1, [])]
def rd_c188 : List rd_Et := [(0, .iload_n 1, 1, []), (1, .iconst 0, 1, []), (2, .bipush 7, 2, []), (4, .invokestatic 133, 3, [137, 3, 158]), (7, .ifCond .eq 12, 3, [10]), (10, .aload_n 0, 1, []), (11, .getfield 107, 3, [12, 46, 134]), (14, .iload_n 1, 1, []), (15, .iaload, 1, []), (16, .goto 40, 3, [28]), (19, .iload_n 1, 1, []), (20, .bipush 8, 2, []), (22, .bipush 11, 2, []), (24, .invokestatic 133, 3, [137, 3, 158]), (27, .ifCond .eq 26, 3, [27]), (30, .aload_n 0, 1, []), (31, .getfield 113, 3, [12, 48, 136]), (34, .ifCond .eq 7, 3, [20]), (37, .iconst (-1), 1, []), (38, .goto 18, 3, [28]), (41, .aload_n 0, 1, []), (42, .getfield 110, 3, [12, 47, 135]), (45, .iload_n 1, 1, []), (46, .bipush 8, 2, []), (48, .isub, 1, []), (49, .iaload, 1, []), (50, .goto 6, 3, [28]), (53, .sipush (-1001), 3, []), (56, .ireturn, 1, [])]
def rd_c189 : List rd_Et := [(0, .iload_n 1, 1, []), (1, .iconst 0, 1, []), (2, .aload_n 0, 1, []), (3, .getfield 278, 3, [12, 50, 159]), (6, .iconst 1, 1, []), (7, .isub, 1, []), (8, .invokestatic 133, 3, [137, 3, 158]), (11, .ifCond .eq 12, 3, [13]), (14, .aload_n 0, 1, []), (15, .getfield 117, 3, [12, 51, 137]), (18, .iload_n 1, 1, []), (19, .iaload, 1, []), (20, .goto 6, 3, [14]), (23, .sipush (-1001), 3, []), (26, .ireturn, 1, [])]
def rd_c190 : List rd_Et := [(0, .iload_n 1, 1, []), (1, .tableswitch 105 0 9 #[55, 60, 65, 70, 75, 80, 85, 90, 95, 100], 55, [32, 2, 5, 8, 11, 14, 17, 20, 23, 26, 29]), (56, .aload_n 0, 1, []), (57, .getfield 129, 3, [12, 0, 141]), (60, .ireturn, 1, []), (61, .aload_n 0, 1, []), (62, .getfield 137, 3, [12, 7, 142]), (65, .ireturn, 1, []), (66, .aload_n 0, 1, []), (67, .getfield 158, 3, [12, 16, 143]), (70, .ireturn, 1, []), (71, .aload_n 0, 1, []), (72, .getfield 215, 3, [12, 23, 149]), (75, .ireturn, 1, []), (76, .aload_n 0, 1, []), (77, .getfield 218, 3, [12, 24, 150]), (80, .ireturn, 1, []), (81, .aload_n 0, 1, []), (82, .getfield 229, 3, [12, 32, 151]), (85, .ireturn, 1, []), (86, .aload_n 0, 1, []), (87, .getfield 235, 3, [12, 35, 152]), (90, .ireturn, 1, []), (91, .aload_n 0, 1, []), (92, .getfield 257, 3, [12, 41, 154]), (95, .ireturn, 1, []), (96, .aload_n 0, 1, []), (97, .getfield 281, 3, [12, 49, 160]), (100, .ireturn, 1, []), (101, .aload_n 0, 1, []), (102, .getfield 278, 3, [12, 50, 159]), (105, .ireturn, 1, []), (106, .iload_n 1, 1, []), (107, .bipush 10, 2, []), (109, .bipush 9, 2, []), (111, .aload_n 0, 1, []), (112, .getfield 129, 3, [12, 0, 141]), (115, .iadd, 1, []), (116, .invokestatic 133, 3, [137, 3, 158]), (119, .ifCond .eq 15, 3, [47]), (122, .aload_n 0, 1, []), (123, .getfield 13, 3, [12, 2, 103]), (126, .iload_n 1, 1, []), (127, .bipush 10, 2, []), (129, .isub, 1, []), (130, .iaload, 1, []), (131, .goto 4, 3, [48]), (134, .iconst (-1), 1, []), (135, .ireturn, 1, [])]
def rd_c191 : List rd_Et := [(0, .aload_n 0, 1, []), (1, .getfield 215, 3, [12, 23, 149]), (4, .istore_n 1, 1, []), (5, .aload_n 0, 1, []), (6, .iconst 0, 1, []), (7, .putfield 215, 3, [12, 23, 149, 0]), (10, .aload_n 0, 1, []), (11, .iconst 0, 1, []), (12, .putfield 218, 3, [12, 24, 150, 0]), (15, .aload_n 0, 1, []), (16, .iconst 0, 1, []), (17, .putfield 278, 3, [12, 50, 159, 0]), (20, .iconst 0, 1, []), (21, .istore_n 2, 1, []), (22, .iload_n 2, 1, []), (23, .sipush 240, 3, []), (26, .if_icmp .ge 16, 3, [24]), (29, .aload_n 0, 1, []), (30, .getfield 64, 3, [12, 21, 120]), (33, .iload_n 2, 1, []), (34, .iconst 0, 1, []), (35, .bastore, 1, []), (36, .iinc 2 1, 3, []), (39, .goto (-17), 3, [14]), (42, .iconst 0, 1, []), (43, .istore_n 2, 1, []), (44, .iload_n 2, 1, []), (45, .bipush 80, 2, []), (47, .if_icmp .ge 16, 3, [36]), (50, .aload_n 0, 1, []), (51, .getfield 61, 3, [12, 20, 119]), (54, .iload_n 2, 1, []), (55, .iconst 0, 1, []), (56, .iastore, 1, []), (57, .iinc 2 1, 3, []), (60, .goto (-16), 3, [26]), (63, .iconst 0, 1, []), (64, .istore_n 2, 1, []), (65, .iload_n 2, 1, []), (66, .bipush 6, 2, []), (68, .if_icmp .ge 16, 3, [48]), (71, .aload_n 0, 1, []), (72, .getfield 34, 3, [12, 10, 110]), (75, .iload_n 2, 1, []), (76, .iconst 0, 1, []), (77, .iastore, 1, []), (78, .iinc 2 1, 3, []), (81, .goto (-16), 3, [38]), (84, .iload_n 1, 1, []), (85, .ireturn, 1, [])]
def rd_c192 : List rd_Et := [(0, .iload_n 0, 1, []), (1, .iload_n 1, 1, []), (2, .if_icmp .gt 7, 3, [5]), (5, .iload_n 0, 1, []), (6, .goto 4, 3, [6]), (9, .iload_n 1, 1, []), (10, .ireturn, 1, [])]
def rd_c193 : List rd_Et := [(0, .iconst 0, 1, []), (1, .istore_n 2, 1, []), (2, .aload_n 0, 1, []), (3, .arraylength, 1, []), (4, .istore_n 3, 1, []), (5, .iload_n 2, 1, []), (6, .iload_n 3, 1, []), (7, .if_icmp .ge 13, 3, [14]), (10, .aload_n 0, 1, []), (11, .iload_n 2, 1, []), (12, .iload_n 1, 1, []), (13, .iastore, 1, []), (14, .iinc 2 1, 3, []), (17, .goto (-12), 3, [5]), (20, .return_, 1, [])]
def rd_c194 : List rd_Et := [(0, .new 7, 3, [11, 9, 11]), (3, .dup, 1, []), (4, .invokespecial 9, 3, [107, 0, 187]), (7, .astore_n 1, 1, []), (8, .new 10, 3, [12, 59, 12]), (11, .dup, 1, []), (12, .invokespecial 12, 3, [136, 0, 188]), (15, .astore_n 2, 1, []), (16, .iconst 0, 1, []), (17, .istore_n 3, 1, []), (18, .iload_n 3, 1, []), (19, .aload_n 0, 1, []), (20, .arraylength, 1, []), (21, .bipush 6, 2, []), (23, .isub, 1, []), (24, .if_icmp .gt 1038, 3, [764]), (27, .aload_n 0, 1, []), (28, .iload_n 3, 1, []), (29, .iaload, 1, []), (30, .bipush 31, 2, []), (32, .iand, 1, []), (33, .tableswitch 1023 0 25 #[119, 142, 205, 238, 271, 294, 327, 390, 433, 466, 529, 552, 585, 638, 701, 734, 783, 806, 819, 852, 905, 918, 941, 964, 987, 1010], 119, [762, 22, 39, 96, 123, 150, 167, 194, 251, 288, 315, 372, 389, 416, 463, 520, 547, 582, 599, 606, 633, 680, 687, 704, 721, 738, 755]), (152, .aload_n 1, 1, []), (153, .aload_n 0, 1, []), (154, .iload_n 3, 1, []), (155, .iconst 1, 1, []), (156, .iadd, 1, []), (157, .iaload, 1, []), (158, .invokevirtual 13, 3, [108, 1, 189, 11]), (161, .aload_n 2, 1, []), (162, .aload_n 0, 1, []), (163, .iload_n 3, 1, []), (164, .iconst 1, 1, []), (165, .iadd, 1, []), (166, .iaload, 1, []), (167, .invokevirtual 17, 3, [138, 1, 190, 12]), (170, .if_icmp .eq 886, 3, [762]), (173, .iconst 0, 1, []), (174, .ireturn, 1, []), (175, .aload_n 1, 1, []), (176, .aload_n 0, 1, []), (177, .iload_n 3, 1, []), (178, .iconst 1, 1, []), (179, .iadd, 1, []), (180, .iaload, 1, []), (181, .aload_n 0, 1, []), (182, .iload_n 3, 1, []), (183, .iconst 2, 1, []), (184, .iadd, 1, []), (185, .iaload, 1, []), (186, .aload_n 0, 1, []), (187, .iload_n 3, 1, []), (188, .iconst 3, 1, []), (189, .iadd, 1, []), (190, .iaload, 1, []), (191, .aload_n 0, 1, []), (192, .iload_n 3, 1, []), (193, .iconst 4, 1, []), (194, .iadd, 1, []), (195, .iaload, 1, []), (196, .aload_n 0, 1, []), (197, .iload_n 3, 1, []), (198, .iconst 5, 1, []), (199, .iadd, 1, []), (200, .iaload, 1, []), (201, .invokevirtual 18, 3, [109, 5, 191, 11]), (204, .aload_n 2, 1, []), (205, .aload_n 0, 1, []), (206, .iload_n 3, 1, []), (207, .iconst 1, 1, []), (208, .iadd, 1, []), (209, .iaload, 1, []), (210, .aload_n 0, 1, []), (211, .iload_n 3, 1, []), (212, .iconst 2, 1, []), (213, .iadd, 1, []), (214, .iaload, 1, []), (215, .aload_n 0, 1, []), (216, .iload_n 3, 1, []), (217, .iconst 3, 1, []), (218, .iadd, 1, []), (219, .iaload, 1, []), (220, .aload_n 0, 1, []), (221, .iload_n 3, 1, []), (222, .iconst 4, 1, []), (223, .iadd, 1, []), (224, .iaload, 1, []), (225, .aload_n 0, 1, []), (226, .iload_n 3, 1, []), (227, .iconst 5, 1, []), (228, .iadd, 1, []), (229, .iaload, 1, []), (230, .invokevirtual 22, 3, [140, 5, 192, 12]), (233, .if_icmp .eq 823, 3, [762]), (236, .iconst 0, 1, []), (237, .ireturn, 1, []), (238, .aload_n 1, 1, []), (239, .aload_n 0, 1, []), (240, .iload_n 3, 1, []), (241, .iconst 1, 1, []), (242, .iadd, 1, []), (243, .iaload, 1, []), (244, .aload_n 0, 1, []), (245, .iload_n 3, 1, []), (246, .iconst 2, 1, []), (247, .iadd, 1, []), (248, .iaload, 1, []), (249, .invokevirtual 23, 3, [110, 2, 193, 11]), (252, .aload_n 2, 1, []), (253, .aload_n 0, 1, []), (254, .iload_n 3, 1, []), (255, .iconst 1, 1, []), (256, .iadd, 1, []), (257, .iaload, 1, []), (258, .aload_n 0, 1, []), (259, .iload_n 3, 1, []), (260, .iconst 2, 1, []), (261, .iadd, 1, []), (262, .iaload, 1, []), (263, .invokevirtual 27, 3, [141, 2, 194, 12]), (266, .if_icmp .eq 790, 3, [762]), (269, .iconst 0, 1, []), (270, .ireturn, 1, []), (271, .aload_n 1, 1, []), (272, .aload_n 0, 1, []), (273, .iload_n 3, 1, []), (274, .iconst 1, 1, []), (275, .iadd, 1, []), (276, .iaload, 1, []), (277, .aload_n 0, 1, []), (278, .iload_n 3, 1, []), (279, .iconst 2, 1, []), (280, .iadd, 1, []), (281, .iaload, 1, []), (282, .invokevirtual 28, 3, [111, 2, 195, 11]), (285, .aload_n 2, 1, []), (286, .aload_n 0, 1, []), (287, .iload_n 3, 1, []), (288, .iconst 1, 1, []), (289, .iadd, 1, []), (290, .iaload, 1, []), (291, .aload_n 0, 1, []), (292, .iload_n 3, 1, []), (293, .iconst 2, 1, []), (294, .iadd, 1, []), (295, .iaload, 1, []), (296, .invokevirtual 31, 3, [143, 2, 196, 12]), (299, .if_icmp .eq 757, 3, [762]), (302, .iconst 0, 1, []), (303, .ireturn, 1, []), (304, .aload_n 1, 1, []), (305, .aload_n 0, 1, []), (306, .iload_n 3, 1, []), (307, .iconst 1, 1, []), (308, .iadd, 1, []), (309, .iaload, 1, []), (310, .invokevirtual 32, 3, [112, 1, 197, 11]), (313, .aload_n 2, 1, []), (314, .aload_n 0, 1, []), (315, .iload_n 3, 1, []), (316, .iconst 1, 1, []), (317, .iadd, 1, []), (318, .iaload, 1, []), (319, .invokevirtual 35, 3, [144, 1, 198, 12]), (322, .if_icmp .eq 734, 3, [762]), (325, .iconst 0, 1, []), (326, .ireturn, 1, []), (327, .aload_n 1, 1, []), (328, .aload_n 0, 1, []), (329, .iload_n 3, 1, []), (330, .iconst 1, 1, []), (331, .iadd, 1, []), (332, .iaload, 1, []), (333, .aload_n 0, 1, []), (334, .iload_n 3, 1, []), (335, .iconst 2, 1, []), (336, .iadd, 1, []), (337, .iaload, 1, []), (338, .invokevirtual 36, 3, [113, 2, 199, 11]), (341, .aload_n 2, 1, []), (342, .aload_n 0, 1, []), (343, .iload_n 3, 1, []), (344, .iconst 1, 1, []), (345, .iadd, 1, []), (346, .iaload, 1, []), (347, .aload_n 0, 1, []), (348, .iload_n 3, 1, []), (349, .iconst 2, 1, []), (350, .iadd, 1, []), (351, .iaload, 1, []), (352, .invokevirtual 39, 3, [153, 2, 200, 12]), (355, .if_icmp .eq 701, 3, [762]), (358, .iconst 0, 1, []), (359, .ireturn, 1, []), (360, .aload_n 1, 1, []), (361, .aload_n 0, 1, []), (362, .iload_n 3, 1, []), (363, .iconst 1, 1, []), (364, .iadd, 1, []), (365, .iaload, 1, []), (366, .aload_n 0, 1, []), (367, .iload_n 3, 1, []), (368, .iconst 2, 1, []), (369, .iadd, 1, []), (370, .iaload, 1, []), (371, .aload_n 0, 1, []), (372, .iload_n 3, 1, []), (373, .iconst 3, 1, []), (374, .iadd, 1, []), (375, .iaload, 1, []), (376, .aload_n 0, 1, []), (377, .iload_n 3, 1, []), (378, .iconst 4, 1, []), (379, .iadd, 1, []), (380, .iaload, 1, []), (381, .aload_n 0, 1, []), (382, .iload_n 3, 1, []), (383, .iconst 5, 1, []), (384, .iadd, 1, []), (385, .iaload, 1, []), (386, .invokevirtual 40, 3, [114, 5, 201, 11]), (389, .aload_n 2, 1, []), (390, .aload_n 0, 1, []), (391, .iload_n 3, 1, []), (392, .iconst 1, 1, []), (393, .iadd, 1, []), (394, .iaload, 1, []), (395, .aload_n 0, 1, []), (396, .iload_n 3, 1, []), (397, .iconst 2, 1, []), (398, .iadd, 1, []), (399, .iaload, 1, []), (400, .aload_n 0, 1, []), (401, .iload_n 3, 1, []), (402, .iconst 3, 1, []), (403, .iadd, 1, []), (404, .iaload, 1, []), (405, .aload_n 0, 1, []), (406, .iload_n 3, 1, []), (407, .iconst 4, 1, []), (408, .iadd, 1, []), (409, .iaload, 1, []), (410, .aload_n 0, 1, []), (411, .iload_n 3, 1, []), (412, .iconst 5, 1, []), (413, .iadd, 1, []), (414, .iaload, 1, []), (415, .invokevirtual 43, 3, [154, 5, 202, 12]), (418, .if_icmp .eq 638, 3, [762]), (421, .iconst 0, 1, []), (422, .ireturn, 1, []), (423, .aload_n 1, 1, []), (424, .aload_n 0, 1, []), (425, .iload_n 3, 1, []), (426, .iconst 1, 1, []), (427, .iadd, 1, []), (428, .iaload, 1, []), (429, .aload_n 0, 1, []), (430, .iload_n 3, 1, []), (431, .iconst 2, 1, []), (432, .iadd, 1, []), (433, .iaload, 1, []), (434, .aload_n 0, 1, []), (435, .iload_n 3, 1, []), (436, .iconst 3, 1, []), (437, .iadd, 1, []), (438, .iaload, 1, []), (439, .invokevirtual 44, 3, [115, 3, 203, 11]), (442, .aload_n 2, 1, []), (443, .aload_n 0, 1, []), (444, .iload_n 3, 1, []), (445, .iconst 1, 1, []), (446, .iadd, 1, []), (447, .iaload, 1, []), (448, .aload_n 0, 1, []), (449, .iload_n 3, 1, []), (450, .iconst 2, 1, []), (451, .iadd, 1, []), (452, .iaload, 1, []), (453, .aload_n 0, 1, []), (454, .iload_n 3, 1, []), (455, .iconst 3, 1, []), (456, .iadd, 1, []), (457, .iaload, 1, []), (458, .invokevirtual 48, 3, [155, 3, 204, 12]), (461, .if_icmp .eq 595, 3, [762]), (464, .iconst 0, 1, []), (465, .ireturn, 1, []), (466, .aload_n 1, 1, []), (467, .aload_n 0, 1, []), (468, .iload_n 3, 1, []), (469, .iconst 1, 1, []), (470, .iadd, 1, []), (471, .iaload, 1, []), (472, .aload_n 0, 1, []), (473, .iload_n 3, 1, []), (474, .iconst 2, 1, []), (475, .iadd, 1, []), (476, .iaload, 1, []), (477, .invokevirtual 49, 3, [116, 2, 205, 11]), (480, .aload_n 2, 1, []), (481, .aload_n 0, 1, []), (482, .iload_n 3, 1, []), (483, .iconst 1, 1, []), (484, .iadd, 1, []), (485, .iaload, 1, []), (486, .aload_n 0, 1, []), (487, .iload_n 3, 1, []), (488, .iconst 2, 1, []), (489, .iadd, 1, []), (490, .iaload, 1, []), (491, .invokevirtual 52, 3, [156, 2, 206, 12]), (494, .if_icmp .eq 562, 3, [762]), (497, .iconst 0, 1, []), (498, .ireturn, 1, []), (499, .aload_n 1, 1, []), (500, .aload_n 0, 1, []), (501, .iload_n 3, 1, []), (502, .iconst 1, 1, []), (503, .iadd, 1, []), (504, .iaload, 1, []), (505, .aload_n 0, 1, []), (506, .iload_n 3, 1, []), (507, .iconst 2, 1, []), (508, .iadd, 1, []), (509, .iaload, 1, []), (510, .aload_n 0, 1, []), (511, .iload_n 3, 1, []), (512, .iconst 3, 1, []), (513, .iadd, 1, []), (514, .iaload, 1, []), (515, .aload_n 0, 1, []), (516, .iload_n 3, 1, []), (517, .iconst 4, 1, []), (518, .iadd, 1, []), (519, .iaload, 1, []), (520, .aload_n 0, 1, []), (521, .iload_n 3, 1, []), (522, .iconst 5, 1, []), (523, .iadd, 1, []), (524, .iaload, 1, []), (525, .invokevirtual 53, 3, [117, 5, 207, 11]), (528, .aload_n 2, 1, []), (529, .aload_n 0, 1, []), (530, .iload_n 3, 1, []), (531, .iconst 1, 1, []), (532, .iadd, 1, []), (533, .iaload, 1, []), (534, .aload_n 0, 1, []), (535, .iload_n 3, 1, []), (536, .iconst 2, 1, []), (537, .iadd, 1, []), (538, .iaload, 1, []), (539, .aload_n 0, 1, []), (540, .iload_n 3, 1, []), (541, .iconst 3, 1, []), (542, .iadd, 1, []), (543, .iaload, 1, []), (544, .aload_n 0, 1, []), (545, .iload_n 3, 1, []), (546, .iconst 4, 1, []), (547, .iadd, 1, []), (548, .iaload, 1, []), (549, .aload_n 0, 1, []), (550, .iload_n 3, 1, []), (551, .iconst 5, 1, []), (552, .iadd, 1, []), (553, .iaload, 1, []), (554, .invokevirtual 56, 3, [165, 5, 208, 12]), (557, .if_icmp .eq 499, 3, [762]), (560, .iconst 0, 1, []), (561, .ireturn, 1, []), (562, .aload_n 1, 1, []), (563, .aload_n 0, 1, []), (564, .iload_n 3, 1, []), (565, .iconst 1, 1, []), (566, .iadd, 1, []), (567, .iaload, 1, []), (568, .invokevirtual 57, 3, [119, 1, 209, 11]), (571, .aload_n 2, 1, []), (572, .aload_n 0, 1, []), (573, .iload_n 3, 1, []), (574, .iconst 1, 1, []), (575, .iadd, 1, []), (576, .iaload, 1, []), (577, .invokevirtual 60, 3, [166, 1, 210, 12]), (580, .if_icmp .eq 476, 3, [762]), (583, .iconst 0, 1, []), (584, .ireturn, 1, []), (585, .aload_n 1, 1, []), (586, .aload_n 0, 1, []), (587, .iload_n 3, 1, []), (588, .iconst 1, 1, []), (589, .iadd, 1, []), (590, .iaload, 1, []), (591, .aload_n 0, 1, []), (592, .iload_n 3, 1, []), (593, .iconst 2, 1, []), (594, .iadd, 1, []), (595, .iaload, 1, []), (596, .invokevirtual 61, 3, [120, 2, 211, 11]), (599, .aload_n 2, 1, []), (600, .aload_n 0, 1, []), (601, .iload_n 3, 1, []), (602, .iconst 1, 1, []), (603, .iadd, 1, []), (604, .iaload, 1, []), (605, .aload_n 0, 1, []), (606, .iload_n 3, 1, []), (607, .iconst 2, 1, []), (608, .iadd, 1, []), (609, .iaload, 1, []), (610, .invokevirtual 64, 3, [167, 2, 212, 12]), (613, .if_icmp .eq 443, 3, [762]), (616, .iconst 0, 1, []), (617, .ireturn, 1, []), (618, .aload_n 1, 1, []), (619, .aload_n 0, 1, []), (620, .iload_n 3, 1, []), (621, .iconst 1, 1, []), (622, .iadd, 1, []), (623, .iaload, 1, []), (624, .aload_n 0, 1, []), (625, .iload_n 3, 1, []), (626, .iconst 2, 1, []), (627, .iadd, 1, []), (628, .iaload, 1, []), (629, .aload_n 0, 1, []), (630, .iload_n 3, 1, []), (631, .iconst 3, 1, []), (632, .iadd, 1, []), (633, .iaload, 1, []), (634, .aload_n 0, 1, []), (635, .iload_n 3, 1, []), (636, .iconst 4, 1, []), (637, .iadd, 1, []), (638, .iaload, 1, []), (639, .invokevirtual 65, 3, [121, 4, 213, 11]), (642, .aload_n 2, 1, []), (643, .aload_n 0, 1, []), (644, .iload_n 3, 1, []), (645, .iconst 1, 1, []), (646, .iadd, 1, []), (647, .iaload, 1, []), (648, .aload_n 0, 1, []), (649, .iload_n 3, 1, []), (650, .iconst 2, 1, []), (651, .iadd, 1, []), (652, .iaload, 1, []), (653, .aload_n 0, 1, []), (654, .iload_n 3, 1, []), (655, .iconst 3, 1, []), (656, .iadd, 1, []), (657, .iaload, 1, []), (658, .aload_n 0, 1, []), (659, .iload_n 3, 1, []), (660, .iconst 4, 1, []), (661, .iadd, 1, []), (662, .iaload, 1, []), (663, .invokevirtual 69, 3, [169, 4, 214, 12]), (666, .if_icmp .eq 390, 3, [762]), (669, .iconst 0, 1, []), (670, .ireturn, 1, []), (671, .aload_n 1, 1, []), (672, .aload_n 0, 1, []), (673, .iload_n 3, 1, []), (674, .iconst 1, 1, []), (675, .iadd, 1, []), (676, .iaload, 1, []), (677, .aload_n 0, 1, []), (678, .iload_n 3, 1, []), (679, .iconst 2, 1, []), (680, .iadd, 1, []), (681, .iaload, 1, []), (682, .aload_n 0, 1, []), (683, .iload_n 3, 1, []), (684, .iconst 3, 1, []), (685, .iadd, 1, []), (686, .iaload, 1, []), (687, .aload_n 0, 1, []), (688, .iload_n 3, 1, []), (689, .iconst 4, 1, []), (690, .iadd, 1, []), (691, .iaload, 1, []), (692, .aload_n 0, 1, []), (693, .iload_n 3, 1, []), (694, .iconst 5, 1, []), (695, .iadd, 1, []), (696, .iaload, 1, []), (697, .invokevirtual 70, 3, [122, 5, 215, 11]), (700, .aload_n 2, 1, []), (701, .aload_n 0, 1, []), (702, .iload_n 3, 1, []), (703, .iconst 1, 1, []), (704, .iadd, 1, []), (705, .iaload, 1, []), (706, .aload_n 0, 1, []), (707, .iload_n 3, 1, []), (708, .iconst 2, 1, []), (709, .iadd, 1, []), (710, .iaload, 1, []), (711, .aload_n 0, 1, []), (712, .iload_n 3, 1, []), (713, .iconst 3, 1, []), (714, .iadd, 1, []), (715, .iaload, 1, []), (716, .aload_n 0, 1, []), (717, .iload_n 3, 1, []), (718, .iconst 4, 1, []), (719, .iadd, 1, []), (720, .iaload, 1, []), (721, .aload_n 0, 1, []), (722, .iload_n 3, 1, []), (723, .iconst 5, 1, []), (724, .iadd, 1, []), (725, .iaload, 1, []), (726, .invokevirtual 73, 3, [170, 5, 216, 12]), (729, .if_icmp .eq 327, 3, [762]), (732, .iconst 0, 1, []), (733, .ireturn, 1, []), (734, .aload_n 1, 1, []), (735, .aload_n 0, 1, []), (736, .iload_n 3, 1, []), (737, .iconst 1, 1, []), (738, .iadd, 1, []), (739, .iaload, 1, []), (740, .aload_n 0, 1, []), (741, .iload_n 3, 1, []), (742, .iconst 2, 1, []), (743, .iadd, 1, []), (744, .iaload, 1, []), (745, .invokevirtual 74, 3, [123, 2, 217, 11]), (748, .aload_n 2, 1, []), (749, .aload_n 0, 1, []), (750, .iload_n 3, 1, []), (751, .iconst 1, 1, []), (752, .iadd, 1, []), (753, .iaload, 1, []), (754, .aload_n 0, 1, []), (755, .iload_n 3, 1, []), (756, .iconst 2, 1, []), (757, .iadd, 1, []), (758, .iaload, 1, []), (759, .invokevirtual 77, 3, [171, 2, 218, 12]), (762, .if_icmp .eq 294, 3, [762]), (765, .iconst 0, 1, []), (766, .ireturn, 1, []), (767, .aload_n 1, 1, []), (768, .aload_n 0, 1, []), (769, .iload_n 3, 1, []), (770, .iconst 1, 1, []), (771, .iadd, 1, []), (772, .iaload, 1, []), (773, .aload_n 0, 1, []), (774, .iload_n 3, 1, []), (775, .iconst 2, 1, []), (776, .iadd, 1, []), (777, .iaload, 1, []), (778, .ifCond .eq 7, 3, [561]), (781, .iconst 1, 1, []), (782, .goto 4, 3, [562]), (785, .iconst 0, 1, []), (786, .invokevirtual 78, 3, [124, 2, 219, 11]), (789, .aload_n 2, 1, []), (790, .aload_n 0, 1, []), (791, .iload_n 3, 1, []), (792, .iconst 1, 1, []), (793, .iadd, 1, []), (794, .iaload, 1, []), (795, .aload_n 0, 1, []), (796, .iload_n 3, 1, []), (797, .iconst 2, 1, []), (798, .iadd, 1, []), (799, .iaload, 1, []), (800, .ifCond .eq 7, 3, [577]), (803, .iconst 1, 1, []), (804, .goto 4, 3, [578]), (807, .iconst 0, 1, []), (808, .invokevirtual 82, 3, [172, 2, 220, 12]), (811, .if_icmp .eq 245, 3, [762]), (814, .iconst 0, 1, []), (815, .ireturn, 1, []), (816, .aload_n 1, 1, []), (817, .aload_n 0, 1, []), (818, .iload_n 3, 1, []), (819, .iconst 1, 1, []), (820, .iadd, 1, []), (821, .iaload, 1, []), (822, .invokevirtual 83, 3, [125, 1, 221, 11]), (825, .aload_n 2, 1, []), (826, .aload_n 0, 1, []), (827, .iload_n 3, 1, []), (828, .iconst 1, 1, []), (829, .iadd, 1, []), (830, .iaload, 1, []), (831, .invokevirtual 86, 3, [175, 1, 222, 12]), (834, .if_icmp .eq 222, 3, [762]), (837, .iconst 0, 1, []), (838, .ireturn, 1, []), (839, .aload_n 1, 1, []), (840, .invokevirtual 87, 3, [126, 0, 223, 11]), (843, .aload_n 2, 1, []), (844, .invokevirtual 91, 3, [179, 0, 224, 12]), (847, .if_icmp .eq 209, 3, [762]), (850, .iconst 0, 1, []), (851, .ireturn, 1, []), (852, .aload_n 1, 1, []), (853, .aload_n 0, 1, []), (854, .iload_n 3, 1, []), (855, .iconst 1, 1, []), (856, .iadd, 1, []), (857, .iaload, 1, []), (858, .aload_n 0, 1, []), (859, .iload_n 3, 1, []), (860, .iconst 2, 1, []), (861, .iadd, 1, []), (862, .iaload, 1, []), (863, .invokevirtual 92, 3, [127, 2, 225, 11]), (866, .aload_n 2, 1, []), (867, .aload_n 0, 1, []), (868, .iload_n 3, 1, []), (869, .iconst 1, 1, []), (870, .iadd, 1, []), (871, .iaload, 1, []), (872, .aload_n 0, 1, []), (873, .iload_n 3, 1, []), (874, .iconst 2, 1, []), (875, .iadd, 1, []), (876, .iaload, 1, []), (877, .invokevirtual 95, 3, [180, 2, 226, 12]), (880, .if_icmp .eq 176, 3, [762]), (883, .iconst 0, 1, []), (884, .ireturn, 1, []), (885, .aload_n 1, 1, []), (886, .aload_n 0, 1, []), (887, .iload_n 3, 1, []), (888, .iconst 1, 1, []), (889, .iadd, 1, []), (890, .iaload, 1, []), (891, .aload_n 0, 1, []), (892, .iload_n 3, 1, []), (893, .iconst 2, 1, []), (894, .iadd, 1, []), (895, .iaload, 1, []), (896, .aload_n 0, 1, []), (897, .iload_n 3, 1, []), (898, .iconst 3, 1, []), (899, .iadd, 1, []), (900, .iaload, 1, []), (901, .aload_n 0, 1, []), (902, .iload_n 3, 1, []), (903, .iconst 4, 1, []), (904, .iadd, 1, []), (905, .iaload, 1, []), (906, .invokevirtual 96, 3, [128, 4, 227, 11]), (909, .aload_n 2, 1, []), (910, .aload_n 0, 1, []), (911, .iload_n 3, 1, []), (912, .iconst 1, 1, []), (913, .iadd, 1, []), (914, .iaload, 1, []), (915, .aload_n 0, 1, []), (916, .iload_n 3, 1, []), (917, .iconst 2, 1, []), (918, .iadd, 1, []), (919, .iaload, 1, []), (920, .aload_n 0, 1, []), (921, .iload_n 3, 1, []), (922, .iconst 3, 1, []), (923, .iadd, 1, []), (924, .iaload, 1, []), (925, .aload_n 0, 1, []), (926, .iload_n 3, 1, []), (927, .iconst 4, 1, []), (928, .iadd, 1, []), (929, .iaload, 1, []), (930, .invokevirtual 99, 3, [181, 4, 228, 12]), (933, .if_icmp .eq 123, 3, [762]), (936, .iconst 0, 1, []), (937, .ireturn, 1, []), (938, .aload_n 1, 1, []), (939, .invokevirtual 100, 3, [129, 0, 229, 11]), (942, .aload_n 2, 1, []), (943, .invokevirtual 103, 3, [182, 0, 230, 12]), (946, .if_icmp .eq 110, 3, [762]), (949, .iconst 0, 1, []), (950, .ireturn, 1, []), (951, .aload_n 1, 1, []), (952, .aload_n 0, 1, []), (953, .iload_n 3, 1, []), (954, .iconst 1, 1, []), (955, .iadd, 1, []), (956, .iaload, 1, []), (957, .invokevirtual 104, 3, [130, 1, 231, 11]), (960, .aload_n 2, 1, []), (961, .aload_n 0, 1, []), (962, .iload_n 3, 1, []), (963, .iconst 1, 1, []), (964, .iadd, 1, []), (965, .iaload, 1, []), (966, .invokevirtual 107, 3, [187, 1, 232, 12]), (969, .if_icmp .eq 87, 3, [762]), (972, .iconst 0, 1, []), (973, .ireturn, 1, []), (974, .aload_n 1, 1, []), (975, .aload_n 0, 1, []), (976, .iload_n 3, 1, []), (977, .iconst 1, 1, []), (978, .iadd, 1, []), (979, .iaload, 1, []), (980, .invokevirtual 108, 3, [131, 1, 233, 11]), (983, .aload_n 2, 1, []), (984, .aload_n 0, 1, []), (985, .iload_n 3, 1, []), (986, .iconst 1, 1, []), (987, .iadd, 1, []), (988, .iaload, 1, []), (989, .invokevirtual 111, 3, [188, 1, 234, 12]), (992, .if_icmp .eq 64, 3, [762]), (995, .iconst 0, 1, []), (996, .ireturn, 1, []), (997, .aload_n 1, 1, []), (998, .aload_n 0, 1, []), (999, .iload_n 3, 1, []), (1000, .iconst 1, 1, []), (1001, .iadd, 1, []), (1002, .iaload, 1, []), (1003, .invokevirtual 112, 3, [132, 1, 235, 11]), (1006, .aload_n 2, 1, []), (1007, .aload_n 0, 1, []), (1008, .iload_n 3, 1, []), (1009, .iconst 1, 1, []), (1010, .iadd, 1, []), (1011, .iaload, 1, []), (1012, .invokevirtual 115, 3, [189, 1, 236, 12]), (1015, .if_icmp .eq 41, 3, [762]), (1018, .iconst 0, 1, []), (1019, .ireturn, 1, []), (1020, .aload_n 1, 1, []), (1021, .aload_n 0, 1, []), (1022, .iload_n 3, 1, []), (1023, .iconst 1, 1, []), (1024, .iadd, 1, []), (1025, .iaload, 1, []), (1026, .invokevirtual 116, 3, [133, 1, 237, 11]), (1029, .aload_n 2, 1, []), (1030, .aload_n 0, 1, []), (1031, .iload_n 3, 1, []), (1032, .iconst 1, 1, []), (1033, .iadd, 1, []), (1034, .iaload, 1, []), (1035, .invokevirtual 119, 3, [190, 1, 238, 12]), (1038, .if_icmp .eq 18, 3, [762]), (1041, .iconst 0, 1, []), (1042, .ireturn, 1, []), (1043, .aload_n 1, 1, []), (1044, .invokevirtual 120, 3, [135, 0, 239, 11]), (1047, .aload_n 2, 1, []), (1048, .invokevirtual 123, 3, [191, 0, 240, 12]), (1051, .if_icmp .eq 5, 3, [762]), (1054, .iconst 0, 1, []), (1055, .ireturn, 1, []), (1056, .iinc 3 6, 3, []), (1059, .goto (-1041), 3, [10]), (1062, .iconst 1, 1, []), (1063, .ireturn, 1, [])]
def rd_ct : List (List rd_Et) := [rd_c0, rd_c1, rd_c2, rd_c3, rd_c4, rd_c5, rd_c6, rd_c7, rd_c8, rd_c9, rd_c10, rd_c11, rd_c12, rd_c13, rd_c14, rd_c15, rd_c16, rd_c17, rd_c18, rd_c19, rd_c20, rd_c21, rd_c22, rd_c23, rd_c24, rd_c25, rd_c26, rd_c27, rd_c28, rd_c29, rd_c30, rd_c31, rd_c32, rd_c33, rd_c34, rd_c35, rd_c36, rd_c37, rd_c38, rd_c39, rd_c40, rd_c41, rd_c42, rd_c43, rd_c44, rd_c45, rd_c46, rd_c47, rd_c48, rd_c49, rd_c50, rd_c51, rd_c52, rd_c53, rd_c54, rd_c55, rd_c56, rd_c57, rd_c58, rd_c59, rd_c60, rd_c61, rd_c62, rd_c63, rd_c64, rd_c65, rd_c66, rd_c67, rd_c68, rd_c69, rd_c70, rd_c71, rd_c72, rd_c73, rd_c74, rd_c75, rd_c76, rd_c77, rd_c78, rd_c79, rd_c80, rd_c81, rd_c82, rd_c83, rd_c84, rd_c85, rd_c86, rd_c87, rd_c88, rd_c89, rd_c90, rd_c91, rd_c92, rd_c93, rd_c94, rd_c95, rd_c96, rd_c97, rd_c98, rd_c99, rd_c100, rd_c101, rd_c102, rd_c103, rd_c104, rd_c105, rd_c106, rd_c107, rd_c108, rd_c109, rd_c110, rd_c111, rd_c112, rd_c113, rd_c114, rd_c115, rd_c116, rd_c117, rd_c118, rd_c119, rd_c120, rd_c121, rd_c122, rd_c123, rd_c124, rd_c125, rd_c126, rd_c127, rd_c128, rd_c129, rd_c130, rd_c131, rd_c132, rd_c133, rd_c134, rd_c135, rd_c136, rd_c137, rd_c138, rd_c139, rd_c140, rd_c141, rd_c142, rd_c143, rd_c144, rd_c145, rd_c146, rd_c147, rd_c148, rd_c149, rd_c150, rd_c151, rd_c152, rd_c153, rd_c154, rd_c155, rd_c156, rd_c157, rd_c158, rd_c159, rd_c160, rd_c161, rd_c162, rd_c163, rd_c164, rd_c165, rd_c166, rd_c167, rd_c168, rd_c169, rd_c170, rd_c171, rd_c172, rd_c173, rd_c174, rd_c175, rd_c176, rd_c177, rd_c178, rd_c179, rd_c180, rd_c181, rd_c182, rd_c183, rd_c184, rd_c185, rd_c186, rd_c187, rd_c188, rd_c189, rd_c190, rd_c191, rd_c192, rd_c193, rd_c194]
def rd_look (k i : Nat) : Option rd_Et := match rd_nth rd_ct k with
  | some l => rd_nth l i
  | none => none
end
section
theorem rd_d0 : ∀ e ∈ rd_c0, decode cX0_init e.1 = .ok (e.2.1, e.2.2.1) := by decide +kernel
theorem rd_d1 : ∀ e ∈ rd_c1, decode cX0_isWornOut e.1 = .ok (e.2.1, e.2.2.1) := by decide +kernel
theorem rd_d2 : ∀ e ∈ rd_c2, decode cX0_cuesDone e.1 = .ok (e.2.1, e.2.2.1) := by decide +kernel
theorem rd_d3 : ∀ e ∈ rd_c3, decode cX0_begin e.1 = .ok (e.2.1, e.2.2.1) := by decide +kernel
theorem rd_d4 : ∀ e ∈ rd_c4, decode cX0_isAtCue e.1 = .ok (e.2.1, e.2.2.1) := by decide +kernel
theorem rd_d5 : ∀ e ∈ rd_c5, decode cX0_doCue e.1 = .ok (e.2.1, e.2.2.1) := by decide +kernel
theorem rd_d6 : ∀ e ∈ rd_c6, decode cX0_callHeld e.1 = .ok (e.2.1, e.2.2.1) := by decide +kernel
theorem rd_d7 : ∀ e ∈ rd_c7, decode cX0_bringAll e.1 = .ok (e.2.1, e.2.2.1) := by decide +kernel
theorem rd_d8 : ∀ e ∈ rd_c8, decode cX0_tell e.1 = .ok (e.2.1, e.2.2.1) := by decide +kernel
theorem rd_d9 : ∀ e ∈ rd_c9, decode cX0_recover e.1 = .ok (e.2.1, e.2.2.1) := by decide +kernel
theorem rd_d10 : ∀ e ∈ rd_c10, decode cX0_arrive e.1 = .ok (e.2.1, e.2.2.1) := by decide +kernel
theorem rd_d11 : ∀ e ∈ rd_c11, decode cX0_toldSize e.1 = .ok (e.2.1, e.2.2.1) := by decide +kernel
theorem rd_d12 : ∀ e ∈ rd_c12, decode cX0_toldNumber e.1 = .ok (e.2.1, e.2.2.1) := by decide +kernel
theorem rd_d13 : ∀ e ∈ rd_c13, decode cX0_emptyTold e.1 = .ok (e.2.1, e.2.2.1) := by decide +kernel
theorem rd_d14 : ∀ e ∈ rd_c14, decode cX1_init e.1 = .ok (e.2.1, e.2.2.1) := by decide +kernel
theorem rd_d15 : ∀ e ∈ rd_c15, decode cX1_isCue e.1 = .ok (e.2.1, e.2.2.1) := by decide +kernel
theorem rd_d16 : ∀ e ∈ rd_c16, decode cX1_isWithin e.1 = .ok (e.2.1, e.2.2.1) := by decide +kernel
theorem rd_d17 : ∀ e ∈ rd_c17, decode cX1_size e.1 = .ok (e.2.1, e.2.2.1) := by decide +kernel
theorem rd_d18 : ∀ e ∈ rd_c18, decode cX1_add e.1 = .ok (e.2.1, e.2.2.1) := by decide +kernel
theorem rd_d19 : ∀ e ∈ rd_c19, decode cX1_removeAll e.1 = .ok (e.2.1, e.2.2.1) := by decide +kernel
theorem rd_d20 : ∀ e ∈ rd_c20, decode cX2_init e.1 = .ok (e.2.1, e.2.2.1) := by decide +kernel
theorem rd_d21 : ∀ e ∈ rd_c21, decode cX2_add e.1 = .ok (e.2.1, e.2.2.1) := by decide +kernel
theorem rd_d22 : ∀ e ∈ rd_c22, decode cX2_orders e.1 = .ok (e.2.1, e.2.2.1) := by decide +kernel
theorem rd_d23 : ∀ e ∈ rd_c23, decode cX2_addOrder e.1 = .ok (e.2.1, e.2.2.1) := by decide +kernel
theorem rd_d24 : ∀ e ∈ rd_c24, decode cX2_countMeeting e.1 = .ok (e.2.1, e.2.2.1) := by decide +kernel
theorem rd_d25 : ∀ e ∈ rd_c25, decode cX2_survey e.1 = .ok (e.2.1, e.2.2.1) := by decide +kernel
theorem rd_d26 : ∀ e ∈ rd_c26, decode cX2_surveyOne e.1 = .ok (e.2.1, e.2.2.1) := by decide +kernel
theorem rd_d27 : ∀ e ∈ rd_c27, decode cX2_meeting e.1 = .ok (e.2.1, e.2.2.1) := by decide +kernel
theorem rd_d28 : ∀ e ∈ rd_c28, decode cX2_isTooFew e.1 = .ok (e.2.1, e.2.2.1) := by decide +kernel
theorem rd_d29 : ∀ e ∈ rd_c29, decode cX2_isTooMany e.1 = .ok (e.2.1, e.2.2.1) := by decide +kernel
theorem rd_d30 : ∀ e ∈ rd_c30, decode cX2_isExpected e.1 = .ok (e.2.1, e.2.2.1) := by decide +kernel
theorem rd_d31 : ∀ e ∈ rd_c31, decode cX2_callAhead e.1 = .ok (e.2.1, e.2.2.1) := by decide +kernel
theorem rd_d32 : ∀ e ∈ rd_c32, decode cX3_init e.1 = .ok (e.2.1, e.2.2.1) := by decide +kernel
theorem rd_d33 : ∀ e ∈ rd_c33, decode cX3_size e.1 = .ok (e.2.1, e.2.2.1) := by decide +kernel
theorem rd_d34 : ∀ e ∈ rd_c34, decode cX3_has e.1 = .ok (e.2.1, e.2.2.1) := by decide +kernel
theorem rd_d35 : ∀ e ∈ rd_c35, decode cX3_add e.1 = .ok (e.2.1, e.2.2.1) := by decide +kernel
theorem rd_d36 : ∀ e ∈ rd_c36, decode cX3_inherit e.1 = .ok (e.2.1, e.2.2.1) := by decide +kernel
theorem rd_d37 : ∀ e ∈ rd_c37, decode cX3_isFixed e.1 = .ok (e.2.1, e.2.2.1) := by decide +kernel
theorem rd_d38 : ∀ e ∈ rd_c38, decode cX3_fix e.1 = .ok (e.2.1, e.2.2.1) := by decide +kernel
theorem rd_d39 : ∀ e ∈ rd_c39, decode cX3_addMethod e.1 = .ok (e.2.1, e.2.2.1) := by decide +kernel
theorem rd_d40 : ∀ e ∈ rd_c40, decode cX3_methods e.1 = .ok (e.2.1, e.2.2.1) := by decide +kernel
theorem rd_d41 : ∀ e ∈ rd_c41, decode cX3_lineage e.1 = .ok (e.2.1, e.2.2.1) := by decide +kernel
theorem rd_d42 : ∀ e ∈ rd_c42, decode cX3_signature e.1 = .ok (e.2.1, e.2.2.1) := by decide +kernel
theorem rd_d43 : ∀ e ∈ rd_c43, decode cX3_takes e.1 = .ok (e.2.1, e.2.2.1) := by decide +kernel
theorem rd_d44 : ∀ e ∈ rd_c44, decode cX3_takesStand e.1 = .ok (e.2.1, e.2.2.1) := by decide +kernel
theorem rd_d45 : ∀ e ∈ rd_c45, decode cX3_gives e.1 = .ok (e.2.1, e.2.2.1) := by decide +kernel
theorem rd_d46 : ∀ e ∈ rd_c46, decode cX3_mayFail e.1 = .ok (e.2.1, e.2.2.1) := by decide +kernel
theorem rd_d47 : ∀ e ∈ rd_c47, decode cX4_init e.1 = .ok (e.2.1, e.2.2.1) := by decide +kernel
theorem rd_d48 : ∀ e ∈ rd_c48, decode cX4_hasLatest e.1 = .ok (e.2.1, e.2.2.1) := by decide +kernel
theorem rd_d49 : ∀ e ∈ rd_c49, decode cX4_size e.1 = .ok (e.2.1, e.2.2.1) := by decide +kernel
theorem rd_d50 : ∀ e ∈ rd_c50, decode cX4_lost e.1 = .ok (e.2.1, e.2.2.1) := by decide +kernel
theorem rd_d51 : ∀ e ∈ rd_c51, decode cX4_column e.1 = .ok (e.2.1, e.2.2.1) := by decide +kernel
theorem rd_d52 : ∀ e ∈ rd_c52, decode cX4_keepLatest e.1 = .ok (e.2.1, e.2.2.1) := by decide +kernel
theorem rd_d53 : ∀ e ∈ rd_c53, decode cX4_empty e.1 = .ok (e.2.1, e.2.2.1) := by decide +kernel
theorem rd_d54 : ∀ e ∈ rd_c54, decode cX5_init e.1 = .ok (e.2.1, e.2.2.1) := by decide +kernel
theorem rd_d55 : ∀ e ∈ rd_c55, decode cX5_size e.1 = .ok (e.2.1, e.2.2.1) := by decide +kernel
theorem rd_d56 : ∀ e ∈ rd_c56, decode cX5_has e.1 = .ok (e.2.1, e.2.2.1) := by decide +kernel
theorem rd_d57 : ∀ e ∈ rd_c57, decode cX5_add e.1 = .ok (e.2.1, e.2.2.1) := by decide +kernel
theorem rd_d58 : ∀ e ∈ rd_c58, decode cX5_signature e.1 = .ok (e.2.1, e.2.2.1) := by decide +kernel
theorem rd_d59 : ∀ e ∈ rd_c59, decode cX5_hasParameter e.1 = .ok (e.2.1, e.2.2.1) := by decide +kernel
theorem rd_d60 : ∀ e ∈ rd_c60, decode cX5_isCatching e.1 = .ok (e.2.1, e.2.2.1) := by decide +kernel
theorem rd_d61 : ∀ e ∈ rd_c61, decode cX5_setCondition e.1 = .ok (e.2.1, e.2.2.1) := by decide +kernel
theorem rd_d62 : ∀ e ∈ rd_c62, decode cX5_isCondition e.1 = .ok (e.2.1, e.2.2.1) := by decide +kernel
theorem rd_d63 : ∀ e ∈ rd_c63, decode cX5_fits e.1 = .ok (e.2.1, e.2.2.1) := by decide +kernel
theorem rd_d64 : ∀ e ∈ rd_c64, decode cX5_holds e.1 = .ok (e.2.1, e.2.2.1) := by decide +kernel
theorem rd_d65 : ∀ e ∈ rd_c65, decode cX6_init e.1 = .ok (e.2.1, e.2.2.1) := by decide +kernel
theorem rd_d66 : ∀ e ∈ rd_c66, decode cX6_isAnswer e.1 = .ok (e.2.1, e.2.2.1) := by decide +kernel
theorem rd_d67 : ∀ e ∈ rd_c67, decode cX6_addAnswer e.1 = .ok (e.2.1, e.2.2.1) := by decide +kernel
theorem rd_d68 : ∀ e ∈ rd_c68, decode cX6_find e.1 = .ok (e.2.1, e.2.2.1) := by decide +kernel
theorem rd_d69 : ∀ e ∈ rd_c69, decode cX6_use e.1 = .ok (e.2.1, e.2.2.1) := by decide +kernel
theorem rd_d70 : ∀ e ∈ rd_c70, decode cX6_answerKind e.1 = .ok (e.2.1, e.2.2.1) := by decide +kernel
theorem rd_d71 : ∀ e ∈ rd_c71, decode cX6_answerValue e.1 = .ok (e.2.1, e.2.2.1) := by decide +kernel
theorem rd_d72 : ∀ e ∈ rd_c72, decode cX6_holdsCaught e.1 = .ok (e.2.1, e.2.2.1) := by decide +kernel
theorem rd_d73 : ∀ e ∈ rd_c73, decode cX6_caughtValue e.1 = .ok (e.2.1, e.2.2.1) := by decide +kernel
theorem rd_d74 : ∀ e ∈ rd_c74, decode cX6_release e.1 = .ok (e.2.1, e.2.2.1) := by decide +kernel
theorem rd_d75 : ∀ e ∈ rd_c75, decode cX6_startAgain e.1 = .ok (e.2.1, e.2.2.1) := by decide +kernel
theorem rd_d76 : ∀ e ∈ rd_c76, decode cX7_init e.1 = .ok (e.2.1, e.2.2.1) := by decide +kernel
theorem rd_d77 : ∀ e ∈ rd_c77, decode cX7_begin e.1 = .ok (e.2.1, e.2.2.1) := by decide +kernel
theorem rd_d78 : ∀ e ∈ rd_c78, decode cX7_bring e.1 = .ok (e.2.1, e.2.2.1) := by decide +kernel
theorem rd_d79 : ∀ e ∈ rd_c79, decode cX7_perform e.1 = .ok (e.2.1, e.2.2.1) := by decide +kernel
theorem rd_d80 : ∀ e ∈ rd_c80, decode cX7_answerBy e.1 = .ok (e.2.1, e.2.2.1) := by decide +kernel
theorem rd_d81 : ∀ e ∈ rd_c81, decode cX7_callThrough e.1 = .ok (e.2.1, e.2.2.1) := by decide +kernel
theorem rd_d82 : ∀ e ∈ rd_c82, decode cX7_giveParameter e.1 = .ok (e.2.1, e.2.2.1) := by decide +kernel
theorem rd_d83 : ∀ e ∈ rd_c83, decode cX7_giveWhole e.1 = .ok (e.2.1, e.2.2.1) := by decide +kernel
theorem rd_d84 : ∀ e ∈ rd_c84, decode cX7_giveStand e.1 = .ok (e.2.1, e.2.2.1) := by decide +kernel
theorem rd_d85 : ∀ e ∈ rd_c85, decode cX7_failWith e.1 = .ok (e.2.1, e.2.2.1) := by decide +kernel
theorem rd_d86 : ∀ e ∈ rd_c86, decode cX8_init e.1 = .ok (e.2.1, e.2.2.1) := by decide +kernel
theorem rd_d87 : ∀ e ∈ rd_c87, decode cX8_size e.1 = .ok (e.2.1, e.2.2.1) := by decide +kernel
theorem rd_d88 : ∀ e ∈ rd_c88, decode cX8_has e.1 = .ok (e.2.1, e.2.2.1) := by decide +kernel
theorem rd_d89 : ∀ e ∈ rd_c89, decode cX8_add e.1 = .ok (e.2.1, e.2.2.1) := by decide +kernel
theorem rd_d90 : ∀ e ∈ rd_c90, decode cX8_isOf e.1 = .ok (e.2.1, e.2.2.1) := by decide +kernel
theorem rd_d91 : ∀ e ∈ rd_c91, decode cX8_thing e.1 = .ok (e.2.1, e.2.2.1) := by decide +kernel
theorem rd_d92 : ∀ e ∈ rd_c92, decode cX8_signature e.1 = .ok (e.2.1, e.2.2.1) := by decide +kernel
theorem rd_d93 : ∀ e ∈ rd_c93, decode cX8_hasNoneBeside e.1 = .ok (e.2.1, e.2.2.1) := by decide +kernel
theorem rd_d94 : ∀ e ∈ rd_c94, decode cX8_setNoneBeside e.1 = .ok (e.2.1, e.2.2.1) := by decide +kernel
theorem rd_d95 : ∀ e ∈ rd_c95, decode cX9_init e.1 = .ok (e.2.1, e.2.2.1) := by decide +kernel
theorem rd_d96 : ∀ e ∈ rd_c96, decode cX9_closeAll e.1 = .ok (e.2.1, e.2.2.1) := by decide +kernel
theorem rd_d97 : ∀ e ∈ rd_c97, decode cX9_open e.1 = .ok (e.2.1, e.2.2.1) := by decide +kernel
theorem rd_d98 : ∀ e ∈ rd_c98, decode cX9_closeLeft e.1 = .ok (e.2.1, e.2.2.1) := by decide +kernel
theorem rd_d99 : ∀ e ∈ rd_c99, decode cX9_take e.1 = .ok (e.2.1, e.2.2.1) := by decide +kernel
theorem rd_d100 : ∀ e ∈ rd_c100, decode cX10_init e.1 = .ok (e.2.1, e.2.2.1) := by decide +kernel
theorem rd_d101 : ∀ e ∈ rd_c101, decode cX10_size e.1 = .ok (e.2.1, e.2.2.1) := by decide +kernel
theorem rd_d102 : ∀ e ∈ rd_c102, decode cX10_part e.1 = .ok (e.2.1, e.2.2.1) := by decide +kernel
theorem rd_d103 : ∀ e ∈ rd_c103, decode cX10_find e.1 = .ok (e.2.1, e.2.2.1) := by decide +kernel
theorem rd_d104 : ∀ e ∈ rd_c104, decode cX10_findNumbers e.1 = .ok (e.2.1, e.2.2.1) := by decide +kernel
theorem rd_d105 : ∀ e ∈ rd_c105, decode cX10_findOrders e.1 = .ok (e.2.1, e.2.2.1) := by decide +kernel
theorem rd_d106 : ∀ e ∈ rd_c106, decode cX10_add e.1 = .ok (e.2.1, e.2.2.1) := by decide +kernel
theorem rd_d107 : ∀ e ∈ rd_c107, decode cX11_init e.1 = .ok (e.2.1, e.2.2.1) := by decide +kernel
theorem rd_d108 : ∀ e ∈ rd_c108, decode cX11_face e.1 = .ok (e.2.1, e.2.2.1) := by decide +kernel
theorem rd_d109 : ∀ e ∈ rd_c109, decode cX11_method e.1 = .ok (e.2.1, e.2.2.1) := by decide +kernel
theorem rd_d110 : ∀ e ∈ rd_c110, decode cX11_stand e.1 = .ok (e.2.1, e.2.2.1) := by decide +kernel
theorem rd_d111 : ∀ e ∈ rd_c111, decode cX11_of e.1 = .ok (e.2.1, e.2.2.1) := by decide +kernel
theorem rd_d112 : ∀ e ∈ rd_c112, decode cX11_level e.1 = .ok (e.2.1, e.2.2.1) := by decide +kernel
theorem rd_d113 : ∀ e ∈ rd_c113, decode cX11_rule e.1 = .ok (e.2.1, e.2.2.1) := by decide +kernel
theorem rd_d114 : ∀ e ∈ rd_c114, decode cX11_on e.1 = .ok (e.2.1, e.2.2.1) := by decide +kernel
theorem rd_d115 : ∀ e ∈ rd_c115, decode cX11_answer e.1 = .ok (e.2.1, e.2.2.1) := by decide +kernel
theorem rd_d116 : ∀ e ∈ rd_c116, decode cX11_caught e.1 = .ok (e.2.1, e.2.2.1) := by decide +kernel
theorem rd_d117 : ∀ e ∈ rd_c117, decode cX11_call e.1 = .ok (e.2.1, e.2.2.1) := by decide +kernel
theorem rd_d118 : ∀ e ∈ rd_c118, decode cX11_canCome e.1 = .ok (e.2.1, e.2.2.1) := by decide +kernel
theorem rd_d119 : ∀ e ∈ rd_c119, decode cX11_came e.1 = .ok (e.2.1, e.2.2.1) := by decide +kernel
theorem rd_d120 : ∀ e ∈ rd_c120, decode cX11_recorded e.1 = .ok (e.2.1, e.2.2.1) := by decide +kernel
theorem rd_d121 : ∀ e ∈ rd_c121, decode cX11_expect e.1 = .ok (e.2.1, e.2.2.1) := by decide +kernel
theorem rd_d122 : ∀ e ∈ rd_c122, decode cX11_with e.1 = .ok (e.2.1, e.2.2.1) := by decide +kernel
theorem rd_d123 : ∀ e ∈ rd_c123, decode cX11_order e.1 = .ok (e.2.1, e.2.2.1) := by decide +kernel
theorem rd_d124 : ∀ e ∈ rd_c124, decode cX11_beside e.1 = .ok (e.2.1, e.2.2.1) := by decide +kernel
theorem rd_d125 : ∀ e ∈ rd_c125, decode cX11_met e.1 = .ok (e.2.1, e.2.2.1) := by decide +kernel
theorem rd_d126 : ∀ e ∈ rd_c126, decode cX11_verify e.1 = .ok (e.2.1, e.2.2.1) := by decide +kernel
theorem rd_d127 : ∀ e ∈ rd_c127, decode cX11_wrong e.1 = .ok (e.2.1, e.2.2.1) := by decide +kernel
theorem rd_d128 : ∀ e ∈ rd_c128, decode cX11_cue e.1 = .ok (e.2.1, e.2.2.1) := by decide +kernel
theorem rd_d129 : ∀ e ∈ rd_c129, decode cX11_clear e.1 = .ok (e.2.1, e.2.2.1) := by decide +kernel
theorem rd_d130 : ∀ e ∈ rd_c130, decode cX11_run e.1 = .ok (e.2.1, e.2.2.1) := by decide +kernel
theorem rd_d131 : ∀ e ∈ rd_c131, decode cX11_desk e.1 = .ok (e.2.1, e.2.2.1) := by decide +kernel
theorem rd_d132 : ∀ e ∈ rd_c132, decode cX11_told e.1 = .ok (e.2.1, e.2.2.1) := by decide +kernel
theorem rd_d133 : ∀ e ∈ rd_c133, decode cX11_count e.1 = .ok (e.2.1, e.2.2.1) := by decide +kernel
theorem rd_d134 : ∀ e ∈ rd_c134, decode cX11_countMethods e.1 = .ok (e.2.1, e.2.2.1) := by decide +kernel
theorem rd_d135 : ∀ e ∈ rd_c135, decode cX11_forget e.1 = .ok (e.2.1, e.2.2.1) := by decide +kernel
theorem rd_d136 : ∀ e ∈ rd_c136, decode cX12_init e.1 = .ok (e.2.1, e.2.2.1) := by decide +kernel
theorem rd_d137 : ∀ e ∈ rd_c137, decode cX12_in e.1 = .ok (e.2.1, e.2.2.1) := by decide +kernel
theorem rd_d138 : ∀ e ∈ rd_c138, decode cX12_face e.1 = .ok (e.2.1, e.2.2.1) := by decide +kernel
theorem rd_d139 : ∀ e ∈ rd_c139, decode cX12_isBelow e.1 = .ok (e.2.1, e.2.2.1) := by decide +kernel
theorem rd_d140 : ∀ e ∈ rd_c140, decode cX12_method e.1 = .ok (e.2.1, e.2.2.1) := by decide +kernel
theorem rd_d141 : ∀ e ∈ rd_c141, decode cX12_stand e.1 = .ok (e.2.1, e.2.2.1) := by decide +kernel
theorem rd_d142 : ∀ e ∈ rd_c142, decode cX12_isStand e.1 = .ok (e.2.1, e.2.2.1) := by decide +kernel
theorem rd_d143 : ∀ e ∈ rd_c143, decode cX12_of e.1 = .ok (e.2.1, e.2.2.1) := by decide +kernel
theorem rd_d144 : ∀ e ∈ rd_c144, decode cX12_level e.1 = .ok (e.2.1, e.2.2.1) := by decide +kernel
theorem rd_d145 : ∀ e ∈ rd_c145, decode cX12_isMethod e.1 = .ok (e.2.1, e.2.2.1) := by decide +kernel
theorem rd_d146 : ∀ e ∈ rd_c146, decode cX12_methodAt e.1 = .ok (e.2.1, e.2.2.1) := by decide +kernel
theorem rd_d147 : ∀ e ∈ rd_c147, decode cX12_isStandParameter e.1 = .ok (e.2.1, e.2.2.1) := by decide +kernel
theorem rd_d148 : ∀ e ∈ rd_c148, decode cX12_begin e.1 = .ok (e.2.1, e.2.2.1) := by decide +kernel
theorem rd_d149 : ∀ e ∈ rd_c149, decode cX12_putCondition e.1 = .ok (e.2.1, e.2.2.1) := by decide +kernel
theorem rd_d150 : ∀ e ∈ rd_c150, decode cX12_holds e.1 = .ok (e.2.1, e.2.2.1) := by decide +kernel
theorem rd_d151 : ∀ e ∈ rd_c151, decode cX12_meets e.1 = .ok (e.2.1, e.2.2.1) := by decide +kernel
theorem rd_d152 : ∀ e ∈ rd_c152, decode cX12_isRule e.1 = .ok (e.2.1, e.2.2.1) := by decide +kernel
theorem rd_d153 : ∀ e ∈ rd_c153, decode cX12_rule e.1 = .ok (e.2.1, e.2.2.1) := by decide +kernel
theorem rd_d154 : ∀ e ∈ rd_c154, decode cX12_on e.1 = .ok (e.2.1, e.2.2.1) := by decide +kernel
theorem rd_d155 : ∀ e ∈ rd_c155, decode cX12_answer e.1 = .ok (e.2.1, e.2.2.1) := by decide +kernel
theorem rd_d156 : ∀ e ∈ rd_c156, decode cX12_caught e.1 = .ok (e.2.1, e.2.2.1) := by decide +kernel
theorem rd_d157 : ∀ e ∈ rd_c157, decode cX12_give e.1 = .ok (e.2.1, e.2.2.1) := by decide +kernel
theorem rd_d158 : ∀ e ∈ rd_c158, decode cX12_fail e.1 = .ok (e.2.1, e.2.2.1) := by decide +kernel
theorem rd_d159 : ∀ e ∈ rd_c159, decode cX12_sumOf e.1 = .ok (e.2.1, e.2.2.1) := by decide +kernel
theorem rd_d160 : ∀ e ∈ rd_c160, decode cX12_through e.1 = .ok (e.2.1, e.2.2.1) := by decide +kernel
theorem rd_d161 : ∀ e ∈ rd_c161, decode cX12_ruleFor e.1 = .ok (e.2.1, e.2.2.1) := by decide +kernel
theorem rd_d162 : ∀ e ∈ rd_c162, decode cX12_byRule e.1 = .ok (e.2.1, e.2.2.1) := by decide +kernel
theorem rd_d163 : ∀ e ∈ rd_c163, decode cX12_answerCall e.1 = .ok (e.2.1, e.2.2.1) := by decide +kernel
theorem rd_d164 : ∀ e ∈ rd_c164, decode cX12_mayCome e.1 = .ok (e.2.1, e.2.2.1) := by decide +kernel
theorem rd_d165 : ∀ e ∈ rd_c165, decode cX12_call e.1 = .ok (e.2.1, e.2.2.1) := by decide +kernel
theorem rd_d166 : ∀ e ∈ rd_c166, decode cX12_came e.1 = .ok (e.2.1, e.2.2.1) := by decide +kernel
theorem rd_d167 : ∀ e ∈ rd_c167, decode cX12_recorded e.1 = .ok (e.2.1, e.2.2.1) := by decide +kernel
theorem rd_d168 : ∀ e ∈ rd_c168, decode cX12_isExpectation e.1 = .ok (e.2.1, e.2.2.1) := by decide +kernel
theorem rd_d169 : ∀ e ∈ rd_c169, decode cX12_expect e.1 = .ok (e.2.1, e.2.2.1) := by decide +kernel
theorem rd_d170 : ∀ e ∈ rd_c170, decode cX12_with e.1 = .ok (e.2.1, e.2.2.1) := by decide +kernel
theorem rd_d171 : ∀ e ∈ rd_c171, decode cX12_order e.1 = .ok (e.2.1, e.2.2.1) := by decide +kernel
theorem rd_d172 : ∀ e ∈ rd_c172, decode cX12_beside e.1 = .ok (e.2.1, e.2.2.1) := by decide +kernel
theorem rd_d173 : ∀ e ∈ rd_c173, decode cX12_callMeets e.1 = .ok (e.2.1, e.2.2.1) := by decide +kernel
theorem rd_d174 : ∀ e ∈ rd_c174, decode cX12_metBy e.1 = .ok (e.2.1, e.2.2.1) := by decide +kernel
theorem rd_d175 : ∀ e ∈ rd_c175, decode cX12_met e.1 = .ok (e.2.1, e.2.2.1) := by decide +kernel
theorem rd_d176 : ∀ e ∈ rd_c176, decode cX12_note e.1 = .ok (e.2.1, e.2.2.1) := by decide +kernel
theorem rd_d177 : ∀ e ∈ rd_c177, decode cX12_wrongOrder e.1 = .ok (e.2.1, e.2.2.1) := by decide +kernel
theorem rd_d178 : ∀ e ∈ rd_c178, decode cX12_meetsAny e.1 = .ok (e.2.1, e.2.2.1) := by decide +kernel
theorem rd_d179 : ∀ e ∈ rd_c179, decode cX12_verify e.1 = .ok (e.2.1, e.2.2.1) := by decide +kernel
theorem rd_d180 : ∀ e ∈ rd_c180, decode cX12_wrong e.1 = .ok (e.2.1, e.2.2.1) := by decide +kernel
theorem rd_d181 : ∀ e ∈ rd_c181, decode cX12_cue e.1 = .ok (e.2.1, e.2.2.1) := by decide +kernel
theorem rd_d182 : ∀ e ∈ rd_c182, decode cX12_clear e.1 = .ok (e.2.1, e.2.2.1) := by decide +kernel
theorem rd_d183 : ∀ e ∈ rd_c183, decode cX12_nextFor e.1 = .ok (e.2.1, e.2.2.1) := by decide +kernel
theorem rd_d184 : ∀ e ∈ rd_c184, decode cX12_callBy e.1 = .ok (e.2.1, e.2.2.1) := by decide +kernel
theorem rd_d185 : ∀ e ∈ rd_c185, decode cX12_done e.1 = .ok (e.2.1, e.2.2.1) := by decide +kernel
theorem rd_d186 : ∀ e ∈ rd_c186, decode cX12_comeTo e.1 = .ok (e.2.1, e.2.2.1) := by decide +kernel
theorem rd_d187 : ∀ e ∈ rd_c187, decode cX12_run e.1 = .ok (e.2.1, e.2.2.1) := by decide +kernel
theorem rd_d188 : ∀ e ∈ rd_c188, decode cX12_desk e.1 = .ok (e.2.1, e.2.2.1) := by decide +kernel
theorem rd_d189 : ∀ e ∈ rd_c189, decode cX12_told e.1 = .ok (e.2.1, e.2.2.1) := by decide +kernel
theorem rd_d190 : ∀ e ∈ rd_c190, decode cX12_count e.1 = .ok (e.2.1, e.2.2.1) := by decide +kernel
theorem rd_d191 : ∀ e ∈ rd_c191, decode cX12_forget e.1 = .ok (e.2.1, e.2.2.1) := by decide +kernel
theorem rd_d192 : ∀ e ∈ rd_c192, decode cJ9_min_7cf53 e.1 = .ok (e.2.1, e.2.2.1) := by decide +kernel
theorem rd_d193 : ∀ e ∈ rd_c193, decode cJ7_fill_53178 e.1 = .ok (e.2.1, e.2.2.1) := by decide +kernel
theorem rd_d194_0 : ∀ e ∈ (rd_c194.drop 0).take 50, decode cL_law e.1 = .ok (e.2.1, e.2.2.1) := by decide +kernel
theorem rd_d194_50 : ∀ e ∈ (rd_c194.drop 50).take 50, decode cL_law e.1 = .ok (e.2.1, e.2.2.1) := by decide +kernel
theorem rd_d194_100 : ∀ e ∈ (rd_c194.drop 100).take 50, decode cL_law e.1 = .ok (e.2.1, e.2.2.1) := by decide +kernel
theorem rd_d194_150 : ∀ e ∈ (rd_c194.drop 150).take 50, decode cL_law e.1 = .ok (e.2.1, e.2.2.1) := by decide +kernel
theorem rd_d194_200 : ∀ e ∈ (rd_c194.drop 200).take 50, decode cL_law e.1 = .ok (e.2.1, e.2.2.1) := by decide +kernel
theorem rd_d194_250 : ∀ e ∈ (rd_c194.drop 250).take 50, decode cL_law e.1 = .ok (e.2.1, e.2.2.1) := by decide +kernel
theorem rd_d194_300 : ∀ e ∈ (rd_c194.drop 300).take 50, decode cL_law e.1 = .ok (e.2.1, e.2.2.1) := by decide +kernel
theorem rd_d194_350 : ∀ e ∈ (rd_c194.drop 350).take 50, decode cL_law e.1 = .ok (e.2.1, e.2.2.1) := by decide +kernel
theorem rd_d194_400 : ∀ e ∈ (rd_c194.drop 400).take 50, decode cL_law e.1 = .ok (e.2.1, e.2.2.1) := by decide +kernel
theorem rd_d194_450 : ∀ e ∈ (rd_c194.drop 450).take 50, decode cL_law e.1 = .ok (e.2.1, e.2.2.1) := by decide +kernel
theorem rd_d194_500 : ∀ e ∈ (rd_c194.drop 500).take 50, decode cL_law e.1 = .ok (e.2.1, e.2.2.1) := by decide +kernel
theorem rd_d194_550 : ∀ e ∈ (rd_c194.drop 550).take 50, decode cL_law e.1 = .ok (e.2.1, e.2.2.1) := by decide +kernel
theorem rd_d194_600 : ∀ e ∈ (rd_c194.drop 600).take 50, decode cL_law e.1 = .ok (e.2.1, e.2.2.1) := by decide +kernel
theorem rd_d194_650 : ∀ e ∈ (rd_c194.drop 650).take 50, decode cL_law e.1 = .ok (e.2.1, e.2.2.1) := by decide +kernel
theorem rd_d194_700 : ∀ e ∈ (rd_c194.drop 700).take 50, decode cL_law e.1 = .ok (e.2.1, e.2.2.1) := by decide +kernel
theorem rd_d194_750 : ∀ e ∈ (rd_c194.drop 750).take 50, decode cL_law e.1 = .ok (e.2.1, e.2.2.1) := by decide +kernel
theorem rd_cut {α : Type} (p : α → Prop) : ∀ (n : Nat) (l : List α), (∀ e ∈ l.take n, p e) → (∀ e ∈ l.drop n, p e) → ∀ e ∈ l, p e := by
  intro n l h1 h2 e he
  rw [← List.take_append_drop n l] at he
  exact (List.mem_append.mp he).elim (h1 e) (h2 e)
theorem rd_d194 : ∀ e ∈ rd_c194, decode cL_law e.1 = .ok (e.2.1, e.2.2.1) := by
  refine rd_cut _ 50 _ rd_d194_0 ?_
  refine rd_cut _ 50 _ rd_d194_50 ?_
  rw [List.drop_drop]
  refine rd_cut _ 50 _ rd_d194_100 ?_
  rw [List.drop_drop]
  refine rd_cut _ 50 _ rd_d194_150 ?_
  rw [List.drop_drop]
  refine rd_cut _ 50 _ rd_d194_200 ?_
  rw [List.drop_drop]
  refine rd_cut _ 50 _ rd_d194_250 ?_
  rw [List.drop_drop]
  refine rd_cut _ 50 _ rd_d194_300 ?_
  rw [List.drop_drop]
  refine rd_cut _ 50 _ rd_d194_350 ?_
  rw [List.drop_drop]
  refine rd_cut _ 50 _ rd_d194_400 ?_
  rw [List.drop_drop]
  refine rd_cut _ 50 _ rd_d194_450 ?_
  rw [List.drop_drop]
  refine rd_cut _ 50 _ rd_d194_500 ?_
  rw [List.drop_drop]
  refine rd_cut _ 50 _ rd_d194_550 ?_
  rw [List.drop_drop]
  refine rd_cut _ 50 _ rd_d194_600 ?_
  rw [List.drop_drop]
  refine rd_cut _ 50 _ rd_d194_650 ?_
  rw [List.drop_drop]
  refine rd_cut _ 50 _ rd_d194_700 ?_
  rw [List.drop_drop]
  intro e he
  exact rd_d194_750 e (by rw [List.take_of_length_le (by decide +kernel)]; exact he)
def rd_dz : List (List rd_Et) → List rd_M → Prop
  | l :: ls, m :: ms => (∀ e ∈ l, decode m.2.1 e.1 = .ok (e.2.1, e.2.2.1)) ∧ rd_dz ls ms
  | _, _ => True
theorem rd_dz_ok : rd_dz rd_ct rd_mt := ⟨rd_d0, rd_d1, rd_d2, rd_d3, rd_d4, rd_d5, rd_d6, rd_d7, rd_d8, rd_d9, rd_d10, rd_d11, rd_d12, rd_d13, rd_d14, rd_d15, rd_d16, rd_d17, rd_d18, rd_d19, rd_d20, rd_d21, rd_d22, rd_d23, rd_d24, rd_d25, rd_d26, rd_d27, rd_d28, rd_d29, rd_d30, rd_d31, rd_d32, rd_d33, rd_d34, rd_d35, rd_d36, rd_d37, rd_d38, rd_d39, rd_d40, rd_d41, rd_d42, rd_d43, rd_d44, rd_d45, rd_d46, rd_d47, rd_d48, rd_d49, rd_d50, rd_d51, rd_d52, rd_d53, rd_d54, rd_d55, rd_d56, rd_d57, rd_d58, rd_d59, rd_d60, rd_d61, rd_d62, rd_d63, rd_d64, rd_d65, rd_d66, rd_d67, rd_d68, rd_d69, rd_d70, rd_d71, rd_d72, rd_d73, rd_d74, rd_d75, rd_d76, rd_d77, rd_d78, rd_d79, rd_d80, rd_d81, rd_d82, rd_d83, rd_d84, rd_d85, rd_d86, rd_d87, rd_d88, rd_d89, rd_d90, rd_d91, rd_d92, rd_d93, rd_d94, rd_d95, rd_d96, rd_d97, rd_d98, rd_d99, rd_d100, rd_d101, rd_d102, rd_d103, rd_d104, rd_d105, rd_d106, rd_d107, rd_d108, rd_d109, rd_d110, rd_d111, rd_d112, rd_d113, rd_d114, rd_d115, rd_d116, rd_d117, rd_d118, rd_d119, rd_d120, rd_d121, rd_d122, rd_d123, rd_d124, rd_d125, rd_d126, rd_d127, rd_d128, rd_d129, rd_d130, rd_d131, rd_d132, rd_d133, rd_d134, rd_d135, rd_d136, rd_d137, rd_d138, rd_d139, rd_d140, rd_d141, rd_d142, rd_d143, rd_d144, rd_d145, rd_d146, rd_d147, rd_d148, rd_d149, rd_d150, rd_d151, rd_d152, rd_d153, rd_d154, rd_d155, rd_d156, rd_d157, rd_d158, rd_d159, rd_d160, rd_d161, rd_d162, rd_d163, rd_d164, rd_d165, rd_d166, rd_d167, rd_d168, rd_d169, rd_d170, rd_d171, rd_d172, rd_d173, rd_d174, rd_d175, rd_d176, rd_d177, rd_d178, rd_d179, rd_d180, rd_d181, rd_d182, rd_d183, rd_d184, rd_d185, rd_d186, rd_d187, rd_d188, rd_d189, rd_d190, rd_d191, rd_d192, rd_d193, rd_d194, trivial⟩
end
section
/-! The small machine: shapes (what never changes), numbers, one instruction, a run with fuel. -/
abbrev rd_Sh : Type := (Nat × Bool) ⊕ (Nat × List (Option Value))
abbrev rd_Sg : Type := Nat → Nat → Int32
abbrev rd_Lv : Type := List (Option Value)
abbrev rd_A : Type := (Option Value × rd_Sg) ⊕ ((Nat × rd_Lv × List Value × rd_Sg) ⊕ (Nat × List Value × List Value))
/-- one number changes -/
def rd_u (σ : rd_Sg) (c j : Nat) (x : Int32) : rd_Sg := fun c' j' => if c' = c ∧ j' = j then x else σ c' j'
/-- one cell changes -/
def rd_uc (σ : rd_Sg) (c : Nat) (f : Nat → Int32) : rd_Sg := fun c' j' => if c' = c then f j' else σ c' j'
def rd_lv (vs : rd_Lv) (j : Nat) : Option Value := match rd_nth vs j with
  | some (some v) => some v
  | _ => none
def rd_set : rd_Lv → Nat → Value → Option rd_Lv
  | [], _, _ => none
  | _ :: l, 0, v => some (some v :: l)
  | a :: l, n + 1, v => match rd_set l n v with
    | some l' => some (a :: l')
    | none => none
def rd_pop : Nat → List Value → List Value → Option (List Value × List Value)
  | 0, acc, st => some (acc, st)
  | n + 1, acc, v :: st => rd_pop n (v :: acc) st
  | _ + 1, _, [] => none
def rd_one : Value → Bool
  | .int _ => true
  | .ref _ => true
  | .null => true
  | _ => false
def rd_few (st : List Value) : Bool := st.all rd_one && Nat.ble st.length 8
abbrev rd_go (i : Nat) (vs : rd_Lv) (st : List Value) (σ : rd_Sg) : Option rd_A := some (.inr (.inl (i, vs, st, σ)))
/-- an array's length and contents: of the world, or one that nobody writes -/
def rd_rd (S : List rd_Sh) (ro : Nat → Option (Nat × (Nat → Int32))) (σ : rd_Sg) (c : Nat) (b : Bool) : Option (Nat × (Nat → Int32)) := match rd_nth S c with
  | some (.inl (n, b')) => if b' = b then some (n, σ c) else none
  | some (.inr _) => none
  | none => if b = true then none else ro c
def rd_sw (x : Int32) : Int → List Nat → Nat → Nat
  | _, [], d => d
  | lo, t :: ts, d => if x = Int32.ofInt lo then t else rd_sw x (lo + 1) ts d
def rd_bit (b : Bool) (x : Int32) : Int32 := if b = true then x &&& 1 else x
def rd_iload (vs : rd_Lv) (j i : Nat) (st : List Value) (σ : rd_Sg) : Option rd_A := match rd_lv vs j with
  | some (.int x) => rd_go (i + 1) vs (.int x :: st) σ
  | _ => none
def rd_aload (vs : rd_Lv) (j i : Nat) (st : List Value) (σ : rd_Sg) : Option rd_A := match rd_lv vs j with
  | some (.ref x) => rd_go (i + 1) vs (.ref x :: st) σ
  | _ => none
def rd_istore (vs : rd_Lv) (j i : Nat) (st : List Value) (σ : rd_Sg) : Option rd_A := match st with
  | .int x :: st => match rd_set vs j (.int x) with
    | some vs' => rd_go (i + 1) vs' st σ
    | none => none
  | _ => none
def rd_astore (vs : rd_Lv) (j i : Nat) (st : List Value) (σ : rd_Sg) : Option rd_A := match st with
  | .ref x :: st => match rd_set vs j (.ref x) with
    | some vs' => rd_go (i + 1) vs' st σ
    | none => none
  | _ => none
def rd_bin (f : Int32 → Int32 → Int32) (vs : rd_Lv) (i : Nat) (st : List Value) (σ : rd_Sg) : Option rd_A := match st with
  | .int y :: .int x :: st => rd_go (i + 1) vs (.int (f x y) :: st) σ
  | _ => none
def rd_if (c : ClassFile.Cond) (t i : Nat) (vs : rd_Lv) (x : Int32) (st : List Value) (σ : rd_Sg) : Option rd_A := match c with
  | .eq => if x = 0 then rd_go t vs st σ else rd_go (i + 1) vs st σ
  | .ne => if x = 0 then rd_go (i + 1) vs st σ else rd_go t vs st σ
  | .lt => if x < 0 then rd_go t vs st σ else rd_go (i + 1) vs st σ
  | .ge => if x < 0 then rd_go (i + 1) vs st σ else rd_go t vs st σ
  | .gt => if 0 < x then rd_go t vs st σ else rd_go (i + 1) vs st σ
  | .le => if 0 < x then rd_go (i + 1) vs st σ else rd_go t vs st σ
def rd_icmp (c : ClassFile.Cond) (t i : Nat) (vs : rd_Lv) (x y : Int32) (st : List Value) (σ : rd_Sg) : Option rd_A := match c with
  | .eq => if x = y then rd_go t vs st σ else rd_go (i + 1) vs st σ
  | .ne => if x = y then rd_go (i + 1) vs st σ else rd_go t vs st σ
  | .lt => if x < y then rd_go t vs st σ else rd_go (i + 1) vs st σ
  | .ge => if x < y then rd_go (i + 1) vs st σ else rd_go t vs st σ
  | .gt => if y < x then rd_go t vs st σ else rd_go (i + 1) vs st σ
  | .le => if y < x then rd_go (i + 1) vs st σ else rd_go t vs st σ
def rd_ald (S : List rd_Sh) (ro : Nat → Option (Nat × (Nat → Int32))) (b : Bool) (vs : rd_Lv) (i : Nat) (st : List Value) (σ : rd_Sg) : Option rd_A := match st with
  | .int j :: .ref c :: st => match rd_rd S ro σ c b with
    | some (n, f) => if j < 0 ∨ n ≤ j.toNatClampNeg then none else rd_go (i + 1) vs (.int (f j.toNatClampNeg) :: st) σ
    | none => none
  | _ => none
def rd_ast (S : List rd_Sh) (b : Bool) (vs : rd_Lv) (i : Nat) (st : List Value) (σ : rd_Sg) : Option rd_A := match st with
  | .int x :: .int j :: .ref c :: st => match rd_nth S c with
    | some (.inl (n, b')) => if b' = b then (if j < 0 ∨ n ≤ j.toNatClampNeg then none else rd_go (i + 1) vs st (rd_u σ c j.toNatClampNeg (rd_bit b x))) else none
    | _ => none
  | _ => none
def rd_alen (S : List rd_Sh) (ro : Nat → Option (Nat × (Nat → Int32))) (vs : rd_Lv) (i : Nat) (st : List Value) (σ : rd_Sg) : Option rd_A := match st with
  | .ref c :: st => match rd_nth S c with
    | some (.inl (n, _)) => rd_go (i + 1) vs (.int (Int32.ofNat n) :: st) σ
    | some (.inr _) => none
    | none => match ro c with
      | some (n, _) => rd_go (i + 1) vs (.int (Int32.ofNat n) :: st) σ
      | none => none
  | _ => none
def rd_getf (S : List rd_Sh) (ci sl : Nat) (vs : rd_Lv) (i : Nat) (st : List Value) (σ : rd_Sg) : Option rd_A := match st with
  | .ref c :: st => match rd_nth S c with
    | some (.inr (cj, ks)) => if cj = ci then (match rd_nth ks sl with
      | some none => rd_go (i + 1) vs (.int (σ c sl) :: st) σ
      | some (some v) => if rd_one v = true then rd_go (i + 1) vs (v :: st) σ else none
      | none => none) else none
    | _ => none
  | _ => none
def rd_putf (S : List rd_Sh) (ci sl t : Nat) (vs : rd_Lv) (i : Nat) (st : List Value) (σ : rd_Sg) : Option rd_A := match st with
  | .int x :: .ref c :: st => match rd_nth S c with
    | some (.inr (cj, ks)) => if cj = ci then (match rd_nth ks sl with
      | some none => if t = 0 ∨ (t = 1 ∧ (x = 0 ∨ x = 1)) then rd_go (i + 1) vs st (rd_u σ c sl x) else none
      | _ => none) else none
    | _ => none
  | _ => none
def rd_callV (S : List rd_Sh) (k2 n ci : Nat) (st : List Value) : Option rd_A := match rd_pop n [] st with
  | some (as, .ref c :: rest) => match rd_nth S c with
    | some (.inr (cj, _)) => if cj = ci ∧ rd_few rest = true then some (.inr (.inr (k2, .ref c :: as, rest))) else none
    | _ => none
  | _ => none
def rd_callS (k2 n : Nat) (st : List Value) : Option rd_A := match rd_pop n [] st with
  | some (as, rest) => if rd_few rest = true then some (.inr (.inr (k2, as, rest))) else none
  | none => none
def rd_copy (S : List rd_Sh) (vs : rd_Lv) (i : Nat) (st : List Value) (σ : rd_Sg) : Option rd_A := match st with
  | [.int n, .int dp, .ref d, .int sp, .ref s] => match rd_nth S s, rd_nth S d with
    | some (.inl (n0, false)), some (.inl (n1, false)) =>
      if sp < 0 ∨ dp < 0 ∨ n < 0 ∨ n0 < sp.toNatClampNeg + n.toNatClampNeg ∨ n1 < dp.toNatClampNeg + n.toNatClampNeg then none
      else rd_go (i + 1) vs [] (rd_uc σ d (va_cpy (σ s) (σ d) sp.toNatClampNeg dp.toNatClampNeg n.toNatClampNeg))
    | _, _ => none
  | _ => none
def rd_min (vs : rd_Lv) (i : Nat) (st : List Value) (σ : rd_Sg) : Option rd_A := match st with
  | .int y :: .int x :: st => if rd_few st = true then rd_go (i + 1) vs (.int (if y < x then y else x) :: st) σ else none
  | _ => none
/-- one instruction: an end, a step, or a call -/
def rd_ins (S : List rd_Sh) (ro : Nat → Option (Nat × (Nat → Int32))) (mz : Bool) (ins : Instr) (aux : List Nat) (i : Nat) (vs : rd_Lv) (st : List Value) (σ : rd_Sg) : Option rd_A := match ins with
  | .iconst n => rd_go (i + 1) vs (.int (Int32.ofInt n) :: st) σ
  | .bipush n => rd_go (i + 1) vs (.int (Int8.ofInt n).toInt32 :: st) σ
  | .sipush n => rd_go (i + 1) vs (.int (Int16.ofInt n).toInt32 :: st) σ
  | .iload_n j => rd_iload vs j.val i st σ
  | .iload j => rd_iload vs j i st σ
  | .aload_n j => rd_aload vs j.val i st σ
  | .aload j => rd_aload vs j i st σ
  | .istore_n j => rd_istore vs j.val i st σ
  | .istore j => rd_istore vs j i st σ
  | .astore_n j => rd_astore vs j.val i st σ
  | .astore j => rd_astore vs j i st σ
  | .iinc j n => match rd_lv vs j with
    | some (.int x) => match rd_set vs j (.int (x + Int32.ofInt n)) with
      | some vs' => rd_go (i + 1) vs' st σ
      | none => none
    | _ => none
  | .iadd => rd_bin (fun x y => x + y) vs i st σ
  | .isub => rd_bin (fun x y => x - y) vs i st σ
  | .imul => rd_bin (fun x y => x * y) vs i st σ
  | .iand => rd_bin (fun x y => x &&& y) vs i st σ
  | .ior => rd_bin (fun x y => x ||| y) vs i st σ
  | .ishl => rd_bin (fun x y => x <<< (y &&& 31)) vs i st σ
  | .ishr => rd_bin (fun x y => x >>> (y &&& 31)) vs i st σ
  | .dup => match st with
    | .int x :: st => rd_go (i + 1) vs (.int x :: .int x :: st) σ
    | .ref x :: st => rd_go (i + 1) vs (.ref x :: .ref x :: st) σ
    | _ => none
  | .dup2 => match st with
    | .int x :: .ref y :: st => rd_go (i + 1) vs (.int x :: .ref y :: .int x :: .ref y :: st) σ
    | _ => none
  | .goto _ => match aux with
    | [t] => rd_go t vs st σ
    | _ => none
  | .ifCond c _ => match aux, st with
    | [t], .int x :: st => rd_if c t i vs x st σ
    | _, _ => none
  | .if_icmp c _ => match aux, st with
    | [t], .int y :: .int x :: st => rd_icmp c t i vs x y st σ
    | _, _ => none
  | .tableswitch _ lo _ _ => match aux, st with
    | d :: ts, .int x :: st => rd_go (rd_sw x lo ts d) vs st σ
    | _, _ => none
  | .iaload => rd_ald S ro false vs i st σ
  | .baload => rd_ald S ro true vs i st σ
  | .iastore => rd_ast S false vs i st σ
  | .bastore => rd_ast S true vs i st σ
  | .arraylength => rd_alen S ro vs i st σ
  | .getfield _ => match aux with
    | [ci, sl, _] => rd_getf S ci sl vs i st σ
    | _ => none
  | .putfield _ => match aux with
    | [ci, sl, _, t] => rd_putf S ci sl t vs i st σ
    | _ => none
  | .getstatic _ => rd_go (i + 1) vs (.ref 100000 :: st) σ
  | .invokevirtual _ => match aux with
    | [k2, n, _, ci] => rd_callV S k2 n ci st
    | _ => none
  | .invokestatic _ => match aux with
    | [k2, n, _] => rd_callS k2 n st
    | [z, _] => if z = 1000 then rd_copy S vs i st σ else rd_min vs i st σ
    | _ => none
  | .ireturn => match st with
    | [.int v] => some (.inl (some (.int (rd_bit mz v)), σ))
    | _ => none
  | .return_ => match st with
    | [] => some (.inl (none, σ))
    | _ => none
  | _ => none
def rd_mz (k : Nat) : Bool := match rd_nth rd_inf k with
  | some (_, b) => b
  | none => false
def rd_mL (k : Nat) : Nat := match rd_nth rd_inf k with
  | some (n, _) => n
  | none => 0
def rd_act (S : List rd_Sh) (ro : Nat → Option (Nat × (Nat → Int32))) (k i : Nat) (vs : rd_Lv) (st : List Value) (σ : rd_Sg) : Option rd_A := match rd_look k i with
  | some (_, ins, _, aux) => rd_ins S ro (rd_mz k) ins aux i vs st σ
  | none => none
def rd_ent (k : Nat) (as : List Value) : rd_Lv := as.map some ++ List.replicate (rd_mL k - as.length) none
def rd_ev (S : List rd_Sh) (ro : Nat → Option (Nat × (Nat → Int32))) : Nat → Nat → Nat → rd_Lv → List Value → rd_Sg → Option (Option Value × rd_Sg)
  | 0, _, _, _, _, _ => none
  | n + 1, k, i, vs, st, σ => match rd_act S ro k i vs st σ with
    | none => none
    | some (.inl q) => some q
    | some (.inr (.inl (i', vs', st', σ'))) => rd_ev S ro n k i' vs' st' σ'
    | some (.inr (.inr (k2, as, rest))) => (rd_ev S ro n k2 0 (rd_ent k2 as) [] σ).bind fun q => rd_ev S ro n k (i + 1) vs (q.1.toList ++ rest) q.2
theorem rd_ev_mono (S : List rd_Sh) (ro : Nat → Option (Nat × (Nat → Int32))) : ∀ (n k i : Nat) (vs : rd_Lv) (st : List Value) (σ : rd_Sg) (r : Option Value × rd_Sg), rd_ev S ro n k i vs st σ = some r → rd_ev S ro (n + 1) k i vs st σ = some r := by
  intro n
  induction n with
  | zero => intro k i vs st σ r h; cases h
  | succ n ih =>
    intro k i vs st σ r h
    rw [rd_ev] at h ⊢
    revert h
    cases rd_act S ro k i vs st σ with
    | none => exact fun h => h
    | some a =>
      rcases a with q | ⟨i', vs', st', σ'⟩ | ⟨k2, as, rest⟩
      · exact fun h => h
      · exact fun h => ih _ _ _ _ _ _ h
      · intro h
        dsimp only at h ⊢
        cases hc : rd_ev S ro n k2 0 (rd_ent k2 as) [] σ with
        | none => rw [hc] at h; cases h
        | some q =>
          rw [hc] at h
          rw [ih _ _ _ _ _ _ hc]
          exact ih _ _ _ _ _ _ h
theorem rd_ev_le {S : List rd_Sh} {ro : Nat → Option (Nat × (Nat → Int32))} {n m : Nat} (hnm : n ≤ m) {k i : Nat} {vs : rd_Lv} {st : List Value} {σ : rd_Sg} {r : Option Value × rd_Sg} (h : rd_ev S ro n k i vs st σ = some r) : rd_ev S ro m k i vs st σ = some r := by
  induction hnm with
  | refl => exact h
  | step _ ih => exact rd_ev_mono _ _ _ _ _ _ _ _ _ ih
/-- where a run comes to, with any fuel -/
noncomputable def rd_E (S : List rd_Sh) (ro : Nat → Option (Nat × (Nat → Int32))) (k i : Nat) (vs : rd_Lv) (st : List Value) (σ : rd_Sg) : Option (Option Value × rd_Sg) :=
  @dite _ (∃ r, ∃ n, rd_ev S ro n k i vs st σ = some r) (Classical.propDecidable _) (fun h => some h.choose) (fun _ => none)
theorem rd_E_iff {S : List rd_Sh} {ro : Nat → Option (Nat × (Nat → Int32))} {k i : Nat} {vs : rd_Lv} {st : List Value} {σ : rd_Sg} {r : Option Value × rd_Sg} : rd_E S ro k i vs st σ = some r ↔ ∃ n, rd_ev S ro n k i vs st σ = some r := by
  unfold rd_E
  by_cases h : ∃ r, ∃ n, rd_ev S ro n k i vs st σ = some r
  · rw [dif_pos h]
    obtain ⟨n, hn⟩ := h.choose_spec
    constructor
    · intro e
      rw [Option.some.inj e] at hn
      exact ⟨n, hn⟩
    · rintro ⟨m, hm⟩
      have h1 := rd_ev_le (Nat.le_max_left n m) hn
      have h2 := rd_ev_le (Nat.le_max_right n m) hm
      rw [h1] at h2
      exact h2
  · rw [dif_neg h]
    constructor
    · intro e; cases e
    · rintro ⟨n, hn⟩; exact absurd ⟨r, n, hn⟩ h
theorem rd_E_eq (S : List rd_Sh) (ro : Nat → Option (Nat × (Nat → Int32))) (k i : Nat) (vs : rd_Lv) (st : List Value) (σ : rd_Sg) : rd_E S ro k i vs st σ = match rd_act S ro k i vs st σ with
    | none => none
    | some (.inl q) => some q
    | some (.inr (.inl (i', vs', st', σ'))) => rd_E S ro k i' vs' st' σ'
    | some (.inr (.inr (k2, as, rest))) => (rd_E S ro k2 0 (rd_ent k2 as) [] σ).bind fun q => rd_E S ro k (i + 1) vs (q.1.toList ++ rest) q.2 := by
  apply Option.ext
  intro r
  rw [rd_E_iff]
  have step : ∀ n, rd_ev S ro (n + 1) k i vs st σ = match rd_act S ro k i vs st σ with
    | none => none
    | some (.inl q) => some q
    | some (.inr (.inl (i', vs', st', σ'))) => rd_ev S ro n k i' vs' st' σ'
    | some (.inr (.inr (k2, as, rest))) => (rd_ev S ro n k2 0 (rd_ent k2 as) [] σ).bind fun q => rd_ev S ro n k (i + 1) vs (q.1.toList ++ rest) q.2 := fun n => by rw [rd_ev]
  have h0 : (∃ n, rd_ev S ro n k i vs st σ = some r) ↔ ∃ n, rd_ev S ro (n + 1) k i vs st σ = some r :=
    ⟨fun ⟨n, h⟩ => ⟨n, rd_ev_mono _ _ _ _ _ _ _ _ _ h⟩, fun ⟨n, h⟩ => ⟨n + 1, h⟩⟩
  rw [h0]
  simp only [step]
  cases rd_act S ro k i vs st σ with
  | none => simp
  | some a =>
    rcases a with q | ⟨i', vs', st', σ'⟩ | ⟨k2, as, rest⟩
    · simp
    · exact rd_E_iff.symm
    · dsimp only
      constructor
      · rintro ⟨n, h⟩
        cases hc : rd_ev S ro n k2 0 (rd_ent k2 as) [] σ with
        | none => rw [hc] at h; cases h
        | some q =>
          rw [hc] at h
          rw [rd_E_iff.mpr ⟨n, hc⟩]
          exact rd_E_iff.mpr ⟨n, h⟩
      · intro h
        cases hc : rd_E S ro k2 0 (rd_ent k2 as) [] σ with
        | none => rw [hc] at h; cases h
        | some q =>
          rw [hc] at h
          obtain ⟨n, hn⟩ := rd_E_iff.mp hc
          obtain ⟨m, hm⟩ := rd_E_iff.mp h
          refine ⟨max n m, ?_⟩
          rw [rd_ev_le (Nat.le_max_left n m) hn]
          exact rd_ev_le (Nat.le_max_right n m) hm
end
section
/-! What the tables must say, checked by the kernel. -/
def rd_pc (k i : Nat) : Option Nat := match rd_look k i with
  | some e => some e.1
  | none => none
/-- instruction t of method k stands at p -/
def rd_nx (k t : Nat) (p : Int) : Bool := match rd_pc k t with
  | some q => decide (p = (q : Int))
  | none => false
def rd_ln : Instr → Nat
  | .bipush _ | .iload _ | .aload _ | .istore _ | .astore _ | .newarray _ => 2
  | .sipush _ | .iinc _ _ | .new _ => 3
  | _ => 1
def rd_tz (k : Nat) (pc : Nat) : List Nat → List Int → Bool
  | [], [] => true
  | t :: ts, o :: os => rd_nx k t ((pc : Int) + o) && rd_tz k pc ts os
  | _, _ => false
def rd_at (l : List Nat) (k : Nat) : Nat := match rd_nth l k with
  | some n => n
  | none => 0
def rd_mi (k : Nat) : Nat := match rd_nth rd_mp k with
  | some (_, _, _, _, t) => t
  | none => 9
def rd_ret (k : Nat) : Option FieldType := match rd_nth rd_mt k with
  | some (_, _, _, r) => r
  | none => none
/-- the callee's room fits the caller's -/
def rd_rmok (k k2 : Nat) : Bool := match rd_nth rd_rm k, rd_nth rd_rm k2 with
  | some (f, _, _, lo), some (f2, _, _, lo2) => Nat.ble (f2 + 1) f && Nat.ble (8 + (rd_mL k2 + 11) + lo2) lo
  | _, _ => false
/-- nothing is made -/
def rd_z (k : Nat) : Bool := match rd_nth rd_rm k with
  | some (_, 0, 0, _) => true
  | _ => false
def rd_rmle (k a b : Nat) : Bool := match rd_nth rd_rm k with
  | some (f, _, _, lo) => Nat.ble a f && Nat.ble b lo
  | none => false
def rd_flis (f oc idx ci sl : Nat) : Bool := match rd_nth rd_fl f with
  | some (a, b, c, d, _) => Nat.beq a oc && Nat.beq b idx && Nat.beq c ci && Nat.beq d sl
  | none => false
def rd_mlis (q oc idx k2 : Nat) : Bool := match rd_nth rd_ml q with
  | some (a, b, c, _) => Nat.beq a oc && Nat.beq b idx && Nat.beq c k2
  | none => false
def rd_clis (q oc idx ci : Nat) : Bool := match rd_nth rd_cl q with
  | some (a, b, c, _) => Nat.beq a oc && Nat.beq b idx && Nat.beq c ci
  | none => false
def rd_fty (ci sl : Nat) : Nat := match rd_nth vwCl ci with
  | some (_, T, n) => if sl < n then (if (T sl).2.2.1 = "I" then (if (T sl).2.2.2 = true then 3 else 0) else if (T sl).2.2.1 = "Z" then (if (T sl).2.2.2 = true then 9 else 1) else (if (T sl).2.2.2 = true then 2 else 9)) else 9
  | none => 9
def rd_ck (k i : Nat) (e : rd_Et) : Bool := match e with
  | (pc, ins, len, aux) => match ins with
    | .goto off => Nat.beq len 3 && (match aux with
      | [t] => rd_nx k t ((pc : Int) + off)
      | _ => false)
    | .ifCond _ off => Nat.beq len 3 && rd_nx k (i + 1) ((pc + 3 : Nat) : Int) && (match aux with
      | [t] => rd_nx k t ((pc : Int) + off)
      | _ => false)
    | .if_icmp _ off => Nat.beq len 3 && rd_nx k (i + 1) ((pc + 3 : Nat) : Int) && (match aux with
      | [t] => rd_nx k t ((pc : Int) + off)
      | _ => false)
    | .tableswitch d lo hi offs => match aux with
      | dt :: ts => rd_nx k dt ((pc : Int) + d) && decide (hi - lo + 1 = (ts.length : Int)) && decide (-2147483648 ≤ lo) && decide (hi < 2147483648) && rd_tz k pc ts offs.toList
      | _ => false
    | .ireturn => Nat.beq len 1 && (Nat.beq k 194 || (decide (rd_ret k = some .int) && !rd_mz k) || (decide (rd_ret k = some .boolean) && rd_mz k))
    | .return_ => Nat.beq len 1 && decide (rd_ret k = none)
    | .getfield idx => Nat.beq len 3 && rd_nx k (i + 1) ((pc + 3 : Nat) : Int) && (match aux with
      | [ci, sl, f] => rd_flis f (rd_at rd_oc k) idx ci sl && Nat.ble sl 998
      | _ => false)
    | .putfield idx => Nat.beq len 3 && rd_nx k (i + 1) ((pc + 3 : Nat) : Int) && (match aux with
      | [ci, sl, f, t] => rd_flis f (rd_at rd_oc k) idx ci sl && Nat.beq t (rd_fty ci sl) && Nat.ble sl 998
      | _ => false)
    | .getstatic idx => Nat.beq len 3 && rd_nx k (i + 1) ((pc + 3 : Nat) : Int) && (match aux with
      | [f] => rd_flis f (rd_at rd_oc k) idx 1 999
      | _ => false)
    | .invokevirtual idx => Nat.beq len 3 && rd_nx k (i + 1) ((pc + 3 : Nat) : Int) && (match aux with
      | [k2, n, q, ci] => rd_mlis q (rd_at rd_oc k) idx k2 && Nat.beq (rd_mi k2) 0 && Nat.beq n (rd_at rd_np k2) && Nat.beq ci (rd_at rd_oc k2) && rd_rmok k k2 && rd_z k2 && Nat.ble (n + 1) (rd_mL k2)
      | _ => false)
    | .invokestatic idx => Nat.beq len 3 && rd_nx k (i + 1) ((pc + 3 : Nat) : Int) && (match aux with
      | [k2, n, q] => rd_mlis q (rd_at rd_oc k) idx k2 && Nat.beq (rd_mi k2) 1 && Nat.beq n (rd_at rd_np k2) && rd_rmok k k2 && rd_z k2 && Nat.ble n (rd_mL k2)
      | [z, q] => if z = 1000 then rd_mlis q (rd_at rd_oc k) idx 1000 && rd_rmle k 1 26 else rd_mlis q (rd_at rd_oc k) idx 1001 && rd_rmle k 1 21
      | _ => false)
    | .invokespecial idx => Nat.beq len 3 && rd_nx k (i + 1) ((pc + 3 : Nat) : Int) && (match aux with
      | [k2, n, q] => rd_mlis q (rd_at rd_oc k) idx k2 && Nat.beq (rd_mi k2) 2 && Nat.beq n (rd_at rd_np k2) && rd_rmok k k2 && Nat.ble (n + 1) (rd_mL k2)
      | [z, q] => Nat.beq z 2000 && rd_mlis q (rd_at rd_oc k) idx 2000 && rd_rmle k 1 20
      | _ => false)
    | .new idx => Nat.beq len 3 && rd_nx k (i + 1) ((pc + 3 : Nat) : Int) && (match aux with
      | [ci, _, q] => rd_clis q (rd_at rd_oc k) idx ci
      | _ => false)
    | ins => Nat.beq len (rd_ln ins) && rd_nx k (i + 1) ((pc + len : Nat) : Int)
def rd_ckl (k : Nat) : Nat → List rd_Et → Bool
  | _, [] => true
  | i, e :: l => rd_ck k i e && rd_ckl k (i + 1) l
theorem rd_ckl_cut {k : Nat} : ∀ (n : Nat) (l : List rd_Et) (i : Nat), rd_ckl k i (l.take n) = true → rd_ckl k (i + n) (l.drop n) = true → n ≤ l.length → rd_ckl k i l = true := by
  intro n
  induction n with
  | zero => intro l i _ h _; simpa using h
  | succ n ih =>
    intro l i h1 h2 h3
    cases l with
    | nil => rfl
    | cons e l =>
      rw [List.take_succ_cons, rd_ckl, Bool.and_eq_true] at h1
      rw [List.drop_succ_cons] at h2
      rw [rd_ckl, Bool.and_eq_true]
      exact ⟨h1.1, ih l (i + 1) h1.2 (by rw [show i + 1 + n = i + (n + 1) by omega]; exact h2) (by simpa using h3)⟩
theorem rd_k0 : rd_ckl 0 0 rd_c0 = true := by decide +kernel
theorem rd_k1 : rd_ckl 1 0 rd_c1 = true := by decide +kernel
theorem rd_k2 : rd_ckl 2 0 rd_c2 = true := by decide +kernel
theorem rd_k3 : rd_ckl 3 0 rd_c3 = true := by decide +kernel
theorem rd_k4 : rd_ckl 4 0 rd_c4 = true := by decide +kernel
theorem rd_k5_0 : rd_ckl 5 0 ((rd_c5.drop 0).take 60) = true := by decide +kernel
theorem rd_k5_60 : rd_ckl 5 60 ((rd_c5.drop 60).take 60) = true := by decide +kernel
theorem rd_k5_120 : rd_ckl 5 120 ((rd_c5.drop 120).take 60) = true := by decide +kernel
theorem rd_k5 : rd_ckl 5 0 rd_c5 = true := by
  refine rd_ckl_cut 60 _ _ rd_k5_0 ?_ (by decide +kernel)
  refine rd_ckl_cut 60 _ _ rd_k5_60 ?_ (by decide +kernel)
  rw [List.drop_drop]
  have h := rd_k5_120
  rw [List.take_of_length_le (by decide +kernel)] at h
  exact h
theorem rd_k6 : rd_ckl 6 0 rd_c6 = true := by decide +kernel
theorem rd_k7 : rd_ckl 7 0 rd_c7 = true := by decide +kernel
theorem rd_k8 : rd_ckl 8 0 rd_c8 = true := by decide +kernel
theorem rd_k9 : rd_ckl 9 0 rd_c9 = true := by decide +kernel
theorem rd_k10 : rd_ckl 10 0 rd_c10 = true := by decide +kernel
theorem rd_k11 : rd_ckl 11 0 rd_c11 = true := by decide +kernel
theorem rd_k12 : rd_ckl 12 0 rd_c12 = true := by decide +kernel
theorem rd_k13 : rd_ckl 13 0 rd_c13 = true := by decide +kernel
theorem rd_k14 : rd_ckl 14 0 rd_c14 = true := by decide +kernel
theorem rd_k15 : rd_ckl 15 0 rd_c15 = true := by decide +kernel
theorem rd_k16 : rd_ckl 16 0 rd_c16 = true := by decide +kernel
theorem rd_k17 : rd_ckl 17 0 rd_c17 = true := by decide +kernel
theorem rd_k18 : rd_ckl 18 0 rd_c18 = true := by decide +kernel
theorem rd_k19 : rd_ckl 19 0 rd_c19 = true := by decide +kernel
theorem rd_k20 : rd_ckl 20 0 rd_c20 = true := by decide +kernel
theorem rd_k21 : rd_ckl 21 0 rd_c21 = true := by decide +kernel
theorem rd_k22 : rd_ckl 22 0 rd_c22 = true := by decide +kernel
theorem rd_k23 : rd_ckl 23 0 rd_c23 = true := by decide +kernel
theorem rd_k24 : rd_ckl 24 0 rd_c24 = true := by decide +kernel
theorem rd_k25 : rd_ckl 25 0 rd_c25 = true := by decide +kernel
theorem rd_k26 : rd_ckl 26 0 rd_c26 = true := by decide +kernel
theorem rd_k27 : rd_ckl 27 0 rd_c27 = true := by decide +kernel
theorem rd_k28 : rd_ckl 28 0 rd_c28 = true := by decide +kernel
theorem rd_k29 : rd_ckl 29 0 rd_c29 = true := by decide +kernel
theorem rd_k30 : rd_ckl 30 0 rd_c30 = true := by decide +kernel
theorem rd_k31 : rd_ckl 31 0 rd_c31 = true := by decide +kernel
theorem rd_k32 : rd_ckl 32 0 rd_c32 = true := by decide +kernel
theorem rd_k33 : rd_ckl 33 0 rd_c33 = true := by decide +kernel
theorem rd_k34 : rd_ckl 34 0 rd_c34 = true := by decide +kernel
theorem rd_k35 : rd_ckl 35 0 rd_c35 = true := by decide +kernel
theorem rd_k36 : rd_ckl 36 0 rd_c36 = true := by decide +kernel
theorem rd_k37 : rd_ckl 37 0 rd_c37 = true := by decide +kernel
theorem rd_k38 : rd_ckl 38 0 rd_c38 = true := by decide +kernel
theorem rd_k39 : rd_ckl 39 0 rd_c39 = true := by decide +kernel
theorem rd_k40 : rd_ckl 40 0 rd_c40 = true := by decide +kernel
theorem rd_k41 : rd_ckl 41 0 rd_c41 = true := by decide +kernel
theorem rd_k42 : rd_ckl 42 0 rd_c42 = true := by decide +kernel
theorem rd_k43 : rd_ckl 43 0 rd_c43 = true := by decide +kernel
theorem rd_k44 : rd_ckl 44 0 rd_c44 = true := by decide +kernel
theorem rd_k45 : rd_ckl 45 0 rd_c45 = true := by decide +kernel
theorem rd_k46 : rd_ckl 46 0 rd_c46 = true := by decide +kernel
theorem rd_k47 : rd_ckl 47 0 rd_c47 = true := by decide +kernel
theorem rd_k48 : rd_ckl 48 0 rd_c48 = true := by decide +kernel
theorem rd_k49 : rd_ckl 49 0 rd_c49 = true := by decide +kernel
theorem rd_k50 : rd_ckl 50 0 rd_c50 = true := by decide +kernel
theorem rd_k51 : rd_ckl 51 0 rd_c51 = true := by decide +kernel
theorem rd_k52 : rd_ckl 52 0 rd_c52 = true := by decide +kernel
theorem rd_k53 : rd_ckl 53 0 rd_c53 = true := by decide +kernel
theorem rd_k54 : rd_ckl 54 0 rd_c54 = true := by decide +kernel
theorem rd_k55 : rd_ckl 55 0 rd_c55 = true := by decide +kernel
theorem rd_k56 : rd_ckl 56 0 rd_c56 = true := by decide +kernel
theorem rd_k57 : rd_ckl 57 0 rd_c57 = true := by decide +kernel
theorem rd_k58 : rd_ckl 58 0 rd_c58 = true := by decide +kernel
theorem rd_k59 : rd_ckl 59 0 rd_c59 = true := by decide +kernel
theorem rd_k60 : rd_ckl 60 0 rd_c60 = true := by decide +kernel
theorem rd_k61 : rd_ckl 61 0 rd_c61 = true := by decide +kernel
theorem rd_k62 : rd_ckl 62 0 rd_c62 = true := by decide +kernel
theorem rd_k63 : rd_ckl 63 0 rd_c63 = true := by decide +kernel
theorem rd_k64 : rd_ckl 64 0 rd_c64 = true := by decide +kernel
theorem rd_k65 : rd_ckl 65 0 rd_c65 = true := by decide +kernel
theorem rd_k66 : rd_ckl 66 0 rd_c66 = true := by decide +kernel
theorem rd_k67 : rd_ckl 67 0 rd_c67 = true := by decide +kernel
theorem rd_k68 : rd_ckl 68 0 rd_c68 = true := by decide +kernel
theorem rd_k69 : rd_ckl 69 0 rd_c69 = true := by decide +kernel
theorem rd_k70 : rd_ckl 70 0 rd_c70 = true := by decide +kernel
theorem rd_k71 : rd_ckl 71 0 rd_c71 = true := by decide +kernel
theorem rd_k72 : rd_ckl 72 0 rd_c72 = true := by decide +kernel
theorem rd_k73 : rd_ckl 73 0 rd_c73 = true := by decide +kernel
theorem rd_k74 : rd_ckl 74 0 rd_c74 = true := by decide +kernel
theorem rd_k75 : rd_ckl 75 0 rd_c75 = true := by decide +kernel
theorem rd_k76 : rd_ckl 76 0 rd_c76 = true := by decide +kernel
theorem rd_k77 : rd_ckl 77 0 rd_c77 = true := by decide +kernel
theorem rd_k78 : rd_ckl 78 0 rd_c78 = true := by decide +kernel
theorem rd_k79 : rd_ckl 79 0 rd_c79 = true := by decide +kernel
theorem rd_k80 : rd_ckl 80 0 rd_c80 = true := by decide +kernel
theorem rd_k81 : rd_ckl 81 0 rd_c81 = true := by decide +kernel
theorem rd_k82 : rd_ckl 82 0 rd_c82 = true := by decide +kernel
theorem rd_k83 : rd_ckl 83 0 rd_c83 = true := by decide +kernel
theorem rd_k84 : rd_ckl 84 0 rd_c84 = true := by decide +kernel
theorem rd_k85 : rd_ckl 85 0 rd_c85 = true := by decide +kernel
theorem rd_k86 : rd_ckl 86 0 rd_c86 = true := by decide +kernel
theorem rd_k87 : rd_ckl 87 0 rd_c87 = true := by decide +kernel
theorem rd_k88 : rd_ckl 88 0 rd_c88 = true := by decide +kernel
theorem rd_k89 : rd_ckl 89 0 rd_c89 = true := by decide +kernel
theorem rd_k90 : rd_ckl 90 0 rd_c90 = true := by decide +kernel
theorem rd_k91 : rd_ckl 91 0 rd_c91 = true := by decide +kernel
theorem rd_k92 : rd_ckl 92 0 rd_c92 = true := by decide +kernel
theorem rd_k93 : rd_ckl 93 0 rd_c93 = true := by decide +kernel
theorem rd_k94 : rd_ckl 94 0 rd_c94 = true := by decide +kernel
theorem rd_k95 : rd_ckl 95 0 rd_c95 = true := by decide +kernel
theorem rd_k96 : rd_ckl 96 0 rd_c96 = true := by decide +kernel
theorem rd_k97 : rd_ckl 97 0 rd_c97 = true := by decide +kernel
theorem rd_k98 : rd_ckl 98 0 rd_c98 = true := by decide +kernel
theorem rd_k99 : rd_ckl 99 0 rd_c99 = true := by decide +kernel
theorem rd_k100 : rd_ckl 100 0 rd_c100 = true := by decide +kernel
theorem rd_k101 : rd_ckl 101 0 rd_c101 = true := by decide +kernel
theorem rd_k102 : rd_ckl 102 0 rd_c102 = true := by decide +kernel
theorem rd_k103 : rd_ckl 103 0 rd_c103 = true := by decide +kernel
theorem rd_k104 : rd_ckl 104 0 rd_c104 = true := by decide +kernel
theorem rd_k105 : rd_ckl 105 0 rd_c105 = true := by decide +kernel
theorem rd_k106 : rd_ckl 106 0 rd_c106 = true := by decide +kernel
theorem rd_k107 : rd_ckl 107 0 rd_c107 = true := by decide +kernel
theorem rd_k108 : rd_ckl 108 0 rd_c108 = true := by decide +kernel
theorem rd_k109 : rd_ckl 109 0 rd_c109 = true := by decide +kernel
theorem rd_k110 : rd_ckl 110 0 rd_c110 = true := by decide +kernel
theorem rd_k111 : rd_ckl 111 0 rd_c111 = true := by decide +kernel
theorem rd_k112 : rd_ckl 112 0 rd_c112 = true := by decide +kernel
theorem rd_k113 : rd_ckl 113 0 rd_c113 = true := by decide +kernel
theorem rd_k114 : rd_ckl 114 0 rd_c114 = true := by decide +kernel
theorem rd_k115 : rd_ckl 115 0 rd_c115 = true := by decide +kernel
theorem rd_k116 : rd_ckl 116 0 rd_c116 = true := by decide +kernel
theorem rd_k117 : rd_ckl 117 0 rd_c117 = true := by decide +kernel
theorem rd_k118 : rd_ckl 118 0 rd_c118 = true := by decide +kernel
theorem rd_k119 : rd_ckl 119 0 rd_c119 = true := by decide +kernel
theorem rd_k120 : rd_ckl 120 0 rd_c120 = true := by decide +kernel
theorem rd_k121 : rd_ckl 121 0 rd_c121 = true := by decide +kernel
theorem rd_k122 : rd_ckl 122 0 rd_c122 = true := by decide +kernel
theorem rd_k123 : rd_ckl 123 0 rd_c123 = true := by decide +kernel
theorem rd_k124 : rd_ckl 124 0 rd_c124 = true := by decide +kernel
theorem rd_k125 : rd_ckl 125 0 rd_c125 = true := by decide +kernel
theorem rd_k126 : rd_ckl 126 0 rd_c126 = true := by decide +kernel
theorem rd_k127 : rd_ckl 127 0 rd_c127 = true := by decide +kernel
theorem rd_k128 : rd_ckl 128 0 rd_c128 = true := by decide +kernel
theorem rd_k129 : rd_ckl 129 0 rd_c129 = true := by decide +kernel
theorem rd_k130 : rd_ckl 130 0 rd_c130 = true := by decide +kernel
theorem rd_k131 : rd_ckl 131 0 rd_c131 = true := by decide +kernel
theorem rd_k132 : rd_ckl 132 0 rd_c132 = true := by decide +kernel
theorem rd_k133 : rd_ckl 133 0 rd_c133 = true := by decide +kernel
theorem rd_k134 : rd_ckl 134 0 rd_c134 = true := by decide +kernel
theorem rd_k135 : rd_ckl 135 0 rd_c135 = true := by decide +kernel
theorem rd_k136_0 : rd_ckl 136 0 ((rd_c136.drop 0).take 60) = true := by decide +kernel
theorem rd_k136_60 : rd_ckl 136 60 ((rd_c136.drop 60).take 60) = true := by decide +kernel
theorem rd_k136_120 : rd_ckl 136 120 ((rd_c136.drop 120).take 60) = true := by decide +kernel
theorem rd_k136 : rd_ckl 136 0 rd_c136 = true := by
  refine rd_ckl_cut 60 _ _ rd_k136_0 ?_ (by decide +kernel)
  refine rd_ckl_cut 60 _ _ rd_k136_60 ?_ (by decide +kernel)
  rw [List.drop_drop]
  have h := rd_k136_120
  rw [List.take_of_length_le (by decide +kernel)] at h
  exact h
theorem rd_k137 : rd_ckl 137 0 rd_c137 = true := by decide +kernel
theorem rd_k138 : rd_ckl 138 0 rd_c138 = true := by decide +kernel
theorem rd_k139 : rd_ckl 139 0 rd_c139 = true := by decide +kernel
theorem rd_k140_0 : rd_ckl 140 0 ((rd_c140.drop 0).take 60) = true := by decide +kernel
theorem rd_k140_60 : rd_ckl 140 60 ((rd_c140.drop 60).take 60) = true := by decide +kernel
theorem rd_k140_120 : rd_ckl 140 120 ((rd_c140.drop 120).take 60) = true := by decide +kernel
theorem rd_k140 : rd_ckl 140 0 rd_c140 = true := by
  refine rd_ckl_cut 60 _ _ rd_k140_0 ?_ (by decide +kernel)
  refine rd_ckl_cut 60 _ _ rd_k140_60 ?_ (by decide +kernel)
  rw [List.drop_drop]
  have h := rd_k140_120
  rw [List.take_of_length_le (by decide +kernel)] at h
  exact h
theorem rd_k141 : rd_ckl 141 0 rd_c141 = true := by decide +kernel
theorem rd_k142 : rd_ckl 142 0 rd_c142 = true := by decide +kernel
theorem rd_k143 : rd_ckl 143 0 rd_c143 = true := by decide +kernel
theorem rd_k144 : rd_ckl 144 0 rd_c144 = true := by decide +kernel
theorem rd_k145 : rd_ckl 145 0 rd_c145 = true := by decide +kernel
theorem rd_k146 : rd_ckl 146 0 rd_c146 = true := by decide +kernel
theorem rd_k147 : rd_ckl 147 0 rd_c147 = true := by decide +kernel
theorem rd_k148 : rd_ckl 148 0 rd_c148 = true := by decide +kernel
theorem rd_k149 : rd_ckl 149 0 rd_c149 = true := by decide +kernel
theorem rd_k150 : rd_ckl 150 0 rd_c150 = true := by decide +kernel
theorem rd_k151 : rd_ckl 151 0 rd_c151 = true := by decide +kernel
theorem rd_k152 : rd_ckl 152 0 rd_c152 = true := by decide +kernel
theorem rd_k153 : rd_ckl 153 0 rd_c153 = true := by decide +kernel
theorem rd_k154 : rd_ckl 154 0 rd_c154 = true := by decide +kernel
theorem rd_k155 : rd_ckl 155 0 rd_c155 = true := by decide +kernel
theorem rd_k156 : rd_ckl 156 0 rd_c156 = true := by decide +kernel
theorem rd_k157 : rd_ckl 157 0 rd_c157 = true := by decide +kernel
theorem rd_k158 : rd_ckl 158 0 rd_c158 = true := by decide +kernel
theorem rd_k159 : rd_ckl 159 0 rd_c159 = true := by decide +kernel
theorem rd_k160 : rd_ckl 160 0 rd_c160 = true := by decide +kernel
theorem rd_k161 : rd_ckl 161 0 rd_c161 = true := by decide +kernel
theorem rd_k162_0 : rd_ckl 162 0 ((rd_c162.drop 0).take 60) = true := by decide +kernel
theorem rd_k162_60 : rd_ckl 162 60 ((rd_c162.drop 60).take 60) = true := by decide +kernel
theorem rd_k162_120 : rd_ckl 162 120 ((rd_c162.drop 120).take 60) = true := by decide +kernel
theorem rd_k162 : rd_ckl 162 0 rd_c162 = true := by
  refine rd_ckl_cut 60 _ _ rd_k162_0 ?_ (by decide +kernel)
  refine rd_ckl_cut 60 _ _ rd_k162_60 ?_ (by decide +kernel)
  rw [List.drop_drop]
  have h := rd_k162_120
  rw [List.take_of_length_le (by decide +kernel)] at h
  exact h
theorem rd_k163_0 : rd_ckl 163 0 ((rd_c163.drop 0).take 60) = true := by decide +kernel
theorem rd_k163_60 : rd_ckl 163 60 ((rd_c163.drop 60).take 60) = true := by decide +kernel
theorem rd_k163_120 : rd_ckl 163 120 ((rd_c163.drop 120).take 60) = true := by decide +kernel
theorem rd_k163_180 : rd_ckl 163 180 ((rd_c163.drop 180).take 60) = true := by decide +kernel
theorem rd_k163 : rd_ckl 163 0 rd_c163 = true := by
  refine rd_ckl_cut 60 _ _ rd_k163_0 ?_ (by decide +kernel)
  refine rd_ckl_cut 60 _ _ rd_k163_60 ?_ (by decide +kernel)
  rw [List.drop_drop]
  refine rd_ckl_cut 60 _ _ rd_k163_120 ?_ (by decide +kernel)
  rw [List.drop_drop]
  have h := rd_k163_180
  rw [List.take_of_length_le (by decide +kernel)] at h
  exact h
theorem rd_k164 : rd_ckl 164 0 rd_c164 = true := by decide +kernel
theorem rd_k165 : rd_ckl 165 0 rd_c165 = true := by decide +kernel
theorem rd_k166 : rd_ckl 166 0 rd_c166 = true := by decide +kernel
theorem rd_k167 : rd_ckl 167 0 rd_c167 = true := by decide +kernel
theorem rd_k168 : rd_ckl 168 0 rd_c168 = true := by decide +kernel
theorem rd_k169 : rd_ckl 169 0 rd_c169 = true := by decide +kernel
theorem rd_k170 : rd_ckl 170 0 rd_c170 = true := by decide +kernel
theorem rd_k171 : rd_ckl 171 0 rd_c171 = true := by decide +kernel
theorem rd_k172 : rd_ckl 172 0 rd_c172 = true := by decide +kernel
theorem rd_k173 : rd_ckl 173 0 rd_c173 = true := by decide +kernel
theorem rd_k174 : rd_ckl 174 0 rd_c174 = true := by decide +kernel
theorem rd_k175 : rd_ckl 175 0 rd_c175 = true := by decide +kernel
theorem rd_k176 : rd_ckl 176 0 rd_c176 = true := by decide +kernel
theorem rd_k177 : rd_ckl 177 0 rd_c177 = true := by decide +kernel
theorem rd_k178 : rd_ckl 178 0 rd_c178 = true := by decide +kernel
theorem rd_k179_0 : rd_ckl 179 0 ((rd_c179.drop 0).take 60) = true := by decide +kernel
theorem rd_k179_60 : rd_ckl 179 60 ((rd_c179.drop 60).take 60) = true := by decide +kernel
theorem rd_k179_120 : rd_ckl 179 120 ((rd_c179.drop 120).take 60) = true := by decide +kernel
theorem rd_k179 : rd_ckl 179 0 rd_c179 = true := by
  refine rd_ckl_cut 60 _ _ rd_k179_0 ?_ (by decide +kernel)
  refine rd_ckl_cut 60 _ _ rd_k179_60 ?_ (by decide +kernel)
  rw [List.drop_drop]
  have h := rd_k179_120
  rw [List.take_of_length_le (by decide +kernel)] at h
  exact h
theorem rd_k180 : rd_ckl 180 0 rd_c180 = true := by decide +kernel
theorem rd_k181_0 : rd_ckl 181 0 ((rd_c181.drop 0).take 60) = true := by decide +kernel
theorem rd_k181_60 : rd_ckl 181 60 ((rd_c181.drop 60).take 60) = true := by decide +kernel
theorem rd_k181_120 : rd_ckl 181 120 ((rd_c181.drop 120).take 60) = true := by decide +kernel
theorem rd_k181 : rd_ckl 181 0 rd_c181 = true := by
  refine rd_ckl_cut 60 _ _ rd_k181_0 ?_ (by decide +kernel)
  refine rd_ckl_cut 60 _ _ rd_k181_60 ?_ (by decide +kernel)
  rw [List.drop_drop]
  have h := rd_k181_120
  rw [List.take_of_length_le (by decide +kernel)] at h
  exact h
theorem rd_k182 : rd_ckl 182 0 rd_c182 = true := by decide +kernel
theorem rd_k183 : rd_ckl 183 0 rd_c183 = true := by decide +kernel
theorem rd_k184 : rd_ckl 184 0 rd_c184 = true := by decide +kernel
theorem rd_k185_0 : rd_ckl 185 0 ((rd_c185.drop 0).take 60) = true := by decide +kernel
theorem rd_k185_60 : rd_ckl 185 60 ((rd_c185.drop 60).take 60) = true := by decide +kernel
theorem rd_k185_120 : rd_ckl 185 120 ((rd_c185.drop 120).take 60) = true := by decide +kernel
theorem rd_k185 : rd_ckl 185 0 rd_c185 = true := by
  refine rd_ckl_cut 60 _ _ rd_k185_0 ?_ (by decide +kernel)
  refine rd_ckl_cut 60 _ _ rd_k185_60 ?_ (by decide +kernel)
  rw [List.drop_drop]
  have h := rd_k185_120
  rw [List.take_of_length_le (by decide +kernel)] at h
  exact h
theorem rd_k186 : rd_ckl 186 0 rd_c186 = true := by decide +kernel
theorem rd_k187 : rd_ckl 187 0 rd_c187 = true := by decide +kernel
theorem rd_k188 : rd_ckl 188 0 rd_c188 = true := by decide +kernel
theorem rd_k189 : rd_ckl 189 0 rd_c189 = true := by decide +kernel
theorem rd_k190 : rd_ckl 190 0 rd_c190 = true := by decide +kernel
theorem rd_k191 : rd_ckl 191 0 rd_c191 = true := by decide +kernel
theorem rd_k192 : rd_ckl 192 0 rd_c192 = true := by decide +kernel
theorem rd_k193 : rd_ckl 193 0 rd_c193 = true := by decide +kernel
theorem rd_k194_0 : rd_ckl 194 0 ((rd_c194.drop 0).take 60) = true := by decide +kernel
theorem rd_k194_60 : rd_ckl 194 60 ((rd_c194.drop 60).take 60) = true := by decide +kernel
theorem rd_k194_120 : rd_ckl 194 120 ((rd_c194.drop 120).take 60) = true := by decide +kernel
theorem rd_k194_180 : rd_ckl 194 180 ((rd_c194.drop 180).take 60) = true := by decide +kernel
theorem rd_k194_240 : rd_ckl 194 240 ((rd_c194.drop 240).take 60) = true := by decide +kernel
theorem rd_k194_300 : rd_ckl 194 300 ((rd_c194.drop 300).take 60) = true := by decide +kernel
theorem rd_k194_360 : rd_ckl 194 360 ((rd_c194.drop 360).take 60) = true := by decide +kernel
theorem rd_k194_420 : rd_ckl 194 420 ((rd_c194.drop 420).take 60) = true := by decide +kernel
theorem rd_k194_480 : rd_ckl 194 480 ((rd_c194.drop 480).take 60) = true := by decide +kernel
theorem rd_k194_540 : rd_ckl 194 540 ((rd_c194.drop 540).take 60) = true := by decide +kernel
theorem rd_k194_600 : rd_ckl 194 600 ((rd_c194.drop 600).take 60) = true := by decide +kernel
theorem rd_k194_660 : rd_ckl 194 660 ((rd_c194.drop 660).take 60) = true := by decide +kernel
theorem rd_k194_720 : rd_ckl 194 720 ((rd_c194.drop 720).take 60) = true := by decide +kernel
theorem rd_k194 : rd_ckl 194 0 rd_c194 = true := by
  refine rd_ckl_cut 60 _ _ rd_k194_0 ?_ (by decide +kernel)
  refine rd_ckl_cut 60 _ _ rd_k194_60 ?_ (by decide +kernel)
  rw [List.drop_drop]
  refine rd_ckl_cut 60 _ _ rd_k194_120 ?_ (by decide +kernel)
  rw [List.drop_drop]
  refine rd_ckl_cut 60 _ _ rd_k194_180 ?_ (by decide +kernel)
  rw [List.drop_drop]
  refine rd_ckl_cut 60 _ _ rd_k194_240 ?_ (by decide +kernel)
  rw [List.drop_drop]
  refine rd_ckl_cut 60 _ _ rd_k194_300 ?_ (by decide +kernel)
  rw [List.drop_drop]
  refine rd_ckl_cut 60 _ _ rd_k194_360 ?_ (by decide +kernel)
  rw [List.drop_drop]
  refine rd_ckl_cut 60 _ _ rd_k194_420 ?_ (by decide +kernel)
  rw [List.drop_drop]
  refine rd_ckl_cut 60 _ _ rd_k194_480 ?_ (by decide +kernel)
  rw [List.drop_drop]
  refine rd_ckl_cut 60 _ _ rd_k194_540 ?_ (by decide +kernel)
  rw [List.drop_drop]
  refine rd_ckl_cut 60 _ _ rd_k194_600 ?_ (by decide +kernel)
  rw [List.drop_drop]
  refine rd_ckl_cut 60 _ _ rd_k194_660 ?_ (by decide +kernel)
  rw [List.drop_drop]
  have h := rd_k194_720
  rw [List.take_of_length_le (by decide +kernel)] at h
  exact h
def rd_ckz : Nat → List (List rd_Et) → Prop
  | _, [] => True
  | k, l :: ls => rd_ckl k 0 l = true ∧ rd_ckz (k + 1) ls
theorem rd_ckz_ok : rd_ckz 0 rd_ct := ⟨rd_k0, rd_k1, rd_k2, rd_k3, rd_k4, rd_k5, rd_k6, rd_k7, rd_k8, rd_k9, rd_k10, rd_k11, rd_k12, rd_k13, rd_k14, rd_k15, rd_k16, rd_k17, rd_k18, rd_k19, rd_k20, rd_k21, rd_k22, rd_k23, rd_k24, rd_k25, rd_k26, rd_k27, rd_k28, rd_k29, rd_k30, rd_k31, rd_k32, rd_k33, rd_k34, rd_k35, rd_k36, rd_k37, rd_k38, rd_k39, rd_k40, rd_k41, rd_k42, rd_k43, rd_k44, rd_k45, rd_k46, rd_k47, rd_k48, rd_k49, rd_k50, rd_k51, rd_k52, rd_k53, rd_k54, rd_k55, rd_k56, rd_k57, rd_k58, rd_k59, rd_k60, rd_k61, rd_k62, rd_k63, rd_k64, rd_k65, rd_k66, rd_k67, rd_k68, rd_k69, rd_k70, rd_k71, rd_k72, rd_k73, rd_k74, rd_k75, rd_k76, rd_k77, rd_k78, rd_k79, rd_k80, rd_k81, rd_k82, rd_k83, rd_k84, rd_k85, rd_k86, rd_k87, rd_k88, rd_k89, rd_k90, rd_k91, rd_k92, rd_k93, rd_k94, rd_k95, rd_k96, rd_k97, rd_k98, rd_k99, rd_k100, rd_k101, rd_k102, rd_k103, rd_k104, rd_k105, rd_k106, rd_k107, rd_k108, rd_k109, rd_k110, rd_k111, rd_k112, rd_k113, rd_k114, rd_k115, rd_k116, rd_k117, rd_k118, rd_k119, rd_k120, rd_k121, rd_k122, rd_k123, rd_k124, rd_k125, rd_k126, rd_k127, rd_k128, rd_k129, rd_k130, rd_k131, rd_k132, rd_k133, rd_k134, rd_k135, rd_k136, rd_k137, rd_k138, rd_k139, rd_k140, rd_k141, rd_k142, rd_k143, rd_k144, rd_k145, rd_k146, rd_k147, rd_k148, rd_k149, rd_k150, rd_k151, rd_k152, rd_k153, rd_k154, rd_k155, rd_k156, rd_k157, rd_k158, rd_k159, rd_k160, rd_k161, rd_k162, rd_k163, rd_k164, rd_k165, rd_k166, rd_k167, rd_k168, rd_k169, rd_k170, rd_k171, rd_k172, rd_k173, rd_k174, rd_k175, rd_k176, rd_k177, rd_k178, rd_k179, rd_k180, rd_k181, rd_k182, rd_k183, rd_k184, rd_k185, rd_k186, rd_k187, rd_k188, rd_k189, rd_k190, rd_k191, rd_k192, rd_k193, rd_k194, trivial⟩
theorem rd_ckl_at {k : Nat} : ∀ (l : List rd_Et) (i0 i : Nat) (e : rd_Et), rd_ckl k i0 l = true → rd_nth l i = some e → rd_ck k (i0 + i) e = true := by
  intro l
  induction l with
  | nil => intro i0 i e _ h; cases h
  | cons a l ih =>
    intro i0 i e hc h
    rw [rd_ckl, Bool.and_eq_true] at hc
    cases i with
    | zero => rw [rd_nth] at h; cases h; exact hc.1
    | succ i =>
      rw [rd_nth] at h
      have := ih (i0 + 1) i e hc.2 h
      rwa [show i0 + 1 + i = i0 + (i + 1) by omega] at this
theorem rd_ckz_at : ∀ (ls : List (List rd_Et)) (k0 k : Nat) (l : List rd_Et), rd_ckz k0 ls → rd_nth ls k = some l → rd_ckl (k0 + k) 0 l = true := by
  intro ls
  induction ls with
  | nil => intro k0 k l _ h; cases h
  | cons a ls ih =>
    intro k0 k l hc h
    rw [rd_ckz] at hc
    cases k with
    | zero => rw [rd_nth] at h; cases h; exact hc.1
    | succ k =>
      rw [rd_nth] at h
      have := ih (k0 + 1) k l hc.2 h
      rwa [show k0 + 1 + k = k0 + (k + 1) by omega] at this
theorem rd_ck_ok {k i : Nat} {e : rd_Et} (h : rd_look k i = some e) : rd_ck k i e = true := by
  unfold rd_look at h
  cases hl : rd_nth rd_ct k with
  | none => rw [hl] at h; cases h
  | some l =>
    rw [hl] at h
    have h1 := rd_ckz_at _ 0 k l rd_ckz_ok hl
    have h2 := rd_ckl_at l 0 i e h1 h
    simpa using h2
theorem rd_nth_mem {α : Type} : ∀ {l : List α} {i : Nat} {a : α}, rd_nth l i = some a → a ∈ l := by
  intro l
  induction l with
  | nil => intro i a h; cases h
  | cons b l ih =>
    intro i a h
    cases i with
    | zero => rw [rd_nth] at h; cases h; exact List.mem_cons_self
    | succ i => rw [rd_nth] at h; exact List.mem_cons_of_mem _ (ih h)
theorem rd_dz_at : ∀ (ls : List (List rd_Et)) (ms : List rd_M) (k : Nat) (l : List rd_Et) (m : rd_M), rd_dz ls ms → rd_nth ls k = some l → rd_nth ms k = some m → ∀ e ∈ l, decode m.2.1 e.1 = .ok (e.2.1, e.2.2.1) := by
  intro ls
  induction ls with
  | nil => intro ms k l m _ h; cases h
  | cons a ls ih =>
    intro ms k l m hd h1 h2
    cases ms with
    | nil => cases h2
    | cons b ms =>
      obtain ⟨ha, hd⟩ := hd
      cases k with
      | zero => rw [rd_nth] at h1 h2; cases h1; cases h2; exact ha
      | succ k => rw [rd_nth] at h1 h2; exact ih ms k l m hd h1 h2
theorem rd_dec {k i pc len : Nat} {ins : Instr} {aux : List Nat} (h : rd_look k i = some (pc, ins, len, aux)) {y : MethodName} {b : ByteArray} {L : Nat} {ret : Option FieldType} (hm : rd_nth rd_mt k = some (y, b, L, ret)) : decode b pc = .ok (ins, len) := by
  unfold rd_look at h
  cases hl : rd_nth rd_ct k with
  | none => rw [hl] at h; cases h
  | some l =>
    rw [hl] at h
    have h' : rd_nth l i = some (pc, ins, len, aux) := h
    have h2 := rd_dz_at rd_ct rd_mt k l (y, b, L, ret) rd_dz_ok hl hm (pc, ins, len, aux) (rd_nth_mem h')
    exact h2
-- the words
def rd_tb : List Cond := lw_tbl.filter goodWord
theorem rd_tb_mem {p : Nat} {w : Cond} (h : lw_tbl[p]? = some w) (hg : goodWord w = true) : w ∈ rd_tb := List.mem_filter.mpr ⟨List.mem_of_getElem? h, hg⟩
-- the words
def rd_flc (e : Nat × Nat × Nat × Nat × Nat) : Bool := match e with
  | (oc, idx, ci, sl, p) => match rd_nth rd_cn oc, rd_nth vwCl ci with
    | some own, some (_, T, n) => if sl = 999 then Nat.beq ci 1 && decide (lw_tbl[p]? = some (.fieldLink own idx "RehearsalDesk$Cues" "LIMITS" "[I")) else Nat.blt sl n && decide (lw_tbl[p]? = some (.fieldLink own idx (T sl).1 (T sl).2.1 (T sl).2.2.1))
    | _, _ => false
theorem rd_all_cut {α : Type} {f : α → Bool} (n : Nat) (l : List α) (h1 : (l.take n).all f = true) (h2 : (l.drop n).all f = true) : l.all f = true := by
  rw [← List.take_append_drop n l, List.all_append, h1, h2]
  rfl
theorem rd_fl_ok_0 : ((rd_fl.drop 0).take 41).all rd_flc = true := by decide +kernel
theorem rd_fl_ok_41 : ((rd_fl.drop 41).take 41).all rd_flc = true := by decide +kernel
theorem rd_fl_ok_82 : ((rd_fl.drop 82).take 41).all rd_flc = true := by decide +kernel
theorem rd_fl_ok_123 : ((rd_fl.drop 123).take 41).all rd_flc = true := by decide +kernel
theorem rd_fl_ok : rd_fl.all rd_flc = true := by
  refine rd_all_cut 41 _ rd_fl_ok_0 ?_
  refine rd_all_cut 41 _ rd_fl_ok_41 ?_
  rw [List.drop_drop]
  refine rd_all_cut 41 _ rd_fl_ok_82 ?_
  rw [List.drop_drop]
  have h := rd_fl_ok_123
  rw [List.take_of_length_le (by decide +kernel)] at h
  exact h
def rd_mlc (e : Nat × Nat × Nat × Nat) : Bool := match e with
  | (oc, idx, k2, p) => match rd_nth rd_cn oc with
    | some own => if k2 = 1000 then decide (lw_tbl[p]? = some (.methodLink own idx arraycopyName)) else if k2 = 1001 then decide (lw_tbl[p]? = some (.methodLink own idx Lib.Math.min.name)) else if k2 = 2000 then decide (lw_tbl[p]? = some (.methodLink own idx objectInit)) else (match rd_nth rd_mt k2 with
      | some (y, _, _, _) => decide (lw_tbl[p]? = some (.methodLink own idx y))
      | none => false)
    | none => false
theorem rd_ml_ok_0 : ((rd_ml.drop 0).take 41).all rd_mlc = true := by decide +kernel
theorem rd_ml_ok_41 : ((rd_ml.drop 41).take 41).all rd_mlc = true := by decide +kernel
theorem rd_ml_ok_82 : ((rd_ml.drop 82).take 41).all rd_mlc = true := by decide +kernel
theorem rd_ml_ok_123 : ((rd_ml.drop 123).take 41).all rd_mlc = true := by decide +kernel
theorem rd_ml_ok_164 : ((rd_ml.drop 164).take 41).all rd_mlc = true := by decide +kernel
theorem rd_ml_ok_205 : ((rd_ml.drop 205).take 41).all rd_mlc = true := by decide +kernel
theorem rd_ml_ok : rd_ml.all rd_mlc = true := by
  refine rd_all_cut 41 _ rd_ml_ok_0 ?_
  refine rd_all_cut 41 _ rd_ml_ok_41 ?_
  rw [List.drop_drop]
  refine rd_all_cut 41 _ rd_ml_ok_82 ?_
  rw [List.drop_drop]
  refine rd_all_cut 41 _ rd_ml_ok_123 ?_
  rw [List.drop_drop]
  refine rd_all_cut 41 _ rd_ml_ok_164 ?_
  rw [List.drop_drop]
  have h := rd_ml_ok_205
  rw [List.take_of_length_le (by decide +kernel)] at h
  exact h
def rd_clc (e : Nat × Nat × Nat × Nat × Nat × Nat) : Bool := match e with
  | (oc, idx, ci, p, pi, pz) => match rd_nth rd_cn oc, rd_nth vwCl ci with
    | some own, some (C, _, n) => decide (lw_tbl[p]? = some (.classLink own idx C)) && decide (lw_tbl[pi]? = some (.instantiable C n)) && decide (lw_tbl[pz]? = some (.initialized C))
    | _, _ => false
theorem rd_cl_ok : rd_cl.all rd_clc = true := by decide +kernel
end
section
theorem rd_cn_ok : ∀ s ∈ rd_cn, s ≠ "java/lang/invoke/MethodHandle" ∧ s ≠ "java/lang/invoke/VarHandle" := by decide +kernel
theorem rd_cn_pl : ∀ s ∈ rd_cn, s ≠ "java/lang/Math" → plainName s = true := by decide +kernel
/-- what the tables say of a method -/
def rd_MF (k : Nat) (m : rd_M) (t : Nat) : Prop := rd_nth rd_cn (rd_at rd_oc k) = some m.1.cls ∧ (parseMethodDescriptor m.1.desc).map (fun d => d.parameters.length) = some (rd_at rd_np k) ∧ m.2.2.1 = rd_mL k ∧
  (t ≠ 3 → m.1.cls ≠ "java/lang/Math" ∧ Cond.code m.1 m.2.1 m.2.2.1 m.2.2.2 ∈ rd_tb ∧ Cond.initialized m.1.cls ∈ rd_tb ∧ (t = 1 → Cond.static m.1 ∈ rd_tb) ∧ (t = 0 → Cond.instanceMethod m.1 ∈ rd_tb ∧ Cond.selects m.1.cls m.1 m.1 ∈ rd_tb ∧ rd_nth (vwCl.map (fun q => q.1)) (rd_at rd_oc k) = some m.1.cls) ∧ (t = 2 → Cond.instanceMethod m.1 ∈ rd_tb ∧ m.1.name = "<init>" ∧ m.2.2.2 = none))
theorem rd_w0 : lw_tbl[341]? = some (Cond.code yX0_init cX0_init 5 none) := by decide +kernel
theorem rd_f0 : rd_MF 0 (yX0_init, cX0_init, 5, none) 2 := ⟨(by decide +kernel), (by decide +kernel), (by decide +kernel), fun _ => ⟨(by decide +kernel), rd_tb_mem rd_w0 rfl, rd_tb_mem (p := 57) (by decide +kernel) rfl, (fun h => by cases h), (fun h => by cases h), (fun _ => ⟨rd_tb_mem (p := 340) (by decide +kernel) rfl, rfl, rfl⟩)⟩⟩
theorem rd_w1 : lw_tbl[839]? = some (Cond.code yX0_isWornOut cX0_isWornOut 1 (some .boolean)) := by decide +kernel
theorem rd_f1 : rd_MF 1 (yX0_isWornOut, cX0_isWornOut, 1, (some .boolean)) 0 := ⟨(by decide +kernel), (by decide +kernel), (by decide +kernel), fun _ => ⟨(by decide +kernel), rd_tb_mem rd_w1 rfl, rd_tb_mem (p := 57) (by decide +kernel) rfl, (fun h => by cases h), (fun _ => ⟨rd_tb_mem (p := 837) (by decide +kernel) rfl, rd_tb_mem (p := 838) (by decide +kernel) rfl, (by decide +kernel)⟩), (fun h => by cases h)⟩⟩
theorem rd_w2 : lw_tbl[937]? = some (Cond.code yX0_cuesDone cX0_cuesDone 1 (some .int)) := by decide +kernel
theorem rd_f2 : rd_MF 2 (yX0_cuesDone, cX0_cuesDone, 1, (some .int)) 0 := ⟨(by decide +kernel), (by decide +kernel), (by decide +kernel), fun _ => ⟨(by decide +kernel), rd_tb_mem rd_w2 rfl, rd_tb_mem (p := 57) (by decide +kernel) rfl, (fun h => by cases h), (fun _ => ⟨rd_tb_mem (p := 935) (by decide +kernel) rfl, rd_tb_mem (p := 936) (by decide +kernel) rfl, (by decide +kernel)⟩), (fun h => by cases h)⟩⟩
theorem rd_w3 : lw_tbl[843]? = some (Cond.code yX0_begin cX0_begin 1 none) := by decide +kernel
theorem rd_f3 : rd_MF 3 (yX0_begin, cX0_begin, 1, none) 0 := ⟨(by decide +kernel), (by decide +kernel), (by decide +kernel), fun _ => ⟨(by decide +kernel), rd_tb_mem rd_w3 rfl, rd_tb_mem (p := 57) (by decide +kernel) rfl, (fun h => by cases h), (fun _ => ⟨rd_tb_mem (p := 841) (by decide +kernel) rfl, rd_tb_mem (p := 842) (by decide +kernel) rfl, (by decide +kernel)⟩), (fun h => by cases h)⟩⟩
theorem rd_w4 : lw_tbl[851]? = some (Cond.code yX0_isAtCue cX0_isAtCue 1 (some .boolean)) := by decide +kernel
theorem rd_f4 : rd_MF 4 (yX0_isAtCue, cX0_isAtCue, 1, (some .boolean)) 0 := ⟨(by decide +kernel), (by decide +kernel), (by decide +kernel), fun _ => ⟨(by decide +kernel), rd_tb_mem rd_w4 rfl, rd_tb_mem (p := 57) (by decide +kernel) rfl, (fun h => by cases h), (fun _ => ⟨rd_tb_mem (p := 849) (by decide +kernel) rfl, rd_tb_mem (p := 850) (by decide +kernel) rfl, (by decide +kernel)⟩), (fun h => by cases h)⟩⟩
theorem rd_w5 : lw_tbl[859]? = some (Cond.code yX0_doCue cX0_doCue 5 (some .int)) := by decide +kernel
theorem rd_f5 : rd_MF 5 (yX0_doCue, cX0_doCue, 5, (some .int)) 0 := ⟨(by decide +kernel), (by decide +kernel), (by decide +kernel), fun _ => ⟨(by decide +kernel), rd_tb_mem rd_w5 rfl, rd_tb_mem (p := 57) (by decide +kernel) rfl, (fun h => by cases h), (fun _ => ⟨rd_tb_mem (p := 857) (by decide +kernel) rfl, rd_tb_mem (p := 858) (by decide +kernel) rfl, (by decide +kernel)⟩), (fun h => by cases h)⟩⟩
theorem rd_w6 : lw_tbl[864]? = some (Cond.code yX0_callHeld cX0_callHeld 4 (some .int)) := by decide +kernel
theorem rd_f6 : rd_MF 6 (yX0_callHeld, cX0_callHeld, 4, (some .int)) 0 := ⟨(by decide +kernel), (by decide +kernel), (by decide +kernel), fun _ => ⟨(by decide +kernel), rd_tb_mem rd_w6 rfl, rd_tb_mem (p := 57) (by decide +kernel) rfl, (fun h => by cases h), (fun _ => ⟨rd_tb_mem (p := 863) (by decide +kernel) rfl, rd_tb_mem (p := 14) (by decide +kernel) rfl, (by decide +kernel)⟩), (fun h => by cases h)⟩⟩
theorem rd_w7 : lw_tbl[870]? = some (Cond.code yX0_bringAll cX0_bringAll 5 none) := by decide +kernel
theorem rd_f7 : rd_MF 7 (yX0_bringAll, cX0_bringAll, 5, none) 0 := ⟨(by decide +kernel), (by decide +kernel), (by decide +kernel), fun _ => ⟨(by decide +kernel), rd_tb_mem rd_w7 rfl, rd_tb_mem (p := 57) (by decide +kernel) rfl, (fun h => by cases h), (fun _ => ⟨rd_tb_mem (p := 869) (by decide +kernel) rfl, rd_tb_mem (p := 15) (by decide +kernel) rfl, (by decide +kernel)⟩), (fun h => by cases h)⟩⟩
theorem rd_w8 : lw_tbl[882]? = some (Cond.code yX0_tell cX0_tell 2 none) := by decide +kernel
theorem rd_f8 : rd_MF 8 (yX0_tell, cX0_tell, 2, none) 0 := ⟨(by decide +kernel), (by decide +kernel), (by decide +kernel), fun _ => ⟨(by decide +kernel), rd_tb_mem rd_w8 rfl, rd_tb_mem (p := 57) (by decide +kernel) rfl, (fun h => by cases h), (fun _ => ⟨rd_tb_mem (p := 881) (by decide +kernel) rfl, rd_tb_mem (p := 16) (by decide +kernel) rfl, (by decide +kernel)⟩), (fun h => by cases h)⟩⟩
theorem rd_w9 : lw_tbl[886]? = some (Cond.code yX0_recover cX0_recover 3 (some .boolean)) := by decide +kernel
theorem rd_f9 : rd_MF 9 (yX0_recover, cX0_recover, 3, (some .boolean)) 0 := ⟨(by decide +kernel), (by decide +kernel), (by decide +kernel), fun _ => ⟨(by decide +kernel), rd_tb_mem rd_w9 rfl, rd_tb_mem (p := 57) (by decide +kernel) rfl, (fun h => by cases h), (fun _ => ⟨rd_tb_mem (p := 884) (by decide +kernel) rfl, rd_tb_mem (p := 885) (by decide +kernel) rfl, (by decide +kernel)⟩), (fun h => by cases h)⟩⟩
theorem rd_w10 : lw_tbl[894]? = some (Cond.code yX0_arrive cX0_arrive 1 none) := by decide +kernel
theorem rd_f10 : rd_MF 10 (yX0_arrive, cX0_arrive, 1, none) 0 := ⟨(by decide +kernel), (by decide +kernel), (by decide +kernel), fun _ => ⟨(by decide +kernel), rd_tb_mem rd_w10 rfl, rd_tb_mem (p := 57) (by decide +kernel) rfl, (fun h => by cases h), (fun _ => ⟨rd_tb_mem (p := 892) (by decide +kernel) rfl, rd_tb_mem (p := 893) (by decide +kernel) rfl, (by decide +kernel)⟩), (fun h => by cases h)⟩⟩
theorem rd_w11 : lw_tbl[910]? = some (Cond.code yX0_toldSize cX0_toldSize 1 (some .int)) := by decide +kernel
theorem rd_f11 : rd_MF 11 (yX0_toldSize, cX0_toldSize, 1, (some .int)) 0 := ⟨(by decide +kernel), (by decide +kernel), (by decide +kernel), fun _ => ⟨(by decide +kernel), rd_tb_mem rd_w11 rfl, rd_tb_mem (p := 57) (by decide +kernel) rfl, (fun h => by cases h), (fun _ => ⟨rd_tb_mem (p := 908) (by decide +kernel) rfl, rd_tb_mem (p := 909) (by decide +kernel) rfl, (by decide +kernel)⟩), (fun h => by cases h)⟩⟩
theorem rd_w12 : lw_tbl[914]? = some (Cond.code yX0_toldNumber cX0_toldNumber 2 (some .int)) := by decide +kernel
theorem rd_f12 : rd_MF 12 (yX0_toldNumber, cX0_toldNumber, 2, (some .int)) 0 := ⟨(by decide +kernel), (by decide +kernel), (by decide +kernel), fun _ => ⟨(by decide +kernel), rd_tb_mem rd_w12 rfl, rd_tb_mem (p := 57) (by decide +kernel) rfl, (fun h => by cases h), (fun _ => ⟨rd_tb_mem (p := 912) (by decide +kernel) rfl, rd_tb_mem (p := 913) (by decide +kernel) rfl, (by decide +kernel)⟩), (fun h => by cases h)⟩⟩
theorem rd_w13 : lw_tbl[962]? = some (Cond.code yX0_emptyTold cX0_emptyTold 1 none) := by decide +kernel
theorem rd_f13 : rd_MF 13 (yX0_emptyTold, cX0_emptyTold, 1, none) 0 := ⟨(by decide +kernel), (by decide +kernel), (by decide +kernel), fun _ => ⟨(by decide +kernel), rd_tb_mem rd_w13 rfl, rd_tb_mem (p := 57) (by decide +kernel) rfl, (fun h => by cases h), (fun _ => ⟨rd_tb_mem (p := 960) (by decide +kernel) rfl, rd_tb_mem (p := 961) (by decide +kernel) rfl, (by decide +kernel)⟩), (fun h => by cases h)⟩⟩
theorem rd_w14 : lw_tbl[315]? = some (Cond.code yX1_init cX1_init 1 none) := by decide +kernel
theorem rd_f14 : rd_MF 14 (yX1_init, cX1_init, 1, none) 2 := ⟨(by decide +kernel), (by decide +kernel), (by decide +kernel), fun _ => ⟨(by decide +kernel), rd_tb_mem rd_w14 rfl, rd_tb_mem (p := 56) (by decide +kernel) rfl, (fun h => by cases h), (fun h => by cases h), (fun _ => ⟨rd_tb_mem (p := 314) (by decide +kernel) rfl, rfl, rfl⟩)⟩⟩
theorem rd_w15 : lw_tbl[814]? = some (Cond.code yX1_isCue cX1_isCue 5 (some .boolean)) := by decide +kernel
theorem rd_f15 : rd_MF 15 (yX1_isCue, cX1_isCue, 5, (some .boolean)) 1 := ⟨(by decide +kernel), (by decide +kernel), (by decide +kernel), fun _ => ⟨(by decide +kernel), rd_tb_mem rd_w15 rfl, rd_tb_mem (p := 56) (by decide +kernel) rfl, (fun _ => rd_tb_mem (p := 813) (by decide +kernel) rfl), (fun h => by cases h), (fun h => by cases h)⟩⟩
theorem rd_w16 : lw_tbl[817]? = some (Cond.code yX1_isWithin cX1_isWithin 2 (some .boolean)) := by decide +kernel
theorem rd_f16 : rd_MF 16 (yX1_isWithin, cX1_isWithin, 2, (some .boolean)) 1 := ⟨(by decide +kernel), (by decide +kernel), (by decide +kernel), fun _ => ⟨(by decide +kernel), rd_tb_mem rd_w16 rfl, rd_tb_mem (p := 56) (by decide +kernel) rfl, (fun _ => rd_tb_mem (p := 816) (by decide +kernel) rfl), (fun h => by cases h), (fun h => by cases h)⟩⟩
theorem rd_w17 : lw_tbl[855]? = some (Cond.code yX1_size cX1_size 1 (some .int)) := by decide +kernel
theorem rd_f17 : rd_MF 17 (yX1_size, cX1_size, 1, (some .int)) 0 := ⟨(by decide +kernel), (by decide +kernel), (by decide +kernel), fun _ => ⟨(by decide +kernel), rd_tb_mem rd_w17 rfl, rd_tb_mem (p := 56) (by decide +kernel) rfl, (fun h => by cases h), (fun _ => ⟨rd_tb_mem (p := 853) (by decide +kernel) rfl, rd_tb_mem (p := 854) (by decide +kernel) rfl, (by decide +kernel)⟩), (fun h => by cases h)⟩⟩
theorem rd_w18 : lw_tbl[823]? = some (Cond.code yX1_add cX1_add 6 (some .int)) := by decide +kernel
theorem rd_f18 : rd_MF 18 (yX1_add, cX1_add, 6, (some .int)) 0 := ⟨(by decide +kernel), (by decide +kernel), (by decide +kernel), fun _ => ⟨(by decide +kernel), rd_tb_mem rd_w18 rfl, rd_tb_mem (p := 56) (by decide +kernel) rfl, (fun h => by cases h), (fun _ => ⟨rd_tb_mem (p := 821) (by decide +kernel) rfl, rd_tb_mem (p := 822) (by decide +kernel) rfl, (by decide +kernel)⟩), (fun h => by cases h)⟩⟩
theorem rd_w19 : lw_tbl[831]? = some (Cond.code yX1_removeAll cX1_removeAll 2 (some .int)) := by decide +kernel
theorem rd_f19 : rd_MF 19 (yX1_removeAll, cX1_removeAll, 2, (some .int)) 0 := ⟨(by decide +kernel), (by decide +kernel), (by decide +kernel), fun _ => ⟨(by decide +kernel), rd_tb_mem rd_w19 rfl, rd_tb_mem (p := 56) (by decide +kernel) rfl, (fun h => by cases h), (fun _ => ⟨rd_tb_mem (p := 829) (by decide +kernel) rfl, rd_tb_mem (p := 830) (by decide +kernel) rfl, (by decide +kernel)⟩), (fun h => by cases h)⟩⟩
theorem rd_w20 : lw_tbl[263]? = some (Cond.code yX2_init cX2_init 2 none) := by decide +kernel
theorem rd_f20 : rd_MF 20 (yX2_init, cX2_init, 2, none) 2 := ⟨(by decide +kernel), (by decide +kernel), (by decide +kernel), fun _ => ⟨(by decide +kernel), rd_tb_mem rd_w20 rfl, rd_tb_mem (p := 54) (by decide +kernel) rfl, (fun h => by cases h), (fun h => by cases h), (fun _ => ⟨rd_tb_mem (p := 262) (by decide +kernel) rfl, rfl, rfl⟩)⟩⟩
theorem rd_w21 : lw_tbl[704]? = some (Cond.code yX2_add cX2_add 7 (some .int)) := by decide +kernel
theorem rd_f21 : rd_MF 21 (yX2_add, cX2_add, 7, (some .int)) 0 := ⟨(by decide +kernel), (by decide +kernel), (by decide +kernel), fun _ => ⟨(by decide +kernel), rd_tb_mem rd_w21 rfl, rd_tb_mem (p := 54) (by decide +kernel) rfl, (fun h => by cases h), (fun _ => ⟨rd_tb_mem (p := 702) (by decide +kernel) rfl, rd_tb_mem (p := 703) (by decide +kernel) rfl, (by decide +kernel)⟩), (fun h => by cases h)⟩⟩
theorem rd_w22 : lw_tbl[781]? = some (Cond.code yX2_orders cX2_orders 1 (some .int)) := by decide +kernel
theorem rd_f22 : rd_MF 22 (yX2_orders, cX2_orders, 1, (some .int)) 0 := ⟨(by decide +kernel), (by decide +kernel), (by decide +kernel), fun _ => ⟨(by decide +kernel), rd_tb_mem rd_w22 rfl, rd_tb_mem (p := 54) (by decide +kernel) rfl, (fun h => by cases h), (fun _ => ⟨rd_tb_mem (p := 779) (by decide +kernel) rfl, rd_tb_mem (p := 780) (by decide +kernel) rfl, (by decide +kernel)⟩), (fun h => by cases h)⟩⟩
theorem rd_w23 : lw_tbl[717]? = some (Cond.code yX2_addOrder cX2_addOrder 3 (some .int)) := by decide +kernel
theorem rd_f23 : rd_MF 23 (yX2_addOrder, cX2_addOrder, 3, (some .int)) 0 := ⟨(by decide +kernel), (by decide +kernel), (by decide +kernel), fun _ => ⟨(by decide +kernel), rd_tb_mem rd_w23 rfl, rd_tb_mem (p := 54) (by decide +kernel) rfl, (fun h => by cases h), (fun _ => ⟨rd_tb_mem (p := 715) (by decide +kernel) rfl, rd_tb_mem (p := 716) (by decide +kernel) rfl, (by decide +kernel)⟩), (fun h => by cases h)⟩⟩
theorem rd_w24 : lw_tbl[733]? = some (Cond.code yX2_countMeeting cX2_countMeeting 5 (some .int)) := by decide +kernel
theorem rd_f24 : rd_MF 24 (yX2_countMeeting, cX2_countMeeting, 5, (some .int)) 0 := ⟨(by decide +kernel), (by decide +kernel), (by decide +kernel), fun _ => ⟨(by decide +kernel), rd_tb_mem rd_w24 rfl, rd_tb_mem (p := 54) (by decide +kernel) rfl, (fun h => by cases h), (fun _ => ⟨rd_tb_mem (p := 731) (by decide +kernel) rfl, rd_tb_mem (p := 732) (by decide +kernel) rfl, (by decide +kernel)⟩), (fun h => by cases h)⟩⟩
theorem rd_w25 : lw_tbl[743]? = some (Cond.code yX2_survey cX2_survey 3 none) := by decide +kernel
theorem rd_f25 : rd_MF 25 (yX2_survey, cX2_survey, 3, none) 0 := ⟨(by decide +kernel), (by decide +kernel), (by decide +kernel), fun _ => ⟨(by decide +kernel), rd_tb_mem rd_w25 rfl, rd_tb_mem (p := 54) (by decide +kernel) rfl, (fun h => by cases h), (fun _ => ⟨rd_tb_mem (p := 741) (by decide +kernel) rfl, rd_tb_mem (p := 742) (by decide +kernel) rfl, (by decide +kernel)⟩), (fun h => by cases h)⟩⟩
theorem rd_w26 : lw_tbl[748]? = some (Cond.code yX2_surveyOne cX2_surveyOne 4 none) := by decide +kernel
theorem rd_f26 : rd_MF 26 (yX2_surveyOne, cX2_surveyOne, 4, none) 0 := ⟨(by decide +kernel), (by decide +kernel), (by decide +kernel), fun _ => ⟨(by decide +kernel), rd_tb_mem rd_w26 rfl, rd_tb_mem (p := 54) (by decide +kernel) rfl, (fun h => by cases h), (fun _ => ⟨rd_tb_mem (p := 747) (by decide +kernel) rfl, rd_tb_mem (p := 10) (by decide +kernel) rfl, (by decide +kernel)⟩), (fun h => by cases h)⟩⟩
theorem rd_w27 : lw_tbl[765]? = some (Cond.code yX2_meeting cX2_meeting 2 (some .int)) := by decide +kernel
theorem rd_f27 : rd_MF 27 (yX2_meeting, cX2_meeting, 2, (some .int)) 0 := ⟨(by decide +kernel), (by decide +kernel), (by decide +kernel), fun _ => ⟨(by decide +kernel), rd_tb_mem rd_w27 rfl, rd_tb_mem (p := 54) (by decide +kernel) rfl, (fun h => by cases h), (fun _ => ⟨rd_tb_mem (p := 763) (by decide +kernel) rfl, rd_tb_mem (p := 764) (by decide +kernel) rfl, (by decide +kernel)⟩), (fun h => by cases h)⟩⟩
theorem rd_w28 : lw_tbl[761]? = some (Cond.code yX2_isTooFew cX2_isTooFew 2 (some .boolean)) := by decide +kernel
theorem rd_f28 : rd_MF 28 (yX2_isTooFew, cX2_isTooFew, 2, (some .boolean)) 0 := ⟨(by decide +kernel), (by decide +kernel), (by decide +kernel), fun _ => ⟨(by decide +kernel), rd_tb_mem rd_w28 rfl, rd_tb_mem (p := 54) (by decide +kernel) rfl, (fun h => by cases h), (fun _ => ⟨rd_tb_mem (p := 759) (by decide +kernel) rfl, rd_tb_mem (p := 760) (by decide +kernel) rfl, (by decide +kernel)⟩), (fun h => by cases h)⟩⟩
theorem rd_w29 : lw_tbl[773]? = some (Cond.code yX2_isTooMany cX2_isTooMany 2 (some .boolean)) := by decide +kernel
theorem rd_f29 : rd_MF 29 (yX2_isTooMany, cX2_isTooMany, 2, (some .boolean)) 0 := ⟨(by decide +kernel), (by decide +kernel), (by decide +kernel), fun _ => ⟨(by decide +kernel), rd_tb_mem rd_w29 rfl, rd_tb_mem (p := 54) (by decide +kernel) rfl, (fun h => by cases h), (fun _ => ⟨rd_tb_mem (p := 771) (by decide +kernel) rfl, rd_tb_mem (p := 772) (by decide +kernel) rfl, (by decide +kernel)⟩), (fun h => by cases h)⟩⟩
theorem rd_w30 : lw_tbl[790]? = some (Cond.code yX2_isExpected cX2_isExpected 2 (some .boolean)) := by decide +kernel
theorem rd_f30 : rd_MF 30 (yX2_isExpected, cX2_isExpected, 2, (some .boolean)) 0 := ⟨(by decide +kernel), (by decide +kernel), (by decide +kernel), fun _ => ⟨(by decide +kernel), rd_tb_mem rd_w30 rfl, rd_tb_mem (p := 54) (by decide +kernel) rfl, (fun h => by cases h), (fun _ => ⟨rd_tb_mem (p := 788) (by decide +kernel) rfl, rd_tb_mem (p := 789) (by decide +kernel) rfl, (by decide +kernel)⟩), (fun h => by cases h)⟩⟩
theorem rd_w31 : lw_tbl[785]? = some (Cond.code yX2_callAhead cX2_callAhead 4 (some .int)) := by decide +kernel
theorem rd_f31 : rd_MF 31 (yX2_callAhead, cX2_callAhead, 4, (some .int)) 0 := ⟨(by decide +kernel), (by decide +kernel), (by decide +kernel), fun _ => ⟨(by decide +kernel), rd_tb_mem rd_w31 rfl, rd_tb_mem (p := 54) (by decide +kernel) rfl, (fun h => by cases h), (fun _ => ⟨rd_tb_mem (p := 783) (by decide +kernel) rfl, rd_tb_mem (p := 784) (by decide +kernel) rfl, (by decide +kernel)⟩), (fun h => by cases h)⟩⟩
theorem rd_w32 : lw_tbl[75]? = some (Cond.code yX3_init cX3_init 1 none) := by decide +kernel
theorem rd_f32 : rd_MF 32 (yX3_init, cX3_init, 1, none) 2 := ⟨(by decide +kernel), (by decide +kernel), (by decide +kernel), fun _ => ⟨(by decide +kernel), rd_tb_mem rd_w32 rfl, rd_tb_mem (p := 48) (by decide +kernel) rfl, (fun h => by cases h), (fun h => by cases h), (fun _ => ⟨rd_tb_mem (p := 74) (by decide +kernel) rfl, rfl, rfl⟩)⟩⟩
theorem rd_w33 : lw_tbl[922]? = some (Cond.code yX3_size cX3_size 1 (some .int)) := by decide +kernel
theorem rd_f33 : rd_MF 33 (yX3_size, cX3_size, 1, (some .int)) 0 := ⟨(by decide +kernel), (by decide +kernel), (by decide +kernel), fun _ => ⟨(by decide +kernel), rd_tb_mem rd_w33 rfl, rd_tb_mem (p := 48) (by decide +kernel) rfl, (fun h => by cases h), (fun _ => ⟨rd_tb_mem (p := 920) (by decide +kernel) rfl, rd_tb_mem (p := 921) (by decide +kernel) rfl, (by decide +kernel)⟩), (fun h => by cases h)⟩⟩
theorem rd_w34 : lw_tbl[436]? = some (Cond.code yX3_has cX3_has 2 (some .boolean)) := by decide +kernel
theorem rd_f34 : rd_MF 34 (yX3_has, cX3_has, 2, (some .boolean)) 0 := ⟨(by decide +kernel), (by decide +kernel), (by decide +kernel), fun _ => ⟨(by decide +kernel), rd_tb_mem rd_w34 rfl, rd_tb_mem (p := 48) (by decide +kernel) rfl, (fun h => by cases h), (fun _ => ⟨rd_tb_mem (p := 434) (by decide +kernel) rfl, rd_tb_mem (p := 435) (by decide +kernel) rfl, (by decide +kernel)⟩), (fun h => by cases h)⟩⟩
theorem rd_w35 : lw_tbl[440]? = some (Cond.code yX3_add cX3_add 3 (some .int)) := by decide +kernel
theorem rd_f35 : rd_MF 35 (yX3_add, cX3_add, 3, (some .int)) 0 := ⟨(by decide +kernel), (by decide +kernel), (by decide +kernel), fun _ => ⟨(by decide +kernel), rd_tb_mem rd_w35 rfl, rd_tb_mem (p := 48) (by decide +kernel) rfl, (fun h => by cases h), (fun _ => ⟨rd_tb_mem (p := 438) (by decide +kernel) rfl, rd_tb_mem (p := 439) (by decide +kernel) rfl, (by decide +kernel)⟩), (fun h => by cases h)⟩⟩
theorem rd_w36 : lw_tbl[445]? = some (Cond.code yX3_inherit cX3_inherit 5 none) := by decide +kernel
theorem rd_f36 : rd_MF 36 (yX3_inherit, cX3_inherit, 5, none) 0 := ⟨(by decide +kernel), (by decide +kernel), (by decide +kernel), fun _ => ⟨(by decide +kernel), rd_tb_mem rd_w36 rfl, rd_tb_mem (p := 48) (by decide +kernel) rfl, (fun h => by cases h), (fun _ => ⟨rd_tb_mem (p := 444) (by decide +kernel) rfl, rd_tb_mem (p := 0) (by decide +kernel) rfl, (by decide +kernel)⟩), (fun h => by cases h)⟩⟩
theorem rd_w37 : lw_tbl[456]? = some (Cond.code yX3_isFixed cX3_isFixed 2 (some .boolean)) := by decide +kernel
theorem rd_f37 : rd_MF 37 (yX3_isFixed, cX3_isFixed, 2, (some .boolean)) 0 := ⟨(by decide +kernel), (by decide +kernel), (by decide +kernel), fun _ => ⟨(by decide +kernel), rd_tb_mem rd_w37 rfl, rd_tb_mem (p := 48) (by decide +kernel) rfl, (fun h => by cases h), (fun _ => ⟨rd_tb_mem (p := 454) (by decide +kernel) rfl, rd_tb_mem (p := 455) (by decide +kernel) rfl, (by decide +kernel)⟩), (fun h => by cases h)⟩⟩
theorem rd_w38 : lw_tbl[476]? = some (Cond.code yX3_fix cX3_fix 2 none) := by decide +kernel
theorem rd_f38 : rd_MF 38 (yX3_fix, cX3_fix, 2, none) 0 := ⟨(by decide +kernel), (by decide +kernel), (by decide +kernel), fun _ => ⟨(by decide +kernel), rd_tb_mem rd_w38 rfl, rd_tb_mem (p := 48) (by decide +kernel) rfl, (fun h => by cases h), (fun _ => ⟨rd_tb_mem (p := 474) (by decide +kernel) rfl, rd_tb_mem (p := 475) (by decide +kernel) rfl, (by decide +kernel)⟩), (fun h => by cases h)⟩⟩
theorem rd_w39 : lw_tbl[460]? = some (Cond.code yX3_addMethod cX3_addMethod 8 (some .int)) := by decide +kernel
theorem rd_f39 : rd_MF 39 (yX3_addMethod, cX3_addMethod, 8, (some .int)) 0 := ⟨(by decide +kernel), (by decide +kernel), (by decide +kernel), fun _ => ⟨(by decide +kernel), rd_tb_mem rd_w39 rfl, rd_tb_mem (p := 48) (by decide +kernel) rfl, (fun h => by cases h), (fun _ => ⟨rd_tb_mem (p := 458) (by decide +kernel) rfl, rd_tb_mem (p := 459) (by decide +kernel) rfl, (by decide +kernel)⟩), (fun h => by cases h)⟩⟩
theorem rd_w40 : lw_tbl[945]? = some (Cond.code yX3_methods cX3_methods 2 (some .int)) := by decide +kernel
theorem rd_f40 : rd_MF 40 (yX3_methods, cX3_methods, 2, (some .int)) 0 := ⟨(by decide +kernel), (by decide +kernel), (by decide +kernel), fun _ => ⟨(by decide +kernel), rd_tb_mem rd_w40 rfl, rd_tb_mem (p := 48) (by decide +kernel) rfl, (fun h => by cases h), (fun _ => ⟨rd_tb_mem (p := 943) (by decide +kernel) rfl, rd_tb_mem (p := 944) (by decide +kernel) rfl, (by decide +kernel)⟩), (fun h => by cases h)⟩⟩
theorem rd_w41 : lw_tbl[472]? = some (Cond.code yX3_lineage cX3_lineage 2 (some .int)) := by decide +kernel
theorem rd_f41 : rd_MF 41 (yX3_lineage, cX3_lineage, 2, (some .int)) 0 := ⟨(by decide +kernel), (by decide +kernel), (by decide +kernel), fun _ => ⟨(by decide +kernel), rd_tb_mem rd_w41 rfl, rd_tb_mem (p := 48) (by decide +kernel) rfl, (fun h => by cases h), (fun _ => ⟨rd_tb_mem (p := 470) (by decide +kernel) rfl, rd_tb_mem (p := 471) (by decide +kernel) rfl, (by decide +kernel)⟩), (fun h => by cases h)⟩⟩
theorem rd_w42 : lw_tbl[505]? = some (Cond.code yX3_signature cX3_signature 3 (some .int)) := by decide +kernel
theorem rd_f42 : rd_MF 42 (yX3_signature, cX3_signature, 3, (some .int)) 0 := ⟨(by decide +kernel), (by decide +kernel), (by decide +kernel), fun _ => ⟨(by decide +kernel), rd_tb_mem rd_w42 rfl, rd_tb_mem (p := 48) (by decide +kernel) rfl, (fun h => by cases h), (fun _ => ⟨rd_tb_mem (p := 503) (by decide +kernel) rfl, rd_tb_mem (p := 504) (by decide +kernel) rfl, (by decide +kernel)⟩), (fun h => by cases h)⟩⟩
theorem rd_w43 : lw_tbl[529]? = some (Cond.code yX3_takes cX3_takes 3 (some .boolean)) := by decide +kernel
theorem rd_f43 : rd_MF 43 (yX3_takes, cX3_takes, 3, (some .boolean)) 0 := ⟨(by decide +kernel), (by decide +kernel), (by decide +kernel), fun _ => ⟨(by decide +kernel), rd_tb_mem rd_w43 rfl, rd_tb_mem (p := 48) (by decide +kernel) rfl, (fun h => by cases h), (fun _ => ⟨rd_tb_mem (p := 527) (by decide +kernel) rfl, rd_tb_mem (p := 528) (by decide +kernel) rfl, (by decide +kernel)⟩), (fun h => by cases h)⟩⟩
theorem rd_w44 : lw_tbl[533]? = some (Cond.code yX3_takesStand cX3_takesStand 3 (some .boolean)) := by decide +kernel
theorem rd_f44 : rd_MF 44 (yX3_takesStand, cX3_takesStand, 3, (some .boolean)) 0 := ⟨(by decide +kernel), (by decide +kernel), (by decide +kernel), fun _ => ⟨(by decide +kernel), rd_tb_mem rd_w44 rfl, rd_tb_mem (p := 48) (by decide +kernel) rfl, (fun h => by cases h), (fun _ => ⟨rd_tb_mem (p := 531) (by decide +kernel) rfl, rd_tb_mem (p := 532) (by decide +kernel) rfl, (by decide +kernel)⟩), (fun h => by cases h)⟩⟩
theorem rd_w45 : lw_tbl[620]? = some (Cond.code yX3_gives cX3_gives 2 (some .int)) := by decide +kernel
theorem rd_f45 : rd_MF 45 (yX3_gives, cX3_gives, 2, (some .int)) 0 := ⟨(by decide +kernel), (by decide +kernel), (by decide +kernel), fun _ => ⟨(by decide +kernel), rd_tb_mem rd_w45 rfl, rd_tb_mem (p := 48) (by decide +kernel) rfl, (fun h => by cases h), (fun _ => ⟨rd_tb_mem (p := 618) (by decide +kernel) rfl, rd_tb_mem (p := 619) (by decide +kernel) rfl, (by decide +kernel)⟩), (fun h => by cases h)⟩⟩
theorem rd_w46 : lw_tbl[636]? = some (Cond.code yX3_mayFail cX3_mayFail 3 (some .boolean)) := by decide +kernel
theorem rd_f46 : rd_MF 46 (yX3_mayFail, cX3_mayFail, 3, (some .boolean)) 0 := ⟨(by decide +kernel), (by decide +kernel), (by decide +kernel), fun _ => ⟨(by decide +kernel), rd_tb_mem rd_w46 rfl, rd_tb_mem (p := 48) (by decide +kernel) rfl, (fun h => by cases h), (fun _ => ⟨rd_tb_mem (p := 634) (by decide +kernel) rfl, rd_tb_mem (p := 635) (by decide +kernel) rfl, (by decide +kernel)⟩), (fun h => by cases h)⟩⟩
theorem rd_w47 : lw_tbl[205]? = some (Cond.code yX4_init cX4_init 1 none) := by decide +kernel
theorem rd_f47 : rd_MF 47 (yX4_init, cX4_init, 1, none) 2 := ⟨(by decide +kernel), (by decide +kernel), (by decide +kernel), fun _ => ⟨(by decide +kernel), rd_tb_mem rd_w47 rfl, rd_tb_mem (p := 52) (by decide +kernel) rfl, (fun h => by cases h), (fun h => by cases h), (fun _ => ⟨rd_tb_mem (p := 204) (by decide +kernel) rfl, rfl, rfl⟩)⟩⟩
theorem rd_w48 : lw_tbl[684]? = some (Cond.code yX4_hasLatest cX4_hasLatest 1 (some .boolean)) := by decide +kernel
theorem rd_f48 : rd_MF 48 (yX4_hasLatest, cX4_hasLatest, 1, (some .boolean)) 0 := ⟨(by decide +kernel), (by decide +kernel), (by decide +kernel), fun _ => ⟨(by decide +kernel), rd_tb_mem rd_w48 rfl, rd_tb_mem (p := 52) (by decide +kernel) rfl, (fun h => by cases h), (fun _ => ⟨rd_tb_mem (p := 682) (by decide +kernel) rfl, rd_tb_mem (p := 683) (by decide +kernel) rfl, (by decide +kernel)⟩), (fun h => by cases h)⟩⟩
theorem rd_w49 : lw_tbl[692]? = some (Cond.code yX4_size cX4_size 1 (some .int)) := by decide +kernel
theorem rd_f49 : rd_MF 49 (yX4_size, cX4_size, 1, (some .int)) 0 := ⟨(by decide +kernel), (by decide +kernel), (by decide +kernel), fun _ => ⟨(by decide +kernel), rd_tb_mem rd_w49 rfl, rd_tb_mem (p := 52) (by decide +kernel) rfl, (fun h => by cases h), (fun _ => ⟨rd_tb_mem (p := 690) (by decide +kernel) rfl, rd_tb_mem (p := 691) (by decide +kernel) rfl, (by decide +kernel)⟩), (fun h => by cases h)⟩⟩
theorem rd_w50 : lw_tbl[931]? = some (Cond.code yX4_lost cX4_lost 1 (some .int)) := by decide +kernel
theorem rd_f50 : rd_MF 50 (yX4_lost, cX4_lost, 1, (some .int)) 0 := ⟨(by decide +kernel), (by decide +kernel), (by decide +kernel), fun _ => ⟨(by decide +kernel), rd_tb_mem rd_w50 rfl, rd_tb_mem (p := 52) (by decide +kernel) rfl, (fun h => by cases h), (fun _ => ⟨rd_tb_mem (p := 929) (by decide +kernel) rfl, rd_tb_mem (p := 930) (by decide +kernel) rfl, (by decide +kernel)⟩), (fun h => by cases h)⟩⟩
theorem rd_w51 : lw_tbl[696]? = some (Cond.code yX4_column cX4_column 3 (some .int)) := by decide +kernel
theorem rd_f51 : rd_MF 51 (yX4_column, cX4_column, 3, (some .int)) 0 := ⟨(by decide +kernel), (by decide +kernel), (by decide +kernel), fun _ => ⟨(by decide +kernel), rd_tb_mem rd_w51 rfl, rd_tb_mem (p := 52) (by decide +kernel) rfl, (fun h => by cases h), (fun _ => ⟨rd_tb_mem (p := 694) (by decide +kernel) rfl, rd_tb_mem (p := 695) (by decide +kernel) rfl, (by decide +kernel)⟩), (fun h => by cases h)⟩⟩
theorem rd_w52 : lw_tbl[675]? = some (Cond.code yX4_keepLatest cX4_keepLatest 1 none) := by decide +kernel
theorem rd_f52 : rd_MF 52 (yX4_keepLatest, cX4_keepLatest, 1, none) 0 := ⟨(by decide +kernel), (by decide +kernel), (by decide +kernel), fun _ => ⟨(by decide +kernel), rd_tb_mem rd_w52 rfl, rd_tb_mem (p := 52) (by decide +kernel) rfl, (fun h => by cases h), (fun _ => ⟨rd_tb_mem (p := 673) (by decide +kernel) rfl, rd_tb_mem (p := 674) (by decide +kernel) rfl, (by decide +kernel)⟩), (fun h => by cases h)⟩⟩
theorem rd_w53 : lw_tbl[953]? = some (Cond.code yX4_empty cX4_empty 1 none) := by decide +kernel
theorem rd_f53 : rd_MF 53 (yX4_empty, cX4_empty, 1, none) 0 := ⟨(by decide +kernel), (by decide +kernel), (by decide +kernel), fun _ => ⟨(by decide +kernel), rd_tb_mem rd_w53 rfl, rd_tb_mem (p := 52) (by decide +kernel) rfl, (fun h => by cases h), (fun _ => ⟨rd_tb_mem (p := 951) (by decide +kernel) rfl, rd_tb_mem (p := 952) (by decide +kernel) rfl, (by decide +kernel)⟩), (fun h => by cases h)⟩⟩
theorem rd_w54 : lw_tbl[135]? = some (Cond.code yX5_init cX5_init 4 none) := by decide +kernel
theorem rd_f54 : rd_MF 54 (yX5_init, cX5_init, 4, none) 2 := ⟨(by decide +kernel), (by decide +kernel), (by decide +kernel), fun _ => ⟨(by decide +kernel), rd_tb_mem rd_w54 rfl, rd_tb_mem (p := 51) (by decide +kernel) rfl, (fun h => by cases h), (fun h => by cases h), (fun _ => ⟨rd_tb_mem (p := 134) (by decide +kernel) rfl, rfl, rfl⟩)⟩⟩
theorem rd_w55 : lw_tbl[607]? = some (Cond.code yX5_size cX5_size 1 (some .int)) := by decide +kernel
theorem rd_f55 : rd_MF 55 (yX5_size, cX5_size, 1, (some .int)) 0 := ⟨(by decide +kernel), (by decide +kernel), (by decide +kernel), fun _ => ⟨(by decide +kernel), rd_tb_mem rd_w55 rfl, rd_tb_mem (p := 51) (by decide +kernel) rfl, (fun h => by cases h), (fun _ => ⟨rd_tb_mem (p := 605) (by decide +kernel) rfl, rd_tb_mem (p := 606) (by decide +kernel) rfl, (by decide +kernel)⟩), (fun h => by cases h)⟩⟩
theorem rd_w56 : lw_tbl[525]? = some (Cond.code yX5_has cX5_has 2 (some .boolean)) := by decide +kernel
theorem rd_f56 : rd_MF 56 (yX5_has, cX5_has, 2, (some .boolean)) 0 := ⟨(by decide +kernel), (by decide +kernel), (by decide +kernel), fun _ => ⟨(by decide +kernel), rd_tb_mem rd_w56 rfl, rd_tb_mem (p := 51) (by decide +kernel) rfl, (fun h => by cases h), (fun _ => ⟨rd_tb_mem (p := 523) (by decide +kernel) rfl, rd_tb_mem (p := 524) (by decide +kernel) rfl, (by decide +kernel)⟩), (fun h => by cases h)⟩⟩
theorem rd_w57 : lw_tbl[509]? = some (Cond.code yX5_add cX5_add 5 (some .int)) := by decide +kernel
theorem rd_f57 : rd_MF 57 (yX5_add, cX5_add, 5, (some .int)) 0 := ⟨(by decide +kernel), (by decide +kernel), (by decide +kernel), fun _ => ⟨(by decide +kernel), rd_tb_mem rd_w57 rfl, rd_tb_mem (p := 51) (by decide +kernel) rfl, (fun h => by cases h), (fun _ => ⟨rd_tb_mem (p := 507) (by decide +kernel) rfl, rd_tb_mem (p := 508) (by decide +kernel) rfl, (by decide +kernel)⟩), (fun h => by cases h)⟩⟩
theorem rd_w58 : lw_tbl[558]? = some (Cond.code yX5_signature cX5_signature 2 (some .int)) := by decide +kernel
theorem rd_f58 : rd_MF 58 (yX5_signature, cX5_signature, 2, (some .int)) 0 := ⟨(by decide +kernel), (by decide +kernel), (by decide +kernel), fun _ => ⟨(by decide +kernel), rd_tb_mem rd_w58 rfl, rd_tb_mem (p := 51) (by decide +kernel) rfl, (fun h => by cases h), (fun _ => ⟨rd_tb_mem (p := 556) (by decide +kernel) rfl, rd_tb_mem (p := 557) (by decide +kernel) rfl, (by decide +kernel)⟩), (fun h => by cases h)⟩⟩
theorem rd_w59 : lw_tbl[521]? = some (Cond.code yX5_hasParameter cX5_hasParameter 3 (some .boolean)) := by decide +kernel
theorem rd_f59 : rd_MF 59 (yX5_hasParameter, cX5_hasParameter, 3, (some .boolean)) 0 := ⟨(by decide +kernel), (by decide +kernel), (by decide +kernel), fun _ => ⟨(by decide +kernel), rd_tb_mem rd_w59 rfl, rd_tb_mem (p := 51) (by decide +kernel) rfl, (fun h => by cases h), (fun _ => ⟨rd_tb_mem (p := 519) (by decide +kernel) rfl, rd_tb_mem (p := 520) (by decide +kernel) rfl, (by decide +kernel)⟩), (fun h => by cases h)⟩⟩
theorem rd_w60 : lw_tbl[648]? = some (Cond.code yX5_isCatching cX5_isCatching 3 (some .boolean)) := by decide +kernel
theorem rd_f60 : rd_MF 60 (yX5_isCatching, cX5_isCatching, 3, (some .boolean)) 0 := ⟨(by decide +kernel), (by decide +kernel), (by decide +kernel), fun _ => ⟨(by decide +kernel), rd_tb_mem rd_w60 rfl, rd_tb_mem (p := 51) (by decide +kernel) rfl, (fun h => by cases h), (fun _ => ⟨rd_tb_mem (p := 646) (by decide +kernel) rfl, rd_tb_mem (p := 647) (by decide +kernel) rfl, (by decide +kernel)⟩), (fun h => by cases h)⟩⟩
theorem rd_w61 : lw_tbl[517]? = some (Cond.code yX5_setCondition cX5_setCondition 7 (some .int)) := by decide +kernel
theorem rd_f61 : rd_MF 61 (yX5_setCondition, cX5_setCondition, 7, (some .int)) 0 := ⟨(by decide +kernel), (by decide +kernel), (by decide +kernel), fun _ => ⟨(by decide +kernel), rd_tb_mem rd_w61 rfl, rd_tb_mem (p := 51) (by decide +kernel) rfl, (fun h => by cases h), (fun _ => ⟨rd_tb_mem (p := 515) (by decide +kernel) rfl, rd_tb_mem (p := 516) (by decide +kernel) rfl, (by decide +kernel)⟩), (fun h => by cases h)⟩⟩
theorem rd_w62 : lw_tbl[538]? = some (Cond.code yX5_isCondition cX5_isCondition 4 (some .boolean)) := by decide +kernel
theorem rd_f62 : rd_MF 62 (yX5_isCondition, cX5_isCondition, 4, (some .boolean)) 0 := ⟨(by decide +kernel), (by decide +kernel), (by decide +kernel), fun _ => ⟨(by decide +kernel), rd_tb_mem rd_w62 rfl, rd_tb_mem (p := 51) (by decide +kernel) rfl, (fun h => by cases h), (fun _ => ⟨rd_tb_mem (p := 537) (by decide +kernel) rfl, rd_tb_mem (p := 1) (by decide +kernel) rfl, (by decide +kernel)⟩), (fun h => by cases h)⟩⟩
theorem rd_w63 : lw_tbl[611]? = some (Cond.code yX5_fits cX5_fits 5 (some .boolean)) := by decide +kernel
theorem rd_f63 : rd_MF 63 (yX5_fits, cX5_fits, 5, (some .boolean)) 0 := ⟨(by decide +kernel), (by decide +kernel), (by decide +kernel), fun _ => ⟨(by decide +kernel), rd_tb_mem rd_w63 rfl, rd_tb_mem (p := 51) (by decide +kernel) rfl, (fun h => by cases h), (fun _ => ⟨rd_tb_mem (p := 609) (by decide +kernel) rfl, rd_tb_mem (p := 610) (by decide +kernel) rfl, (by decide +kernel)⟩), (fun h => by cases h)⟩⟩
theorem rd_w64 : lw_tbl[615]? = some (Cond.code yX5_holds cX5_holds 3 (some .boolean)) := by decide +kernel
theorem rd_f64 : rd_MF 64 (yX5_holds, cX5_holds, 3, (some .boolean)) 0 := ⟨(by decide +kernel), (by decide +kernel), (by decide +kernel), fun _ => ⟨(by decide +kernel), rd_tb_mem rd_w64 rfl, rd_tb_mem (p := 51) (by decide +kernel) rfl, (fun h => by cases h), (fun _ => ⟨rd_tb_mem (p := 614) (by decide +kernel) rfl, rd_tb_mem (p := 3) (by decide +kernel) rfl, (by decide +kernel)⟩), (fun h => by cases h)⟩⟩
theorem rd_w65 : lw_tbl[170]? = some (Cond.code yX6_init cX6_init 4 none) := by decide +kernel
theorem rd_f65 : rd_MF 65 (yX6_init, cX6_init, 4, none) 2 := ⟨(by decide +kernel), (by decide +kernel), (by decide +kernel), fun _ => ⟨(by decide +kernel), rd_tb_mem rd_w65 rfl, rd_tb_mem (p := 50) (by decide +kernel) rfl, (fun h => by cases h), (fun h => by cases h), (fun _ => ⟨rd_tb_mem (p := 169) (by decide +kernel) rfl, rfl, rfl⟩)⟩⟩
theorem rd_w66 : lw_tbl[553]? = some (Cond.code yX6_isAnswer cX6_isAnswer 4 (some .boolean)) := by decide +kernel
theorem rd_f66 : rd_MF 66 (yX6_isAnswer, cX6_isAnswer, 4, (some .boolean)) 0 := ⟨(by decide +kernel), (by decide +kernel), (by decide +kernel), fun _ => ⟨(by decide +kernel), rd_tb_mem rd_w66 rfl, rd_tb_mem (p := 50) (by decide +kernel) rfl, (fun h => by cases h), (fun _ => ⟨rd_tb_mem (p := 551) (by decide +kernel) rfl, rd_tb_mem (p := 552) (by decide +kernel) rfl, (by decide +kernel)⟩), (fun h => by cases h)⟩⟩
theorem rd_w67 : lw_tbl[563]? = some (Cond.code yX6_addAnswer cX6_addAnswer 5 (some .int)) := by decide +kernel
theorem rd_f67 : rd_MF 67 (yX6_addAnswer, cX6_addAnswer, 5, (some .int)) 0 := ⟨(by decide +kernel), (by decide +kernel), (by decide +kernel), fun _ => ⟨(by decide +kernel), rd_tb_mem rd_w67 rfl, rd_tb_mem (p := 50) (by decide +kernel) rfl, (fun h => by cases h), (fun _ => ⟨rd_tb_mem (p := 561) (by decide +kernel) rfl, rd_tb_mem (p := 562) (by decide +kernel) rfl, (by decide +kernel)⟩), (fun h => by cases h)⟩⟩
theorem rd_w68 : lw_tbl[603]? = some (Cond.code yX6_find cX6_find 3 (some .int)) := by decide +kernel
theorem rd_f68 : rd_MF 68 (yX6_find, cX6_find, 3, (some .int)) 0 := ⟨(by decide +kernel), (by decide +kernel), (by decide +kernel), fun _ => ⟨(by decide +kernel), rd_tb_mem rd_w68 rfl, rd_tb_mem (p := 50) (by decide +kernel) rfl, (fun h => by cases h), (fun _ => ⟨rd_tb_mem (p := 601) (by decide +kernel) rfl, rd_tb_mem (p := 602) (by decide +kernel) rfl, (by decide +kernel)⟩), (fun h => by cases h)⟩⟩
theorem rd_w69 : lw_tbl[644]? = some (Cond.code yX6_use cX6_use 4 (some .int)) := by decide +kernel
theorem rd_f69 : rd_MF 69 (yX6_use, cX6_use, 4, (some .int)) 0 := ⟨(by decide +kernel), (by decide +kernel), (by decide +kernel), fun _ => ⟨(by decide +kernel), rd_tb_mem rd_w69 rfl, rd_tb_mem (p := 50) (by decide +kernel) rfl, (fun h => by cases h), (fun _ => ⟨rd_tb_mem (p := 642) (by decide +kernel) rfl, rd_tb_mem (p := 643) (by decide +kernel) rfl, (by decide +kernel)⟩), (fun h => by cases h)⟩⟩
theorem rd_w70 : lw_tbl[663]? = some (Cond.code yX6_answerKind cX6_answerKind 2 (some .int)) := by decide +kernel
theorem rd_f70 : rd_MF 70 (yX6_answerKind, cX6_answerKind, 2, (some .int)) 0 := ⟨(by decide +kernel), (by decide +kernel), (by decide +kernel), fun _ => ⟨(by decide +kernel), rd_tb_mem rd_w70 rfl, rd_tb_mem (p := 50) (by decide +kernel) rfl, (fun h => by cases h), (fun _ => ⟨rd_tb_mem (p := 661) (by decide +kernel) rfl, rd_tb_mem (p := 662) (by decide +kernel) rfl, (by decide +kernel)⟩), (fun h => by cases h)⟩⟩
theorem rd_w71 : lw_tbl[659]? = some (Cond.code yX6_answerValue cX6_answerValue 2 (some .int)) := by decide +kernel
theorem rd_f71 : rd_MF 71 (yX6_answerValue, cX6_answerValue, 2, (some .int)) 0 := ⟨(by decide +kernel), (by decide +kernel), (by decide +kernel), fun _ => ⟨(by decide +kernel), rd_tb_mem rd_w71 rfl, rd_tb_mem (p := 50) (by decide +kernel) rfl, (fun h => by cases h), (fun _ => ⟨rd_tb_mem (p := 657) (by decide +kernel) rfl, rd_tb_mem (p := 658) (by decide +kernel) rfl, (by decide +kernel)⟩), (fun h => by cases h)⟩⟩
theorem rd_w72 : lw_tbl[572]? = some (Cond.code yX6_holdsCaught cX6_holdsCaught 3 (some .boolean)) := by decide +kernel
theorem rd_f72 : rd_MF 72 (yX6_holdsCaught, cX6_holdsCaught, 3, (some .boolean)) 0 := ⟨(by decide +kernel), (by decide +kernel), (by decide +kernel), fun _ => ⟨(by decide +kernel), rd_tb_mem rd_w72 rfl, rd_tb_mem (p := 50) (by decide +kernel) rfl, (fun h => by cases h), (fun _ => ⟨rd_tb_mem (p := 570) (by decide +kernel) rfl, rd_tb_mem (p := 571) (by decide +kernel) rfl, (by decide +kernel)⟩), (fun h => by cases h)⟩⟩
theorem rd_w73 : lw_tbl[576]? = some (Cond.code yX6_caughtValue cX6_caughtValue 3 (some .int)) := by decide +kernel
theorem rd_f73 : rd_MF 73 (yX6_caughtValue, cX6_caughtValue, 3, (some .int)) 0 := ⟨(by decide +kernel), (by decide +kernel), (by decide +kernel), fun _ => ⟨(by decide +kernel), rd_tb_mem rd_w73 rfl, rd_tb_mem (p := 50) (by decide +kernel) rfl, (fun h => by cases h), (fun _ => ⟨rd_tb_mem (p := 574) (by decide +kernel) rfl, rd_tb_mem (p := 575) (by decide +kernel) rfl, (by decide +kernel)⟩), (fun h => by cases h)⟩⟩
theorem rd_w74 : lw_tbl[544]? = some (Cond.code yX6_release cX6_release 3 none) := by decide +kernel
theorem rd_f74 : rd_MF 74 (yX6_release, cX6_release, 3, none) 0 := ⟨(by decide +kernel), (by decide +kernel), (by decide +kernel), fun _ => ⟨(by decide +kernel), rd_tb_mem rd_w74 rfl, rd_tb_mem (p := 50) (by decide +kernel) rfl, (fun h => by cases h), (fun _ => ⟨rd_tb_mem (p := 542) (by decide +kernel) rfl, rd_tb_mem (p := 543) (by decide +kernel) rfl, (by decide +kernel)⟩), (fun h => by cases h)⟩⟩
theorem rd_w75 : lw_tbl[957]? = some (Cond.code yX6_startAgain cX6_startAgain 2 none) := by decide +kernel
theorem rd_f75 : rd_MF 75 (yX6_startAgain, cX6_startAgain, 2, none) 0 := ⟨(by decide +kernel), (by decide +kernel), (by decide +kernel), fun _ => ⟨(by decide +kernel), rd_tb_mem rd_w75 rfl, rd_tb_mem (p := 50) (by decide +kernel) rfl, (fun h => by cases h), (fun _ => ⟨rd_tb_mem (p := 955) (by decide +kernel) rfl, rd_tb_mem (p := 956) (by decide +kernel) rfl, (by decide +kernel)⟩), (fun h => by cases h)⟩⟩
theorem rd_w76 : lw_tbl[230]? = some (Cond.code yX7_init cX7_init 5 none) := by decide +kernel
theorem rd_f76 : rd_MF 76 (yX7_init, cX7_init, 5, none) 2 := ⟨(by decide +kernel), (by decide +kernel), (by decide +kernel), fun _ => ⟨(by decide +kernel), rd_tb_mem rd_w76 rfl, rd_tb_mem (p := 53) (by decide +kernel) rfl, (fun h => by cases h), (fun h => by cases h), (fun _ => ⟨rd_tb_mem (p := 229) (by decide +kernel) rfl, rfl, rfl⟩)⟩⟩
theorem rd_w77 : lw_tbl[589]? = some (Cond.code yX7_begin cX7_begin 5 none) := by decide +kernel
theorem rd_f77 : rd_MF 77 (yX7_begin, cX7_begin, 5, none) 0 := ⟨(by decide +kernel), (by decide +kernel), (by decide +kernel), fun _ => ⟨(by decide +kernel), rd_tb_mem rd_w77 rfl, rd_tb_mem (p := 53) (by decide +kernel) rfl, (fun h => by cases h), (fun _ => ⟨rd_tb_mem (p := 587) (by decide +kernel) rfl, rd_tb_mem (p := 588) (by decide +kernel) rfl, (by decide +kernel)⟩), (fun h => by cases h)⟩⟩
theorem rd_w78 : lw_tbl[593]? = some (Cond.code yX7_bring cX7_bring 3 none) := by decide +kernel
theorem rd_f78 : rd_MF 78 (yX7_bring, cX7_bring, 3, none) 0 := ⟨(by decide +kernel), (by decide +kernel), (by decide +kernel), fun _ => ⟨(by decide +kernel), rd_tb_mem rd_w78 rfl, rd_tb_mem (p := 53) (by decide +kernel) rfl, (fun h => by cases h), (fun _ => ⟨rd_tb_mem (p := 591) (by decide +kernel) rfl, rd_tb_mem (p := 592) (by decide +kernel) rfl, (by decide +kernel)⟩), (fun h => by cases h)⟩⟩
theorem rd_w79 : lw_tbl[599]? = some (Cond.code yX7_perform cX7_perform 2 none) := by decide +kernel
theorem rd_f79 : rd_MF 79 (yX7_perform, cX7_perform, 2, none) 0 := ⟨(by decide +kernel), (by decide +kernel), (by decide +kernel), fun _ => ⟨(by decide +kernel), rd_tb_mem rd_w79 rfl, rd_tb_mem (p := 53) (by decide +kernel) rfl, (fun h => by cases h), (fun _ => ⟨rd_tb_mem (p := 597) (by decide +kernel) rfl, rd_tb_mem (p := 598) (by decide +kernel) rfl, (by decide +kernel)⟩), (fun h => by cases h)⟩⟩
theorem rd_w80 : lw_tbl[655]? = some (Cond.code yX7_answerBy cX7_answerBy 3 none) := by decide +kernel
theorem rd_f80 : rd_MF 80 (yX7_answerBy, cX7_answerBy, 3, none) 0 := ⟨(by decide +kernel), (by decide +kernel), (by decide +kernel), fun _ => ⟨(by decide +kernel), rd_tb_mem rd_w80 rfl, rd_tb_mem (p := 53) (by decide +kernel) rfl, (fun h => by cases h), (fun _ => ⟨rd_tb_mem (p := 654) (by decide +kernel) rfl, rd_tb_mem (p := 7) (by decide +kernel) rfl, (by decide +kernel)⟩), (fun h => by cases h)⟩⟩
theorem rd_w81 : lw_tbl[624]? = some (Cond.code yX7_callThrough cX7_callThrough 3 none) := by decide +kernel
theorem rd_f81 : rd_MF 81 (yX7_callThrough, cX7_callThrough, 3, none) 0 := ⟨(by decide +kernel), (by decide +kernel), (by decide +kernel), fun _ => ⟨(by decide +kernel), rd_tb_mem rd_w81 rfl, rd_tb_mem (p := 53) (by decide +kernel) rfl, (fun h => by cases h), (fun _ => ⟨rd_tb_mem (p := 623) (by decide +kernel) rfl, rd_tb_mem (p := 4) (by decide +kernel) rfl, (by decide +kernel)⟩), (fun h => by cases h)⟩⟩
theorem rd_w82 : lw_tbl[671]? = some (Cond.code yX7_giveParameter cX7_giveParameter 2 none) := by decide +kernel
theorem rd_f82 : rd_MF 82 (yX7_giveParameter, cX7_giveParameter, 2, none) 0 := ⟨(by decide +kernel), (by decide +kernel), (by decide +kernel), fun _ => ⟨(by decide +kernel), rd_tb_mem rd_w82 rfl, rd_tb_mem (p := 53) (by decide +kernel) rfl, (fun h => by cases h), (fun _ => ⟨rd_tb_mem (p := 670) (by decide +kernel) rfl, rd_tb_mem (p := 9) (by decide +kernel) rfl, (by decide +kernel)⟩), (fun h => by cases h)⟩⟩
theorem rd_w83 : lw_tbl[640]? = some (Cond.code yX7_giveWhole cX7_giveWhole 2 none) := by decide +kernel
theorem rd_f83 : rd_MF 83 (yX7_giveWhole, cX7_giveWhole, 2, none) 0 := ⟨(by decide +kernel), (by decide +kernel), (by decide +kernel), fun _ => ⟨(by decide +kernel), rd_tb_mem rd_w83 rfl, rd_tb_mem (p := 53) (by decide +kernel) rfl, (fun h => by cases h), (fun _ => ⟨rd_tb_mem (p := 639) (by decide +kernel) rfl, rd_tb_mem (p := 6) (by decide +kernel) rfl, (by decide +kernel)⟩), (fun h => by cases h)⟩⟩
theorem rd_w84 : lw_tbl[667]? = some (Cond.code yX7_giveStand cX7_giveStand 2 none) := by decide +kernel
theorem rd_f84 : rd_MF 84 (yX7_giveStand, cX7_giveStand, 2, none) 0 := ⟨(by decide +kernel), (by decide +kernel), (by decide +kernel), fun _ => ⟨(by decide +kernel), rd_tb_mem rd_w84 rfl, rd_tb_mem (p := 53) (by decide +kernel) rfl, (fun h => by cases h), (fun _ => ⟨rd_tb_mem (p := 666) (by decide +kernel) rfl, rd_tb_mem (p := 8) (by decide +kernel) rfl, (by decide +kernel)⟩), (fun h => by cases h)⟩⟩
theorem rd_w85 : lw_tbl[632]? = some (Cond.code yX7_failWith cX7_failWith 3 none) := by decide +kernel
theorem rd_f85 : rd_MF 85 (yX7_failWith, cX7_failWith, 3, none) 0 := ⟨(by decide +kernel), (by decide +kernel), (by decide +kernel), fun _ => ⟨(by decide +kernel), rd_tb_mem rd_w85 rfl, rd_tb_mem (p := 53) (by decide +kernel) rfl, (fun h => by cases h), (fun _ => ⟨rd_tb_mem (p := 631) (by decide +kernel) rfl, rd_tb_mem (p := 5) (by decide +kernel) rfl, (by decide +kernel)⟩), (fun h => by cases h)⟩⟩
theorem rd_w86 : lw_tbl[108]? = some (Cond.code yX8_init cX8_init 2 none) := by decide +kernel
theorem rd_f86 : rd_MF 86 (yX8_init, cX8_init, 2, none) 2 := ⟨(by decide +kernel), (by decide +kernel), (by decide +kernel), fun _ => ⟨(by decide +kernel), rd_tb_mem rd_w86 rfl, rd_tb_mem (p := 49) (by decide +kernel) rfl, (fun h => by cases h), (fun h => by cases h), (fun _ => ⟨rd_tb_mem (p := 107) (by decide +kernel) rfl, rfl, rfl⟩)⟩⟩
theorem rd_w87 : lw_tbl[926]? = some (Cond.code yX8_size cX8_size 1 (some .int)) := by decide +kernel
theorem rd_f87 : rd_MF 87 (yX8_size, cX8_size, 1, (some .int)) 0 := ⟨(by decide +kernel), (by decide +kernel), (by decide +kernel), fun _ => ⟨(by decide +kernel), rd_tb_mem rd_w87 rfl, rd_tb_mem (p := 49) (by decide +kernel) rfl, (fun h => by cases h), (fun _ => ⟨rd_tb_mem (p := 924) (by decide +kernel) rfl, rd_tb_mem (p := 925) (by decide +kernel) rfl, (by decide +kernel)⟩), (fun h => by cases h)⟩⟩
theorem rd_w88 : lw_tbl[484]? = some (Cond.code yX8_has cX8_has 2 (some .boolean)) := by decide +kernel
theorem rd_f88 : rd_MF 88 (yX8_has, cX8_has, 2, (some .boolean)) 0 := ⟨(by decide +kernel), (by decide +kernel), (by decide +kernel), fun _ => ⟨(by decide +kernel), rd_tb_mem rd_w88 rfl, rd_tb_mem (p := 49) (by decide +kernel) rfl, (fun h => by cases h), (fun _ => ⟨rd_tb_mem (p := 482) (by decide +kernel) rfl, rd_tb_mem (p := 483) (by decide +kernel) rfl, (by decide +kernel)⟩), (fun h => by cases h)⟩⟩
theorem rd_w89 : lw_tbl[468]? = some (Cond.code yX8_add cX8_add 4 (some .int)) := by decide +kernel
theorem rd_f89 : rd_MF 89 (yX8_add, cX8_add, 4, (some .int)) 0 := ⟨(by decide +kernel), (by decide +kernel), (by decide +kernel), fun _ => ⟨(by decide +kernel), rd_tb_mem rd_w89 rfl, rd_tb_mem (p := 49) (by decide +kernel) rfl, (fun h => by cases h), (fun _ => ⟨rd_tb_mem (p := 466) (by decide +kernel) rfl, rd_tb_mem (p := 467) (by decide +kernel) rfl, (by decide +kernel)⟩), (fun h => by cases h)⟩⟩
theorem rd_w90 : lw_tbl[488]? = some (Cond.code yX8_isOf cX8_isOf 3 (some .boolean)) := by decide +kernel
theorem rd_f90 : rd_MF 90 (yX8_isOf, cX8_isOf, 3, (some .boolean)) 0 := ⟨(by decide +kernel), (by decide +kernel), (by decide +kernel), fun _ => ⟨(by decide +kernel), rd_tb_mem rd_w90 rfl, rd_tb_mem (p := 49) (by decide +kernel) rfl, (fun h => by cases h), (fun _ => ⟨rd_tb_mem (p := 486) (by decide +kernel) rfl, rd_tb_mem (p := 487) (by decide +kernel) rfl, (by decide +kernel)⟩), (fun h => by cases h)⟩⟩
theorem rd_w91 : lw_tbl[628]? = some (Cond.code yX8_thing cX8_thing 2 (some .int)) := by decide +kernel
theorem rd_f91 : rd_MF 91 (yX8_thing, cX8_thing, 2, (some .int)) 0 := ⟨(by decide +kernel), (by decide +kernel), (by decide +kernel), fun _ => ⟨(by decide +kernel), rd_tb_mem rd_w91 rfl, rd_tb_mem (p := 49) (by decide +kernel) rfl, (fun h => by cases h), (fun _ => ⟨rd_tb_mem (p := 626) (by decide +kernel) rfl, rd_tb_mem (p := 627) (by decide +kernel) rfl, (by decide +kernel)⟩), (fun h => by cases h)⟩⟩
theorem rd_w92 : lw_tbl[500]? = some (Cond.code yX8_signature cX8_signature 3 (some .int)) := by decide +kernel
theorem rd_f92 : rd_MF 92 (yX8_signature, cX8_signature, 3, (some .int)) 0 := ⟨(by decide +kernel), (by decide +kernel), (by decide +kernel), fun _ => ⟨(by decide +kernel), rd_tb_mem rd_w92 rfl, rd_tb_mem (p := 49) (by decide +kernel) rfl, (fun h => by cases h), (fun _ => ⟨rd_tb_mem (p := 498) (by decide +kernel) rfl, rd_tb_mem (p := 499) (by decide +kernel) rfl, (by decide +kernel)⟩), (fun h => by cases h)⟩⟩
theorem rd_w93 : lw_tbl[795]? = some (Cond.code yX8_hasNoneBeside cX8_hasNoneBeside 2 (some .boolean)) := by decide +kernel
theorem rd_f93 : rd_MF 93 (yX8_hasNoneBeside, cX8_hasNoneBeside, 2, (some .boolean)) 0 := ⟨(by decide +kernel), (by decide +kernel), (by decide +kernel), fun _ => ⟨(by decide +kernel), rd_tb_mem rd_w93 rfl, rd_tb_mem (p := 49) (by decide +kernel) rfl, (fun h => by cases h), (fun _ => ⟨rd_tb_mem (p := 793) (by decide +kernel) rfl, rd_tb_mem (p := 794) (by decide +kernel) rfl, (by decide +kernel)⟩), (fun h => by cases h)⟩⟩
theorem rd_w94 : lw_tbl[725]? = some (Cond.code yX8_setNoneBeside cX8_setNoneBeside 4 (some .boolean)) := by decide +kernel
theorem rd_f94 : rd_MF 94 (yX8_setNoneBeside, cX8_setNoneBeside, 4, (some .boolean)) 0 := ⟨(by decide +kernel), (by decide +kernel), (by decide +kernel), fun _ => ⟨(by decide +kernel), rd_tb_mem rd_w94 rfl, rd_tb_mem (p := 49) (by decide +kernel) rfl, (fun h => by cases h), (fun _ => ⟨rd_tb_mem (p := 723) (by decide +kernel) rfl, rd_tb_mem (p := 724) (by decide +kernel) rfl, (by decide +kernel)⟩), (fun h => by cases h)⟩⟩
theorem rd_w95 : lw_tbl[347]? = some (Cond.code yX9_init cX9_init 1 none) := by decide +kernel
theorem rd_f95 : rd_MF 95 (yX9_init, cX9_init, 1, none) 2 := ⟨(by decide +kernel), (by decide +kernel), (by decide +kernel), fun _ => ⟨(by decide +kernel), rd_tb_mem rd_w95 rfl, rd_tb_mem (p := 58) (by decide +kernel) rfl, (fun h => by cases h), (fun h => by cases h), (fun _ => ⟨rd_tb_mem (p := 346) (by decide +kernel) rfl, rfl, rfl⟩)⟩⟩
theorem rd_w96 : lw_tbl[847]? = some (Cond.code yX9_closeAll cX9_closeAll 1 none) := by decide +kernel
theorem rd_f96 : rd_MF 96 (yX9_closeAll, cX9_closeAll, 1, none) 0 := ⟨(by decide +kernel), (by decide +kernel), (by decide +kernel), fun _ => ⟨(by decide +kernel), rd_tb_mem rd_w96 rfl, rd_tb_mem (p := 58) (by decide +kernel) rfl, (fun h => by cases h), (fun _ => ⟨rd_tb_mem (p := 845) (by decide +kernel) rfl, rd_tb_mem (p := 846) (by decide +kernel) rfl, (by decide +kernel)⟩), (fun h => by cases h)⟩⟩
theorem rd_w97 : lw_tbl[878]? = some (Cond.code yX9_open cX9_open 4 (some .boolean)) := by decide +kernel
theorem rd_f97 : rd_MF 97 (yX9_open, cX9_open, 4, (some .boolean)) 0 := ⟨(by decide +kernel), (by decide +kernel), (by decide +kernel), fun _ => ⟨(by decide +kernel), rd_tb_mem rd_w97 rfl, rd_tb_mem (p := 58) (by decide +kernel) rfl, (fun h => by cases h), (fun _ => ⟨rd_tb_mem (p := 876) (by decide +kernel) rfl, rd_tb_mem (p := 877) (by decide +kernel) rfl, (by decide +kernel)⟩), (fun h => by cases h)⟩⟩
theorem rd_w98 : lw_tbl[898]? = some (Cond.code yX9_closeLeft cX9_closeLeft 4 none) := by decide +kernel
theorem rd_f98 : rd_MF 98 (yX9_closeLeft, cX9_closeLeft, 4, none) 0 := ⟨(by decide +kernel), (by decide +kernel), (by decide +kernel), fun _ => ⟨(by decide +kernel), rd_tb_mem rd_w98 rfl, rd_tb_mem (p := 58) (by decide +kernel) rfl, (fun h => by cases h), (fun _ => ⟨rd_tb_mem (p := 896) (by decide +kernel) rfl, rd_tb_mem (p := 897) (by decide +kernel) rfl, (by decide +kernel)⟩), (fun h => by cases h)⟩⟩
theorem rd_w99 : lw_tbl[890]? = some (Cond.code yX9_take cX9_take 1 (some .int)) := by decide +kernel
theorem rd_f99 : rd_MF 99 (yX9_take, cX9_take, 1, (some .int)) 0 := ⟨(by decide +kernel), (by decide +kernel), (by decide +kernel), fun _ => ⟨(by decide +kernel), rd_tb_mem rd_w99 rfl, rd_tb_mem (p := 58) (by decide +kernel) rfl, (fun h => by cases h), (fun _ => ⟨rd_tb_mem (p := 888) (by decide +kernel) rfl, rd_tb_mem (p := 889) (by decide +kernel) rfl, (by decide +kernel)⟩), (fun h => by cases h)⟩⟩
theorem rd_w100 : lw_tbl[302]? = some (Cond.code yX10_init cX10_init 1 none) := by decide +kernel
theorem rd_f100 : rd_MF 100 (yX10_init, cX10_init, 1, none) 2 := ⟨(by decide +kernel), (by decide +kernel), (by decide +kernel), fun _ => ⟨(by decide +kernel), rd_tb_mem rd_w100 rfl, rd_tb_mem (p := 55) (by decide +kernel) rfl, (fun h => by cases h), (fun h => by cases h), (fun _ => ⟨rd_tb_mem (p := 301) (by decide +kernel) rfl, rfl, rfl⟩)⟩⟩
theorem rd_w101 : lw_tbl[799]? = some (Cond.code yX10_size cX10_size 1 (some .int)) := by decide +kernel
theorem rd_f101 : rd_MF 101 (yX10_size, cX10_size, 1, (some .int)) 0 := ⟨(by decide +kernel), (by decide +kernel), (by decide +kernel), fun _ => ⟨(by decide +kernel), rd_tb_mem rd_w101 rfl, rd_tb_mem (p := 55) (by decide +kernel) rfl, (fun h => by cases h), (fun _ => ⟨rd_tb_mem (p := 797) (by decide +kernel) rfl, rd_tb_mem (p := 798) (by decide +kernel) rfl, (by decide +kernel)⟩), (fun h => by cases h)⟩⟩
theorem rd_w102 : lw_tbl[807]? = some (Cond.code yX10_part cX10_part 3 (some .int)) := by decide +kernel
theorem rd_f102 : rd_MF 102 (yX10_part, cX10_part, 3, (some .int)) 0 := ⟨(by decide +kernel), (by decide +kernel), (by decide +kernel), fun _ => ⟨(by decide +kernel), rd_tb_mem rd_w102 rfl, rd_tb_mem (p := 55) (by decide +kernel) rfl, (fun h => by cases h), (fun _ => ⟨rd_tb_mem (p := 805) (by decide +kernel) rfl, rd_tb_mem (p := 806) (by decide +kernel) rfl, (by decide +kernel)⟩), (fun h => by cases h)⟩⟩
theorem rd_w103 : lw_tbl[752]? = some (Cond.code yX10_find cX10_find 7 none) := by decide +kernel
theorem rd_f103 : rd_MF 103 (yX10_find, cX10_find, 7, none) 0 := ⟨(by decide +kernel), (by decide +kernel), (by decide +kernel), fun _ => ⟨(by decide +kernel), rd_tb_mem rd_w103 rfl, rd_tb_mem (p := 55) (by decide +kernel) rfl, (fun h => by cases h), (fun _ => ⟨rd_tb_mem (p := 750) (by decide +kernel) rfl, rd_tb_mem (p := 751) (by decide +kernel) rfl, (by decide +kernel)⟩), (fun h => by cases h)⟩⟩
theorem rd_w104 : lw_tbl[756]? = some (Cond.code yX10_findNumbers cX10_findNumbers 3 none) := by decide +kernel
theorem rd_f104 : rd_MF 104 (yX10_findNumbers, cX10_findNumbers, 3, none) 0 := ⟨(by decide +kernel), (by decide +kernel), (by decide +kernel), fun _ => ⟨(by decide +kernel), rd_tb_mem rd_w104 rfl, rd_tb_mem (p := 55) (by decide +kernel) rfl, (fun h => by cases h), (fun _ => ⟨rd_tb_mem (p := 755) (by decide +kernel) rfl, rd_tb_mem (p := 11) (by decide +kernel) rfl, (by decide +kernel)⟩), (fun h => by cases h)⟩⟩
theorem rd_w105 : lw_tbl[777]? = some (Cond.code yX10_findOrders cX10_findOrders 4 none) := by decide +kernel
theorem rd_f105 : rd_MF 105 (yX10_findOrders, cX10_findOrders, 4, none) 0 := ⟨(by decide +kernel), (by decide +kernel), (by decide +kernel), fun _ => ⟨(by decide +kernel), rd_tb_mem rd_w105 rfl, rd_tb_mem (p := 55) (by decide +kernel) rfl, (fun h => by cases h), (fun _ => ⟨rd_tb_mem (p := 776) (by decide +kernel) rfl, rd_tb_mem (p := 13) (by decide +kernel) rfl, (by decide +kernel)⟩), (fun h => by cases h)⟩⟩
theorem rd_w106 : lw_tbl[769]? = some (Cond.code yX10_add cX10_add 5 none) := by decide +kernel
theorem rd_f106 : rd_MF 106 (yX10_add, cX10_add, 5, none) 0 := ⟨(by decide +kernel), (by decide +kernel), (by decide +kernel), fun _ => ⟨(by decide +kernel), rd_tb_mem rd_w106 rfl, rd_tb_mem (p := 55) (by decide +kernel) rfl, (fun h => by cases h), (fun _ => ⟨rd_tb_mem (p := 768) (by decide +kernel) rfl, rd_tb_mem (p := 12) (by decide +kernel) rfl, (by decide +kernel)⟩), (fun h => by cases h)⟩⟩
theorem rd_w107 : lw_tbl[67]? = some (Cond.code yX11_init cX11_init 1 none) := by decide +kernel
theorem rd_f107 : rd_MF 107 (yX11_init, cX11_init, 1, none) 2 := ⟨(by decide +kernel), (by decide +kernel), (by decide +kernel), fun _ => ⟨(by decide +kernel), rd_tb_mem rd_w107 rfl, rd_tb_mem (p := 47) (by decide +kernel) rfl, (fun h => by cases h), (fun h => by cases h), (fun _ => ⟨rd_tb_mem (p := 66) (by decide +kernel) rfl, rfl, rfl⟩)⟩⟩
theorem rd_w108 : lw_tbl[432]? = some (Cond.code yX11_face cX11_face 2 (some .int)) := by decide +kernel
theorem rd_f108 : rd_MF 108 (yX11_face, cX11_face, 2, (some .int)) 0 := ⟨(by decide +kernel), (by decide +kernel), (by decide +kernel), fun _ => ⟨(by decide +kernel), rd_tb_mem rd_w108 rfl, rd_tb_mem (p := 47) (by decide +kernel) rfl, (fun h => by cases h), (fun _ => ⟨rd_tb_mem (p := 430) (by decide +kernel) rfl, rd_tb_mem (p := 431) (by decide +kernel) rfl, (by decide +kernel)⟩), (fun h => by cases h)⟩⟩
theorem rd_w109 : lw_tbl[452]? = some (Cond.code yX11_method cX11_method 6 (some .int)) := by decide +kernel
theorem rd_f109 : rd_MF 109 (yX11_method, cX11_method, 6, (some .int)) 0 := ⟨(by decide +kernel), (by decide +kernel), (by decide +kernel), fun _ => ⟨(by decide +kernel), rd_tb_mem rd_w109 rfl, rd_tb_mem (p := 47) (by decide +kernel) rfl, (fun h => by cases h), (fun _ => ⟨rd_tb_mem (p := 450) (by decide +kernel) rfl, rd_tb_mem (p := 451) (by decide +kernel) rfl, (by decide +kernel)⟩), (fun h => by cases h)⟩⟩
theorem rd_w110 : lw_tbl[464]? = some (Cond.code yX11_stand cX11_stand 3 (some .int)) := by decide +kernel
theorem rd_f110 : rd_MF 110 (yX11_stand, cX11_stand, 3, (some .int)) 0 := ⟨(by decide +kernel), (by decide +kernel), (by decide +kernel), fun _ => ⟨(by decide +kernel), rd_tb_mem rd_w110 rfl, rd_tb_mem (p := 47) (by decide +kernel) rfl, (fun h => by cases h), (fun _ => ⟨rd_tb_mem (p := 462) (by decide +kernel) rfl, rd_tb_mem (p := 463) (by decide +kernel) rfl, (by decide +kernel)⟩), (fun h => by cases h)⟩⟩
theorem rd_w111 : lw_tbl[480]? = some (Cond.code yX11_of cX11_of 3 (some .int)) := by decide +kernel
theorem rd_f111 : rd_MF 111 (yX11_of, cX11_of, 3, (some .int)) 0 := ⟨(by decide +kernel), (by decide +kernel), (by decide +kernel), fun _ => ⟨(by decide +kernel), rd_tb_mem rd_w111 rfl, rd_tb_mem (p := 47) (by decide +kernel) rfl, (fun h => by cases h), (fun _ => ⟨rd_tb_mem (p := 478) (by decide +kernel) rfl, rd_tb_mem (p := 479) (by decide +kernel) rfl, (by decide +kernel)⟩), (fun h => by cases h)⟩⟩
theorem rd_w112 : lw_tbl[492]? = some (Cond.code yX11_level cX11_level 2 (some .int)) := by decide +kernel
theorem rd_f112 : rd_MF 112 (yX11_level, cX11_level, 2, (some .int)) 0 := ⟨(by decide +kernel), (by decide +kernel), (by decide +kernel), fun _ => ⟨(by decide +kernel), rd_tb_mem rd_w112 rfl, rd_tb_mem (p := 47) (by decide +kernel) rfl, (fun h => by cases h), (fun _ => ⟨rd_tb_mem (p := 490) (by decide +kernel) rfl, rd_tb_mem (p := 491) (by decide +kernel) rfl, (by decide +kernel)⟩), (fun h => by cases h)⟩⟩
theorem rd_w113 : lw_tbl[496]? = some (Cond.code yX11_rule cX11_rule 4 (some .int)) := by decide +kernel
theorem rd_f113 : rd_MF 113 (yX11_rule, cX11_rule, 4, (some .int)) 0 := ⟨(by decide +kernel), (by decide +kernel), (by decide +kernel), fun _ => ⟨(by decide +kernel), rd_tb_mem rd_w113 rfl, rd_tb_mem (p := 47) (by decide +kernel) rfl, (fun h => by cases h), (fun _ => ⟨rd_tb_mem (p := 494) (by decide +kernel) rfl, rd_tb_mem (p := 495) (by decide +kernel) rfl, (by decide +kernel)⟩), (fun h => by cases h)⟩⟩
theorem rd_w114 : lw_tbl[513]? = some (Cond.code yX11_on cX11_on 7 (some .int)) := by decide +kernel
theorem rd_f114 : rd_MF 114 (yX11_on, cX11_on, 7, (some .int)) 0 := ⟨(by decide +kernel), (by decide +kernel), (by decide +kernel), fun _ => ⟨(by decide +kernel), rd_tb_mem rd_w114 rfl, rd_tb_mem (p := 47) (by decide +kernel) rfl, (fun h => by cases h), (fun _ => ⟨rd_tb_mem (p := 511) (by decide +kernel) rfl, rd_tb_mem (p := 512) (by decide +kernel) rfl, (by decide +kernel)⟩), (fun h => by cases h)⟩⟩
theorem rd_w115 : lw_tbl[548]? = some (Cond.code yX11_answer cX11_answer 4 (some .int)) := by decide +kernel
theorem rd_f115 : rd_MF 115 (yX11_answer, cX11_answer, 4, (some .int)) 0 := ⟨(by decide +kernel), (by decide +kernel), (by decide +kernel), fun _ => ⟨(by decide +kernel), rd_tb_mem rd_w115 rfl, rd_tb_mem (p := 47) (by decide +kernel) rfl, (fun h => by cases h), (fun _ => ⟨rd_tb_mem (p := 546) (by decide +kernel) rfl, rd_tb_mem (p := 547) (by decide +kernel) rfl, (by decide +kernel)⟩), (fun h => by cases h)⟩⟩
theorem rd_w116 : lw_tbl[567]? = some (Cond.code yX11_caught cX11_caught 3 (some .int)) := by decide +kernel
theorem rd_f116 : rd_MF 116 (yX11_caught, cX11_caught, 3, (some .int)) 0 := ⟨(by decide +kernel), (by decide +kernel), (by decide +kernel), fun _ => ⟨(by decide +kernel), rd_tb_mem rd_w116 rfl, rd_tb_mem (p := 47) (by decide +kernel) rfl, (fun h => by cases h), (fun _ => ⟨rd_tb_mem (p := 565) (by decide +kernel) rfl, rd_tb_mem (p := 566) (by decide +kernel) rfl, (by decide +kernel)⟩), (fun h => by cases h)⟩⟩
theorem rd_w117 : lw_tbl[580]? = some (Cond.code yX11_call cX11_call 7 (some .int)) := by decide +kernel
theorem rd_f117 : rd_MF 117 (yX11_call, cX11_call, 7, (some .int)) 0 := ⟨(by decide +kernel), (by decide +kernel), (by decide +kernel), fun _ => ⟨(by decide +kernel), rd_tb_mem rd_w117 rfl, rd_tb_mem (p := 47) (by decide +kernel) rfl, (fun h => by cases h), (fun _ => ⟨rd_tb_mem (p := 578) (by decide +kernel) rfl, rd_tb_mem (p := 579) (by decide +kernel) rfl, (by decide +kernel)⟩), (fun h => by cases h)⟩⟩
theorem rd_w118 : lw_tbl[584]? = some (Cond.code yX11_canCome cX11_canCome 4 (some .boolean)) := by decide +kernel
theorem rd_f118 : rd_MF 118 (yX11_canCome, cX11_canCome, 4, (some .boolean)) 0 := ⟨(by decide +kernel), (by decide +kernel), (by decide +kernel), fun _ => ⟨(by decide +kernel), rd_tb_mem rd_w118 rfl, rd_tb_mem (p := 47) (by decide +kernel) rfl, (fun h => by cases h), (fun _ => ⟨rd_tb_mem (p := 583) (by decide +kernel) rfl, rd_tb_mem (p := 2) (by decide +kernel) rfl, (by decide +kernel)⟩), (fun h => by cases h)⟩⟩
theorem rd_w119 : lw_tbl[680]? = some (Cond.code yX11_came cX11_came 2 (some .int)) := by decide +kernel
theorem rd_f119 : rd_MF 119 (yX11_came, cX11_came, 2, (some .int)) 0 := ⟨(by decide +kernel), (by decide +kernel), (by decide +kernel), fun _ => ⟨(by decide +kernel), rd_tb_mem rd_w119 rfl, rd_tb_mem (p := 47) (by decide +kernel) rfl, (fun h => by cases h), (fun _ => ⟨rd_tb_mem (p := 678) (by decide +kernel) rfl, rd_tb_mem (p := 679) (by decide +kernel) rfl, (by decide +kernel)⟩), (fun h => by cases h)⟩⟩
theorem rd_w120 : lw_tbl[688]? = some (Cond.code yX11_recorded cX11_recorded 3 (some .int)) := by decide +kernel
theorem rd_f120 : rd_MF 120 (yX11_recorded, cX11_recorded, 3, (some .int)) 0 := ⟨(by decide +kernel), (by decide +kernel), (by decide +kernel), fun _ => ⟨(by decide +kernel), rd_tb_mem rd_w120 rfl, rd_tb_mem (p := 47) (by decide +kernel) rfl, (fun h => by cases h), (fun _ => ⟨rd_tb_mem (p := 686) (by decide +kernel) rfl, rd_tb_mem (p := 687) (by decide +kernel) rfl, (by decide +kernel)⟩), (fun h => by cases h)⟩⟩
theorem rd_w121 : lw_tbl[700]? = some (Cond.code yX11_expect cX11_expect 6 (some .int)) := by decide +kernel
theorem rd_f121 : rd_MF 121 (yX11_expect, cX11_expect, 6, (some .int)) 0 := ⟨(by decide +kernel), (by decide +kernel), (by decide +kernel), fun _ => ⟨(by decide +kernel), rd_tb_mem rd_w121 rfl, rd_tb_mem (p := 47) (by decide +kernel) rfl, (fun h => by cases h), (fun _ => ⟨rd_tb_mem (p := 698) (by decide +kernel) rfl, rd_tb_mem (p := 699) (by decide +kernel) rfl, (by decide +kernel)⟩), (fun h => by cases h)⟩⟩
theorem rd_w122 : lw_tbl[709]? = some (Cond.code yX11_with cX11_with 6 (some .int)) := by decide +kernel
theorem rd_f122 : rd_MF 122 (yX11_with, cX11_with, 6, (some .int)) 0 := ⟨(by decide +kernel), (by decide +kernel), (by decide +kernel), fun _ => ⟨(by decide +kernel), rd_tb_mem rd_w122 rfl, rd_tb_mem (p := 47) (by decide +kernel) rfl, (fun h => by cases h), (fun _ => ⟨rd_tb_mem (p := 707) (by decide +kernel) rfl, rd_tb_mem (p := 708) (by decide +kernel) rfl, (by decide +kernel)⟩), (fun h => by cases h)⟩⟩
theorem rd_w123 : lw_tbl[713]? = some (Cond.code yX11_order cX11_order 4 (some .int)) := by decide +kernel
theorem rd_f123 : rd_MF 123 (yX11_order, cX11_order, 4, (some .int)) 0 := ⟨(by decide +kernel), (by decide +kernel), (by decide +kernel), fun _ => ⟨(by decide +kernel), rd_tb_mem rd_w123 rfl, rd_tb_mem (p := 47) (by decide +kernel) rfl, (fun h => by cases h), (fun _ => ⟨rd_tb_mem (p := 711) (by decide +kernel) rfl, rd_tb_mem (p := 712) (by decide +kernel) rfl, (by decide +kernel)⟩), (fun h => by cases h)⟩⟩
theorem rd_w124 : lw_tbl[721]? = some (Cond.code yX11_beside cX11_beside 3 (some .int)) := by decide +kernel
theorem rd_f124 : rd_MF 124 (yX11_beside, cX11_beside, 3, (some .int)) 0 := ⟨(by decide +kernel), (by decide +kernel), (by decide +kernel), fun _ => ⟨(by decide +kernel), rd_tb_mem rd_w124 rfl, rd_tb_mem (p := 47) (by decide +kernel) rfl, (fun h => by cases h), (fun _ => ⟨rd_tb_mem (p := 719) (by decide +kernel) rfl, rd_tb_mem (p := 720) (by decide +kernel) rfl, (by decide +kernel)⟩), (fun h => by cases h)⟩⟩
theorem rd_w125 : lw_tbl[729]? = some (Cond.code yX11_met cX11_met 2 (some .int)) := by decide +kernel
theorem rd_f125 : rd_MF 125 (yX11_met, cX11_met, 2, (some .int)) 0 := ⟨(by decide +kernel), (by decide +kernel), (by decide +kernel), fun _ => ⟨(by decide +kernel), rd_tb_mem rd_w125 rfl, rd_tb_mem (p := 47) (by decide +kernel) rfl, (fun h => by cases h), (fun _ => ⟨rd_tb_mem (p := 727) (by decide +kernel) rfl, rd_tb_mem (p := 728) (by decide +kernel) rfl, (by decide +kernel)⟩), (fun h => by cases h)⟩⟩
theorem rd_w126 : lw_tbl[739]? = some (Cond.code yX11_verify cX11_verify 1 (some .int)) := by decide +kernel
theorem rd_f126 : rd_MF 126 (yX11_verify, cX11_verify, 1, (some .int)) 0 := ⟨(by decide +kernel), (by decide +kernel), (by decide +kernel), fun _ => ⟨(by decide +kernel), rd_tb_mem rd_w126 rfl, rd_tb_mem (p := 47) (by decide +kernel) rfl, (fun h => by cases h), (fun _ => ⟨rd_tb_mem (p := 737) (by decide +kernel) rfl, rd_tb_mem (p := 738) (by decide +kernel) rfl, (by decide +kernel)⟩), (fun h => by cases h)⟩⟩
theorem rd_w127 : lw_tbl[803]? = some (Cond.code yX11_wrong cX11_wrong 3 (some .int)) := by decide +kernel
theorem rd_f127 : rd_MF 127 (yX11_wrong, cX11_wrong, 3, (some .int)) 0 := ⟨(by decide +kernel), (by decide +kernel), (by decide +kernel), fun _ => ⟨(by decide +kernel), rd_tb_mem rd_w127 rfl, rd_tb_mem (p := 47) (by decide +kernel) rfl, (fun h => by cases h), (fun _ => ⟨rd_tb_mem (p := 801) (by decide +kernel) rfl, rd_tb_mem (p := 802) (by decide +kernel) rfl, (by decide +kernel)⟩), (fun h => by cases h)⟩⟩
theorem rd_w128 : lw_tbl[811]? = some (Cond.code yX11_cue cX11_cue 5 (some .int)) := by decide +kernel
theorem rd_f128 : rd_MF 128 (yX11_cue, cX11_cue, 5, (some .int)) 0 := ⟨(by decide +kernel), (by decide +kernel), (by decide +kernel), fun _ => ⟨(by decide +kernel), rd_tb_mem rd_w128 rfl, rd_tb_mem (p := 47) (by decide +kernel) rfl, (fun h => by cases h), (fun _ => ⟨rd_tb_mem (p := 809) (by decide +kernel) rfl, rd_tb_mem (p := 810) (by decide +kernel) rfl, (by decide +kernel)⟩), (fun h => by cases h)⟩⟩
theorem rd_w129 : lw_tbl[827]? = some (Cond.code yX11_clear cX11_clear 1 (some .int)) := by decide +kernel
theorem rd_f129 : rd_MF 129 (yX11_clear, cX11_clear, 1, (some .int)) 0 := ⟨(by decide +kernel), (by decide +kernel), (by decide +kernel), fun _ => ⟨(by decide +kernel), rd_tb_mem rd_w129 rfl, rd_tb_mem (p := 47) (by decide +kernel) rfl, (fun h => by cases h), (fun _ => ⟨rd_tb_mem (p := 825) (by decide +kernel) rfl, rd_tb_mem (p := 826) (by decide +kernel) rfl, (by decide +kernel)⟩), (fun h => by cases h)⟩⟩
theorem rd_w130 : lw_tbl[835]? = some (Cond.code yX11_run cX11_run 4 (some .int)) := by decide +kernel
theorem rd_f130 : rd_MF 130 (yX11_run, cX11_run, 4, (some .int)) 0 := ⟨(by decide +kernel), (by decide +kernel), (by decide +kernel), fun _ => ⟨(by decide +kernel), rd_tb_mem rd_w130 rfl, rd_tb_mem (p := 47) (by decide +kernel) rfl, (fun h => by cases h), (fun _ => ⟨rd_tb_mem (p := 833) (by decide +kernel) rfl, rd_tb_mem (p := 834) (by decide +kernel) rfl, (by decide +kernel)⟩), (fun h => by cases h)⟩⟩
theorem rd_w131 : lw_tbl[902]? = some (Cond.code yX11_desk cX11_desk 2 (some .int)) := by decide +kernel
theorem rd_f131 : rd_MF 131 (yX11_desk, cX11_desk, 2, (some .int)) 0 := ⟨(by decide +kernel), (by decide +kernel), (by decide +kernel), fun _ => ⟨(by decide +kernel), rd_tb_mem rd_w131 rfl, rd_tb_mem (p := 47) (by decide +kernel) rfl, (fun h => by cases h), (fun _ => ⟨rd_tb_mem (p := 900) (by decide +kernel) rfl, rd_tb_mem (p := 901) (by decide +kernel) rfl, (by decide +kernel)⟩), (fun h => by cases h)⟩⟩
theorem rd_w132 : lw_tbl[906]? = some (Cond.code yX11_told cX11_told 2 (some .int)) := by decide +kernel
theorem rd_f132 : rd_MF 132 (yX11_told, cX11_told, 2, (some .int)) 0 := ⟨(by decide +kernel), (by decide +kernel), (by decide +kernel), fun _ => ⟨(by decide +kernel), rd_tb_mem rd_w132 rfl, rd_tb_mem (p := 47) (by decide +kernel) rfl, (fun h => by cases h), (fun _ => ⟨rd_tb_mem (p := 904) (by decide +kernel) rfl, rd_tb_mem (p := 905) (by decide +kernel) rfl, (by decide +kernel)⟩), (fun h => by cases h)⟩⟩
theorem rd_w133 : lw_tbl[918]? = some (Cond.code yX11_count cX11_count 2 (some .int)) := by decide +kernel
theorem rd_f133 : rd_MF 133 (yX11_count, cX11_count, 2, (some .int)) 0 := ⟨(by decide +kernel), (by decide +kernel), (by decide +kernel), fun _ => ⟨(by decide +kernel), rd_tb_mem rd_w133 rfl, rd_tb_mem (p := 47) (by decide +kernel) rfl, (fun h => by cases h), (fun _ => ⟨rd_tb_mem (p := 916) (by decide +kernel) rfl, rd_tb_mem (p := 917) (by decide +kernel) rfl, (by decide +kernel)⟩), (fun h => by cases h)⟩⟩
theorem rd_w134 : lw_tbl[941]? = some (Cond.code yX11_countMethods cX11_countMethods 2 (some .int)) := by decide +kernel
theorem rd_f134 : rd_MF 134 (yX11_countMethods, cX11_countMethods, 2, (some .int)) 0 := ⟨(by decide +kernel), (by decide +kernel), (by decide +kernel), fun _ => ⟨(by decide +kernel), rd_tb_mem rd_w134 rfl, rd_tb_mem (p := 47) (by decide +kernel) rfl, (fun h => by cases h), (fun _ => ⟨rd_tb_mem (p := 940) (by decide +kernel) rfl, rd_tb_mem (p := 17) (by decide +kernel) rfl, (by decide +kernel)⟩), (fun h => by cases h)⟩⟩
theorem rd_w135 : lw_tbl[949]? = some (Cond.code yX11_forget cX11_forget 2 (some .int)) := by decide +kernel
theorem rd_f135 : rd_MF 135 (yX11_forget, cX11_forget, 2, (some .int)) 0 := ⟨(by decide +kernel), (by decide +kernel), (by decide +kernel), fun _ => ⟨(by decide +kernel), rd_tb_mem rd_w135 rfl, rd_tb_mem (p := 47) (by decide +kernel) rfl, (fun h => by cases h), (fun _ => ⟨rd_tb_mem (p := 947) (by decide +kernel) rfl, rd_tb_mem (p := 948) (by decide +kernel) rfl, (by decide +kernel)⟩), (fun h => by cases h)⟩⟩
theorem rd_w136 : lw_tbl[968]? = some (Cond.code yX12_init cX12_init 1 none) := by decide +kernel
theorem rd_f136 : rd_MF 136 (yX12_init, cX12_init, 1, none) 2 := ⟨(by decide +kernel), (by decide +kernel), (by decide +kernel), fun _ => ⟨(by decide +kernel), rd_tb_mem rd_w136 rfl, rd_tb_mem (p := 60) (by decide +kernel) rfl, (fun h => by cases h), (fun h => by cases h), (fun _ => ⟨rd_tb_mem (p := 967) (by decide +kernel) rfl, rfl, rfl⟩)⟩⟩
theorem rd_w137 : lw_tbl[1154]? = some (Cond.code yX12_in cX12_in 3 (some .boolean)) := by decide +kernel
theorem rd_f137 : rd_MF 137 (yX12_in, cX12_in, 3, (some .boolean)) 1 := ⟨(by decide +kernel), (by decide +kernel), (by decide +kernel), fun _ => ⟨(by decide +kernel), rd_tb_mem rd_w137 rfl, rd_tb_mem (p := 60) (by decide +kernel) rfl, (fun _ => rd_tb_mem (p := 1153) (by decide +kernel) rfl), (fun h => by cases h), (fun h => by cases h)⟩⟩
theorem rd_w138 : lw_tbl[1151]? = some (Cond.code yX12_face cX12_face 5 (some .int)) := by decide +kernel
theorem rd_f138 : rd_MF 138 (yX12_face, cX12_face, 5, (some .int)) 0 := ⟨(by decide +kernel), (by decide +kernel), (by decide +kernel), fun _ => ⟨(by decide +kernel), rd_tb_mem rd_w138 rfl, rd_tb_mem (p := 60) (by decide +kernel) rfl, (fun h => by cases h), (fun _ => ⟨rd_tb_mem (p := 1149) (by decide +kernel) rfl, rd_tb_mem (p := 1150) (by decide +kernel) rfl, (by decide +kernel)⟩), (fun h => by cases h)⟩⟩
theorem rd_w139 : lw_tbl[1162]? = some (Cond.code yX12_isBelow cX12_isBelow 4 (some .boolean)) := by decide +kernel
theorem rd_f139 : rd_MF 139 (yX12_isBelow, cX12_isBelow, 4, (some .boolean)) 0 := ⟨(by decide +kernel), (by decide +kernel), (by decide +kernel), fun _ => ⟨(by decide +kernel), rd_tb_mem rd_w139 rfl, rd_tb_mem (p := 60) (by decide +kernel) rfl, (fun h => by cases h), (fun _ => ⟨rd_tb_mem (p := 1161) (by decide +kernel) rfl, rd_tb_mem (p := 18) (by decide +kernel) rfl, (by decide +kernel)⟩), (fun h => by cases h)⟩⟩
theorem rd_w140 : lw_tbl[1158]? = some (Cond.code yX12_method cX12_method 8 (some .int)) := by decide +kernel
theorem rd_f140 : rd_MF 140 (yX12_method, cX12_method, 8, (some .int)) 0 := ⟨(by decide +kernel), (by decide +kernel), (by decide +kernel), fun _ => ⟨(by decide +kernel), rd_tb_mem rd_w140 rfl, rd_tb_mem (p := 60) (by decide +kernel) rfl, (fun h => by cases h), (fun _ => ⟨rd_tb_mem (p := 1156) (by decide +kernel) rfl, rd_tb_mem (p := 1157) (by decide +kernel) rfl, (by decide +kernel)⟩), (fun h => by cases h)⟩⟩
theorem rd_w141 : lw_tbl[1166]? = some (Cond.code yX12_stand cX12_stand 3 (some .int)) := by decide +kernel
theorem rd_f141 : rd_MF 141 (yX12_stand, cX12_stand, 3, (some .int)) 0 := ⟨(by decide +kernel), (by decide +kernel), (by decide +kernel), fun _ => ⟨(by decide +kernel), rd_tb_mem rd_w141 rfl, rd_tb_mem (p := 60) (by decide +kernel) rfl, (fun h => by cases h), (fun _ => ⟨rd_tb_mem (p := 1164) (by decide +kernel) rfl, rd_tb_mem (p := 1165) (by decide +kernel) rfl, (by decide +kernel)⟩), (fun h => by cases h)⟩⟩
theorem rd_w142 : lw_tbl[1174]? = some (Cond.code yX12_isStand cX12_isStand 2 (some .boolean)) := by decide +kernel
theorem rd_f142 : rd_MF 142 (yX12_isStand, cX12_isStand, 2, (some .boolean)) 0 := ⟨(by decide +kernel), (by decide +kernel), (by decide +kernel), fun _ => ⟨(by decide +kernel), rd_tb_mem rd_w142 rfl, rd_tb_mem (p := 60) (by decide +kernel) rfl, (fun h => by cases h), (fun _ => ⟨rd_tb_mem (p := 1173) (by decide +kernel) rfl, rd_tb_mem (p := 19) (by decide +kernel) rfl, (by decide +kernel)⟩), (fun h => by cases h)⟩⟩
theorem rd_w143 : lw_tbl[1170]? = some (Cond.code yX12_of cX12_of 3 (some .int)) := by decide +kernel
theorem rd_f143 : rd_MF 143 (yX12_of, cX12_of, 3, (some .int)) 0 := ⟨(by decide +kernel), (by decide +kernel), (by decide +kernel), fun _ => ⟨(by decide +kernel), rd_tb_mem rd_w143 rfl, rd_tb_mem (p := 60) (by decide +kernel) rfl, (fun h => by cases h), (fun _ => ⟨rd_tb_mem (p := 1168) (by decide +kernel) rfl, rd_tb_mem (p := 1169) (by decide +kernel) rfl, (by decide +kernel)⟩), (fun h => by cases h)⟩⟩
theorem rd_w144 : lw_tbl[1178]? = some (Cond.code yX12_level cX12_level 2 (some .int)) := by decide +kernel
theorem rd_f144 : rd_MF 144 (yX12_level, cX12_level, 2, (some .int)) 0 := ⟨(by decide +kernel), (by decide +kernel), (by decide +kernel), fun _ => ⟨(by decide +kernel), rd_tb_mem rd_w144 rfl, rd_tb_mem (p := 60) (by decide +kernel) rfl, (fun h => by cases h), (fun _ => ⟨rd_tb_mem (p := 1176) (by decide +kernel) rfl, rd_tb_mem (p := 1177) (by decide +kernel) rfl, (by decide +kernel)⟩), (fun h => by cases h)⟩⟩
theorem rd_w145 : lw_tbl[1186]? = some (Cond.code yX12_isMethod cX12_isMethod 3 (some .boolean)) := by decide +kernel
theorem rd_f145 : rd_MF 145 (yX12_isMethod, cX12_isMethod, 3, (some .boolean)) 0 := ⟨(by decide +kernel), (by decide +kernel), (by decide +kernel), fun _ => ⟨(by decide +kernel), rd_tb_mem rd_w145 rfl, rd_tb_mem (p := 60) (by decide +kernel) rfl, (fun h => by cases h), (fun _ => ⟨rd_tb_mem (p := 1185) (by decide +kernel) rfl, rd_tb_mem (p := 20) (by decide +kernel) rfl, (by decide +kernel)⟩), (fun h => by cases h)⟩⟩
theorem rd_w146 : lw_tbl[1206]? = some (Cond.code yX12_methodAt cX12_methodAt 3 (some .int)) := by decide +kernel
theorem rd_f146 : rd_MF 146 (yX12_methodAt, cX12_methodAt, 3, (some .int)) 0 := ⟨(by decide +kernel), (by decide +kernel), (by decide +kernel), fun _ => ⟨(by decide +kernel), rd_tb_mem rd_w146 rfl, rd_tb_mem (p := 60) (by decide +kernel) rfl, (fun h => by cases h), (fun _ => ⟨rd_tb_mem (p := 1205) (by decide +kernel) rfl, rd_tb_mem (p := 24) (by decide +kernel) rfl, (by decide +kernel)⟩), (fun h => by cases h)⟩⟩
theorem rd_w147 : lw_tbl[1210]? = some (Cond.code yX12_isStandParameter cX12_isStandParameter 4 (some .boolean)) := by decide +kernel
theorem rd_f147 : rd_MF 147 (yX12_isStandParameter, cX12_isStandParameter, 4, (some .boolean)) 0 := ⟨(by decide +kernel), (by decide +kernel), (by decide +kernel), fun _ => ⟨(by decide +kernel), rd_tb_mem rd_w147 rfl, rd_tb_mem (p := 60) (by decide +kernel) rfl, (fun h => by cases h), (fun _ => ⟨rd_tb_mem (p := 1209) (by decide +kernel) rfl, rd_tb_mem (p := 25) (by decide +kernel) rfl, (by decide +kernel)⟩), (fun h => by cases h)⟩⟩
theorem rd_w148 : lw_tbl[1190]? = some (Cond.code yX12_begin cX12_begin 5 none) := by decide +kernel
theorem rd_f148 : rd_MF 148 (yX12_begin, cX12_begin, 5, none) 0 := ⟨(by decide +kernel), (by decide +kernel), (by decide +kernel), fun _ => ⟨(by decide +kernel), rd_tb_mem rd_w148 rfl, rd_tb_mem (p := 60) (by decide +kernel) rfl, (fun h => by cases h), (fun _ => ⟨rd_tb_mem (p := 1189) (by decide +kernel) rfl, rd_tb_mem (p := 21) (by decide +kernel) rfl, (by decide +kernel)⟩), (fun h => by cases h)⟩⟩
theorem rd_w149 : lw_tbl[1202]? = some (Cond.code yX12_putCondition cX12_putCondition 8 (some .int)) := by decide +kernel
theorem rd_f149 : rd_MF 149 (yX12_putCondition, cX12_putCondition, 8, (some .int)) 0 := ⟨(by decide +kernel), (by decide +kernel), (by decide +kernel), fun _ => ⟨(by decide +kernel), rd_tb_mem rd_w149 rfl, rd_tb_mem (p := 60) (by decide +kernel) rfl, (fun h => by cases h), (fun _ => ⟨rd_tb_mem (p := 1201) (by decide +kernel) rfl, rd_tb_mem (p := 23) (by decide +kernel) rfl, (by decide +kernel)⟩), (fun h => by cases h)⟩⟩
theorem rd_w150 : lw_tbl[1242]? = some (Cond.code yX12_holds cX12_holds 3 (some .boolean)) := by decide +kernel
theorem rd_f150 : rd_MF 150 (yX12_holds, cX12_holds, 3, (some .boolean)) 0 := ⟨(by decide +kernel), (by decide +kernel), (by decide +kernel), fun _ => ⟨(by decide +kernel), rd_tb_mem rd_w150 rfl, rd_tb_mem (p := 60) (by decide +kernel) rfl, (fun h => by cases h), (fun _ => ⟨rd_tb_mem (p := 1241) (by decide +kernel) rfl, rd_tb_mem (p := 30) (by decide +kernel) rfl, (by decide +kernel)⟩), (fun h => by cases h)⟩⟩
theorem rd_w151 : lw_tbl[1238]? = some (Cond.code yX12_meets cX12_meets 8 (some .boolean)) := by decide +kernel
theorem rd_f151 : rd_MF 151 (yX12_meets, cX12_meets, 8, (some .boolean)) 0 := ⟨(by decide +kernel), (by decide +kernel), (by decide +kernel), fun _ => ⟨(by decide +kernel), rd_tb_mem rd_w151 rfl, rd_tb_mem (p := 60) (by decide +kernel) rfl, (fun h => by cases h), (fun _ => ⟨rd_tb_mem (p := 1237) (by decide +kernel) rfl, rd_tb_mem (p := 29) (by decide +kernel) rfl, (by decide +kernel)⟩), (fun h => by cases h)⟩⟩
theorem rd_w152 : lw_tbl[1198]? = some (Cond.code yX12_isRule cX12_isRule 2 (some .boolean)) := by decide +kernel
theorem rd_f152 : rd_MF 152 (yX12_isRule, cX12_isRule, 2, (some .boolean)) 0 := ⟨(by decide +kernel), (by decide +kernel), (by decide +kernel), fun _ => ⟨(by decide +kernel), rd_tb_mem rd_w152 rfl, rd_tb_mem (p := 60) (by decide +kernel) rfl, (fun h => by cases h), (fun _ => ⟨rd_tb_mem (p := 1197) (by decide +kernel) rfl, rd_tb_mem (p := 22) (by decide +kernel) rfl, (by decide +kernel)⟩), (fun h => by cases h)⟩⟩
theorem rd_w153 : lw_tbl[1182]? = some (Cond.code yX12_rule cX12_rule 4 (some .int)) := by decide +kernel
theorem rd_f153 : rd_MF 153 (yX12_rule, cX12_rule, 4, (some .int)) 0 := ⟨(by decide +kernel), (by decide +kernel), (by decide +kernel), fun _ => ⟨(by decide +kernel), rd_tb_mem rd_w153 rfl, rd_tb_mem (p := 60) (by decide +kernel) rfl, (fun h => by cases h), (fun _ => ⟨rd_tb_mem (p := 1180) (by decide +kernel) rfl, rd_tb_mem (p := 1181) (by decide +kernel) rfl, (by decide +kernel)⟩), (fun h => by cases h)⟩⟩
theorem rd_w154 : lw_tbl[1194]? = some (Cond.code yX12_on cX12_on 7 (some .int)) := by decide +kernel
theorem rd_f154 : rd_MF 154 (yX12_on, cX12_on, 7, (some .int)) 0 := ⟨(by decide +kernel), (by decide +kernel), (by decide +kernel), fun _ => ⟨(by decide +kernel), rd_tb_mem rd_w154 rfl, rd_tb_mem (p := 60) (by decide +kernel) rfl, (fun h => by cases h), (fun _ => ⟨rd_tb_mem (p := 1192) (by decide +kernel) rfl, rd_tb_mem (p := 1193) (by decide +kernel) rfl, (by decide +kernel)⟩), (fun h => by cases h)⟩⟩
theorem rd_w155 : lw_tbl[1214]? = some (Cond.code yX12_answer cX12_answer 5 (some .int)) := by decide +kernel
theorem rd_f155 : rd_MF 155 (yX12_answer, cX12_answer, 5, (some .int)) 0 := ⟨(by decide +kernel), (by decide +kernel), (by decide +kernel), fun _ => ⟨(by decide +kernel), rd_tb_mem rd_w155 rfl, rd_tb_mem (p := 60) (by decide +kernel) rfl, (fun h => by cases h), (fun _ => ⟨rd_tb_mem (p := 1212) (by decide +kernel) rfl, rd_tb_mem (p := 1213) (by decide +kernel) rfl, (by decide +kernel)⟩), (fun h => by cases h)⟩⟩
theorem rd_w156 : lw_tbl[1218]? = some (Cond.code yX12_caught cX12_caught 3 (some .int)) := by decide +kernel
theorem rd_f156 : rd_MF 156 (yX12_caught, cX12_caught, 3, (some .int)) 0 := ⟨(by decide +kernel), (by decide +kernel), (by decide +kernel), fun _ => ⟨(by decide +kernel), rd_tb_mem rd_w156 rfl, rd_tb_mem (p := 60) (by decide +kernel) rfl, (fun h => by cases h), (fun _ => ⟨rd_tb_mem (p := 1216) (by decide +kernel) rfl, rd_tb_mem (p := 1217) (by decide +kernel) rfl, (by decide +kernel)⟩), (fun h => by cases h)⟩⟩
theorem rd_w157 : lw_tbl[1250]? = some (Cond.code yX12_give cX12_give 3 none) := by decide +kernel
theorem rd_f157 : rd_MF 157 (yX12_give, cX12_give, 3, none) 0 := ⟨(by decide +kernel), (by decide +kernel), (by decide +kernel), fun _ => ⟨(by decide +kernel), rd_tb_mem rd_w157 rfl, rd_tb_mem (p := 60) (by decide +kernel) rfl, (fun h => by cases h), (fun _ => ⟨rd_tb_mem (p := 1249) (by decide +kernel) rfl, rd_tb_mem (p := 32) (by decide +kernel) rfl, (by decide +kernel)⟩), (fun h => by cases h)⟩⟩
theorem rd_w158 : lw_tbl[1254]? = some (Cond.code yX12_fail cX12_fail 4 none) := by decide +kernel
theorem rd_f158 : rd_MF 158 (yX12_fail, cX12_fail, 4, none) 0 := ⟨(by decide +kernel), (by decide +kernel), (by decide +kernel), fun _ => ⟨(by decide +kernel), rd_tb_mem rd_w158 rfl, rd_tb_mem (p := 60) (by decide +kernel) rfl, (fun h => by cases h), (fun _ => ⟨rd_tb_mem (p := 1253) (by decide +kernel) rfl, rd_tb_mem (p := 33) (by decide +kernel) rfl, (by decide +kernel)⟩), (fun h => by cases h)⟩⟩
theorem rd_w159 : lw_tbl[1258]? = some (Cond.code yX12_sumOf cX12_sumOf 8 (some .int)) := by decide +kernel
theorem rd_f159 : rd_MF 159 (yX12_sumOf, cX12_sumOf, 8, (some .int)) 0 := ⟨(by decide +kernel), (by decide +kernel), (by decide +kernel), fun _ => ⟨(by decide +kernel), rd_tb_mem rd_w159 rfl, rd_tb_mem (p := 60) (by decide +kernel) rfl, (fun h => by cases h), (fun _ => ⟨rd_tb_mem (p := 1257) (by decide +kernel) rfl, rd_tb_mem (p := 34) (by decide +kernel) rfl, (by decide +kernel)⟩), (fun h => by cases h)⟩⟩
theorem rd_w160 : lw_tbl[1262]? = some (Cond.code yX12_through cX12_through 6 none) := by decide +kernel
theorem rd_f160 : rd_MF 160 (yX12_through, cX12_through, 6, none) 0 := ⟨(by decide +kernel), (by decide +kernel), (by decide +kernel), fun _ => ⟨(by decide +kernel), rd_tb_mem rd_w160 rfl, rd_tb_mem (p := 60) (by decide +kernel) rfl, (fun h => by cases h), (fun _ => ⟨rd_tb_mem (p := 1261) (by decide +kernel) rfl, rd_tb_mem (p := 35) (by decide +kernel) rfl, (by decide +kernel)⟩), (fun h => by cases h)⟩⟩
theorem rd_w161 : lw_tbl[1234]? = some (Cond.code yX12_ruleFor cX12_ruleFor 7 (some .int)) := by decide +kernel
theorem rd_f161 : rd_MF 161 (yX12_ruleFor, cX12_ruleFor, 7, (some .int)) 0 := ⟨(by decide +kernel), (by decide +kernel), (by decide +kernel), fun _ => ⟨(by decide +kernel), rd_tb_mem rd_w161 rfl, rd_tb_mem (p := 60) (by decide +kernel) rfl, (fun h => by cases h), (fun _ => ⟨rd_tb_mem (p := 1233) (by decide +kernel) rfl, rd_tb_mem (p := 28) (by decide +kernel) rfl, (by decide +kernel)⟩), (fun h => by cases h)⟩⟩
theorem rd_w162 : lw_tbl[1246]? = some (Cond.code yX12_byRule cX12_byRule 9 none) := by decide +kernel
theorem rd_f162 : rd_MF 162 (yX12_byRule, cX12_byRule, 9, none) 0 := ⟨(by decide +kernel), (by decide +kernel), (by decide +kernel), fun _ => ⟨(by decide +kernel), rd_tb_mem rd_w162 rfl, rd_tb_mem (p := 60) (by decide +kernel) rfl, (fun h => by cases h), (fun _ => ⟨rd_tb_mem (p := 1245) (by decide +kernel) rfl, rd_tb_mem (p := 31) (by decide +kernel) rfl, (by decide +kernel)⟩), (fun h => by cases h)⟩⟩
theorem rd_w163 : lw_tbl[1230]? = some (Cond.code yX12_answerCall cX12_answerCall 11 none) := by decide +kernel
theorem rd_f163 : rd_MF 163 (yX12_answerCall, cX12_answerCall, 11, none) 0 := ⟨(by decide +kernel), (by decide +kernel), (by decide +kernel), fun _ => ⟨(by decide +kernel), rd_tb_mem rd_w163 rfl, rd_tb_mem (p := 60) (by decide +kernel) rfl, (fun h => by cases h), (fun _ => ⟨rd_tb_mem (p := 1229) (by decide +kernel) rfl, rd_tb_mem (p := 27) (by decide +kernel) rfl, (by decide +kernel)⟩), (fun h => by cases h)⟩⟩
theorem rd_w164 : lw_tbl[1226]? = some (Cond.code yX12_mayCome cX12_mayCome 6 (some .boolean)) := by decide +kernel
theorem rd_f164 : rd_MF 164 (yX12_mayCome, cX12_mayCome, 6, (some .boolean)) 0 := ⟨(by decide +kernel), (by decide +kernel), (by decide +kernel), fun _ => ⟨(by decide +kernel), rd_tb_mem rd_w164 rfl, rd_tb_mem (p := 60) (by decide +kernel) rfl, (fun h => by cases h), (fun _ => ⟨rd_tb_mem (p := 1225) (by decide +kernel) rfl, rd_tb_mem (p := 26) (by decide +kernel) rfl, (by decide +kernel)⟩), (fun h => by cases h)⟩⟩
theorem rd_w165 : lw_tbl[1222]? = some (Cond.code yX12_call cX12_call 6 (some .int)) := by decide +kernel
theorem rd_f165 : rd_MF 165 (yX12_call, cX12_call, 6, (some .int)) 0 := ⟨(by decide +kernel), (by decide +kernel), (by decide +kernel), fun _ => ⟨(by decide +kernel), rd_tb_mem rd_w165 rfl, rd_tb_mem (p := 60) (by decide +kernel) rfl, (fun h => by cases h), (fun _ => ⟨rd_tb_mem (p := 1220) (by decide +kernel) rfl, rd_tb_mem (p := 1221) (by decide +kernel) rfl, (by decide +kernel)⟩), (fun h => by cases h)⟩⟩
theorem rd_w166 : lw_tbl[1266]? = some (Cond.code yX12_came cX12_came 2 (some .int)) := by decide +kernel
theorem rd_f166 : rd_MF 166 (yX12_came, cX12_came, 2, (some .int)) 0 := ⟨(by decide +kernel), (by decide +kernel), (by decide +kernel), fun _ => ⟨(by decide +kernel), rd_tb_mem rd_w166 rfl, rd_tb_mem (p := 60) (by decide +kernel) rfl, (fun h => by cases h), (fun _ => ⟨rd_tb_mem (p := 1264) (by decide +kernel) rfl, rd_tb_mem (p := 1265) (by decide +kernel) rfl, (by decide +kernel)⟩), (fun h => by cases h)⟩⟩
theorem rd_w167 : lw_tbl[1270]? = some (Cond.code yX12_recorded cX12_recorded 3 (some .int)) := by decide +kernel
theorem rd_f167 : rd_MF 167 (yX12_recorded, cX12_recorded, 3, (some .int)) 0 := ⟨(by decide +kernel), (by decide +kernel), (by decide +kernel), fun _ => ⟨(by decide +kernel), rd_tb_mem rd_w167 rfl, rd_tb_mem (p := 60) (by decide +kernel) rfl, (fun h => by cases h), (fun _ => ⟨rd_tb_mem (p := 1268) (by decide +kernel) rfl, rd_tb_mem (p := 1269) (by decide +kernel) rfl, (by decide +kernel)⟩), (fun h => by cases h)⟩⟩
theorem rd_w168 : lw_tbl[1282]? = some (Cond.code yX12_isExpectation cX12_isExpectation 2 (some .boolean)) := by decide +kernel
theorem rd_f168 : rd_MF 168 (yX12_isExpectation, cX12_isExpectation, 2, (some .boolean)) 0 := ⟨(by decide +kernel), (by decide +kernel), (by decide +kernel), fun _ => ⟨(by decide +kernel), rd_tb_mem rd_w168 rfl, rd_tb_mem (p := 60) (by decide +kernel) rfl, (fun h => by cases h), (fun _ => ⟨rd_tb_mem (p := 1281) (by decide +kernel) rfl, rd_tb_mem (p := 36) (by decide +kernel) rfl, (by decide +kernel)⟩), (fun h => by cases h)⟩⟩
theorem rd_w169 : lw_tbl[1274]? = some (Cond.code yX12_expect cX12_expect 5 (some .int)) := by decide +kernel
theorem rd_f169 : rd_MF 169 (yX12_expect, cX12_expect, 5, (some .int)) 0 := ⟨(by decide +kernel), (by decide +kernel), (by decide +kernel), fun _ => ⟨(by decide +kernel), rd_tb_mem rd_w169 rfl, rd_tb_mem (p := 60) (by decide +kernel) rfl, (fun h => by cases h), (fun _ => ⟨rd_tb_mem (p := 1272) (by decide +kernel) rfl, rd_tb_mem (p := 1273) (by decide +kernel) rfl, (by decide +kernel)⟩), (fun h => by cases h)⟩⟩
theorem rd_w170 : lw_tbl[1278]? = some (Cond.code yX12_with cX12_with 6 (some .int)) := by decide +kernel
theorem rd_f170 : rd_MF 170 (yX12_with, cX12_with, 6, (some .int)) 0 := ⟨(by decide +kernel), (by decide +kernel), (by decide +kernel), fun _ => ⟨(by decide +kernel), rd_tb_mem rd_w170 rfl, rd_tb_mem (p := 60) (by decide +kernel) rfl, (fun h => by cases h), (fun _ => ⟨rd_tb_mem (p := 1276) (by decide +kernel) rfl, rd_tb_mem (p := 1277) (by decide +kernel) rfl, (by decide +kernel)⟩), (fun h => by cases h)⟩⟩
theorem rd_w171 : lw_tbl[1286]? = some (Cond.code yX12_order cX12_order 3 (some .int)) := by decide +kernel
theorem rd_f171 : rd_MF 171 (yX12_order, cX12_order, 3, (some .int)) 0 := ⟨(by decide +kernel), (by decide +kernel), (by decide +kernel), fun _ => ⟨(by decide +kernel), rd_tb_mem rd_w171 rfl, rd_tb_mem (p := 60) (by decide +kernel) rfl, (fun h => by cases h), (fun _ => ⟨rd_tb_mem (p := 1284) (by decide +kernel) rfl, rd_tb_mem (p := 1285) (by decide +kernel) rfl, (by decide +kernel)⟩), (fun h => by cases h)⟩⟩
theorem rd_w172 : lw_tbl[1290]? = some (Cond.code yX12_beside cX12_beside 4 (some .int)) := by decide +kernel
theorem rd_f172 : rd_MF 172 (yX12_beside, cX12_beside, 4, (some .int)) 0 := ⟨(by decide +kernel), (by decide +kernel), (by decide +kernel), fun _ => ⟨(by decide +kernel), rd_tb_mem rd_w172 rfl, rd_tb_mem (p := 60) (by decide +kernel) rfl, (fun h => by cases h), (fun _ => ⟨rd_tb_mem (p := 1288) (by decide +kernel) rfl, rd_tb_mem (p := 1289) (by decide +kernel) rfl, (by decide +kernel)⟩), (fun h => by cases h)⟩⟩
theorem rd_w173 : lw_tbl[1302]? = some (Cond.code yX12_callMeets cX12_callMeets 4 (some .boolean)) := by decide +kernel
theorem rd_f173 : rd_MF 173 (yX12_callMeets, cX12_callMeets, 4, (some .boolean)) 0 := ⟨(by decide +kernel), (by decide +kernel), (by decide +kernel), fun _ => ⟨(by decide +kernel), rd_tb_mem rd_w173 rfl, rd_tb_mem (p := 60) (by decide +kernel) rfl, (fun h => by cases h), (fun _ => ⟨rd_tb_mem (p := 1301) (by decide +kernel) rfl, rd_tb_mem (p := 38) (by decide +kernel) rfl, (by decide +kernel)⟩), (fun h => by cases h)⟩⟩
theorem rd_w174 : lw_tbl[1298]? = some (Cond.code yX12_metBy cX12_metBy 4 (some .int)) := by decide +kernel
theorem rd_f174 : rd_MF 174 (yX12_metBy, cX12_metBy, 4, (some .int)) 0 := ⟨(by decide +kernel), (by decide +kernel), (by decide +kernel), fun _ => ⟨(by decide +kernel), rd_tb_mem rd_w174 rfl, rd_tb_mem (p := 60) (by decide +kernel) rfl, (fun h => by cases h), (fun _ => ⟨rd_tb_mem (p := 1297) (by decide +kernel) rfl, rd_tb_mem (p := 37) (by decide +kernel) rfl, (by decide +kernel)⟩), (fun h => by cases h)⟩⟩
theorem rd_w175 : lw_tbl[1294]? = some (Cond.code yX12_met cX12_met 2 (some .int)) := by decide +kernel
theorem rd_f175 : rd_MF 175 (yX12_met, cX12_met, 2, (some .int)) 0 := ⟨(by decide +kernel), (by decide +kernel), (by decide +kernel), fun _ => ⟨(by decide +kernel), rd_tb_mem rd_w175 rfl, rd_tb_mem (p := 60) (by decide +kernel) rfl, (fun h => by cases h), (fun _ => ⟨rd_tb_mem (p := 1292) (by decide +kernel) rfl, rd_tb_mem (p := 1293) (by decide +kernel) rfl, (by decide +kernel)⟩), (fun h => by cases h)⟩⟩
theorem rd_w176 : lw_tbl[1310]? = some (Cond.code yX12_note cX12_note 4 none) := by decide +kernel
theorem rd_f176 : rd_MF 176 (yX12_note, cX12_note, 4, none) 0 := ⟨(by decide +kernel), (by decide +kernel), (by decide +kernel), fun _ => ⟨(by decide +kernel), rd_tb_mem rd_w176 rfl, rd_tb_mem (p := 60) (by decide +kernel) rfl, (fun h => by cases h), (fun _ => ⟨rd_tb_mem (p := 1309) (by decide +kernel) rfl, rd_tb_mem (p := 39) (by decide +kernel) rfl, (by decide +kernel)⟩), (fun h => by cases h)⟩⟩
theorem rd_w177 : lw_tbl[1314]? = some (Cond.code yX12_wrongOrder cX12_wrongOrder 4 (some .int)) := by decide +kernel
theorem rd_f177 : rd_MF 177 (yX12_wrongOrder, cX12_wrongOrder, 4, (some .int)) 0 := ⟨(by decide +kernel), (by decide +kernel), (by decide +kernel), fun _ => ⟨(by decide +kernel), rd_tb_mem rd_w177 rfl, rd_tb_mem (p := 60) (by decide +kernel) rfl, (fun h => by cases h), (fun _ => ⟨rd_tb_mem (p := 1313) (by decide +kernel) rfl, rd_tb_mem (p := 40) (by decide +kernel) rfl, (by decide +kernel)⟩), (fun h => by cases h)⟩⟩
theorem rd_w178 : lw_tbl[1318]? = some (Cond.code yX12_meetsAny cX12_meetsAny 4 (some .boolean)) := by decide +kernel
theorem rd_f178 : rd_MF 178 (yX12_meetsAny, cX12_meetsAny, 4, (some .boolean)) 0 := ⟨(by decide +kernel), (by decide +kernel), (by decide +kernel), fun _ => ⟨(by decide +kernel), rd_tb_mem rd_w178 rfl, rd_tb_mem (p := 60) (by decide +kernel) rfl, (fun h => by cases h), (fun _ => ⟨rd_tb_mem (p := 1317) (by decide +kernel) rfl, rd_tb_mem (p := 41) (by decide +kernel) rfl, (by decide +kernel)⟩), (fun h => by cases h)⟩⟩
theorem rd_w179 : lw_tbl[1306]? = some (Cond.code yX12_verify cX12_verify 3 (some .int)) := by decide +kernel
theorem rd_f179 : rd_MF 179 (yX12_verify, cX12_verify, 3, (some .int)) 0 := ⟨(by decide +kernel), (by decide +kernel), (by decide +kernel), fun _ => ⟨(by decide +kernel), rd_tb_mem rd_w179 rfl, rd_tb_mem (p := 60) (by decide +kernel) rfl, (fun h => by cases h), (fun _ => ⟨rd_tb_mem (p := 1304) (by decide +kernel) rfl, rd_tb_mem (p := 1305) (by decide +kernel) rfl, (by decide +kernel)⟩), (fun h => by cases h)⟩⟩
theorem rd_w180 : lw_tbl[1322]? = some (Cond.code yX12_wrong cX12_wrong 3 (some .int)) := by decide +kernel
theorem rd_f180 : rd_MF 180 (yX12_wrong, cX12_wrong, 3, (some .int)) 0 := ⟨(by decide +kernel), (by decide +kernel), (by decide +kernel), fun _ => ⟨(by decide +kernel), rd_tb_mem rd_w180 rfl, rd_tb_mem (p := 60) (by decide +kernel) rfl, (fun h => by cases h), (fun _ => ⟨rd_tb_mem (p := 1320) (by decide +kernel) rfl, rd_tb_mem (p := 1321) (by decide +kernel) rfl, (by decide +kernel)⟩), (fun h => by cases h)⟩⟩
theorem rd_w181 : lw_tbl[1326]? = some (Cond.code yX12_cue cX12_cue 6 (some .int)) := by decide +kernel
theorem rd_f181 : rd_MF 181 (yX12_cue, cX12_cue, 6, (some .int)) 0 := ⟨(by decide +kernel), (by decide +kernel), (by decide +kernel), fun _ => ⟨(by decide +kernel), rd_tb_mem rd_w181 rfl, rd_tb_mem (p := 60) (by decide +kernel) rfl, (fun h => by cases h), (fun _ => ⟨rd_tb_mem (p := 1324) (by decide +kernel) rfl, rd_tb_mem (p := 1325) (by decide +kernel) rfl, (by decide +kernel)⟩), (fun h => by cases h)⟩⟩
theorem rd_w182 : lw_tbl[1330]? = some (Cond.code yX12_clear cX12_clear 2 (some .int)) := by decide +kernel
theorem rd_f182 : rd_MF 182 (yX12_clear, cX12_clear, 2, (some .int)) 0 := ⟨(by decide +kernel), (by decide +kernel), (by decide +kernel), fun _ => ⟨(by decide +kernel), rd_tb_mem rd_w182 rfl, rd_tb_mem (p := 60) (by decide +kernel) rfl, (fun h => by cases h), (fun _ => ⟨rd_tb_mem (p := 1328) (by decide +kernel) rfl, rd_tb_mem (p := 1329) (by decide +kernel) rfl, (by decide +kernel)⟩), (fun h => by cases h)⟩⟩
theorem rd_w183 : lw_tbl[1350]? = some (Cond.code yX12_nextFor cX12_nextFor 3 (some .int)) := by decide +kernel
theorem rd_f183 : rd_MF 183 (yX12_nextFor, cX12_nextFor, 3, (some .int)) 0 := ⟨(by decide +kernel), (by decide +kernel), (by decide +kernel), fun _ => ⟨(by decide +kernel), rd_tb_mem rd_w183 rfl, rd_tb_mem (p := 60) (by decide +kernel) rfl, (fun h => by cases h), (fun _ => ⟨rd_tb_mem (p := 1349) (by decide +kernel) rfl, rd_tb_mem (p := 45) (by decide +kernel) rfl, (by decide +kernel)⟩), (fun h => by cases h)⟩⟩
theorem rd_w184 : lw_tbl[1346]? = some (Cond.code yX12_callBy cX12_callBy 8 (some .int)) := by decide +kernel
theorem rd_f184 : rd_MF 184 (yX12_callBy, cX12_callBy, 8, (some .int)) 0 := ⟨(by decide +kernel), (by decide +kernel), (by decide +kernel), fun _ => ⟨(by decide +kernel), rd_tb_mem rd_w184 rfl, rd_tb_mem (p := 60) (by decide +kernel) rfl, (fun h => by cases h), (fun _ => ⟨rd_tb_mem (p := 1345) (by decide +kernel) rfl, rd_tb_mem (p := 44) (by decide +kernel) rfl, (by decide +kernel)⟩), (fun h => by cases h)⟩⟩
theorem rd_w185 : lw_tbl[1342]? = some (Cond.code yX12_done cX12_done 5 (some .int)) := by decide +kernel
theorem rd_f185 : rd_MF 185 (yX12_done, cX12_done, 5, (some .int)) 0 := ⟨(by decide +kernel), (by decide +kernel), (by decide +kernel), fun _ => ⟨(by decide +kernel), rd_tb_mem rd_w185 rfl, rd_tb_mem (p := 60) (by decide +kernel) rfl, (fun h => by cases h), (fun _ => ⟨rd_tb_mem (p := 1341) (by decide +kernel) rfl, rd_tb_mem (p := 43) (by decide +kernel) rfl, (by decide +kernel)⟩), (fun h => by cases h)⟩⟩
theorem rd_w186 : lw_tbl[1338]? = some (Cond.code yX12_comeTo cX12_comeTo 4 none) := by decide +kernel
theorem rd_f186 : rd_MF 186 (yX12_comeTo, cX12_comeTo, 4, none) 0 := ⟨(by decide +kernel), (by decide +kernel), (by decide +kernel), fun _ => ⟨(by decide +kernel), rd_tb_mem rd_w186 rfl, rd_tb_mem (p := 60) (by decide +kernel) rfl, (fun h => by cases h), (fun _ => ⟨rd_tb_mem (p := 1337) (by decide +kernel) rfl, rd_tb_mem (p := 42) (by decide +kernel) rfl, (by decide +kernel)⟩), (fun h => by cases h)⟩⟩
theorem rd_w187 : lw_tbl[1334]? = some (Cond.code yX12_run cX12_run 4 (some .int)) := by decide +kernel
theorem rd_f187 : rd_MF 187 (yX12_run, cX12_run, 4, (some .int)) 0 := ⟨(by decide +kernel), (by decide +kernel), (by decide +kernel), fun _ => ⟨(by decide +kernel), rd_tb_mem rd_w187 rfl, rd_tb_mem (p := 60) (by decide +kernel) rfl, (fun h => by cases h), (fun _ => ⟨rd_tb_mem (p := 1332) (by decide +kernel) rfl, rd_tb_mem (p := 1333) (by decide +kernel) rfl, (by decide +kernel)⟩), (fun h => by cases h)⟩⟩
theorem rd_w188 : lw_tbl[1354]? = some (Cond.code yX12_desk cX12_desk 2 (some .int)) := by decide +kernel
theorem rd_f188 : rd_MF 188 (yX12_desk, cX12_desk, 2, (some .int)) 0 := ⟨(by decide +kernel), (by decide +kernel), (by decide +kernel), fun _ => ⟨(by decide +kernel), rd_tb_mem rd_w188 rfl, rd_tb_mem (p := 60) (by decide +kernel) rfl, (fun h => by cases h), (fun _ => ⟨rd_tb_mem (p := 1352) (by decide +kernel) rfl, rd_tb_mem (p := 1353) (by decide +kernel) rfl, (by decide +kernel)⟩), (fun h => by cases h)⟩⟩
theorem rd_w189 : lw_tbl[1358]? = some (Cond.code yX12_told cX12_told 2 (some .int)) := by decide +kernel
theorem rd_f189 : rd_MF 189 (yX12_told, cX12_told, 2, (some .int)) 0 := ⟨(by decide +kernel), (by decide +kernel), (by decide +kernel), fun _ => ⟨(by decide +kernel), rd_tb_mem rd_w189 rfl, rd_tb_mem (p := 60) (by decide +kernel) rfl, (fun h => by cases h), (fun _ => ⟨rd_tb_mem (p := 1356) (by decide +kernel) rfl, rd_tb_mem (p := 1357) (by decide +kernel) rfl, (by decide +kernel)⟩), (fun h => by cases h)⟩⟩
theorem rd_w190 : lw_tbl[1362]? = some (Cond.code yX12_count cX12_count 2 (some .int)) := by decide +kernel
theorem rd_f190 : rd_MF 190 (yX12_count, cX12_count, 2, (some .int)) 0 := ⟨(by decide +kernel), (by decide +kernel), (by decide +kernel), fun _ => ⟨(by decide +kernel), rd_tb_mem rd_w190 rfl, rd_tb_mem (p := 60) (by decide +kernel) rfl, (fun h => by cases h), (fun _ => ⟨rd_tb_mem (p := 1360) (by decide +kernel) rfl, rd_tb_mem (p := 1361) (by decide +kernel) rfl, (by decide +kernel)⟩), (fun h => by cases h)⟩⟩
theorem rd_w191 : lw_tbl[1366]? = some (Cond.code yX12_forget cX12_forget 3 (some .int)) := by decide +kernel
theorem rd_f191 : rd_MF 191 (yX12_forget, cX12_forget, 3, (some .int)) 0 := ⟨(by decide +kernel), (by decide +kernel), (by decide +kernel), fun _ => ⟨(by decide +kernel), rd_tb_mem rd_w191 rfl, rd_tb_mem (p := 60) (by decide +kernel) rfl, (fun h => by cases h), (fun _ => ⟨rd_tb_mem (p := 1364) (by decide +kernel) rfl, rd_tb_mem (p := 1365) (by decide +kernel) rfl, (by decide +kernel)⟩), (fun h => by cases h)⟩⟩
theorem rd_f192 : rd_MF 192 (yJ9_min_7cf53, cJ9_min_7cf53, 2, (some .int)) 3 := ⟨(by decide +kernel), (by decide +kernel), (by decide +kernel), fun h => absurd rfl h⟩
theorem rd_w193 : lw_tbl[364]? = some (Cond.code yJ7_fill_53178 cJ7_fill_53178 4 none) := by decide +kernel
theorem rd_f193 : rd_MF 193 (yJ7_fill_53178, cJ7_fill_53178, 4, none) 1 := ⟨(by decide +kernel), (by decide +kernel), (by decide +kernel), fun _ => ⟨(by decide +kernel), rd_tb_mem rd_w193 rfl, rd_tb_mem (p := 59) (by decide +kernel) rfl, (fun _ => rd_tb_mem (p := 363) (by decide +kernel) rfl), (fun h => by cases h), (fun h => by cases h)⟩⟩
theorem rd_f194 : rd_MF 194 (yL_law, cL_law, 4, (some .boolean)) 3 := ⟨(by decide +kernel), (by decide +kernel), (by decide +kernel), fun h => absurd rfl h⟩
def rd_fz : Nat → List rd_M → List (Nat × Nat × Nat × Nat × Nat) → Prop
  | k, m :: ms, q :: qs => rd_MF k m q.2.2.2.2 ∧ rd_fz (k + 1) ms qs
  | _, [], _ => True
  | _, _ :: _, [] => False
theorem rd_fz_ok : rd_fz 0 rd_mt rd_mp := ⟨rd_f0, rd_f1, rd_f2, rd_f3, rd_f4, rd_f5, rd_f6, rd_f7, rd_f8, rd_f9, rd_f10, rd_f11, rd_f12, rd_f13, rd_f14, rd_f15, rd_f16, rd_f17, rd_f18, rd_f19, rd_f20, rd_f21, rd_f22, rd_f23, rd_f24, rd_f25, rd_f26, rd_f27, rd_f28, rd_f29, rd_f30, rd_f31, rd_f32, rd_f33, rd_f34, rd_f35, rd_f36, rd_f37, rd_f38, rd_f39, rd_f40, rd_f41, rd_f42, rd_f43, rd_f44, rd_f45, rd_f46, rd_f47, rd_f48, rd_f49, rd_f50, rd_f51, rd_f52, rd_f53, rd_f54, rd_f55, rd_f56, rd_f57, rd_f58, rd_f59, rd_f60, rd_f61, rd_f62, rd_f63, rd_f64, rd_f65, rd_f66, rd_f67, rd_f68, rd_f69, rd_f70, rd_f71, rd_f72, rd_f73, rd_f74, rd_f75, rd_f76, rd_f77, rd_f78, rd_f79, rd_f80, rd_f81, rd_f82, rd_f83, rd_f84, rd_f85, rd_f86, rd_f87, rd_f88, rd_f89, rd_f90, rd_f91, rd_f92, rd_f93, rd_f94, rd_f95, rd_f96, rd_f97, rd_f98, rd_f99, rd_f100, rd_f101, rd_f102, rd_f103, rd_f104, rd_f105, rd_f106, rd_f107, rd_f108, rd_f109, rd_f110, rd_f111, rd_f112, rd_f113, rd_f114, rd_f115, rd_f116, rd_f117, rd_f118, rd_f119, rd_f120, rd_f121, rd_f122, rd_f123, rd_f124, rd_f125, rd_f126, rd_f127, rd_f128, rd_f129, rd_f130, rd_f131, rd_f132, rd_f133, rd_f134, rd_f135, rd_f136, rd_f137, rd_f138, rd_f139, rd_f140, rd_f141, rd_f142, rd_f143, rd_f144, rd_f145, rd_f146, rd_f147, rd_f148, rd_f149, rd_f150, rd_f151, rd_f152, rd_f153, rd_f154, rd_f155, rd_f156, rd_f157, rd_f158, rd_f159, rd_f160, rd_f161, rd_f162, rd_f163, rd_f164, rd_f165, rd_f166, rd_f167, rd_f168, rd_f169, rd_f170, rd_f171, rd_f172, rd_f173, rd_f174, rd_f175, rd_f176, rd_f177, rd_f178, rd_f179, rd_f180, rd_f181, rd_f182, rd_f183, rd_f184, rd_f185, rd_f186, rd_f187, rd_f188, rd_f189, rd_f190, rd_f191, rd_f192, rd_f193, rd_f194, trivial⟩
theorem rd_fz_at : ∀ (ms : List rd_M) (qs : List (Nat × Nat × Nat × Nat × Nat)) (k0 k : Nat) (m : rd_M), rd_fz k0 ms qs → rd_nth ms k = some m → ∃ q, rd_nth qs k = some q ∧ rd_MF (k0 + k) m q.2.2.2.2 := by
  intro ms
  induction ms with
  | nil => intro qs k0 k m _ h; cases h
  | cons a ms ih =>
    intro qs k0 k m hz h
    cases qs with
    | nil => exact hz.elim
    | cons q qs =>
      obtain ⟨h1, h2⟩ := hz
      cases k with
      | zero => rw [rd_nth] at h; cases h; exact ⟨q, rfl, h1⟩
      | succ k =>
        rw [rd_nth] at h
        obtain ⟨q', h3, h4⟩ := ih qs (k0 + 1) k m h2 h
        refine ⟨q', by rw [rd_nth]; exact h3, ?_⟩
        rwa [show k0 + 1 + k = k0 + (k + 1) by omega] at h4
/-- what the tables say of a method -/
theorem rd_mfact {k : Nat} {y : MethodName} {b : ByteArray} {L : Nat} {ret : Option FieldType} (hm : rd_nth rd_mt k = some (y, b, L, ret)) : rd_nth rd_cn (rd_at rd_oc k) = some y.cls ∧ (y.cls ≠ "java/lang/invoke/MethodHandle" ∧ y.cls ≠ "java/lang/invoke/VarHandle") ∧ (parseMethodDescriptor y.desc).map (fun d => d.parameters.length) = some (rd_at rd_np k) ∧ L = rd_mL k ∧
    (rd_mi k ≠ 3 → plainName y.cls = true ∧ Cond.code y b L ret ∈ rd_tb ∧ Cond.initialized y.cls ∈ rd_tb ∧ (rd_mi k = 1 → Cond.static y ∈ rd_tb) ∧ (rd_mi k = 0 → Cond.instanceMethod y ∈ rd_tb ∧ Cond.selects y.cls y y ∈ rd_tb ∧ rd_nth (vwCl.map (fun q => q.1)) (rd_at rd_oc k) = some y.cls) ∧ (rd_mi k = 2 → Cond.instanceMethod y ∈ rd_tb ∧ y.name = "<init>" ∧ ret = none)) := by
  obtain ⟨q, h1, h2⟩ := rd_fz_at rd_mt rd_mp 0 k (y, b, L, ret) rd_fz_ok hm
  rw [show 0 + k = k by omega] at h2
  have hmi : rd_mi k = q.2.2.2.2 := by
    unfold rd_mi
    rw [h1]
  rw [hmi]
  obtain ⟨g1, g2, g3, g4⟩ := h2
  have gc := rd_cn_ok _ (rd_nth_mem g1)
  exact ⟨g1, gc, g2, g3, fun h => ⟨rd_cn_pl _ (rd_nth_mem g1) (g4 h).1, (g4 h).2⟩⟩
end
section
/-! The world of the small machine as the kit's world; locals; the words. -/
def rd_lim : Nat → Int32 := fun j => match rd_nth ([0, 7, -2147483648, 2147483647, -2147483648, 2147483647, 0, 7, 0, 7, -2147483648, 2147483647, 0, 3, -1, 23, -2147483648, 2147483647, 0, 3, 0, 7, -2147483648, 2147483647, 0, 60, -2147483648, 2147483647, -2147483648, 2147483647, 0, 7, 0, 7, 0, 60, 1, 59, 0, 60, -2147483648, 2147483647, 0, 11, -2147483648, 2147483647, -2147483648, 2147483647, 0, 3, 0, 3, 0, 7, 0, 7, -2147483648, 2147483647, -2147483648, 2147483647] : List Int32) j with
  | some x => x
  | none => 0
def rd_ro (ρ : Nat × (Nat → Int32)) : Nat → Option (Nat × (Nat → Int32)) := fun c => if c = 100000 then some (60, rd_lim) else if c = 100001 then some ρ else none
def rd_cv (ad : Nat → Nat) : Value → Value
  | .ref a => .ref (ad a)
  | v => v
def rd_fv (ad : Nat → Nat) (x : Int32) : Option Value → Value
  | none => .int x
  | some v => rd_cv ad v
def rd_fs (ad : Nat → Nat) (f : Nat → Int32) : Nat → List (Option Value) → List Value
  | _, [] => []
  | j, o :: ks => rd_fv ad (f j) o :: rd_fs ad f (j + 1) ks
def rd_el (cI cZ : ClassId) (ad : Nat → Nat) (f : Nat → Int32) : rd_Sh → va_E
  | .inl (n, b) => .inl (if b = true then cZ else cI, n, .inl f)
  | .inr (ci, ks) => .inr (ci, rd_fs ad f 0 ks)
def rd_wd (cI cZ : ClassId) (ad : Nat → Nat) (σ : rd_Sg) : Nat → List rd_Sh → va_W
  | _, [] => []
  | c, sh :: S => (ad c, rd_el cI cZ ad (σ c) sh) :: rd_wd cI cZ ad σ (c + 1) S
theorem rd_nth_get {α : Type} : ∀ (l : List α) (i : Nat), rd_nth l i = l[i]? := by
  intro l
  induction l with
  | nil => intro i; simp [rd_nth]
  | cons a l ih =>
    intro i
    cases i with
    | zero => simp [rd_nth]
    | succ i => simp [rd_nth, ih]
theorem rd_wd_at (cI cZ : ClassId) (ad : Nat → Nat) (σ : rd_Sg) : ∀ (S : List rd_Sh) (c0 q : Nat), (rd_wd cI cZ ad σ c0 S)[q]? = (rd_nth S q).map (fun sh => (ad (c0 + q), rd_el cI cZ ad (σ (c0 + q)) sh)) := by
  intro S
  induction S with
  | nil => intro c0 q; simp [rd_wd, rd_nth]
  | cons sh S ih =>
    intro c0 q
    cases q with
    | zero => simp [rd_wd, rd_nth]
    | succ q =>
      rw [rd_wd, List.getElem?_cons_succ, ih, rd_nth, show c0 + 1 + q = c0 + (q + 1) by omega]
theorem rd_wd_0 {cI cZ : ClassId} {ad : Nat → Nat} {σ : rd_Sg} {S : List rd_Sh} {q : Nat} {sh : rd_Sh} (h : rd_nth S q = some sh) : (rd_wd cI cZ ad σ 0 S)[q]? = some (ad q, rd_el cI cZ ad (σ q) sh) := by
  rw [rd_wd_at, h]; simp
theorem rd_fs_at (ad : Nat → Nat) (f : Nat → Int32) : ∀ (ks : List (Option Value)) (j0 k : Nat), (rd_fs ad f j0 ks)[k]? = (rd_nth ks k).map (fun o => rd_fv ad (f (j0 + k)) o) := by
  intro ks
  induction ks with
  | nil => intro j0 k; simp [rd_fs, rd_nth]
  | cons o ks ih =>
    intro j0 k
    cases k with
    | zero => simp [rd_fs, rd_nth]
    | succ k => rw [rd_fs, List.getElem?_cons_succ, ih, rd_nth, show j0 + 1 + k = j0 + (k + 1) by omega]
theorem rd_wd_set {cI cZ : ClassId} {ad : Nat → Nat} {σ σ' : rd_Sg} {S : List rd_Sh} {q : Nat} {sh : rd_Sh} (h : rd_nth S q = some sh) (ho : ∀ c, c ≠ q → σ' c = σ c) : (rd_wd cI cZ ad σ 0 S).set q (ad q, rd_el cI cZ ad (σ' q) sh) = rd_wd cI cZ ad σ' 0 S := by
  apply List.ext_getElem?
  intro i
  rw [List.getElem?_set, rd_wd_at, rd_wd_at]
  have hlt : q < (rd_wd cI cZ ad σ 0 S).length := by
    have := rd_wd_0 (cI := cI) (cZ := cZ) (ad := ad) (σ := σ) h
    exact (List.getElem?_eq_some_iff.mp this).1
  by_cases hi : q = i
  · subst hi
    rw [if_pos rfl, if_pos hlt, h]; simp
  · rw [if_neg hi]
    have : σ' (0 + i) = σ (0 + i) := ho _ (by omega)
    rw [this]
theorem rd_fs_set {ad : Nat → Nat} {f f' : Nat → Int32} {ks : List (Option Value)} {sl : Nat} {x : Int32} (h : rd_nth ks sl = some none) (h1 : f' sl = x) (h2 : ∀ j, j ≠ sl → f' j = f j) : (rd_fs ad f 0 ks).set sl (.int x) = rd_fs ad f' 0 ks := by
  apply List.ext_getElem?
  intro i
  rw [List.getElem?_set, rd_fs_at, rd_fs_at]
  have hlt : sl < (rd_fs ad f 0 ks).length := by
    have : (rd_fs ad f 0 ks)[sl]? = some (.int (f (0 + sl))) := by rw [rd_fs_at, h]; rfl
    exact (List.getElem?_eq_some_iff.mp this).1
  by_cases hi : sl = i
  · subst hi
    rw [if_pos rfl, if_pos hlt, h]
    simp [rd_fv, h1]
  · rw [if_neg hi]
    rw [h2 (0 + i) (by omega)]
theorem rd_u_c {σ : rd_Sg} {c j : Nat} {x : Int32} : rd_u σ c j x c = upd (σ c) j x := by
  funext q
  simp [rd_u, upd]
theorem rd_u_o {σ : rd_Sg} {c j : Nat} {x : Int32} : ∀ c', c' ≠ c → rd_u σ c j x c' = σ c' := by
  intro c' h
  funext q
  simp [rd_u, h]
theorem rd_uc_c {σ : rd_Sg} {c : Nat} {f : Nat → Int32} : rd_uc σ c f c = f := by
  funext q
  simp [rd_uc]
theorem rd_uc_o {σ : rd_Sg} {c : Nat} {f : Nat → Int32} : ∀ c', c' ≠ c → rd_uc σ c f c' = σ c' := by
  intro c' h
  funext q
  simp [rd_uc, h]
/-! what never changes -/
def rd_X (ad : Nat → Nat) (base : Nat) (ρ : Nat × (Nat → Int32)) (s : State) (H : Heap) : Prop :=
  va_Z "RehearsalDesk$Cues" "LIMITS" "[I" (.ref (ad 100000)) (fun q => base ≤ q) s H ∧ va_X (ad 100000) 60 rd_lim s H ∧ va_X (ad 100001) ρ.1 ρ.2 s H ∧ ad 100000 < base ∧ ad 100001 < base ∧ base ≤ H.size
def rd_In (D : va_G) (cI cZ : ClassId) (ad : Nat → Nat) (base : Nat) (ρ : Nat × (Nat → Int32)) (s : State) : Prop :=
  va_K D vwCl [(cI, .int), (cZ, .boolean)] s ∧ rd_X ad base ρ s s.heap
def rd_Hp (D : va_G) (cI cZ : ClassId) (ad : Nat → Nat) (base : Nat) (S : List rd_Sh) (s : State) (H : Heap) (locs : List Loc) (σ : rd_Sg) : Prop :=
  va_P D vwCl (rd_wd cI cZ ad σ 0 S) H ∧ va_D (fun q => base ≤ q) (rd_wd cI cZ ad σ 0 S) ∧ va_S (fun q => base ≤ q) s.heap H locs
theorem rd_X.moved {ad : Nat → Nat} {base : Nat} {ρ : Nat × (Nat → Int32)} {s u : State} {H : Heap} (hvm : s.vm.Alike u.vm) (h : rd_X ad base ρ s H) : rd_X ad base ρ u H :=
  ⟨h.1.moved hvm, h.2.1.moved hvm, h.2.2.1.moved hvm, h.2.2.2⟩
theorem rd_X.kept {ad : Nat → Nat} {base : Nat} {ρ : Nat × (Nat → Int32)} {s : State} {H H1 : Heap} {locs : List Loc} (h : rd_X ad base ρ s H) (hS : va_S (fun q => base ≤ q) H H1 locs) : rd_X ad base ρ s H1 := by
  obtain ⟨h1, h2, h3, h4, h5, h6⟩ := h
  refine ⟨h1.kept (fun a ha hn => hS.2.1 a ha hn), h2.kept (hS.2.1 _ (by omega) (by omega)), h3.kept (hS.2.1 _ (by omega) (by omega)), h4, h5, Nat.le_trans h6 hS.1⟩
/-! locals -/
def rd_Ls (ad : Nat → Nat) (ls : Array Slot) (nL : Nat) (vs : rd_Lv) : Prop :=
  ls.size = nL ∧ lv_wf ls ∧ vs.length ≤ nL ∧ ∀ (j : Nat) (v : Value), rd_nth vs j = some (some v) → rd_one v = true ∧ ls[j]? = some (.val (rd_cv ad v))
def rd_ps (ad : Nat → Nat) : Nat → rd_Lv → List (Nat × Value)
  | _, [] => []
  | j, none :: l => rd_ps ad (j + 1) l
  | j, some v :: l => (j, rd_cv ad v) :: rd_ps ad (j + 1) l
theorem rd_ps_mem {ad : Nat → Nat} {q : Nat × Value} : ∀ (vs : rd_Lv) (j0 : Nat), q ∈ rd_ps ad j0 vs ↔ ∃ (j : Nat) (v : Value), rd_nth vs j = some (some v) ∧ q = (j0 + j, rd_cv ad v) := by
  intro vs
  induction vs with
  | nil => intro j0; simp [rd_ps, rd_nth]
  | cons o l ih =>
    intro j0
    cases o with
    | none =>
      rw [rd_ps, ih]
      constructor
      · rintro ⟨j, v, h1, h2⟩; exact ⟨j + 1, v, by rw [rd_nth]; exact h1, by rw [h2]; congr 1; omega⟩
      · rintro ⟨j, v, h1, h2⟩
        cases j with
        | zero => rw [rd_nth] at h1; cases h1
        | succ j => exact ⟨j, v, by rw [rd_nth] at h1; exact h1, by rw [h2]; congr 1; omega⟩
    | some w =>
      rw [rd_ps, List.mem_cons, ih]
      constructor
      · rintro (h | ⟨j, v, h1, h2⟩)
        · exact ⟨0, w, rfl, h⟩
        · exact ⟨j + 1, v, by rw [rd_nth]; exact h1, by rw [h2]; congr 1; omega⟩
      · rintro ⟨j, v, h1, h2⟩
        cases j with
        | zero => rw [rd_nth] at h1; cases h1; exact Or.inl h2
        | succ j => exact Or.inr ⟨j, v, by rw [rd_nth] at h1; exact h1, by rw [h2]; congr 1; omega⟩
theorem rd_one_cat {v : Value} (h : rd_one v = true) : v.category = 1 := by
  cases v <;> first | rfl | cases h
theorem rd_cv_one {ad : Nat → Nat} {v : Value} (h : rd_one v = true) : rd_one (rd_cv ad v) = true := by
  cases v <;> first | rfl | cases h
theorem rd_Ls.has {ad : Nat → Nat} {ls : Array Slot} {nL : Nat} {vs : rd_Lv} (h : rd_Ls ad ls nL vs) : lv_has ls nL (rd_ps ad 0 vs) := by
  refine ⟨h.1, h.2.1, fun q hq => ?_⟩
  obtain ⟨j, v, h1, rfl⟩ := (rd_ps_mem vs 0).mp hq
  simpa using (h.2.2.2 j v h1).2
theorem rd_lv_some {vs : rd_Lv} {j : Nat} {v : Value} (h : rd_lv vs j = some v) : rd_nth vs j = some (some v) := by
  unfold rd_lv at h
  split at h
  · rename_i w hw
    cases h; exact hw
  · cases h
theorem rd_Ls.at {ad : Nat → Nat} {ls : Array Slot} {nL : Nat} {vs : rd_Lv} {j : Nat} {v : Value} (h : rd_Ls ad ls nL vs) (hv : rd_lv vs j = some v) : ls[j]? = some (.val (rd_cv ad v)) := (h.2.2.2 j v (rd_lv_some hv)).2
theorem rd_set_spec : ∀ {vs vs' : rd_Lv} {j : Nat} {v : Value}, rd_set vs j v = some vs' → j < vs.length ∧ vs'.length = vs.length ∧ ∀ i, rd_nth vs' i = if i = j then some (some v) else rd_nth vs i := by
  intro vs
  induction vs with
  | nil => intro vs' j v h; cases h
  | cons a l ih =>
    intro vs' j v h
    cases j with
    | zero =>
      rw [rd_set] at h
      cases h
      refine ⟨by simp, by simp, fun i => ?_⟩
      cases i with
      | zero => simp [rd_nth]
      | succ i => simp [rd_nth]
    | succ j =>
      rw [rd_set] at h
      cases hs : rd_set l j v with
      | none => rw [hs] at h; cases h
      | some l' =>
        rw [hs] at h
        cases h
        obtain ⟨h1, h2, h3⟩ := ih hs
        refine ⟨by simp; omega, by simp [h2], fun i => ?_⟩
        cases i with
        | zero => simp [rd_nth]
        | succ i => simp [rd_nth, h3]
theorem rd_Ls.put {ad : Nat → Nat} {ls : Array Slot} {nL : Nat} {vs vs' : rd_Lv} {j : Nat} {v : Value} (h : rd_Ls ad ls nL vs) (hv : rd_one v = true) (hs : rd_set vs j v = some vs') {ls' : Array Slot} (h' : lv_has ls' nL ((j, rd_cv ad v) :: (rd_ps ad 0 vs).filter (fun q => !(q.1 == j) && !(q.1 + 1 == j && q.2.category == 2)))) : rd_Ls ad ls' nL vs' := by
  obtain ⟨h1, h2, h3⟩ := rd_set_spec hs
  refine ⟨h'.1, h'.2.1, by rw [h2]; exact h.2.2.1, fun i w hi => ?_⟩
  rw [h3] at hi
  by_cases hij : i = j
  · subst hij
    rw [if_pos rfl] at hi
    cases hi
    exact ⟨hv, h'.2.2 _ List.mem_cons_self⟩
  · rw [if_neg hij] at hi
    have hw := (h.2.2.2 i w hi).1
    refine ⟨hw, h'.2.2 (i, rd_cv ad w) (List.mem_cons_of_mem _ (List.mem_filter.mpr ⟨(rd_ps_mem vs 0).mpr ⟨i, w, hi, by simp⟩, ?_⟩))⟩
    have hc : (rd_cv ad w).category = 1 := rd_one_cat (rd_cv_one hw)
    simp [hij, hc]
/-! words -/
theorem rd_all_at {α : Type} {l : List α} {f : α → Bool} (h : l.all f = true) {i : Nat} {a : α} (hi : rd_nth l i = some a) : f a = true := List.all_eq_true.mp h a (rd_nth_mem hi)
theorem rd_beq {a b : Nat} (h : Nat.beq a b = true) : a = b := Nat.eq_of_beq_eq_true h
theorem rd_nx_of {k t : Nat} {p : Int} (h : rd_nx k t p = true) : ∃ q : Nat, rd_pc k t = some q ∧ p = (q : Int) := by
  unfold rd_nx at h
  cases hq : rd_pc k t with
  | none => rw [hq] at h; cases h
  | some q => rw [hq] at h; exact ⟨q, rfl, of_decide_eq_true h⟩
theorem rd_nx_nat {k t p : Nat} (h : rd_nx k t (p : Int) = true) : rd_pc k t = some p := by
  obtain ⟨q, h1, h2⟩ := rd_nx_of h
  rw [h1]; congr 1; omega
theorem rd_nth_lt {α : Type} : ∀ {l : List α} {i : Nat} {a : α}, rd_nth l i = some a → i < l.length := by
  intro l i a h
  rw [rd_nth_get] at h
  exact (List.getElem?_eq_some_iff.mp h).1
/-- what the tables say of a class -/
theorem rd_cls_0 : ∀ w ∈ u_ws RX0 TX0 11, w ∈ rd_tb := by decide +kernel
theorem rd_cls_1 : ∀ w ∈ u_ws RX1 TX1 5, w ∈ rd_tb := by decide +kernel
theorem rd_cls_2 : ∀ w ∈ u_ws RX2 TX2 10, w ∈ rd_tb := by decide +kernel
theorem rd_cls_3 : ∀ w ∈ u_ws RX3 TX3 8, w ∈ rd_tb := by decide +kernel
theorem rd_cls_4 : ∀ w ∈ u_ws RX4 TX4 5, w ∈ rd_tb := by decide +kernel
theorem rd_cls_5 : ∀ w ∈ u_ws RX5 TX5 10, w ∈ rd_tb := by decide +kernel
theorem rd_cls_6 : ∀ w ∈ u_ws RX6 TX6 9, w ∈ rd_tb := by decide +kernel
theorem rd_cls_7 : ∀ w ∈ u_ws RX7 TX7 8, w ∈ rd_tb := by decide +kernel
theorem rd_cls_8 : ∀ w ∈ u_ws RX8 TX8 6, w ∈ rd_tb := by decide +kernel
theorem rd_cls_9 : ∀ w ∈ u_ws RX9 TX9 4, w ∈ rd_tb := by decide +kernel
theorem rd_cls_10 : ∀ w ∈ u_ws RX10 TX10 2, w ∈ rd_tb := by decide +kernel
theorem rd_cls_11 : ∀ w ∈ u_ws RX11 TX11 9, w ∈ rd_tb := by decide +kernel
theorem rd_cls_12 : ∀ w ∈ u_ws RX12 TX12 59, w ∈ rd_tb := by decide +kernel
theorem rd_cfact {ci : Nat} {C : String} {T : u_T} {n : Nat} (h : rd_nth vwCl ci = some (C, T, n)) : (∀ w ∈ u_ws C T n, w ∈ rd_tb) ∧ ∃ ty : Nat → FieldType, (∀ k, k < n → parseFieldDescriptor (T k).2.2.1 = some (ty k)) ∧ ∀ a, a < n → ∀ b, b < n → a ≠ b → (T a).2.1 ≠ (T b).2.1 := by
  match ci, h with
  | 0, h => cases h; exact ⟨rd_cls_0, tyX0, tyX0_ok, nmX0⟩
  | 1, h => cases h; exact ⟨rd_cls_1, tyX1, tyX1_ok, nmX1⟩
  | 2, h => cases h; exact ⟨rd_cls_2, tyX2, tyX2_ok, nmX2⟩
  | 3, h => cases h; exact ⟨rd_cls_3, tyX3, tyX3_ok, nmX3⟩
  | 4, h => cases h; exact ⟨rd_cls_4, tyX4, tyX4_ok, nmX4⟩
  | 5, h => cases h; exact ⟨rd_cls_5, tyX5, tyX5_ok, nmX5⟩
  | 6, h => cases h; exact ⟨rd_cls_6, tyX6, tyX6_ok, nmX6⟩
  | 7, h => cases h; exact ⟨rd_cls_7, tyX7, tyX7_ok, nmX7⟩
  | 8, h => cases h; exact ⟨rd_cls_8, tyX8, tyX8_ok, nmX8⟩
  | 9, h => cases h; exact ⟨rd_cls_9, tyX9, tyX9_ok, nmX9⟩
  | 10, h => cases h; exact ⟨rd_cls_10, tyX10, tyX10_ok, nmX10⟩
  | 11, h => cases h; exact ⟨rd_cls_11, tyX11, tyX11_ok, nmX11⟩
  | 12, h => cases h; exact ⟨rd_cls_12, tyX12, tyX12_ok, nmX12⟩
  | ci + 13, h => cases h
/-- a field link's word -/
theorem rd_flfact {f oc idx ci sl : Nat} {own : String} (h : rd_flis f oc idx ci sl = true) (ho : rd_nth rd_cn oc = some own) (hs : sl ≠ 999) : ∃ (C : String) (T : u_T) (n : Nat), rd_nth vwCl ci = some (C, T, n) ∧ sl < n ∧ Cond.fieldLink own idx (T sl).1 (T sl).2.1 (T sl).2.2.1 ∈ rd_tb := by
  unfold rd_flis at h
  cases hf : rd_nth rd_fl f with
  | none => rw [hf] at h; cases h
  | some q =>
    obtain ⟨a, b, c, d, p⟩ := q
    rw [hf] at h
    simp only [Bool.and_eq_true] at h
    obtain ⟨⟨⟨h1, h2⟩, h3⟩, h4⟩ := h
    cases rd_beq h1; cases rd_beq h2; cases rd_beq h3; cases rd_beq h4
    have hc := rd_all_at rd_fl_ok hf
    unfold rd_flc at hc
    dsimp only at hc
    rw [ho] at hc
    cases hv : rd_nth vwCl ci with
    | none => rw [hv] at hc; cases hc
    | some z =>
      obtain ⟨C, T, n⟩ := z
      rw [hv] at hc
      dsimp only at hc
      rw [if_neg hs] at hc
      simp only [Bool.and_eq_true, decide_eq_true_eq] at hc
      exact ⟨C, T, n, rfl, Nat.le_of_ble_eq_true hc.1, rd_tb_mem hc.2 rfl⟩
theorem rd_flstat {f oc idx ci : Nat} {own : String} (h : rd_flis f oc idx ci 999 = true) (ho : rd_nth rd_cn oc = some own) : Cond.fieldLink own idx "RehearsalDesk$Cues" "LIMITS" "[I" ∈ rd_tb := by
  unfold rd_flis at h
  cases hf : rd_nth rd_fl f with
  | none => rw [hf] at h; cases h
  | some q =>
    obtain ⟨a, b, c, d, p⟩ := q
    rw [hf] at h
    simp only [Bool.and_eq_true] at h
    obtain ⟨⟨⟨h1, h2⟩, h3⟩, h4⟩ := h
    cases rd_beq h1; cases rd_beq h2; cases rd_beq h3; cases rd_beq h4
    have hc := rd_all_at rd_fl_ok hf
    unfold rd_flc at hc
    dsimp only at hc
    rw [ho] at hc
    cases hv : rd_nth vwCl ci with
    | none => rw [hv] at hc; cases hc
    | some z =>
      rw [hv] at hc
      dsimp only at hc
      rw [if_pos rfl] at hc
      simp only [Bool.and_eq_true, decide_eq_true_eq] at hc
      exact rd_tb_mem hc.2 rfl
theorem rd_mlfact {q oc idx k2 : Nat} {own : String} (h : rd_mlis q oc idx k2 = true) (ho : rd_nth rd_cn oc = some own) : (k2 = 1000 → Cond.methodLink own idx arraycopyName ∈ rd_tb) ∧ (k2 = 1001 → Cond.methodLink own idx Lib.Math.min.name ∈ rd_tb) ∧ (k2 = 2000 → Cond.methodLink own idx objectInit ∈ rd_tb) ∧ (k2 ≠ 1000 → k2 ≠ 1001 → k2 ≠ 2000 → ∃ (y : MethodName) (b : ByteArray) (L : Nat) (ret : Option FieldType), rd_nth rd_mt k2 = some (y, b, L, ret) ∧ Cond.methodLink own idx y ∈ rd_tb) := by
  unfold rd_mlis at h
  cases hf : rd_nth rd_ml q with
  | none => rw [hf] at h; cases h
  | some z =>
    obtain ⟨a, b, c, p⟩ := z
    rw [hf] at h
    simp only [Bool.and_eq_true] at h
    obtain ⟨⟨h1, h2⟩, h3⟩ := h
    cases rd_beq h1; cases rd_beq h2; cases rd_beq h3
    have hc := rd_all_at rd_ml_ok hf
    unfold rd_mlc at hc
    dsimp only at hc
    rw [ho] at hc
    dsimp only at hc
    refine ⟨fun e => ?_, fun e => ?_, fun e => ?_, fun e1 e3 e2 => ?_⟩
    · rw [if_pos e] at hc; exact rd_tb_mem (of_decide_eq_true hc) rfl
    · rw [if_neg (by omega), if_pos e] at hc; exact rd_tb_mem (of_decide_eq_true hc) rfl
    · rw [if_neg (by omega), if_neg (by omega), if_pos e] at hc; exact rd_tb_mem (of_decide_eq_true hc) rfl
    · rw [if_neg e1, if_neg e3, if_neg e2] at hc
      cases hm : rd_nth rd_mt k2 with
      | none => rw [hm] at hc; cases hc
      | some w =>
        obtain ⟨y, b, L, ret⟩ := w
        rw [hm] at hc
        exact ⟨y, b, L, ret, rfl, rd_tb_mem (of_decide_eq_true hc) rfl⟩
/-- a method's words for a contract -/
def rd_ws (y : MethodName) (b : ByteArray) (L : Nat) (ret : Option FieldType) : List Cond := Cond.code y b L ret :: rd_tb
theorem rd_goodIn {y : MethodName} {b : ByteArray} {L : Nat} {ret : Option FieldType} (h : Cond.code y b L ret ∈ rd_tb) : GoodIn rd_tb (rd_ws y b L ret) := by
  intro w hw
  have hm : w ∈ rd_tb := by
    rcases List.mem_cons.mp hw with e | e
    · rw [e]; exact h
    · exact e
  exact ⟨hm, good_of_word (List.mem_filter.mp hm).2⟩
end
section
/-! One step of the small machine is the machine's. -/
/-- the frame that runs method k -/
def rd_Fr (p : Program) (R : Room) (s : State) (m : MethodId) (args : Array Value) (c : Code) (k : Nat) : Prop :=
  ∃ (y : MethodName) (b : ByteArray) (L : Nat) (ret : Option FieldType) (fr mc ms lo : Nat), rd_nth rd_mt k = some (y, b, L, ret) ∧ p.tables.exec = Jvm.exec ∧ c.code = b ∧ c.maxLocals = L ∧ s.vm.findClass y.cls = some m.cls ∧ (∀ w ∈ rd_tb, w.before args s = true) ∧ rd_nth rd_rm k = some (fr, mc, ms, lo) ∧ fr ≤ R.frames ∧ lo ≤ R.locals
theorem rd_sw_at {x : Int32} : ∀ (ts : List Nat) (lo : Int) (d : Nat), -2147483648 ≤ lo → lo + ts.length ≤ 2147483648 → rd_sw x lo ts d = if x.toInt < lo ∨ lo + ts.length ≤ x.toInt then d else (rd_nth ts (x.toInt - lo).toNat).getD d := by
  intro ts
  induction ts with
  | nil =>
    intro lo d h1 h2
    rw [rd_sw, if_pos]
    simp
    omega
  | cons t ts ih =>
    intro lo d h1 h2
    simp only [List.length_cons] at h2
    have e : (x = Int32.ofInt lo) ↔ x.toInt = lo := by
      rw [← Int32.toInt_inj, Int32.toInt_ofInt_of_le (by simpa using h1) (by push_cast at h2; omega)]
    rw [rd_sw]
    by_cases hx : x.toInt = lo
    · rw [if_pos (e.mpr hx), if_neg (by simp only [List.length_cons]; push_cast; omega)]
      rw [show (x.toInt - lo).toNat = 0 by omega]
      rfl
    · rw [if_neg (fun q => hx (e.mp q)), ih (lo + 1) d (by omega) (by push_cast at h2 ⊢; omega)]
      simp only [List.length_cons]
      by_cases hc : x.toInt < lo ∨ lo + (ts.length + 1 : Nat) ≤ x.toInt
      · rw [if_pos hc, if_pos (by push_cast at hc ⊢; omega)]
      · rw [if_neg hc, if_neg (by push_cast at hc ⊢; omega)]
        rw [show (x.toInt - lo).toNat = (x.toInt - (lo + 1)).toNat + 1 by push_cast at hc; omega, rd_nth]
theorem rd_tz_at {k pc : Nat} : ∀ {ts : List Nat} {os : List Int} {j : Nat} {t : Nat}, rd_tz k pc ts os = true → rd_nth ts j = some t → ∃ o : Int, os[j]? = some o ∧ rd_nx k t ((pc : Int) + o) = true := by
  intro ts
  induction ts with
  | nil => intro os j t _ h; cases h
  | cons a ts ih =>
    intro os j t h hj
    cases os with
    | nil => simp [rd_tz] at h
    | cons o os =>
      rw [rd_tz, Bool.and_eq_true] at h
      cases j with
      | zero => rw [rd_nth] at hj; cases hj; exact ⟨o, rfl, h.1⟩
      | succ j => rw [rd_nth] at hj; obtain ⟨o', h1, h2⟩ := ih h.2 hj; exact ⟨o', by simpa using h1, h2⟩
section RDJ
variable {p : Program} {l : Launch} {e : Env} {R : Room} {s : State} {m : MethodId} {args : Array Value} {below : List Frame} {meth : Method} {c : Code} {cells slots : Nat} {Q : State → Prop}
variable {D : va_G} {cI cZ : ClassId} {ad : Nat → Nat} {base : Nat} {ρ : Nat × (Nat → Int32)} {S : List rd_Sh}
variable {H : Heap} {locs : List Loc} {ls : Array Slot} {cc : ByteArray}
theorem rd_tt (b : Bool) : ∃ t0 : Nat, ([(cI, .int), (cZ, .boolean)] : List (ClassId × FieldType))[t0]? = some (if b = true then cZ else cI, if b = true then .boolean else .int) := by
  cases b
  · exact ⟨0, rfl⟩
  · exact ⟨1, rfl⟩
/-- reading an array -/
theorem rd_ald_ok {b : Bool} {i : Nat} {vs vs' : rd_Lv} {st st' : List Value} {σ σ' : rd_Sg} {i' pc : Nat} (hx : p.tables.exec = Jvm.exec) (hb : c.code = cc) (hI : rd_In D cI cZ ad base ρ s) (hH : rd_Hp D cI cZ ad base S s H locs σ) (hst : st.all rd_one = true)
    (ha : rd_ald S (rd_ro ρ) b vs i st σ = some (.inr (.inl (i', vs', st', σ')))) (hdg : decode cc pc = .ok (if b = true then .baload else .iaload, 1))
    (kk : i' = i + 1 → vs' = vs → σ' = σ → st'.all rd_one = true → W p l e R s m args below meth c H locs cells slots Q (F0 m (pc + 1) ls (st'.map (rd_cv ad)))) : W p l e R s m args below meth c H locs cells slots Q (F0 m pc ls (st.map (rd_cv ad))) := by
  unfold rd_ald at ha
  split at ha
  · rename_i j cl st0
    split at ha
    · rename_i n f hr
      split at ha
      · cases ha
      · rename_i hin
        cases ha
        have kk := kk rfl rfl rfl (by simpa [rd_one] using hst)
        show W p l e R s m args below meth c H locs cells slots Q (F0 m pc ls (.int j :: .ref (ad cl) :: st0.map (rd_cv ad)))
        have kk : W p l e R s m args below meth c H locs cells slots Q (F0 m (pc + 1) ls (.int (f j.toNatClampNeg) :: st0.map (rd_cv ad))) := kk
        unfold rd_rd at hr
        split at hr
        · rename_i n' b' hsh
          split at hr
          · rename_i hb'
            subst hb'
            cases hr
            have hw := rd_wd_0 (cI := cI) (cZ := cZ) (ad := ad) (σ := σ) hsh
            cases b'
            · exact va_iald hx hb hI.1 hH.1 cl 0 hw rfl hin hdg kk
            · exact va_zald hx hb hI.1 hH.1 cl 1 hw rfl hin hdg kk
          · cases hr
        · cases hr
        · split at hr
          · cases hr
          · rename_i hbf
            have hbf : b = false := by cases b <;> simp_all
            subst hbf
            unfold rd_ro at hr
            obtain ⟨-, -, hz, h1, h2, h3, h4⟩ := hI
            split at hr
            · rename_i hc
              subst hc
              cases hr
              exact va_sld hx hb hz (by omega) (by omega) hH.2.2 hin hdg kk
            · split at hr
              · rename_i hc
                subst hc
                cases hr
                exact va_sld hx hb h1 (by omega) (by omega) hH.2.2 hin hdg kk
              · cases hr
    · cases ha
  · cases ha
/-- writing into an array -/
theorem rd_ast_ok {b : Bool} {i : Nat} {vs vs' : rd_Lv} {st st' : List Value} {σ σ' : rd_Sg} {i' pc : Nat} (hx : p.tables.exec = Jvm.exec) (hb : c.code = cc) (hI : rd_In D cI cZ ad base ρ s) (hH : rd_Hp D cI cZ ad base S s H locs σ) (hst : st.all rd_one = true)
    (ha : rd_ast S b vs i st σ = some (.inr (.inl (i', vs', st', σ')))) (hdg : decode cc pc = .ok (if b = true then .bastore else .iastore, 1))
    (kk : ∀ (H' : Heap) (locs' : List Loc), i' = i + 1 → vs' = vs → rd_Hp D cI cZ ad base S s H' locs' σ' → st'.all rd_one = true → W p l e R s m args below meth c H' locs' cells slots Q (F0 m (pc + 1) ls (st'.map (rd_cv ad)))) : W p l e R s m args below meth c H locs cells slots Q (F0 m pc ls (st.map (rd_cv ad))) := by
  unfold rd_ast at ha
  split at ha
  · rename_i x j cl st0
    split at ha
    · rename_i n b' hsh
      split at ha
      · rename_i hb'
        subst hb'
        split at ha
        · cases ha
        · rename_i hin
          have hst0 : st0.all rd_one = true := by simpa [rd_one] using hst
          show W p l e R s m args below meth c H locs cells slots Q (F0 m pc ls (.int x :: .int j :: .ref (ad cl) :: st0.map (rd_cv ad)))
          cases ha
          have hw := rd_wd_0 (cI := cI) (cZ := cZ) (ad := ad) (σ := σ) hsh
          have hset := rd_wd_set (cI := cI) (cZ := cZ) (ad := ad) (σ := σ) (σ' := rd_u σ cl j.toNatClampNeg (rd_bit b' x)) hsh rd_u_o
          rw [rd_u_c] at hset
          cases b'
          · refine va_iast hx hb hI.1 hH.1 hH.2.1 hH.2.2 cl 0 hw rfl hin hdg (fun H1 locs1 g1 g2 g3 => ?_)
            refine kk H1 locs1 rfl rfl ⟨?_, ?_, g3⟩ hst0
            · rw [← hset]; exact g1
            · rw [← hset]; exact g2
          · refine va_zast hx hb hI.1 hH.1 hH.2.1 hH.2.2 cl 1 hw rfl hin hdg (fun H1 locs1 g1 g2 g3 => ?_)
            refine kk H1 locs1 rfl rfl ⟨?_, ?_, g3⟩ hst0
            · rw [← hset]; exact g1
            · rw [← hset]; exact g2
      · cases ha
    · cases ha
  · cases ha
/-- an array's length -/
theorem rd_alen_ok {i : Nat} {vs vs' : rd_Lv} {st st' : List Value} {σ σ' : rd_Sg} {i' pc : Nat} (hx : p.tables.exec = Jvm.exec) (hb : c.code = cc) (hI : rd_In D cI cZ ad base ρ s) (hH : rd_Hp D cI cZ ad base S s H locs σ) (hst : st.all rd_one = true)
    (ha : rd_alen S (rd_ro ρ) vs i st σ = some (.inr (.inl (i', vs', st', σ')))) (hdg : decode cc pc = .ok (.arraylength, 1))
    (kk : i' = i + 1 → vs' = vs → σ' = σ → st'.all rd_one = true → W p l e R s m args below meth c H locs cells slots Q (F0 m (pc + 1) ls (st'.map (rd_cv ad)))) : W p l e R s m args below meth c H locs cells slots Q (F0 m pc ls (st.map (rd_cv ad))) := by
  unfold rd_alen at ha
  split at ha
  · rename_i cl st0
    have hst0 : st0.all rd_one = true := by simpa [rd_one] using hst
    show W p l e R s m args below meth c H locs cells slots Q (F0 m pc ls (.ref (ad cl) :: st0.map (rd_cv ad)))
    split at ha
    · rename_i n b hsh
      cases ha
      have kk := kk rfl rfl rfl (by simpa [rd_one] using hst0)
      have hw := rd_wd_0 (cI := cI) (cZ := cZ) (ad := ad) (σ := σ) hsh
      cases b
      · exact va_alen hx hb hI.1 hH.1 cl 0 hw (ty := .int) rfl rfl hdg kk
      · exact va_alen hx hb hI.1 hH.1 cl 1 hw (ty := .boolean) rfl rfl hdg kk
    · cases ha
    · split at ha
      · rename_i n f hr
        cases ha
        have kk := kk rfl rfl rfl (by simpa [rd_one] using hst0)
        unfold rd_ro at hr
        obtain ⟨-, -, hz, h1, h2, h3, h4⟩ := hI
        split at hr
        · rename_i hc
          subst hc
          cases hr
          exact va_slen hx hb hz (by omega) (by omega) hH.2.2 hdg kk
        · split at hr
          · rename_i hc
            subst hc
            cases hr
            exact va_slen hx hb h1 (by omega) (by omega) hH.2.2 hdg kk
          · cases hr
      · cases ha
  · cases ha
/-- reading a field -/
theorem rd_getf_ok {i ci sl f oc idx : Nat} {own : String} {vs vs' : rd_Lv} {st st' : List Value} {σ σ' : rd_Sg} {i' pc : Nat} (hx : p.tables.exec = Jvm.exec) (hb : c.code = cc) (hw : ∀ w ∈ rd_tb, w.before args s = true) (hown : s.vm.findClass own = some m.cls) (hoc : rd_nth rd_cn oc = some own) (hfl : rd_flis f oc idx ci sl = true) (h999 : sl ≠ 999) (hI : rd_In D cI cZ ad base ρ s) (hH : rd_Hp D cI cZ ad base S s H locs σ) (hst : st.all rd_one = true)
    (ha : rd_getf S ci sl vs i st σ = some (.inr (.inl (i', vs', st', σ')))) (hdg : decode cc pc = .ok (.getfield idx, 3))
    (kk : i' = i + 1 → vs' = vs → σ' = σ → st'.all rd_one = true → W p l e R s m args below meth c H locs cells slots Q (F0 m (pc + 3) ls (st'.map (rd_cv ad)))) : W p l e R s m args below meth c H locs cells slots Q (F0 m pc ls (st.map (rd_cv ad))) := by
  obtain ⟨C, T, n, hv, hsl, hlk⟩ := rd_flfact hfl hoc h999
  obtain ⟨hin, -⟩ := rd_cfact hv
  unfold rd_getf at ha
  split at ha
  · rename_i cl st0
    have hst0 : st0.all rd_one = true := by simpa [rd_one] using hst
    show W p l e R s m args below meth c H locs cells slots Q (F0 m pc ls (.ref (ad cl) :: st0.map (rd_cv ad)))
    split at ha
    · rename_i cj ks hsh
      split at ha
      · rename_i hcj
        subst hcj
        have hwd := rd_wd_0 (cI := cI) (cZ := cZ) (ad := ad) (σ := σ) hsh
        have hv' : vwCl[cj]? = some (C, T, n) := by rw [← rd_nth_get]; exact hv
        split at ha
        · rename_i hk
          cases ha
          have kk := kk rfl rfl rfl (by simpa [rd_one] using hst0)
          exact va_get hx hb hw hin hown hI.1 hH.1 cl hwd hv' sl hsl (hw _ hlk) (fun _ h => h) (v := .int (σ cl sl)) (by rw [rd_fs_at, hk]; simp [rd_fv]) hdg kk
        · rename_i v hk
          split at ha
          · rename_i h1
            cases ha
            have kk := kk rfl rfl rfl (by simp only [List.all_cons, h1, Bool.true_and]; exact hst0)
            exact va_get hx hb hw hin hown hI.1 hH.1 cl hwd hv' sl hsl (hw _ hlk) (fun _ h => h) (v := rd_cv ad v) (by rw [rd_fs_at, hk]; simp [rd_fv]) hdg kk
          · cases ha
        · cases ha
      · cases ha
    · cases ha
  · cases ha
theorem rd_fty_0 {ci sl : Nat} {C : String} {T : u_T} {n : Nat} (hv : rd_nth vwCl ci = some (C, T, n)) (h : rd_fty ci sl = 0) : (T sl).2.2.1 = "I" ∧ (T sl).2.2.2 = false := by
  unfold rd_fty at h
  rw [hv] at h
  dsimp only at h
  split at h
  · split at h
    · rename_i h1
      split at h
      · cases h
      · rename_i h2
        exact ⟨h1, by simpa using h2⟩
    · split at h
      · split at h <;> cases h
      · split at h <;> cases h
  · cases h
theorem rd_fty_1 {ci sl : Nat} {C : String} {T : u_T} {n : Nat} (hv : rd_nth vwCl ci = some (C, T, n)) (h : rd_fty ci sl = 1) : (T sl).2.2.1 = "Z" ∧ (T sl).2.2.2 = false := by
  unfold rd_fty at h
  rw [hv] at h
  dsimp only at h
  split at h
  · split at h
    · split at h <;> cases h
    · split at h
      · rename_i h1
        split at h
        · cases h
        · rename_i h2
          exact ⟨h1, by simpa using h2⟩
      · split at h <;> cases h
  · cases h
/-- writing a field -/
theorem rd_putf_ok {i ci sl f oc idx t : Nat} {own : String} {vs vs' : rd_Lv} {st st' : List Value} {σ σ' : rd_Sg} {i' pc : Nat} (hx : p.tables.exec = Jvm.exec) (hb : c.code = cc) (hw : ∀ w ∈ rd_tb, w.before args s = true) (hown : s.vm.findClass own = some m.cls) (hoc : rd_nth rd_cn oc = some own) (hfl : rd_flis f oc idx ci sl = true) (h999 : sl ≠ 999) (hty : t = rd_fty ci sl) (hI : rd_In D cI cZ ad base ρ s) (hH : rd_Hp D cI cZ ad base S s H locs σ) (hst : st.all rd_one = true)
    (ha : rd_putf S ci sl t vs i st σ = some (.inr (.inl (i', vs', st', σ')))) (hdg : decode cc pc = .ok (.putfield idx, 3))
    (kk : ∀ (H' : Heap) (locs' : List Loc), i' = i + 1 → vs' = vs → rd_Hp D cI cZ ad base S s H' locs' σ' → st'.all rd_one = true → W p l e R s m args below meth c H' locs' cells slots Q (F0 m (pc + 3) ls (st'.map (rd_cv ad)))) : W p l e R s m args below meth c H locs cells slots Q (F0 m pc ls (st.map (rd_cv ad))) := by
  obtain ⟨C, T, n, hv, hsl, hlk⟩ := rd_flfact hfl hoc h999
  obtain ⟨hin, ty0, hty0, hnm⟩ := rd_cfact hv
  unfold rd_putf at ha
  split at ha
  · rename_i x cl st0
    have hst0 : st0.all rd_one = true := by simpa [rd_one] using hst
    show W p l e R s m args below meth c H locs cells slots Q (F0 m pc ls (.int x :: .ref (ad cl) :: st0.map (rd_cv ad)))
    split at ha
    · rename_i cj ks hsh
      split at ha
      · rename_i hcj
        subst hcj
        have hwd := rd_wd_0 (cI := cI) (cZ := cZ) (ad := ad) (σ := σ) hsh
        have hv' : vwCl[cj]? = some (C, T, n) := by rw [← rd_nth_get]; exact hv
        split at ha
        · rename_i hk
          split at ha
          · rename_i ht
            cases ha
            have hset := rd_wd_set (cI := cI) (cZ := cZ) (ad := ad) (σ := σ) (σ' := rd_u σ cl sl x) hsh rd_u_o
            have hfs : (rd_fs ad (σ cl) 0 ks).set sl (.int x) = rd_fs ad (rd_u σ cl sl x cl) 0 ks := rd_fs_set hk (by simp [rd_u]) (fun j hj => by simp [rd_u, hj])
            have hlen : sl < (rd_fs ad (σ cl) 0 ks).length := by
              have : (rd_fs ad (σ cl) 0 ks)[sl]? = some (.int (σ cl (0 + sl))) := by rw [rd_fs_at, hk]; rfl
              exact (List.getElem?_eq_some_iff.mp this).1
            have fin : ∀ (H1 : Heap) (locs1 : List Loc), va_P D vwCl ((rd_wd cI cZ ad σ 0 S).set cl (ad cl, .inr (cj, (rd_fs ad (σ cl) 0 ks).set sl (.int x)))) H1 → va_D (fun q => base ≤ q) ((rd_wd cI cZ ad σ 0 S).set cl (ad cl, .inr (cj, (rd_fs ad (σ cl) 0 ks).set sl (.int x)))) → va_S (fun q => base ≤ q) s.heap H1 locs1 → W p l e R s m args below meth c H1 locs1 cells slots Q (F0 m (pc + 3) ls (st'.map (rd_cv ad))) := by
              intro H1 locs1 g1 g2 g3
              refine kk H1 locs1 rfl rfl ⟨?_, ?_, g3⟩ hst0
              · rw [← hset]; rw [hfs] at g1; exact g1
              · rw [← hset]; rw [hfs] at g2; exact g2
            rcases ht with ht | ⟨ht, hx1⟩
            · obtain ⟨e1, e2⟩ := rd_fty_0 hv (by rw [← hty]; exact ht)
              exact va_put hx hb hw hin ty0 hty0 hnm hown hI.1 hH.1 hH.2.1 hH.2.2 cl hwd hv' sl hsl (hw _ hlk) (fun _ h => h) e2 (ty := .int) (v := .int x) (by rw [e1]; decide +kernel) rfl rfl hlen hdg fin
            · obtain ⟨e1, e2⟩ := rd_fty_1 hv (by rw [← hty]; exact ht)
              refine va_put hx hb hw hin ty0 hty0 hnm hown hI.1 hH.1 hH.2.1 hH.2.2 cl hwd hv' sl hsl (hw _ hlk) (fun _ h => h) e2 (ty := .boolean) (v := .int x) (by rw [e1]; decide +kernel) ?_ ?_ hlen hdg fin
              · rcases hx1 with rfl | rfl <;> decide +kernel
              · rcases hx1 with rfl | rfl <;> decide +kernel
          · cases ha
        · cases ha
      · cases ha
    · cases ha
  · cases ha
theorem rd_acN : Cond.native arraycopyName ∈ rd_tb := by decide +kernel
theorem rd_acS : Cond.static arraycopyName ∈ rd_tb := by decide +kernel
theorem rd_acI : Cond.initialized "java/lang/System" ∈ rd_tb := by decide +kernel
/-- System.arraycopy -/
theorem rd_copy_ok {i oc idx q : Nat} {own : String} {vs vs' : rd_Lv} {st st' : List Value} {σ σ' : rd_Sg} {i' pc : Nat} (hx : p.tables.exec = Jvm.exec) (hb : c.code = cc) (hml : c.maxLocals = ls.size) (hw : ∀ w ∈ rd_tb, w.before args s = true) (hown : s.vm.findClass own = some m.cls) (hoc : rd_nth rd_cn oc = some own) (hq : rd_mlis q oc idx 1000 = true) (hR : 1 ≤ R.frames ∧ 26 ≤ R.locals) (hI : rd_In D cI cZ ad base ρ s) (hH : rd_Hp D cI cZ ad base S s H locs σ)
    (ha : rd_copy S vs i st σ = some (.inr (.inl (i', vs', st', σ')))) (hdg : decode cc pc = .ok (.invokestatic idx, 3))
    (kk : ∀ (H' : Heap) (locs' : List Loc), i' = i + 1 → vs' = vs → rd_Hp D cI cZ ad base S s H' locs' σ' → st'.all rd_one = true → W p l e R s m args below meth c H' locs' cells slots Q (F0 m (pc + 3) ls (st'.map (rd_cv ad)))) : W p l e R s m args below meth c H locs cells slots Q (F0 m pc ls (st.map (rd_cv ad))) := by
  unfold rd_copy at ha
  split at ha
  · rename_i n dp d sp sr
    show W p l e R s m args below meth c H locs cells slots Q (F0 m pc ls [.int n, .int dp, .ref (ad d), .int sp, .ref (ad sr)])
    split at ha
    · rename_i n0 n1 hs0 hs1
      split at ha
      · cases ha
      · rename_i hc
        cases ha
        have hw0 := rd_wd_0 (cI := cI) (cZ := cZ) (ad := ad) (σ := σ) hs0
        have hw1 := rd_wd_0 (cI := cI) (cZ := cZ) (ad := ad) (σ := σ) hs1
        have hset := rd_wd_set (cI := cI) (cZ := cZ) (ad := ad) (σ := σ) (σ' := rd_uc σ d (va_cpy (σ sr) (σ d) sp.toNatClampNeg dp.toNatClampNeg n.toNatClampNeg)) hs1 rd_uc_o
        rw [rd_uc_c] at hset
        have hlk := (rd_mlfact hq hoc).1 rfl
        have hnw : nativeFrameWords "java/lang/System" "arraycopy" 5 = 7 := by decide +kernel
        have hlocals : (([] : List Value).map fun v => v.category).sum + (nativeFrameWords "java/lang/System" "arraycopy" 5 + 11) ≤ R.locals := by
          rw [hnw]
          have := hR.2
          simp
          omega
        refine va_copyi (rest := []) hx hb hml hown (hw _ hlk) (hw _ rd_acN) (hw _ rd_acS) (hw _ rd_acI) hI.1 hH.1 hH.2.1 hH.2.2 sr d 0 0 (ty := .int) hw0 hw1 rfl rfl rfl (fun h => hc (Or.inl h)) (fun h => hc (Or.inr (Or.inl h))) (fun h => hc (Or.inr (Or.inr (Or.inl h)))) (Nat.not_lt.mp fun h => hc (Or.inr (Or.inr (Or.inr (Or.inl h))))) (Nat.not_lt.mp fun h => hc (Or.inr (Or.inr (Or.inr (Or.inr h))))) (fun _ _ => rfl) hR.1 hlocals hdg (fun H1 locs1 g1 g2 g3 => ?_)
        refine kk H1 locs1 rfl rfl ⟨?_, ?_, g3⟩ rfl
        · rw [← hset]; exact g1
        · rw [← hset]; exact g2
    · cases ha
  · cases ha
end RDJ
end
section
theorem rd_cat_sum {ad : Nat → Nat} : ∀ {st : List Value}, st.all rd_one = true → ((st.map (rd_cv ad)).map fun v => v.category).sum = st.length := by
  intro st
  induction st with
  | nil => intro _; rfl
  | cons v st ih =>
    intro h
    rw [List.all_cons, Bool.and_eq_true] at h
    simp only [List.map_cons, List.sum_cons, List.length_cons]
    rw [ih h.2, rd_one_cat (rd_cv_one h.1)]
    omega
theorem rd_mathS : Cond.static Lib.Math.min.name ∈ rd_tb := by decide +kernel
theorem rd_mathI : Cond.initialized "java/lang/Math" ∈ rd_tb := by decide +kernel
theorem rd_mathC : Cond.code Lib.Math.min.name Lib.Math.min.code 2 (some .int) ∈ rd_tb := by decide +kernel
section RDK
variable {p : Program} {l : Launch} {e : Env} {R : Room} {s : State} {m : MethodId} {args : Array Value} {below : List Frame} {meth : Method} {c : Code} {cells slots : Nat} {Q : State → Prop}
variable {D : va_G} {cI cZ : ClassId} {ad : Nat → Nat} {base : Nat} {ρ : Nat × (Nat → Int32)} {S : List rd_Sh}
variable {H : Heap} {locs : List Loc} {ls : Array Slot} {cc : ByteArray}
theorem rd_iload_ok {j i : Nat} {vs vs' : rd_Lv} {st st' : List Value} {σ σ' : rd_Sg} {i' pc len : Nat} (hl : rd_Ls ad ls c.maxLocals vs) (hst : st.all rd_one = true)
    (ha : rd_iload vs j i st σ = some (.inr (.inl (i', vs', st', σ'))))
    (row : ∀ x : Int32, ls[j]? = some (.val (.int x)) → W p l e R s m args below meth c H locs cells slots Q (F0 m (pc + len) ls (.int x :: st.map (rd_cv ad))) → W p l e R s m args below meth c H locs cells slots Q (F0 m pc ls (st.map (rd_cv ad))))
    (kk : i' = i + 1 → vs' = vs → σ' = σ → st'.all rd_one = true → W p l e R s m args below meth c H locs cells slots Q (F0 m (pc + len) ls (st'.map (rd_cv ad)))) : W p l e R s m args below meth c H locs cells slots Q (F0 m pc ls (st.map (rd_cv ad))) := by
  unfold rd_iload at ha
  split at ha
  · rename_i x hv
    cases ha
    exact row x (hl.at hv) (kk rfl rfl rfl (by simpa [rd_one] using hst))
  · cases ha
theorem rd_aload_ok {j i : Nat} {vs vs' : rd_Lv} {st st' : List Value} {σ σ' : rd_Sg} {i' pc len : Nat} (hl : rd_Ls ad ls c.maxLocals vs) (hst : st.all rd_one = true)
    (ha : rd_aload vs j i st σ = some (.inr (.inl (i', vs', st', σ'))))
    (row : ∀ x : Nat, ls[j]? = some (.val (.ref x)) → W p l e R s m args below meth c H locs cells slots Q (F0 m (pc + len) ls (.ref x :: st.map (rd_cv ad))) → W p l e R s m args below meth c H locs cells slots Q (F0 m pc ls (st.map (rd_cv ad))))
    (kk : i' = i + 1 → vs' = vs → σ' = σ → st'.all rd_one = true → W p l e R s m args below meth c H locs cells slots Q (F0 m (pc + len) ls (st'.map (rd_cv ad)))) : W p l e R s m args below meth c H locs cells slots Q (F0 m pc ls (st.map (rd_cv ad))) := by
  unfold rd_aload at ha
  split at ha
  · rename_i x hv
    cases ha
    exact row (ad x) (hl.at hv) (kk rfl rfl rfl (by simpa [rd_one] using hst))
  · cases ha
theorem rd_istore_ok {j i : Nat} {vs vs' : rd_Lv} {st st' : List Value} {σ σ' : rd_Sg} {i' pc len : Nat} (hl : rd_Ls ad ls c.maxLocals vs) (hst : st.all rd_one = true)
    (ha : rd_istore vs j i st σ = some (.inr (.inl (i', vs', st', σ'))))
    (row : ∀ (x : Int32) (rest : List Value), j < c.maxLocals → (∀ ls' : Array Slot, lv_has ls' c.maxLocals ((j, Value.int x) :: (rd_ps ad 0 vs).filter (fun q => !(q.1 == j) && !(q.1 + 1 == j && q.2.category == 2))) → W p l e R s m args below meth c H locs cells slots Q (F0 m (pc + len) ls' rest)) → W p l e R s m args below meth c H locs cells slots Q (F0 m pc ls (.int x :: rest)))
    (kk : ∀ ls' : Array Slot, i' = i + 1 → rd_Ls ad ls' c.maxLocals vs' → σ' = σ → st'.all rd_one = true → W p l e R s m args below meth c H locs cells slots Q (F0 m (pc + len) ls' (st'.map (rd_cv ad)))) : W p l e R s m args below meth c H locs cells slots Q (F0 m pc ls (st.map (rd_cv ad))) := by
  unfold rd_istore at ha
  split at ha
  · rename_i x st0
    split at ha
    · rename_i vs1 hs
      cases ha
      refine row x _ (Nat.lt_of_lt_of_le (rd_set_spec hs).1 hl.2.2.1) (fun ls' h' => ?_)
      exact kk ls' rfl (hl.put (v := .int x) rfl hs h') rfl (by simpa [rd_one] using hst)
    · cases ha
  · cases ha
theorem rd_astore_ok {j i : Nat} {vs vs' : rd_Lv} {st st' : List Value} {σ σ' : rd_Sg} {i' pc len : Nat} (hl : rd_Ls ad ls c.maxLocals vs) (hst : st.all rd_one = true)
    (ha : rd_astore vs j i st σ = some (.inr (.inl (i', vs', st', σ'))))
    (row : ∀ (x : Nat) (rest : List Value), j < c.maxLocals → (∀ ls' : Array Slot, lv_has ls' c.maxLocals ((j, Value.ref x) :: (rd_ps ad 0 vs).filter (fun q => !(q.1 == j) && !(q.1 + 1 == j && q.2.category == 2))) → W p l e R s m args below meth c H locs cells slots Q (F0 m (pc + len) ls' rest)) → W p l e R s m args below meth c H locs cells slots Q (F0 m pc ls (.ref x :: rest)))
    (kk : ∀ ls' : Array Slot, i' = i + 1 → rd_Ls ad ls' c.maxLocals vs' → σ' = σ → st'.all rd_one = true → W p l e R s m args below meth c H locs cells slots Q (F0 m (pc + len) ls' (st'.map (rd_cv ad)))) : W p l e R s m args below meth c H locs cells slots Q (F0 m pc ls (st.map (rd_cv ad))) := by
  unfold rd_astore at ha
  split at ha
  · rename_i x st0
    split at ha
    · rename_i vs1 hs
      cases ha
      refine row (ad x) _ (Nat.lt_of_lt_of_le (rd_set_spec hs).1 hl.2.2.1) (fun ls' h' => ?_)
      exact kk ls' rfl (hl.put (v := .ref x) rfl hs h') rfl (by simpa [rd_one] using hst)
    · cases ha
  · cases ha
theorem rd_bin_ok {f : Int32 → Int32 → Int32} {i : Nat} {vs vs' : rd_Lv} {st st' : List Value} {σ σ' : rd_Sg} {i' pc : Nat} (hst : st.all rd_one = true)
    (ha : rd_bin f vs i st σ = some (.inr (.inl (i', vs', st', σ'))))
    (row : ∀ (x y : Int32) (rest : List Value), W p l e R s m args below meth c H locs cells slots Q (F0 m (pc + 1) ls (.int (f x y) :: rest)) → W p l e R s m args below meth c H locs cells slots Q (F0 m pc ls (.int y :: .int x :: rest)))
    (kk : i' = i + 1 → vs' = vs → σ' = σ → st'.all rd_one = true → W p l e R s m args below meth c H locs cells slots Q (F0 m (pc + 1) ls (st'.map (rd_cv ad)))) : W p l e R s m args below meth c H locs cells slots Q (F0 m pc ls (st.map (rd_cv ad))) := by
  unfold rd_bin at ha
  split at ha
  · rename_i y x st0
    cases ha
    exact row x y (st0.map (rd_cv ad)) (kk rfl rfl rfl (by simpa [rd_one] using hst))
  · cases ha
/-- a branch, out of its two goals -/
theorem rd_br {P : Prop} {A B : Prop} [Decidable P] {t i : Nat} {vs vs' : rd_Lv} {st st' : List Value} {σ σ' : rd_Sg} {i' : Nat} (ha : (if P then rd_go t vs st σ else rd_go i vs st σ) = some (.inr (.inl (i', vs', st', σ')))) (h1 : P → i' = t → vs' = vs → st' = st → σ' = σ → A) (h2 : ¬ P → i' = i → vs' = vs → st' = st → σ' = σ → B) : (P → A) ∧ (¬ P → B) := by
  constructor
  · intro h; rw [if_pos h] at ha; cases ha; exact h1 h rfl rfl rfl rfl
  · intro h; rw [if_neg h] at ha; cases ha; exact h2 h rfl rfl rfl rfl
set_option maxHeartbeats 4000000 in
theorem rd_jump {k i : Nat} {vs vs' : rd_Lv} {st st' : List Value} {σ σ' : rd_Sg} {i' pc : Nat} (hF : rd_Fr p R s m args c k) (hI : rd_In D cI cZ ad base ρ s)
    (ha : rd_act S (rd_ro ρ) k i vs st σ = some (.inr (.inl (i', vs', st', σ')))) (hpc : rd_pc k i = some pc) (hH : rd_Hp D cI cZ ad base S s H locs σ) (hl : rd_Ls ad ls c.maxLocals vs) (hst : st.all rd_one = true) (hcs : cells ≤ R.cells ∧ slots ≤ R.slots)
    (kk : ∀ (pc' : Nat) (H' : Heap) (locs' : List Loc) (ls' : Array Slot), rd_pc k i' = some pc' → rd_Hp D cI cZ ad base S s H' locs' σ' → rd_Ls ad ls' c.maxLocals vs' → st'.all rd_one = true → W p l e R s m args below meth c H' locs' cells slots Q (F0 m pc' ls' (st'.map (rd_cv ad)))) :
    W p l e R s m args below meth c H locs cells slots Q (F0 m pc ls (st.map (rd_cv ad))) := by
  obtain ⟨y, b, L, ret, fr, mc, ms, lo, hm, hx, hb, hml, hown, hw, hrm, hfr, hlo⟩ := hF
  obtain ⟨hoc, -, -, -, -⟩ := rd_mfact hm
  unfold rd_act at ha
  unfold rd_pc at hpc
  split at ha
  case h_2 => cases ha
  case h_1 pc0 ins len aux hlk =>
  rw [hlk] at hpc
  cases hpc
  have hdg := rd_dec hlk hm
  have hck := rd_ck_ok hlk
  cases ins with
  | iconst n =>
    simp only [rd_ck, Bool.and_eq_true, rd_ln] at hck
    cases rd_beq hck.1
    cases ha
    exact lv_iconst hx hb hdg rfl (kk _ _ _ _ (rd_nx_nat hck.2) hH hl (by simpa [rd_one] using hst))
  | bipush n =>
    simp only [rd_ck, Bool.and_eq_true, rd_ln] at hck
    cases rd_beq hck.1
    cases ha
    exact lv_bipush hx hb hdg rfl (kk _ _ _ _ (rd_nx_nat hck.2) hH hl (by simpa [rd_one] using hst))
  | sipush n =>
    simp only [rd_ck, Bool.and_eq_true, rd_ln] at hck
    cases rd_beq hck.1
    cases ha
    exact lv_sipush hx hb hdg rfl (kk _ _ _ _ (rd_nx_nat hck.2) hH hl (by simpa [rd_one] using hst))
  | iload_n j =>
    simp only [rd_ck, Bool.and_eq_true, rd_ln] at hck
    cases rd_beq hck.1
    exact rd_iload_ok hl hst ha (fun x hj kw => lv_iload_n hx hb hdg rfl hj kw) (fun e1 e2 e3 e4 => kk _ _ _ _ (by rw [e1]; exact rd_nx_nat hck.2) (by rw [e3]; exact hH) (by rw [e2]; exact hl) e4)
  | iload j =>
    simp only [rd_ck, Bool.and_eq_true, rd_ln] at hck
    cases rd_beq hck.1
    exact rd_iload_ok hl hst ha (fun x hj kw => lv_iload hx hb hdg hj kw) (fun e1 e2 e3 e4 => kk _ _ _ _ (by rw [e1]; exact rd_nx_nat hck.2) (by rw [e3]; exact hH) (by rw [e2]; exact hl) e4)
  | aload_n j =>
    simp only [rd_ck, Bool.and_eq_true, rd_ln] at hck
    cases rd_beq hck.1
    exact rd_aload_ok hl hst ha (fun x hj kw => lv_aload_n hx hb hdg rfl hj kw) (fun e1 e2 e3 e4 => kk _ _ _ _ (by rw [e1]; exact rd_nx_nat hck.2) (by rw [e3]; exact hH) (by rw [e2]; exact hl) e4)
  | aload j =>
    simp only [rd_ck, Bool.and_eq_true, rd_ln] at hck
    cases rd_beq hck.1
    exact rd_aload_ok hl hst ha (fun x hj kw => lv_aload hx hb hdg hj kw) (fun e1 e2 e3 e4 => kk _ _ _ _ (by rw [e1]; exact rd_nx_nat hck.2) (by rw [e3]; exact hH) (by rw [e2]; exact hl) e4)
  | istore_n j =>
    simp only [rd_ck, Bool.and_eq_true, rd_ln] at hck
    cases rd_beq hck.1
    exact rd_istore_ok hl hst ha (fun x rest hj kw => lv_istore_n hx hb hdg rfl hl.has hj rfl kw) (fun ls' e1 e2 e3 e4 => kk _ _ _ _ (by rw [e1]; exact rd_nx_nat hck.2) (by rw [e3]; exact hH) e2 e4)
  | istore j =>
    simp only [rd_ck, Bool.and_eq_true, rd_ln] at hck
    cases rd_beq hck.1
    exact rd_istore_ok hl hst ha (fun x rest hj kw => lv_istore hx hb hdg hl.has hj rfl kw) (fun ls' e1 e2 e3 e4 => kk _ _ _ _ (by rw [e1]; exact rd_nx_nat hck.2) (by rw [e3]; exact hH) e2 e4)
  | astore_n j =>
    simp only [rd_ck, Bool.and_eq_true, rd_ln] at hck
    cases rd_beq hck.1
    exact rd_astore_ok hl hst ha (fun x rest hj kw => lv_astore_n hx hb hdg rfl hl.has hj rfl kw) (fun ls' e1 e2 e3 e4 => kk _ _ _ _ (by rw [e1]; exact rd_nx_nat hck.2) (by rw [e3]; exact hH) e2 e4)
  | astore j =>
    simp only [rd_ck, Bool.and_eq_true, rd_ln] at hck
    cases rd_beq hck.1
    exact rd_astore_ok hl hst ha (fun x rest hj kw => lv_astore hx hb hdg hl.has hj rfl kw) (fun ls' e1 e2 e3 e4 => kk _ _ _ _ (by rw [e1]; exact rd_nx_nat hck.2) (by rw [e3]; exact hH) e2 e4)
  | iinc j n =>
    simp only [rd_ck, Bool.and_eq_true, rd_ln] at hck
    cases rd_beq hck.1
    simp only [rd_ins] at ha
    split at ha
    · rename_i x hv
      split at ha
      · rename_i vs1 hs
        cases ha
        obtain ⟨q, hq⟩ := List.getElem?_of_mem ((rd_ps_mem (ad := ad) vs 0).mpr ⟨j, .int x, rd_lv_some hv, rfl⟩)
        refine lv_iinc (x := x) (k := q) hx hb hdg hl.has (by rw [hq]; simp [rd_cv]) rfl (Nat.lt_of_lt_of_le (rd_set_spec hs).1 hl.2.2.1) rfl (fun ls' h' => ?_)
        exact kk _ _ _ _ (rd_nx_nat hck.2) hH (hl.put (v := .int (x + Int32.ofInt n)) rfl hs h') hst
      · cases ha
    · cases ha
  | iadd =>
    simp only [rd_ck, Bool.and_eq_true, rd_ln] at hck
    cases rd_beq hck.1
    exact rd_bin_ok hst ha (fun x y rest kw => lv_iadd hx hb hdg kw) (fun e1 e2 e3 e4 => kk _ _ _ _ (by rw [e1]; exact rd_nx_nat hck.2) (by rw [e3]; exact hH) (by rw [e2]; exact hl) e4)
  | isub =>
    simp only [rd_ck, Bool.and_eq_true, rd_ln] at hck
    cases rd_beq hck.1
    exact rd_bin_ok hst ha (fun x y rest kw => lv_isub hx hb hdg kw) (fun e1 e2 e3 e4 => kk _ _ _ _ (by rw [e1]; exact rd_nx_nat hck.2) (by rw [e3]; exact hH) (by rw [e2]; exact hl) e4)
  | imul =>
    simp only [rd_ck, Bool.and_eq_true, rd_ln] at hck
    cases rd_beq hck.1
    exact rd_bin_ok hst ha (fun x y rest kw => lv_imul hx hb hdg kw) (fun e1 e2 e3 e4 => kk _ _ _ _ (by rw [e1]; exact rd_nx_nat hck.2) (by rw [e3]; exact hH) (by rw [e2]; exact hl) e4)
  | iand =>
    simp only [rd_ck, Bool.and_eq_true, rd_ln] at hck
    cases rd_beq hck.1
    exact rd_bin_ok hst ha (fun x y rest kw => lv_iand hx hb hdg kw) (fun e1 e2 e3 e4 => kk _ _ _ _ (by rw [e1]; exact rd_nx_nat hck.2) (by rw [e3]; exact hH) (by rw [e2]; exact hl) e4)
  | ior =>
    simp only [rd_ck, Bool.and_eq_true, rd_ln] at hck
    cases rd_beq hck.1
    exact rd_bin_ok hst ha (fun x y rest kw => lv_ior hx hb hdg kw) (fun e1 e2 e3 e4 => kk _ _ _ _ (by rw [e1]; exact rd_nx_nat hck.2) (by rw [e3]; exact hH) (by rw [e2]; exact hl) e4)
  | ishl =>
    simp only [rd_ck, Bool.and_eq_true, rd_ln] at hck
    cases rd_beq hck.1
    exact rd_bin_ok hst ha (fun x y rest kw => lv_ishl hx hb hdg kw) (fun e1 e2 e3 e4 => kk _ _ _ _ (by rw [e1]; exact rd_nx_nat hck.2) (by rw [e3]; exact hH) (by rw [e2]; exact hl) e4)
  | ishr =>
    simp only [rd_ck, Bool.and_eq_true, rd_ln] at hck
    cases rd_beq hck.1
    exact rd_bin_ok hst ha (fun x y rest kw => lv_ishr hx hb hdg kw) (fun e1 e2 e3 e4 => kk _ _ _ _ (by rw [e1]; exact rd_nx_nat hck.2) (by rw [e3]; exact hH) (by rw [e2]; exact hl) e4)
  | dup =>
    simp only [rd_ck, Bool.and_eq_true, rd_ln] at hck
    cases rd_beq hck.1
    simp only [rd_ins] at ha
    split at ha
    · rename_i x st0
      cases ha
      exact lv_dup (va := .int x) hx hb hdg rfl (kk _ _ _ _ (rd_nx_nat hck.2) hH hl (by simpa [rd_one] using hst))
    · rename_i x st0
      cases ha
      exact lv_dup (va := .ref (ad x)) hx hb hdg rfl (kk _ _ _ _ (rd_nx_nat hck.2) hH hl (by simpa [rd_one] using hst))
    · cases ha
  | dup2 =>
    simp only [rd_ck, Bool.and_eq_true, rd_ln] at hck
    cases rd_beq hck.1
    simp only [rd_ins] at ha
    split at ha
    · rename_i x z st0
      cases ha
      exact lv_dup2_11 (va := .int x) (vb := .ref (ad z)) hx hb hdg rfl rfl (kk _ _ _ _ (rd_nx_nat hck.2) hH hl (by simpa [rd_one] using hst))
    · cases ha
  | goto off =>
    simp only [rd_ck, Bool.and_eq_true] at hck
    cases rd_beq hck.1
    simp only [rd_ins] at ha
    have hck2 := hck.2
    split at ha
    · rename_i t
      cases ha
      obtain ⟨q, hq1, hq2⟩ := rd_nx_of hck2
      exact lv_goto hx hb hdg hq2 (kk _ _ _ _ hq1 hH hl hst)
    · cases ha
  | ifCond cd off =>
    simp only [rd_ck, Bool.and_eq_true] at hck
    cases rd_beq hck.1.1
    simp only [rd_ins] at ha
    have hck2 := hck.2
    split at ha
    · rename_i t x st0
      obtain ⟨q, hq1, hq2⟩ := rd_nx_of hck2
      have hst0 : st0.all rd_one = true := by simpa [rd_one] using hst
      have K1 : ∀ (i1 : Nat), i1 = t → i' = i1 → vs' = vs → st' = st0 → σ' = σ → W p l e R s m args below meth c H locs cells slots Q (F0 m q ls (st0.map (rd_cv ad))) := fun i1 e0 e1 e2 e3 e4 => by
        have := kk q H locs ls (by rw [e1, e0]; exact hq1) (by rw [e4]; exact hH) (by rw [e2]; exact hl) (by rw [e3]; exact hst0)
        rwa [e3] at this
      have K2 : ∀ (i1 : Nat), i1 = i + 1 → i' = i1 → vs' = vs → st' = st0 → σ' = σ → W p l e R s m args below meth c H locs cells slots Q (F0 m (pc0 + 3) ls (st0.map (rd_cv ad))) := fun i1 e0 e1 e2 e3 e4 => by
        have := kk (pc0 + 3) H locs ls (by rw [e1, e0]; exact rd_nx_nat hck.1.2) (by rw [e4]; exact hH) (by rw [e2]; exact hl) (by rw [e3]; exact hst0)
        rwa [e3] at this
      cases cd with
      | eq =>
        obtain ⟨a1, a2⟩ := rd_br ha (fun _ => K1 _ rfl) (fun _ => K2 _ rfl)
        exact lv_if_eq hx hb hdg hq2 a1 a2
      | ne =>
        obtain ⟨a1, a2⟩ := rd_br ha (fun _ => K2 _ rfl) (fun _ => K1 _ rfl)
        exact lv_if_ne hx hb hdg hq2 a2 a1
      | lt =>
        obtain ⟨a1, a2⟩ := rd_br ha (fun _ => K1 _ rfl) (fun _ => K2 _ rfl)
        exact lv_if_lt hx hb hdg hq2 a1 a2
      | ge =>
        obtain ⟨a1, a2⟩ := rd_br ha (fun _ => K2 _ rfl) (fun _ => K1 _ rfl)
        exact lv_if_ge hx hb hdg hq2 (fun h => a2 (Int32.not_lt.mpr h)) (fun h => a1 (Int32.not_le.mp h))
      | gt =>
        obtain ⟨a1, a2⟩ := rd_br ha (fun _ => K1 _ rfl) (fun _ => K2 _ rfl)
        exact lv_if_gt hx hb hdg hq2 a1 a2
      | le =>
        obtain ⟨a1, a2⟩ := rd_br ha (fun _ => K2 _ rfl) (fun _ => K1 _ rfl)
        exact lv_if_le hx hb hdg hq2 (fun h => a2 (Int32.not_lt.mpr h)) (fun h => a1 (Int32.not_le.mp h))
    · cases ha
  | if_icmp cd off =>
    simp only [rd_ck, Bool.and_eq_true] at hck
    cases rd_beq hck.1.1
    simp only [rd_ins] at ha
    have hck2 := hck.2
    split at ha
    · rename_i t z x st0
      obtain ⟨q, hq1, hq2⟩ := rd_nx_of hck2
      have hst0 : st0.all rd_one = true := by simpa [rd_one] using hst
      have K1 : ∀ (i1 : Nat), i1 = t → i' = i1 → vs' = vs → st' = st0 → σ' = σ → W p l e R s m args below meth c H locs cells slots Q (F0 m q ls (st0.map (rd_cv ad))) := fun i1 e0 e1 e2 e3 e4 => by
        have := kk q H locs ls (by rw [e1, e0]; exact hq1) (by rw [e4]; exact hH) (by rw [e2]; exact hl) (by rw [e3]; exact hst0)
        rwa [e3] at this
      have K2 : ∀ (i1 : Nat), i1 = i + 1 → i' = i1 → vs' = vs → st' = st0 → σ' = σ → W p l e R s m args below meth c H locs cells slots Q (F0 m (pc0 + 3) ls (st0.map (rd_cv ad))) := fun i1 e0 e1 e2 e3 e4 => by
        have := kk (pc0 + 3) H locs ls (by rw [e1, e0]; exact rd_nx_nat hck.1.2) (by rw [e4]; exact hH) (by rw [e2]; exact hl) (by rw [e3]; exact hst0)
        rwa [e3] at this
      cases cd with
      | eq =>
        obtain ⟨a1, a2⟩ := rd_br ha (fun _ => K1 _ rfl) (fun _ => K2 _ rfl)
        exact lv_icmp_eq hx hb hdg hq2 a1 a2
      | ne =>
        obtain ⟨a1, a2⟩ := rd_br ha (fun _ => K2 _ rfl) (fun _ => K1 _ rfl)
        exact lv_icmp_ne hx hb hdg hq2 a2 a1
      | lt =>
        obtain ⟨a1, a2⟩ := rd_br ha (fun _ => K1 _ rfl) (fun _ => K2 _ rfl)
        exact lv_icmp_lt hx hb hdg hq2 a1 a2
      | ge =>
        obtain ⟨a1, a2⟩ := rd_br ha (fun _ => K2 _ rfl) (fun _ => K1 _ rfl)
        exact lv_icmp_ge hx hb hdg hq2 (fun h => a2 (Int32.not_lt.mpr h)) (fun h => a1 (Int32.not_le.mp h))
      | gt =>
        obtain ⟨a1, a2⟩ := rd_br ha (fun _ => K1 _ rfl) (fun _ => K2 _ rfl)
        exact lv_icmp_gt hx hb hdg hq2 a1 a2
      | le =>
        obtain ⟨a1, a2⟩ := rd_br ha (fun _ => K2 _ rfl) (fun _ => K1 _ rfl)
        exact lv_icmp_le hx hb hdg hq2 (fun h => a2 (Int32.not_lt.mpr h)) (fun h => a1 (Int32.not_le.mp h))
    · cases ha
  | tableswitch d lo hi offs =>
    simp only [rd_ins] at ha
    simp only [rd_ck] at hck
    split at ha
    · rename_i dt ts x st0
      have hst0 : st0.all rd_one = true := by simpa [rd_one] using hst
      show W p l e R s m args below meth c H locs cells slots Q (F0 m pc0 ls (.int x :: st0.map (rd_cv ad)))
      cases ha
      simp only [Bool.and_eq_true, decide_eq_true_eq] at hck
      obtain ⟨⟨⟨⟨h1, h2⟩, h3⟩, h4⟩, h5⟩ := hck
      have hsw := rd_sw_at (x := x) ts lo dt h3 (by omega)
      rw [hsw] at kk
      by_cases hc : x.toInt < lo ∨ lo + ts.length ≤ x.toInt
      · rw [if_pos hc] at kk
        obtain ⟨q, hq1, hq2⟩ := rd_nx_of h1
        exact lv_tableOut hx hb hdg (by omega) hq2 (kk _ _ _ _ hq1 hH hl hst0)
      · rw [if_neg hc] at kk
        have hlt : (x.toInt - lo).toNat < ts.length := by omega
        have hts : rd_nth ts (x.toInt - lo).toNat = some (ts[(x.toInt - lo).toNat]) := by rw [rd_nth_get]; exact List.getElem?_eq_getElem hlt
        rw [hts] at kk
        obtain ⟨o, ho1, ho2⟩ := rd_tz_at h5 hts
        obtain ⟨q, hq1, hq2⟩ := rd_nx_of ho2
        exact lv_tableIn hx hb hdg (by omega) (by omega) (by rw [← ho1]; simp) hq2 (kk _ _ _ _ hq1 hH hl hst0)
    · cases ha
  | iaload =>
    simp only [rd_ck, Bool.and_eq_true, rd_ln] at hck
    cases rd_beq hck.1
    exact rd_ald_ok (b := false) hx hb hI hH hst ha hdg (fun e1 e2 e3 e4 => kk _ _ _ _ (by rw [e1]; exact rd_nx_nat hck.2) (by rw [e3]; exact hH) (by rw [e2]; exact hl) e4)
  | baload =>
    simp only [rd_ck, Bool.and_eq_true, rd_ln] at hck
    cases rd_beq hck.1
    exact rd_ald_ok (b := true) hx hb hI hH hst ha hdg (fun e1 e2 e3 e4 => kk _ _ _ _ (by rw [e1]; exact rd_nx_nat hck.2) (by rw [e3]; exact hH) (by rw [e2]; exact hl) e4)
  | iastore =>
    simp only [rd_ck, Bool.and_eq_true, rd_ln] at hck
    cases rd_beq hck.1
    exact rd_ast_ok (b := false) hx hb hI hH hst ha hdg (fun H' locs' e1 e2 e3 e4 => kk _ _ _ _ (by rw [e1]; exact rd_nx_nat hck.2) e3 (by rw [e2]; exact hl) e4)
  | bastore =>
    simp only [rd_ck, Bool.and_eq_true, rd_ln] at hck
    cases rd_beq hck.1
    exact rd_ast_ok (b := true) hx hb hI hH hst ha hdg (fun H' locs' e1 e2 e3 e4 => kk _ _ _ _ (by rw [e1]; exact rd_nx_nat hck.2) e3 (by rw [e2]; exact hl) e4)
  | arraylength =>
    simp only [rd_ck, Bool.and_eq_true, rd_ln] at hck
    cases rd_beq hck.1
    exact rd_alen_ok hx hb hI hH hst ha hdg (fun e1 e2 e3 e4 => kk _ _ _ _ (by rw [e1]; exact rd_nx_nat hck.2) (by rw [e3]; exact hH) (by rw [e2]; exact hl) e4)
  | getfield idx =>
    simp only [rd_ins] at ha
    simp only [rd_ck] at hck
    split at ha
    · rename_i ci sl f
      simp only [Bool.and_eq_true] at hck
      cases rd_beq hck.1.1
      have h999 : sl ≠ 999 := by have := Nat.le_of_ble_eq_true hck.2.2; omega
      exact rd_getf_ok hx hb hw hown hoc hck.2.1 h999 hI hH hst ha hdg (fun e1 e2 e3 e4 => kk _ _ _ _ (by rw [e1]; exact rd_nx_nat hck.1.2) (by rw [e3]; exact hH) (by rw [e2]; exact hl) e4)
    · cases ha
  | putfield idx =>
    simp only [rd_ins] at ha
    simp only [rd_ck] at hck
    split at ha
    · rename_i ci sl f t
      simp only [Bool.and_eq_true] at hck
      cases rd_beq hck.1.1
      have h999 : sl ≠ 999 := by have := Nat.le_of_ble_eq_true hck.2.2; omega
      exact rd_putf_ok hx hb hw hown hoc hck.2.1.1 h999 (rd_beq hck.2.1.2) hI hH hst ha hdg (fun H' locs' e1 e2 e3 e4 => kk _ _ _ _ (by rw [e1]; exact rd_nx_nat hck.1.2) e3 (by rw [e2]; exact hl) e4)
    · cases ha
  | getstatic idx =>
    simp only [rd_ins] at ha
    cases ha
    simp only [rd_ck] at hck
    split at hck
    · rename_i f
      simp only [Bool.and_eq_true] at hck
      cases rd_beq hck.1.1
      exact va_gets hx hb hI.2.1 hH.2.2 hown (hw _ (rd_flstat hck.2 hoc)) (fun _ h => h) hdg (kk _ _ _ _ (rd_nx_nat hck.1.2) hH hl (by simpa [rd_one] using hst))
    · simp at hck
  | invokestatic idx =>
    simp only [rd_ins] at ha
    simp only [rd_ck] at hck
    split at ha
    · unfold rd_callS at ha
      split at ha
      · split at ha <;> cases ha
      · cases ha
    · rename_i z q
      simp only [Bool.and_eq_true] at hck
      cases rd_beq hck.1.1
      have hck2 := hck.2
      have hR : ∀ a b, rd_rmle k a b = true → a ≤ R.frames ∧ b ≤ R.locals := by
        intro a b h
        unfold rd_rmle at h
        rw [hrm] at h
        simp only [Bool.and_eq_true, Nat.ble_eq] at h
        omega
      split at ha
      · rename_i hz
        rw [if_pos hz, Bool.and_eq_true] at hck2
        exact rd_copy_ok hx hb hl.1.symm hw hown hoc hck2.1 (hR _ _ hck2.2) hI hH ha hdg (fun H' locs' e1 e2 e3 e4 => kk _ _ _ _ (by rw [e1]; exact rd_nx_nat hck.1.2) e3 (by rw [e2]; exact hl) e4)
      · rename_i hz
        rw [if_neg hz, Bool.and_eq_true] at hck2
        unfold rd_min at ha
        split at ha
        · rename_i b1 a1 st0
          split at ha
          · rename_i hfew
            cases ha
            unfold rd_few at hfew
            rw [Bool.and_eq_true] at hfew
            have hlk := (rd_mlfact hck2.1 hoc).2.1 rfl
            have hR2 := hR _ _ hck2.2
            refine va_mmin (x := a1) (y := b1) (rest := st0.map (rd_cv ad)) hx hb hl.1.symm hown (hw _ hlk) (hw _ rd_mathS) (hw _ rd_mathI) (hw _ rd_mathC) hR2.1 ?_ hcs.1 hcs.2 hdg (kk _ _ _ _ (rd_nx_nat hck.1.2) hH hl (by simpa [rd_one] using hfew.1))
            have h8 := Nat.le_of_ble_eq_true hfew.2
            have hs := rd_cat_sum (ad := ad) hfew.1
            rw [hs]
            omega
          · cases ha
        · cases ha
    · cases ha
  | invokevirtual idx =>
    simp only [rd_ins] at ha
    split at ha
    · unfold rd_callV at ha
      split at ha
      · split at ha
        · split at ha <;> cases ha
        · cases ha
      · cases ha
    · cases ha
  | ireturn =>
    simp only [rd_ins] at ha
    split at ha <;> cases ha
  | return_ =>
    simp only [rd_ins] at ha
    split at ha <;> cases ha
  | _ => simp only [rd_ins] at ha; cases ha
end RDK
end
section
/-! Calls, contracts, and the whole run. -/
def rd_Pc (D : va_G) (cI cZ : ClassId) (ad : Nat → Nat) (base : Nat) (ρ : Nat × (Nat → Int32)) (S : List rd_Sh) (σ : rd_Sg) (as : List Value) : Array Value → State → Prop :=
  va_Pc (as.map (rd_cv ad)) (fun U => rd_In D cI cZ ad base ρ U ∧ va_P D vwCl (rd_wd cI cZ ad σ 0 S) U.heap ∧ va_D (fun q => base ≤ q) (rd_wd cI cZ ad σ 0 S))
def rd_Qc (D : va_G) (cI cZ : ClassId) (ad : Nat → Nat) (base : Nat) (S : List rd_Sh) (r : Option Value) (σ' : rd_Sg) : Array Value → State → Outcome → State → Prop :=
  fun _ st o t => o = .returned (r.map (rd_cv ad)) ∧ va_P D vwCl (rd_wd cI cZ ad σ' 0 S) t.heap ∧ va_D (fun q => base ≤ q) (rd_wd cI cZ ad σ' 0 S) ∧ va_F (fun q => base ≤ q) st t
theorem rd_pop_spec : ∀ {n : Nat} {acc st as rest : List Value}, rd_pop n acc st = some (as, rest) → ∃ ps : List Value, ps.length = n ∧ as = ps.reverse ++ acc ∧ st = ps ++ rest := by
  intro n
  induction n with
  | zero => intro acc st as rest h; rw [rd_pop] at h; cases h; exact ⟨[], rfl, rfl, rfl⟩
  | succ n ih =>
    intro acc st as rest h
    cases st with
    | nil => rw [rd_pop] at h; cases h
    | cons v st =>
      rw [rd_pop] at h
      obtain ⟨ps, h1, h2, h3⟩ := ih h
      exact ⟨v :: ps, by simp [h1], by simp [h2], by simp [h3]⟩
theorem rd_few_spec {rest : List Value} (h : rd_few rest = true) : rest.all rd_one = true ∧ rest.length ≤ 8 := by
  unfold rd_few at h
  rw [Bool.and_eq_true] at h
  exact ⟨h.1, Nat.le_of_ble_eq_true h.2⟩
theorem rd_sl_len {ad : Nat → Nat} : ∀ {as : List Value}, as.all rd_one = true → (lg_sl (as.map (rd_cv ad))).length = as.length := by
  intro as
  induction as with
  | nil => intro _; rfl
  | cons v as ih =>
    intro h
    rw [List.all_cons, Bool.and_eq_true] at h
    have hc := rd_one_cat (rd_cv_one (ad := ad) h.1)
    have h2 := ih h.2
    unfold lg_sl at h2 ⊢
    simp only [List.map_cons, List.flatMap_cons, List.length_append, List.length_cons]
    rw [h2, if_neg (by rw [hc]; decide)]
    simp
    omega
theorem rd_args_mem {ad : Nat → Nat} : ∀ {as : List Value} {j0 j : Nat} {v : Value}, as.all rd_one = true → rd_nth as j = some v → (j0 + j, rd_cv ad v) ∈ lv_args j0 (as.map (rd_cv ad)) := by
  intro as
  induction as with
  | nil => intro j0 j v _ h; cases h
  | cons a as ih =>
    intro j0 j v h hj
    rw [List.all_cons, Bool.and_eq_true] at h
    have hc := rd_one_cat (rd_cv_one (ad := ad) h.1)
    rw [List.map_cons, lv_args, if_neg (by rw [hc]; decide)]
    cases j with
    | zero => rw [rd_nth] at hj; cases hj; exact List.mem_cons_self
    | succ j =>
      rw [rd_nth] at hj
      refine List.mem_cons_of_mem _ ?_
      have := ih (j0 := j0 + 1) h.2 hj
      rwa [show j0 + 1 + j = j0 + (j + 1) by omega] at this
theorem rd_ent_at {k : Nat} {v : Value} : ∀ {as : List Value} {n j : Nat}, rd_nth (as.map some ++ List.replicate n none) j = some (some v) → rd_nth as j = some v := by
  intro as
  induction as with
  | nil =>
    intro n j h
    rw [rd_nth_get, List.map_nil, List.nil_append] at h
    have h2 := List.mem_of_getElem? h
    have h3 := List.eq_of_mem_replicate h2
    cases h3
  | cons a as ih =>
    intro n j h
    cases j with
    | zero => simp only [List.map_cons, List.cons_append, rd_nth] at h ⊢; cases h; rfl
    | succ j => simp only [List.map_cons, List.cons_append, rd_nth] at h ⊢; exact ih h
theorem rd_ent_ls {ad : Nat → Nat} {k L : Nat} {as : List Value} (h1 : as.all rd_one = true) (hlen : as.length ≤ L) (hL : L = rd_mL k) : rd_Ls ad ((lg_sl (as.map (rd_cv ad)) ++ List.replicate (L - (lg_sl (as.map (rd_cv ad))).length) Slot.unset).toArray) L (rd_ent k as) := by
  have h := lv_entry (as.map (rd_cv ad)) (n := L) (by rw [rd_sl_len h1]; exact hlen)
  refine ⟨h.1, h.2.1, ?_, fun j v hj => ?_⟩
  · unfold rd_ent
    simp only [List.length_append, List.length_map, List.length_replicate]
    omega
  · have hj' := rd_ent_at (k := k) hj
    refine ⟨List.all_eq_true.mp h1 v (rd_nth_mem hj'), ?_⟩
    have := h.2.2 _ (rd_args_mem (ad := ad) (j0 := 0) h1 hj')
    simpa using this
section RDC
variable {p : Program} {l : Launch} {e : Env} {R : Room} {s : State} {m : MethodId} {args : Array Value} {below : List Frame} {meth : Method} {c : Code} {cells slots : Nat} {Q : State → Prop}
variable {D : va_G} {cI cZ : ClassId} {ad : Nat → Nat} {base : Nat} {ρ : Nat × (Nat → Int32)} {S : List rd_Sh}
variable {H : Heap} {locs : List Loc} {ls : Array Slot} {cc : ByteArray}
theorem rd_In.at {U : State} {σ : rd_Sg} (hI : rd_In D cI cZ ad base ρ s) (hS : va_S (fun q => base ≤ q) s.heap H locs) (hU : U.heap = H) (hvm : s.vm.Alike U.vm) : rd_In D cI cZ ad base ρ U :=
  ⟨va_K.moved hvm hI.1, by rw [hU]; exact (hI.2.kept hS).moved hvm⟩
theorem rd_blind {σ : rd_Sg} {as : List Value} : FrameBlind (rd_Pc D cI cZ ad base ρ S σ as) := by
  intro a U g mk h
  obtain ⟨h1, ⟨hK, hX⟩, hP, hD⟩ := h
  exact ⟨h1, ⟨va_K.moved (u := U) (U := U.calling g mk a) (Vm.Alike.refl U.vm) hK, rd_X.moved (s := U) (u := U.calling g mk a) (Vm.Alike.refl U.vm) hX⟩, hP, hD⟩
theorem rd_cont {pc mc ms : Nat} {st0 rest : List Value} {a : Array Value} {r : Option Value} {σ' : rd_Sg}
    (hr : va_Run p l e R s m args below meth c H locs cells slots mc ms (F0 m pc ls st0) rest (rd_Qc D cI cZ ad base S r σ' a) (fun q => base ≤ q)) (hS : va_S (fun q => base ≤ q) s.heap H locs)
    (kk : ∀ (H1 : Heap) (locs1 : List Loc), rd_Hp D cI cZ ad base S s H1 locs1 σ' → W p l e R s m args below meth c H1 locs1 (cells + mc) (slots + ms) Q (F0 m (pc + 3) ls ((r.map (rd_cv ad)).toList ++ rest))) :
    W p l e R s m args below meth c H locs cells slots Q (F0 m pc ls st0) := by
  intro T hT X
  obtain ⟨v, st₀, t, T', L, h0, X', hL, e1, e2, ⟨hv, hP, hD, hz, hk⟩, st⟩ := hr T hT X
  cases hv
  rw [h0] at hz hk
  obtain ⟨t2, a1, b1⟩ := kk T'.heap (locs ++ L) ⟨by rw [e1]; exact hP, hD, ⟨Nat.le_trans hS.1 (by rw [e1]; exact hz), fun q h1 h2 => by rw [e1, hk q (Nat.lt_of_lt_of_le h1 hS.1) h2]; exact hS.2.1 q h1 h2, fun q hq => by
      rcases List.mem_append.mp hq with h | h
      · exact hS.2.2 q h
      · exact hL q h⟩⟩ T' rfl X'
  exact ⟨t2, st t2 a1, b1⟩
set_option maxHeartbeats 4000000 in
theorem rd_call {k i : Nat} {vs : rd_Lv} {st : List Value} {σ σ' : rd_Sg} {k2 : Nat} {as rest : List Value} {pc : Nat} {r : Option Value} (hF : rd_Fr p R s m args c k) (hI : rd_In D cI cZ ad base ρ s)
    (ha : rd_act S (rd_ro ρ) k i vs st σ = some (.inr (.inr (k2, as, rest)))) (hpc : rd_pc k i = some pc) (hH : rd_Hp D cI cZ ad base S s H locs σ) (hl : rd_Ls ad ls c.maxLocals vs) (hst : st.all rd_one = true) (hcs : cells ≤ R.cells ∧ slots ≤ R.slots)
    (hmet : ∀ (y : MethodName) (b : ByteArray) (L : Nat) (ret : Option FieldType) (fr lo : Nat), rd_nth rd_mt k2 = some (y, b, L, ret) → rd_nth rd_rm k2 = some (fr, 0, 0, lo) → as.all rd_one = true → as.length ≤ L → rd_mi k2 ≠ 3 → Met l y (rd_ws y b L ret) { frames := fr, cells := 0, slots := 0, locals := lo } (rd_Pc D cI cZ ad base ρ S σ as) (rd_Qc D cI cZ ad base S r σ') 0 0 (fun q => base ≤ q))
    (kk : ∀ (pc' : Nat) (H' : Heap) (locs' : List Loc), rd_pc k (i + 1) = some pc' → rd_Hp D cI cZ ad base S s H' locs' σ' → rest.all rd_one = true → W p l e R s m args below meth c H' locs' cells slots Q (F0 m pc' ls ((r.toList ++ rest).map (rd_cv ad)))) :
    W p l e R s m args below meth c H locs cells slots Q (F0 m pc ls (st.map (rd_cv ad))) := by
  obtain ⟨y, b, L, ret, fr, mc, ms, lo, hm, hx, hb, hml, hown, hw, hrm, hfr, hlo⟩ := hF
  obtain ⟨hoc, -, -, -, -⟩ := rd_mfact hm
  have hlist : (r.toList ++ rest).map (rd_cv ad) = (r.map (rd_cv ad)).toList ++ rest.map (rd_cv ad) := by cases r <;> simp
  rw [hlist] at kk
  unfold rd_act at ha
  unfold rd_pc at hpc
  split at ha
  case h_2 => cases ha
  case h_1 pc0 ins len aux hlk =>
  rw [hlk] at hpc
  cases hpc
  have hdg := rd_dec hlk hm
  have hck := rd_ck_ok hlk
  have rmk : ∀ {k2 : Nat}, rd_rmok k k2 = true → rd_z k2 = true → ∃ fr2 lo2, rd_nth rd_rm k2 = some (fr2, 0, 0, lo2) ∧ fr2 + 1 ≤ R.frames ∧ 8 + (rd_mL k2 + 11) + lo2 ≤ R.locals := by
    intro k2 h1 h2
    unfold rd_rmok at h1
    unfold rd_z at h2
    rw [hrm] at h1
    split at h2
    · rename_i f2 lo2 h3
      rw [h3] at h1
      simp only [Bool.and_eq_true, Nat.ble_eq] at h1
      exact ⟨f2, lo2, h3, by omega, by omega⟩
    · cases h2
  have hX : ∀ U : State, U.heap = H → s.WarmedH U.vm → rd_In D cI cZ ad base ρ U ∧ va_P D vwCl (rd_wd cI cZ ad σ 0 S) U.heap ∧ va_D (fun q => base ≤ q) (rd_wd cI cZ ad σ 0 S) := fun U hU hW => ⟨hI.at (σ := σ) hH.2.2 hU hW.alike, by rw [hU]; exact hH.1, hH.2.1⟩
  cases ins with
  | invokevirtual idx =>
    simp only [rd_ins] at ha
    simp only [rd_ck] at hck
    split at ha
    · rename_i k2' n q ci
      simp only [Bool.and_eq_true] at hck
      obtain ⟨⟨hlen, hnx⟩, ⟨⟨⟨⟨⟨h1, h2⟩, h3⟩, h4⟩, h5⟩, h6⟩, h7⟩ := hck
      cases rd_beq hlen
      unfold rd_callV at ha
      split at ha
      · rename_i as' cl rest' hpop
        split at ha
        · rename_i cj ks hsh
          split at ha
          · rename_i hcc
            cases ha
            obtain ⟨ps, hp1, hp2, hp3⟩ := rd_pop_spec hpop
            rw [List.append_nil] at hp2
            obtain ⟨hf1, hf2⟩ := rd_few_spec hcc.2
            have hmi := rd_beq h2
            obtain ⟨-, -, -, hml3⟩ := rd_mlfact h1 hoc
            have hk2 : k2 ≠ 1000 ∧ k2 ≠ 1001 ∧ k2 ≠ 2000 := by
              refine ⟨?_, ?_, ?_⟩ <;> (intro e0; subst e0; revert hmi; decide +kernel)
            obtain ⟨y2, b2, L2, ret2, hm2, hlk2⟩ := hml3 hk2.1 hk2.2.1 hk2.2.2
            obtain ⟨-, hnh, hpar, hL2, hrest2⟩ := rd_mfact hm2
            obtain ⟨hpl2, hcode, hini, -, hv2, -⟩ := hrest2 (by rw [hmi]; decide)
            obtain ⟨hins, hsel, hcn⟩ := hv2 hmi
            obtain ⟨fr2, lo2, hrm2, hr1, hr2⟩ := rmk h5 h6
            have hst' : (ps ++ Value.ref cl :: rest).all rd_one = true := by rw [← hp3]; exact hst
            rw [List.all_append, Bool.and_eq_true] at hst'
            have has : (Value.ref cl :: as').all rd_one = true := by
              rw [hp2]
              simp only [List.all_cons, rd_one, Bool.true_and]
              rw [List.all_reverse]
              exact hst'.1
            have hlen2 : (Value.ref cl :: as').length ≤ L2 := by
              rw [hp2, hL2]
              simp only [List.length_cons, List.length_reverse, hp1]
              exact Nat.le_of_ble_eq_true h7
            have hM := hmet y2 b2 L2 ret2 fr2 lo2 hm2 hrm2 has hlen2 (by rw [hmi]; decide)
            have hn : n = rd_at rd_np k2 := rd_beq h3
            have hcb : CallB R s args y.cls idx y2 b2 L2 ret2 (rd_ws y2 b2 L2 ret2) { frames := fr2, cells := 0, slots := 0, locals := lo2 } 0 0 n :=
              callB_of n hw (rd_goodIn hcode) rfl rfl rfl (hw _ hini) (hw _ hlk2) ⟨hnh.1, hnh.2, by rw [hpar, hn]⟩ ⟨hr1, by rw [hL2]; exact hr2⟩
            have hcl : vwCl[cj]?.map (fun q => q.1) = some y2.cls := by
              rw [rd_nth_get, List.getElem?_map] at hcn
              rw [hcc.1, rd_beq h4]
              exact hcn
            cases hvc : vwCl[cj]? with
            | none => rw [hvc] at hcl; cases hcl
            | some qc =>
              rw [hvc] at hcl
              have hqc : qc.1 = y2.cls := Option.some.inj hcl
              have hrecv := va_recv hI.1 hH.1 hvc (rd_wd_0 (cI := cI) (cZ := cZ) (ad := ad) (σ := σ) hsh)
              rw [hqc] at hrecv
              have hrun := va_runV (p := p) (l := l) (e := e) (R := R) (s := s) (m := m) (args := args) (below := below) (meth := meth) (c := c) (H := H) (locs := locs) (cells := cells) (slots := slots) (As := as'.map (rd_cv ad)) (rest := rest.map (rd_cv ad)) (b := ad cl) (g := F0 m pc0 ls (st.map (rd_cv ad))) (nL := c.maxLocals) ⟨hx, hb, rfl, hown, hw⟩ hM ⟨hcb, hw _ hins, hw _ hsel⟩ ⟨rd_blind, hrecv, fun U hU hW => ⟨rfl, hX U hU hW⟩⟩ rfl (by rw [List.length_map, hp2, List.length_reverse, hp1]) hl.1 (by rw [hp3, hp2]; simp [rd_cv]) (lv_room (by rw [rd_cat_sum hf1]; exact hf2)) hdg ⟨by omega, by omega⟩
              exact rd_cont hrun hH.2.2 (fun H1 locs1 hh => kk _ _ _ (rd_nx_nat hnx) hh hf1)
          · cases ha
        · cases ha
      · cases ha
    · cases ha
  | invokestatic idx =>
    simp only [rd_ins] at ha
    simp only [rd_ck] at hck
    split at ha
    · rename_i k2' n q
      simp only [Bool.and_eq_true] at hck
      obtain ⟨⟨hlen, hnx⟩, ⟨⟨⟨⟨h1, h2⟩, h3⟩, h5⟩, h6⟩, h7⟩ := hck
      cases rd_beq hlen
      unfold rd_callS at ha
      split at ha
      · rename_i as' rest' hpop
        split at ha
        · rename_i hcc
          cases ha
          obtain ⟨ps, hp1, hp2, hp3⟩ := rd_pop_spec hpop
          rw [List.append_nil] at hp2
          obtain ⟨hf1, hf2⟩ := rd_few_spec hcc
          have hmi := rd_beq h2
          obtain ⟨-, -, -, hml3⟩ := rd_mlfact h1 hoc
          have hk2 : k2 ≠ 1000 ∧ k2 ≠ 1001 ∧ k2 ≠ 2000 := by
            refine ⟨?_, ?_, ?_⟩ <;> (intro e0; subst e0; revert hmi; decide +kernel)
          obtain ⟨y2, b2, L2, ret2, hm2, hlk2⟩ := hml3 hk2.1 hk2.2.1 hk2.2.2
          obtain ⟨-, hnh, hpar, hL2, hrest2⟩ := rd_mfact hm2
          obtain ⟨hpl2, hcode, hini, hs2, -, -⟩ := hrest2 (by rw [hmi]; decide)
          have hstat := hs2 hmi
          obtain ⟨fr2, lo2, hrm2, hr1, hr2⟩ := rmk h5 h6
          have hst' : (ps ++ rest).all rd_one = true := by rw [← hp3]; exact hst
          rw [List.all_append, Bool.and_eq_true] at hst'
          have has : as.all rd_one = true := by
            rw [hp2, List.all_reverse]
            exact hst'.1
          have hlen2 : as.length ≤ L2 := by
            rw [hp2, hL2]
            simp only [List.length_reverse, hp1]
            exact Nat.le_of_ble_eq_true h7
          have hM := hmet y2 b2 L2 ret2 fr2 lo2 hm2 hrm2 has hlen2 (by rw [hmi]; decide)
          have hn : n = rd_at rd_np k2 := rd_beq h3
          have hcb : CallB R s args y.cls idx y2 b2 L2 ret2 (rd_ws y2 b2 L2 ret2) { frames := fr2, cells := 0, slots := 0, locals := lo2 } 0 0 n :=
            callB_of n hw (rd_goodIn hcode) rfl rfl rfl (hw _ hini) (hw _ hlk2) ⟨hnh.1, hnh.2, by rw [hpar, hn]⟩ ⟨hr1, by rw [hL2]; exact hr2⟩
          have hrun := va_runS (p := p) (l := l) (e := e) (R := R) (s := s) (m := m) (args := args) (below := below) (meth := meth) (c := c) (H := H) (locs := locs) (cells := cells) (slots := slots) (As := as.map (rd_cv ad)) (rest := rest.map (rd_cv ad)) (g := F0 m pc0 ls (st.map (rd_cv ad))) (nL := c.maxLocals) ⟨hx, hb, rfl, hown, hw⟩ hM ⟨hcb, hw _ hstat⟩ ⟨rd_blind, fun U hU hW => ⟨rfl, hX U hU hW⟩⟩ rfl (by rw [List.length_map, hp2, List.length_reverse, hp1]) hl.1 (by rw [hp3, hp2]; simp) (lv_room (by rw [rd_cat_sum hf1]; exact hf2)) hdg ⟨by omega, by omega⟩
          exact rd_cont hrun hH.2.2 (fun H1 locs1 hh => kk _ _ _ (rd_nx_nat hnx) hh hf1)
        · cases ha
      · cases ha
    · split at ha
      · unfold rd_copy at ha
        split at ha
        · split at ha
          · split at ha <;> cases ha
          · cases ha
        · cases ha
      · unfold rd_min at ha
        split at ha
        · split at ha <;> cases ha
        · cases ha
    · cases ha
  | iconst _ => cases ha
  | bipush _ => cases ha
  | sipush _ => cases ha
  | iload_n _ => simp only [rd_ins, rd_iload] at ha; split at ha <;> cases ha
  | iload _ => simp only [rd_ins, rd_iload] at ha; split at ha <;> cases ha
  | aload_n _ => simp only [rd_ins, rd_aload] at ha; split at ha <;> cases ha
  | aload _ => simp only [rd_ins, rd_aload] at ha; split at ha <;> cases ha
  | istore_n _ => simp only [rd_ins, rd_istore] at ha; split at ha <;> (try split at ha) <;> cases ha
  | istore _ => simp only [rd_ins, rd_istore] at ha; split at ha <;> (try split at ha) <;> cases ha
  | astore_n _ => simp only [rd_ins, rd_astore] at ha; split at ha <;> (try split at ha) <;> cases ha
  | astore _ => simp only [rd_ins, rd_astore] at ha; split at ha <;> (try split at ha) <;> cases ha
  | iinc _ _ => simp only [rd_ins] at ha; split at ha <;> (try split at ha) <;> cases ha
  | iadd => simp only [rd_ins, rd_bin] at ha; split at ha <;> cases ha
  | isub => simp only [rd_ins, rd_bin] at ha; split at ha <;> cases ha
  | imul => simp only [rd_ins, rd_bin] at ha; split at ha <;> cases ha
  | iand => simp only [rd_ins, rd_bin] at ha; split at ha <;> cases ha
  | ior => simp only [rd_ins, rd_bin] at ha; split at ha <;> cases ha
  | ishl => simp only [rd_ins, rd_bin] at ha; split at ha <;> cases ha
  | ishr => simp only [rd_ins, rd_bin] at ha; split at ha <;> cases ha
  | dup => simp only [rd_ins] at ha; split at ha <;> cases ha
  | dup2 => simp only [rd_ins] at ha; split at ha <;> cases ha
  | goto _ => simp only [rd_ins] at ha; split at ha <;> cases ha
  | ifCond cd _ => simp only [rd_ins] at ha; split at ha <;> (try (cases cd <;> simp only [rd_if] at ha <;> split at ha)) <;> cases ha
  | if_icmp cd _ => simp only [rd_ins] at ha; split at ha <;> (try (cases cd <;> simp only [rd_icmp] at ha <;> split at ha)) <;> cases ha
  | tableswitch _ _ _ _ => simp only [rd_ins] at ha; split at ha <;> cases ha
  | iaload => simp only [rd_ins, rd_ald] at ha; split at ha <;> (try split at ha) <;> (try split at ha) <;> cases ha
  | baload => simp only [rd_ins, rd_ald] at ha; split at ha <;> (try split at ha) <;> (try split at ha) <;> cases ha
  | iastore => simp only [rd_ins, rd_ast] at ha; split at ha <;> (try split at ha) <;> (try split at ha) <;> (try split at ha) <;> cases ha
  | bastore => simp only [rd_ins, rd_ast] at ha; split at ha <;> (try split at ha) <;> (try split at ha) <;> (try split at ha) <;> cases ha
  | arraylength => simp only [rd_ins, rd_alen] at ha; split at ha <;> (try split at ha) <;> (try split at ha) <;> cases ha
  | getfield _ => simp only [rd_ins, rd_getf] at ha; split at ha <;> (try split at ha) <;> (try split at ha) <;> (try split at ha) <;> (try split at ha) <;> (try split at ha) <;> cases ha
  | putfield _ => simp only [rd_ins, rd_putf] at ha; split at ha <;> (try split at ha) <;> (try split at ha) <;> (try split at ha) <;> (try split at ha) <;> (try split at ha) <;> cases ha
  | getstatic _ => cases ha
  | ireturn => simp only [rd_ins] at ha; split at ha <;> cases ha
  | return_ => simp only [rd_ins] at ha; split at ha <;> cases ha
  | _ => simp only [rd_ins] at ha; cases ha
end RDC
end
section
/-! The run of the small machine is the machine's run. -/
theorem rd_act_end {S : List rd_Sh} {ro : Nat → Option (Nat × (Nat → Int32))} {k i : Nat} {vs : rd_Lv} {st : List Value} {σ σ' : rd_Sg} {r : Option Value} (h : rd_act S ro k i vs st σ = some (.inl (r, σ'))) : σ' = σ ∧ ∃ pc len aux, (rd_look k i = some (pc, .ireturn, len, aux) ∧ ∃ v, st = [.int v] ∧ r = some (.int (rd_bit (rd_mz k) v))) ∨ (rd_look k i = some (pc, .return_, len, aux) ∧ st = [] ∧ r = none) := by
  unfold rd_act at h
  split at h
  case h_2 => cases h
  case h_1 pc0 ins len aux hlk =>
  cases ins with
  | ireturn =>
    simp only [rd_ins] at h
    split at h
    · rename_i v
      cases h
      exact ⟨rfl, pc0, len, aux, Or.inl ⟨hlk, v, rfl, rfl⟩⟩
    · cases h
  | return_ =>
    simp only [rd_ins] at h
    split at h
    · cases h
      exact ⟨rfl, pc0, len, aux, Or.inr ⟨hlk, rfl, rfl⟩⟩
    · cases h
  | invokevirtual _ =>
    simp only [rd_ins, rd_callV] at h
    split at h <;> (try split at h) <;> (try split at h) <;> (try split at h) <;> cases h
  | invokestatic _ =>
    simp only [rd_ins, rd_callS, rd_copy, rd_min] at h
    split at h <;> (try split at h) <;> (try split at h) <;> (try split at h) <;> (try split at h) <;> cases h
  | iconst _ => cases h
  | bipush _ => cases h
  | sipush _ => cases h
  | iload_n _ => simp only [rd_ins, rd_iload] at h; split at h <;> cases h
  | iload _ => simp only [rd_ins, rd_iload] at h; split at h <;> cases h
  | aload_n _ => simp only [rd_ins, rd_aload] at h; split at h <;> cases h
  | aload _ => simp only [rd_ins, rd_aload] at h; split at h <;> cases h
  | istore_n _ => simp only [rd_ins, rd_istore] at h; split at h <;> (try split at h) <;> cases h
  | istore _ => simp only [rd_ins, rd_istore] at h; split at h <;> (try split at h) <;> cases h
  | astore_n _ => simp only [rd_ins, rd_astore] at h; split at h <;> (try split at h) <;> cases h
  | astore _ => simp only [rd_ins, rd_astore] at h; split at h <;> (try split at h) <;> cases h
  | iinc _ _ => simp only [rd_ins] at h; split at h <;> (try split at h) <;> cases h
  | iadd => simp only [rd_ins, rd_bin] at h; split at h <;> cases h
  | isub => simp only [rd_ins, rd_bin] at h; split at h <;> cases h
  | imul => simp only [rd_ins, rd_bin] at h; split at h <;> cases h
  | iand => simp only [rd_ins, rd_bin] at h; split at h <;> cases h
  | ior => simp only [rd_ins, rd_bin] at h; split at h <;> cases h
  | ishl => simp only [rd_ins, rd_bin] at h; split at h <;> cases h
  | ishr => simp only [rd_ins, rd_bin] at h; split at h <;> cases h
  | dup => simp only [rd_ins] at h; split at h <;> cases h
  | dup2 => simp only [rd_ins] at h; split at h <;> cases h
  | goto _ => simp only [rd_ins] at h; split at h <;> cases h
  | ifCond cd _ => simp only [rd_ins] at h; split at h <;> (try (cases cd <;> simp only [rd_if] at h <;> split at h)) <;> cases h
  | if_icmp cd _ => simp only [rd_ins] at h; split at h <;> (try (cases cd <;> simp only [rd_icmp] at h <;> split at h)) <;> cases h
  | tableswitch _ _ _ _ => simp only [rd_ins] at h; split at h <;> cases h
  | iaload => simp only [rd_ins, rd_ald] at h; split at h <;> (try split at h) <;> (try split at h) <;> cases h
  | baload => simp only [rd_ins, rd_ald] at h; split at h <;> (try split at h) <;> (try split at h) <;> cases h
  | iastore => simp only [rd_ins, rd_ast] at h; split at h <;> (try split at h) <;> (try split at h) <;> (try split at h) <;> cases h
  | bastore => simp only [rd_ins, rd_ast] at h; split at h <;> (try split at h) <;> (try split at h) <;> (try split at h) <;> cases h
  | arraylength => simp only [rd_ins, rd_alen] at h; split at h <;> (try split at h) <;> (try split at h) <;> cases h
  | getfield _ => simp only [rd_ins, rd_getf] at h; split at h <;> (try split at h) <;> (try split at h) <;> (try split at h) <;> (try split at h) <;> (try split at h) <;> cases h
  | putfield _ => simp only [rd_ins, rd_putf] at h; split at h <;> (try split at h) <;> (try split at h) <;> (try split at h) <;> (try split at h) <;> (try split at h) <;> cases h
  | getstatic _ => cases h
  | _ => simp only [rd_ins] at h; cases h
theorem rd_pc0_all : (List.range 195).all (fun k => decide (rd_pc k 0 = some 0)) = true := by decide +kernel
theorem rd_pc0 {k : Nat} (hk : k < 195) : rd_pc k 0 = some 0 := of_decide_eq_true (List.all_eq_true.mp rd_pc0_all k (List.mem_range.mpr hk))
theorem rd_ev_one {S : List rd_Sh} {ro : Nat → Option (Nat × (Nat → Int32))} : ∀ (n : Nat) {k i : Nat} {vs : rd_Lv} {st : List Value} {σ σ' : rd_Sg} {r : Option Value}, rd_ev S ro n k i vs st σ = some (r, σ') → r.toList.all rd_one = true := by
  intro n
  induction n with
  | zero => intro k i vs st σ σ' r h; cases h
  | succ n ih =>
    intro k i vs st σ σ' r h
    rw [rd_ev] at h
    cases ha : rd_act S ro k i vs st σ with
    | none => rw [ha] at h; cases h
    | some a =>
      rw [ha] at h
      rcases a with q | ⟨i', vs', st', σ1⟩ | ⟨k2, as, rest⟩
      · cases h
        obtain ⟨-, pc, len, aux, h1 | h1⟩ := rd_act_end ha
        · obtain ⟨-, v, -, hr⟩ := h1
          rw [hr]; rfl
        · rw [h1.2.2]; rfl
      · exact ih h
      · dsimp only at h
        cases hc : rd_ev S ro n k2 0 (rd_ent k2 as) [] σ with
        | none => rw [hc] at h; cases h
        | some q => rw [hc] at h; exact ih h
section RDR
variable {l : Launch} {D : va_G} {cI cZ : ClassId} {ad : Nat → Nat} {base : Nat} {ρ : Nat × (Nat → Int32)} {S : List rd_Sh}
/-- n units of fuel: whatever the small machine does with them, the machine does -/
def rd_Ok (l : Launch) (D : va_G) (cI cZ : ClassId) (ad : Nat → Nat) (base : Nat) (ρ : Nat × (Nat → Int32)) (S : List rd_Sh) (n : Nat) : Prop :=
  ∀ (k i : Nat) (vs : rd_Lv) (st : List Value) (σ σ' : rd_Sg) (r : Option Value), rd_ev S (rd_ro ρ) n k i vs st σ = some (r, σ') →
  ∀ (p : Program) (e : Env) (R : Room) (s : State) (m : MethodId) (args : Array Value) (below : List Frame) (meth : Method) (c : Code) (cells slots : Nat) (Q : State → Prop) (H : Heap) (locs : List Loc) (ls : Array Slot) (pc : Nat),
  rd_Fr p R s m args c k → rd_In D cI cZ ad base ρ s → rd_pc k i = some pc → rd_Hp D cI cZ ad base S s H locs σ → rd_Ls ad ls c.maxLocals vs → st.all rd_one = true → cells ≤ R.cells ∧ slots ≤ R.slots →
  (∀ (i' pc' : Nat) (vs' : rd_Lv) (st' : List Value) (H' : Heap) (locs' : List Loc) (ls' : Array Slot), rd_pc k i' = some pc' → rd_act S (rd_ro ρ) k i' vs' st' σ' = some (.inl (r, σ')) → rd_Hp D cI cZ ad base S s H' locs' σ' → W p l e R s m args below meth c H' locs' cells slots Q (F0 m pc' ls' (st'.map (rd_cv ad)))) →
  W p l e R s m args below meth c H locs cells slots Q (F0 m pc ls (st.map (rd_cv ad)))
theorem rd_zret {p : Program} {e : Env} {R : Room} {s : State} {m : MethodId} {args : Array Value} {below : List Frame} {meth : Method} {c : Code} {cells slots : Nat} {H : Heap} {locs : List Loc} {cc : ByteArray} {Qc : Array Value → State → Outcome → State → Prop} {free : Addr → Prop} {v : Int32} (hexec : p.tables.exec = Jvm.exec) (hb : c.code = cc) (hr : meth.sig.returnType = some .boolean)
    (hq : ∀ t : State, t.heap = H → s.WarmedH t.vm → Qc args s (.returned (some (.int (v &&& 1)))) t) (hf : ∀ q ∈ locs, free q.base)
    {pc : Nat} {ls : Array Slot} (hdg : decode cc pc = .ok (.ireturn, 1)) (hlocks : meth.locks = false) : W p l e R s m args below meth c H locs cells slots (MQ below Qc args s cells slots free) (F0 m pc ls [.int v]) := by
  intro T hT X
  obtain ⟨fs, hret, hrun, hended, hW, hframe⟩ := X.leave (v := some (.int (v &&& 1))) (hlocks := hlocks) (fun h => by rw [hr] at h; cases h)
  have hmeth' : T.vm.method? m = some meth := X.method'
  refine ⟨T.setFrames fs, ?_, .returned (some (.int (v &&& 1))), hrun, hended, hq _ hT hW, locs, ⟨⟨_, rfl⟩, hW, hframe⟩, hf⟩
  jvm_step X.here [X.here.top, hexec, hb, hdg, hmeth', hr, narrow]
  (try refine ⟨rfl, ?_⟩); (try refine ⟨rfl, ?_⟩)
  first | (intro acts; rw [hret _ acts rfl rfl rfl]) | rw [hret _ _ rfl rfl rfl]
  exact Steps.refl _
theorem rd_met {n : Nat} (ih : rd_Ok l D cI cZ ad base ρ S n) {k : Nat} {as : List Value} {σ σ' : rd_Sg} {r : Option Value} (hev : rd_ev S (rd_ro ρ) n k 0 (rd_ent k as) [] σ = some (r, σ'))
    {y : MethodName} {b : ByteArray} {L : Nat} {ret : Option FieldType} {fr lo : Nat} (hm : rd_nth rd_mt k = some (y, b, L, ret)) (hrm : rd_nth rd_rm k = some (fr, 0, 0, lo)) (has : as.all rd_one = true) (hlen : as.length ≤ L) (hmi : rd_mi k ≠ 3) :
    Met l y (rd_ws y b L ret) { frames := fr, cells := 0, slots := 0, locals := lo } (rd_Pc D cI cZ ad base ρ S σ as) (rd_Qc D cI cZ ad base S r σ') 0 0 (fun q => base ≤ q) := by
  obtain ⟨hoc, hnh, hpar, hL, hrest⟩ := rd_mfact hm
  obtain ⟨hpl, -⟩ := hrest hmi
  refine Met.ofW (cc := b) (maxL := L) (ret := ret) hpl rfl ?_
  intro p e s m args below meth c s₁ B hml hv
  obtain ⟨rfl, hI, hP, hD⟩ := hv
  have hts := atoms_spec (ws := rd_ws y b L ret) B.pre
  have hF : rd_Fr p (headSpec (rd_ws y b L ret) { frames := fr, cells := 0, slots := 0, locals := lo }).room s m (as.map (rd_cv ad)).toArray c k :=
    ⟨y, b, L, ret, fr, 0, 0, lo, hm, B.exec, B.bytes, hml, findClass_of_methodNamed B.named, fun w hw => hts w (List.mem_cons_of_mem _ hw), hrm, Nat.le_refl _, Nat.le_refl _⟩
  rw [lg_entry_eq]
  have hpc0 : rd_pc k 0 = some 0 := by
    cases n with
    | zero => cases hev
    | succ n =>
      have hk : k < 195 := by
        have h := rd_nth_lt hm
        have e0 : rd_mt.length = 195 := by decide +kernel
        omega
      exact rd_pc0 hk
  refine ih k 0 (rd_ent k as) [] σ σ' r hev p e _ s m _ below meth c 0 0 _ s.heap [] _ 0 hF hI hpc0 ⟨hP, hD, va_S.rf⟩ (by rw [hml]; exact rd_ent_ls has hlen hL) rfl ⟨Nat.zero_le _, Nat.zero_le _⟩ ?_
  intro i' pc' vs' st' H' locs' ls' hpc' hact hH'
  obtain ⟨-, pc1, len, aux, h⟩ := rd_act_end hact
  have hr := B.returns
  have hlocks := B.notSynchronized
  rcases h with ⟨hlk, v, hst, hrv⟩ | ⟨hlk, hst, hrv⟩
  · have e1 : pc1 = pc' := by
      unfold rd_pc at hpc'
      rw [hlk] at hpc'
      exact Option.some.inj hpc'
    subst e1
    have hdg := rd_dec hlk hm
    have hck := rd_ck_ok hlk
    simp only [rd_ck, Bool.and_eq_true, Bool.or_eq_true, decide_eq_true_eq] at hck
    cases rd_beq hck.1
    have hret : rd_ret k = ret := by unfold rd_ret; rw [hm]
    rw [hret] at hck
    subst hst
    rcases hck.2 with (h194 | ⟨h1, h2⟩) | ⟨h1, h2⟩
    · exact absurd (by rw [rd_beq h194]; decide +kernel) hmi
    · subst h1
      have hz : rd_mz k = false := by simpa using h2
      rw [hz] at hrv
      have hrv : r = some (.int v) := hrv
      refine W.iret (v := v) B.exec B.bytes hr (fun t ht hW => ⟨by rw [hrv]; rfl, by rw [ht]; exact hH'.1, hH'.2.1, hH'.2.2.F ht⟩) hH'.2.2.2.2 hdg
    · subst h1
      rw [h2] at hrv
      have hrv : r = some (.int (v &&& 1)) := hrv
      exact rd_zret (v := v) B.exec B.bytes hr (fun t ht hW => ⟨by rw [hrv]; rfl, by rw [ht]; exact hH'.1, hH'.2.1, hH'.2.2.F ht⟩) hH'.2.2.2.2 hdg hlocks
  · have e1 : pc1 = pc' := by
      unfold rd_pc at hpc'
      rw [hlk] at hpc'
      exact Option.some.inj hpc'
    subst e1
    have hdg := rd_dec hlk hm
    have hck := rd_ck_ok hlk
    simp only [rd_ck, Bool.and_eq_true, decide_eq_true_eq] at hck
    cases rd_beq hck.1
    have hret : rd_ret k = ret := by unfold rd_ret; rw [hm]
    rw [hret] at hck
    subst hst
    have hrn : ret = none := hck.2
    subst hrn
    exact W.vret B.exec B.bytes hr (fun t ht hW => ⟨by rw [hrv]; rfl, by rw [ht]; exact hH'.1, hH'.2.1, hH'.2.2.F ht⟩) hH'.2.2.2.2 hdg
theorem rd_ok : ∀ n : Nat, rd_Ok l D cI cZ ad base ρ S n := by
  intro n
  induction n with
  | zero => intro k i vs st σ σ' r h; cases h
  | succ n ih =>
    intro k i vs st σ σ' r h p e R s m args below meth c cells slots Q H locs ls pc hF hI hpc hH hl hst hcs fin
    rw [rd_ev] at h
    cases ha : rd_act S (rd_ro ρ) k i vs st σ with
    | none => rw [ha] at h; cases h
    | some a =>
      rw [ha] at h
      rcases a with q | ⟨i', vs', st', σ1⟩ | ⟨k2, as, rest⟩
      · cases h
        obtain ⟨e1, -⟩ := rd_act_end ha
        subst e1
        exact fin i pc vs st H locs ls hpc ha hH
      · exact rd_jump hF hI ha hpc hH hl hst hcs (fun pc' H' locs' ls' h1 h2 h3 h4 => ih k i' vs' st' σ1 σ' r h p e R s m args below meth c cells slots Q H' locs' ls' pc' hF hI h1 h2 h3 h4 hcs fin)
      · dsimp only at h
        cases hc : rd_ev S (rd_ro ρ) n k2 0 (rd_ent k2 as) [] σ with
        | none => rw [hc] at h; cases h
        | some q =>
          rw [hc] at h
          obtain ⟨r1, σ1⟩ := q
          refine rd_call (r := r1) (σ' := σ1) hF hI ha hpc hH hl hst hcs (fun y b L ret fr lo hm hrm has hlen hmi => rd_met ih hc hm hrm has hlen hmi) (fun pc' H' locs' h1 h2 h3 => ?_)
          have h : rd_ev S (rd_ro ρ) n k (i + 1) vs (r1.toList ++ rest) σ1 = some (r, σ') := h
          refine ih k (i + 1) vs (r1.toList ++ rest) σ1 σ' r h p e R s m args below meth c cells slots Q H' locs' ls pc' hF hI h1 h2 hl ?_ hcs fin
          rw [List.all_append, Bool.and_eq_true]
          exact ⟨rd_ev_one n hc, h3⟩
end RDR
end
section
/-! Answers of the small machine, and a law for each instruction. -/
def rd_toR : Option Value × rd_Sg → Option (Int32 × rd_Sg)
  | (some (.int v), σ) => some (v, σ)
  | (none, σ) => some (0, σ)
  | _ => none
noncomputable def rd_R0 (S : List rd_Sh) (ro : Nat → Option (Nat × (Nat → Int32))) (k i : Nat) (vs : rd_Lv) (st : List Value) (σ : rd_Sg) : Option (Int32 × rd_Sg) := (rd_E S ro k i vs st σ).bind rd_toR
/-- what a method gives back: an int, or nothing -/
theorem rd_ev_ret {S : List rd_Sh} {ro : Nat → Option (Nat × (Nat → Int32))} : ∀ (n : Nat) {k i : Nat} {vs : rd_Lv} {st : List Value} {σ σ' : rd_Sg} {r : Option Value}, rd_ev S ro n k i vs st σ = some (r, σ') → (rd_ret k = none ∧ r = none) ∨ ((k = 194 ∨ rd_ret k ≠ none) ∧ ∃ v, r = some (.int v)) := by
  intro n
  induction n with
  | zero => intro k i vs st σ σ' r h; cases h
  | succ n ih =>
    intro k i vs st σ σ' r h
    rw [rd_ev] at h
    cases ha : rd_act S ro k i vs st σ with
    | none => rw [ha] at h; cases h
    | some a =>
      rw [ha] at h
      rcases a with q | ⟨i', vs', st', σ1⟩ | ⟨k2, as, rest⟩
      · cases h
        obtain ⟨-, pc, len, aux, h1 | h1⟩ := rd_act_end ha
        · obtain ⟨hlk, v, -, hr⟩ := h1
          have hck := rd_ck_ok hlk
          simp only [rd_ck, Bool.and_eq_true, Bool.or_eq_true, decide_eq_true_eq] at hck
          refine Or.inr ⟨?_, _, hr⟩
          rcases hck.2 with (h194 | ⟨h1, h2⟩) | ⟨h1, h2⟩
          · exact Or.inl (rd_beq h194)
          · exact Or.inr (by rw [h1]; exact fun h => by cases h)
          · exact Or.inr (by rw [h1]; exact fun h => by cases h)
        · have hck := rd_ck_ok h1.1
          simp only [rd_ck, Bool.and_eq_true, decide_eq_true_eq] at hck
          exact Or.inl ⟨hck.2, h1.2.2⟩
      · exact ih h
      · dsimp only at h
        cases hc : rd_ev S ro n k2 0 (rd_ent k2 as) [] σ with
        | none => rw [hc] at h; cases h
        | some q => rw [hc] at h; exact ih h
section RDL
variable {S : List rd_Sh} {ro : Nat → Option (Nat × (Nat → Int32))} {k i pc len : Nat} {aux : List Nat} {vs vs' : rd_Lv} {st : List Value} {σ σ' : rd_Sg}
theorem rd_R0_go {i' : Nat} {st' : List Value} (h : rd_act S ro k i vs st σ = some (.inr (.inl (i', vs', st', σ')))) : rd_R0 S ro k i vs st σ = rd_R0 S ro k i' vs' st' σ' := by
  unfold rd_R0
  rw [rd_E_eq, h]
theorem rd_R0_in {ins : Instr} (hl : rd_look k i = some (pc, ins, len, aux)) {i' : Nat} {st' : List Value} (h : rd_ins S ro (rd_mz k) ins aux i vs st σ = some (.inr (.inl (i', vs', st', σ')))) : rd_R0 S ro k i vs st σ = rd_R0 S ro k i' vs' st' σ' := by
  refine rd_R0_go ?_
  unfold rd_act
  rw [hl]
  exact h
theorem rd_R0_no {ins : Instr} (hl : rd_look k i = some (pc, ins, len, aux)) (h : rd_ins S ro (rd_mz k) ins aux i vs st σ = none) : rd_R0 S ro k i vs st σ = none := by
  unfold rd_R0
  rw [rd_E_eq]
  have : rd_act S ro k i vs st σ = none := by
    unfold rd_act
    rw [hl]
    exact h
  rw [this]
  rfl
theorem r_iconst {n : Int} {v : Int32} (hl : rd_look k i = some (pc, .iconst n, len, aux)) (hv : Int32.ofInt n = v) : rd_R0 S ro k i vs st σ = rd_R0 S ro k (i + 1) vs (.int v :: st) σ := by subst hv; exact rd_R0_in hl rfl
theorem r_bipush {n : Int} {v : Int32} (hl : rd_look k i = some (pc, .bipush n, len, aux)) (hv : (Int8.ofInt n).toInt32 = v) : rd_R0 S ro k i vs st σ = rd_R0 S ro k (i + 1) vs (.int v :: st) σ := by subst hv; exact rd_R0_in hl rfl
theorem r_sipush {n : Int} {v : Int32} (hl : rd_look k i = some (pc, .sipush n, len, aux)) (hv : (Int16.ofInt n).toInt32 = v) : rd_R0 S ro k i vs st σ = rd_R0 S ro k (i + 1) vs (.int v :: st) σ := by subst hv; exact rd_R0_in hl rfl
theorem r_iload_n {j : Fin 4} {x : Int32} (hl : rd_look k i = some (pc, .iload_n j, len, aux)) (hv : rd_lv vs j.val = some (.int x)) : rd_R0 S ro k i vs st σ = rd_R0 S ro k (i + 1) vs (.int x :: st) σ := rd_R0_in hl (by simp only [rd_ins, rd_iload, hv])
theorem r_iload {j : Nat} {x : Int32} (hl : rd_look k i = some (pc, .iload j, len, aux)) (hv : rd_lv vs j = some (.int x)) : rd_R0 S ro k i vs st σ = rd_R0 S ro k (i + 1) vs (.int x :: st) σ := rd_R0_in hl (by simp only [rd_ins, rd_iload, hv])
theorem r_aload_n {j : Fin 4} {x : Nat} (hl : rd_look k i = some (pc, .aload_n j, len, aux)) (hv : rd_lv vs j.val = some (.ref x)) : rd_R0 S ro k i vs st σ = rd_R0 S ro k (i + 1) vs (.ref x :: st) σ := rd_R0_in hl (by simp only [rd_ins, rd_aload, hv])
theorem r_aload {j : Nat} {x : Nat} (hl : rd_look k i = some (pc, .aload j, len, aux)) (hv : rd_lv vs j = some (.ref x)) : rd_R0 S ro k i vs st σ = rd_R0 S ro k (i + 1) vs (.ref x :: st) σ := rd_R0_in hl (by simp only [rd_ins, rd_aload, hv])
theorem r_istore_n {j : Fin 4} {x : Int32} (hl : rd_look k i = some (pc, .istore_n j, len, aux)) (hv : rd_set vs j.val (.int x) = some vs') : rd_R0 S ro k i vs (.int x :: st) σ = rd_R0 S ro k (i + 1) vs' st σ := rd_R0_in hl (by simp only [rd_ins, rd_istore, hv])
theorem r_istore {j : Nat} {x : Int32} (hl : rd_look k i = some (pc, .istore j, len, aux)) (hv : rd_set vs j (.int x) = some vs') : rd_R0 S ro k i vs (.int x :: st) σ = rd_R0 S ro k (i + 1) vs' st σ := rd_R0_in hl (by simp only [rd_ins, rd_istore, hv])
theorem r_astore_n {j : Fin 4} {x : Nat} (hl : rd_look k i = some (pc, .astore_n j, len, aux)) (hv : rd_set vs j.val (.ref x) = some vs') : rd_R0 S ro k i vs (.ref x :: st) σ = rd_R0 S ro k (i + 1) vs' st σ := rd_R0_in hl (by simp only [rd_ins, rd_astore, hv])
theorem r_iinc {j : Nat} {n : Int} {x v : Int32} (hl : rd_look k i = some (pc, .iinc j n, len, aux)) (hg : rd_lv vs j = some (.int x)) (hn : Int32.ofInt n = v) (hv : rd_set vs j (.int (x + v)) = some vs') : rd_R0 S ro k i vs st σ = rd_R0 S ro k (i + 1) vs' st σ := by subst hn; exact rd_R0_in hl (by simp only [rd_ins, hg, hv])
theorem r_iadd {x y : Int32} (hl : rd_look k i = some (pc, .iadd, len, aux)) : rd_R0 S ro k i vs (.int y :: .int x :: st) σ = rd_R0 S ro k (i + 1) vs (.int (x + y) :: st) σ := rd_R0_in hl rfl
theorem r_isub {x y : Int32} (hl : rd_look k i = some (pc, .isub, len, aux)) : rd_R0 S ro k i vs (.int y :: .int x :: st) σ = rd_R0 S ro k (i + 1) vs (.int (x - y) :: st) σ := rd_R0_in hl rfl
theorem r_imul {x y : Int32} (hl : rd_look k i = some (pc, .imul, len, aux)) : rd_R0 S ro k i vs (.int y :: .int x :: st) σ = rd_R0 S ro k (i + 1) vs (.int (x * y) :: st) σ := rd_R0_in hl rfl
theorem r_iand {x y : Int32} (hl : rd_look k i = some (pc, .iand, len, aux)) : rd_R0 S ro k i vs (.int y :: .int x :: st) σ = rd_R0 S ro k (i + 1) vs (.int (x &&& y) :: st) σ := rd_R0_in hl rfl
theorem r_ior {x y : Int32} (hl : rd_look k i = some (pc, .ior, len, aux)) : rd_R0 S ro k i vs (.int y :: .int x :: st) σ = rd_R0 S ro k (i + 1) vs (.int (x ||| y) :: st) σ := rd_R0_in hl rfl
theorem r_ishl {x y : Int32} (hl : rd_look k i = some (pc, .ishl, len, aux)) : rd_R0 S ro k i vs (.int y :: .int x :: st) σ = rd_R0 S ro k (i + 1) vs (.int (x <<< (y &&& 31)) :: st) σ := rd_R0_in hl rfl
theorem r_ishr {x y : Int32} (hl : rd_look k i = some (pc, .ishr, len, aux)) : rd_R0 S ro k i vs (.int y :: .int x :: st) σ = rd_R0 S ro k (i + 1) vs (.int (x >>> (y &&& 31)) :: st) σ := rd_R0_in hl rfl
theorem r_dupi {x : Int32} (hl : rd_look k i = some (pc, .dup, len, aux)) : rd_R0 S ro k i vs (.int x :: st) σ = rd_R0 S ro k (i + 1) vs (.int x :: .int x :: st) σ := rd_R0_in hl rfl
theorem r_dupr {x : Nat} (hl : rd_look k i = some (pc, .dup, len, aux)) : rd_R0 S ro k i vs (.ref x :: st) σ = rd_R0 S ro k (i + 1) vs (.ref x :: .ref x :: st) σ := rd_R0_in hl rfl
theorem r_dup2 {x : Int32} {y : Nat} (hl : rd_look k i = some (pc, .dup2, len, aux)) : rd_R0 S ro k i vs (.int x :: .ref y :: st) σ = rd_R0 S ro k (i + 1) vs (.int x :: .ref y :: .int x :: .ref y :: st) σ := rd_R0_in hl rfl
theorem r_goto {off : Int} {t : Nat} (hl : rd_look k i = some (pc, .goto off, len, [t])) : rd_R0 S ro k i vs st σ = rd_R0 S ro k t vs st σ := rd_R0_in hl rfl
theorem r_br {ins : Instr} {P : Prop} [Decidable P] {t u : Nat} {st' : List Value} (hl : rd_look k i = some (pc, ins, len, aux)) (h : rd_ins S ro (rd_mz k) ins aux i vs st σ = if P then rd_go t vs st' σ else rd_go u vs st' σ) : rd_R0 S ro k i vs st σ = if P then rd_R0 S ro k t vs st' σ else rd_R0 S ro k u vs st' σ := by
  by_cases hP : P
  · rw [if_pos hP] at h ⊢; exact rd_R0_in hl h
  · rw [if_neg hP] at h ⊢; exact rd_R0_in hl h
theorem r_ifeq {off : Int} {t : Nat} {x : Int32} (hl : rd_look k i = some (pc, .ifCond .eq off, len, [t])) : rd_R0 S ro k i vs (.int x :: st) σ = if x = 0 then rd_R0 S ro k t vs st σ else rd_R0 S ro k (i + 1) vs st σ := r_br hl rfl
theorem r_ifne {off : Int} {t : Nat} {x : Int32} (hl : rd_look k i = some (pc, .ifCond .ne off, len, [t])) : rd_R0 S ro k i vs (.int x :: st) σ = if x = 0 then rd_R0 S ro k (i + 1) vs st σ else rd_R0 S ro k t vs st σ := r_br hl rfl
theorem r_iflt {off : Int} {t : Nat} {x : Int32} (hl : rd_look k i = some (pc, .ifCond .lt off, len, [t])) : rd_R0 S ro k i vs (.int x :: st) σ = if x < 0 then rd_R0 S ro k t vs st σ else rd_R0 S ro k (i + 1) vs st σ := r_br hl rfl
theorem r_ifge {off : Int} {t : Nat} {x : Int32} (hl : rd_look k i = some (pc, .ifCond .ge off, len, [t])) : rd_R0 S ro k i vs (.int x :: st) σ = if x < 0 then rd_R0 S ro k (i + 1) vs st σ else rd_R0 S ro k t vs st σ := r_br hl rfl
theorem r_ifgt {off : Int} {t : Nat} {x : Int32} (hl : rd_look k i = some (pc, .ifCond .gt off, len, [t])) : rd_R0 S ro k i vs (.int x :: st) σ = if 0 < x then rd_R0 S ro k t vs st σ else rd_R0 S ro k (i + 1) vs st σ := r_br hl rfl
theorem r_ifle {off : Int} {t : Nat} {x : Int32} (hl : rd_look k i = some (pc, .ifCond .le off, len, [t])) : rd_R0 S ro k i vs (.int x :: st) σ = if 0 < x then rd_R0 S ro k (i + 1) vs st σ else rd_R0 S ro k t vs st σ := r_br hl rfl
theorem r_cmpeq {off : Int} {t : Nat} {x y : Int32} (hl : rd_look k i = some (pc, .if_icmp .eq off, len, [t])) : rd_R0 S ro k i vs (.int y :: .int x :: st) σ = if x = y then rd_R0 S ro k t vs st σ else rd_R0 S ro k (i + 1) vs st σ := r_br hl rfl
theorem r_cmpne {off : Int} {t : Nat} {x y : Int32} (hl : rd_look k i = some (pc, .if_icmp .ne off, len, [t])) : rd_R0 S ro k i vs (.int y :: .int x :: st) σ = if x = y then rd_R0 S ro k (i + 1) vs st σ else rd_R0 S ro k t vs st σ := r_br hl rfl
theorem r_cmplt {off : Int} {t : Nat} {x y : Int32} (hl : rd_look k i = some (pc, .if_icmp .lt off, len, [t])) : rd_R0 S ro k i vs (.int y :: .int x :: st) σ = if x < y then rd_R0 S ro k t vs st σ else rd_R0 S ro k (i + 1) vs st σ := r_br hl rfl
theorem r_cmpge {off : Int} {t : Nat} {x y : Int32} (hl : rd_look k i = some (pc, .if_icmp .ge off, len, [t])) : rd_R0 S ro k i vs (.int y :: .int x :: st) σ = if x < y then rd_R0 S ro k (i + 1) vs st σ else rd_R0 S ro k t vs st σ := r_br hl rfl
theorem r_cmpgt {off : Int} {t : Nat} {x y : Int32} (hl : rd_look k i = some (pc, .if_icmp .gt off, len, [t])) : rd_R0 S ro k i vs (.int y :: .int x :: st) σ = if y < x then rd_R0 S ro k t vs st σ else rd_R0 S ro k (i + 1) vs st σ := r_br hl rfl
theorem r_cmple {off : Int} {t : Nat} {x y : Int32} (hl : rd_look k i = some (pc, .if_icmp .le off, len, [t])) : rd_R0 S ro k i vs (.int y :: .int x :: st) σ = if y < x then rd_R0 S ro k (i + 1) vs st σ else rd_R0 S ro k t vs st σ := r_br hl rfl
theorem r_tsw {d lo hi : Int} {offs : Array Int} {dt : Nat} {ts : List Nat} {x : Int32} (hl : rd_look k i = some (pc, .tableswitch d lo hi offs, len, dt :: ts)) : rd_R0 S ro k i vs (.int x :: st) σ = rd_R0 S ro k (rd_sw x lo ts dt) vs st σ := rd_R0_in hl rfl
theorem r_swc {x v : Int32} {lo lo' : Int} {t d : Nat} {ts : List Nat} (hv : Int32.ofInt lo = v) (hl : lo + 1 = lo') : rd_R0 S ro k (rd_sw x lo (t :: ts) d) vs st σ = if x = v then rd_R0 S ro k t vs st σ else rd_R0 S ro k (rd_sw x lo' ts d) vs st σ := by
  subst hv; subst hl
  rw [rd_sw]
  split <;> rfl
theorem r_swn {x : Int32} {lo : Int} {d : Nat} : rd_R0 S ro k (rd_sw x lo [] d) vs st σ = rd_R0 S ro k d vs st σ := rfl
/-- an index is tested -/
def rd_chk {α : Type} (j : Int32) (n : Nat) (x : Option α) : Option α := if j < 0 ∨ n ≤ j.toNatClampNeg then none else x
theorem rd_chk_in {α : Type} {j : Int32} {n m : Nat} {x : Option α} (h : j = nI m) (hm : m < n) (hn : n < 2 ^ 31) : rd_chk j n x = x := by
  unfold rd_chk
  rw [if_neg]
  rw [h]
  exact nI_in hm hn
def rd_gf (S : List rd_Sh) (c ci sl : Nat) : Option (Option Value) := match rd_nth S c with
  | some (.inr (cj, ks)) => if cj = ci then rd_nth ks sl else none
  | _ => none
theorem r_getfi {idx ci sl f c : Nat} (hl : rd_look k i = some (pc, .getfield idx, len, [ci, sl, f])) (hg : rd_gf S c ci sl = some none) : rd_R0 S ro k i vs (.ref c :: st) σ = rd_R0 S ro k (i + 1) vs (.int (σ c sl) :: st) σ := by
  refine rd_R0_in hl ?_
  simp only [rd_ins, rd_getf]
  unfold rd_gf at hg
  split at hg
  · rename_i cj ks hs
    rw [hs]
    dsimp only
    split at hg
    · rename_i hc
      rw [if_pos hc, hg]
    · cases hg
  · cases hg
theorem r_getfr {idx ci sl f c d : Nat} (hl : rd_look k i = some (pc, .getfield idx, len, [ci, sl, f])) (hg : rd_gf S c ci sl = some (some (.ref d))) : rd_R0 S ro k i vs (.ref c :: st) σ = rd_R0 S ro k (i + 1) vs (.ref d :: st) σ := by
  refine rd_R0_in hl ?_
  simp only [rd_ins, rd_getf]
  unfold rd_gf at hg
  split at hg
  · rename_i cj ks hs
    rw [hs]
    dsimp only
    split at hg
    · rename_i hc
      rw [if_pos hc, hg]
      rfl
    · cases hg
  · cases hg
theorem r_putfi {idx ci sl f c : Nat} {x : Int32} (hl : rd_look k i = some (pc, .putfield idx, len, [ci, sl, f, 0])) (hg : rd_gf S c ci sl = some none) : rd_R0 S ro k i vs (.int x :: .ref c :: st) σ = rd_R0 S ro k (i + 1) vs st (rd_u σ c sl x) := by
  refine rd_R0_in hl ?_
  simp only [rd_ins, rd_putf]
  unfold rd_gf at hg
  split at hg
  · rename_i cj ks hs
    rw [hs]
    dsimp only
    split at hg
    · rename_i hc
      rw [if_pos hc, hg]
      rfl
    · cases hg
  · cases hg
theorem r_putfz {idx ci sl f c : Nat} {x : Int32} (hl : rd_look k i = some (pc, .putfield idx, len, [ci, sl, f, 1])) (hg : rd_gf S c ci sl = some none) (hx : x = 0 ∨ x = 1) : rd_R0 S ro k i vs (.int x :: .ref c :: st) σ = rd_R0 S ro k (i + 1) vs st (rd_u σ c sl x) := by
  refine rd_R0_in hl ?_
  simp only [rd_ins, rd_putf]
  unfold rd_gf at hg
  split at hg
  · rename_i cj ks hs
    rw [hs]
    dsimp only
    split at hg
    · rename_i hc
      rw [if_pos hc, hg]
      exact if_pos (Or.inr ⟨by first | rfl | trivial, hx⟩)
    · cases hg
  · cases hg
theorem r_iald {c n : Nat} {j : Int32} (hl : rd_look k i = some (pc, .iaload, len, aux)) (hs : rd_nth S c = some (.inl (n, false))) : rd_R0 S ro k i vs (.int j :: .ref c :: st) σ = rd_chk j n (rd_R0 S ro k (i + 1) vs (.int (σ c j.toNatClampNeg) :: st) σ) := by
  unfold rd_chk
  by_cases hP : j < 0 ∨ n ≤ j.toNatClampNeg
  · rw [if_pos hP]
    refine rd_R0_no hl ?_
    simp only [rd_ins, rd_ald, rd_rd, hs, if_true, if_pos hP]
  · rw [if_neg hP]
    refine rd_R0_in hl ?_
    simp only [rd_ins, rd_ald, rd_rd, hs, if_true, if_neg hP]
theorem r_zald {c n : Nat} {j : Int32} (hl : rd_look k i = some (pc, .baload, len, aux)) (hs : rd_nth S c = some (.inl (n, true))) : rd_R0 S ro k i vs (.int j :: .ref c :: st) σ = rd_chk j n (rd_R0 S ro k (i + 1) vs (.int (σ c j.toNatClampNeg) :: st) σ) := by
  unfold rd_chk
  by_cases hP : j < 0 ∨ n ≤ j.toNatClampNeg
  · rw [if_pos hP]
    refine rd_R0_no hl ?_
    simp only [rd_ins, rd_ald, rd_rd, hs, if_true, if_pos hP]
  · rw [if_neg hP]
    refine rd_R0_in hl ?_
    simp only [rd_ins, rd_ald, rd_rd, hs, if_true, if_neg hP]
theorem r_oald {c n : Nat} {f : Nat → Int32} {j : Int32} (hl : rd_look k i = some (pc, .iaload, len, aux)) (hs : rd_nth S c = none) (hr : ro c = some (n, f)) : rd_R0 S ro k i vs (.int j :: .ref c :: st) σ = rd_chk j n (rd_R0 S ro k (i + 1) vs (.int (f j.toNatClampNeg) :: st) σ) := by
  unfold rd_chk
  by_cases hP : j < 0 ∨ n ≤ j.toNatClampNeg
  · rw [if_pos hP]
    refine rd_R0_no hl ?_
    simp only [rd_ins, rd_ald, rd_rd, hs, hr, Bool.false_eq_true, if_false, if_pos hP]
  · rw [if_neg hP]
    refine rd_R0_in hl ?_
    simp only [rd_ins, rd_ald, rd_rd, hs, hr, Bool.false_eq_true, if_false, if_neg hP]
theorem r_iast {c n : Nat} {j x : Int32} (hl : rd_look k i = some (pc, .iastore, len, aux)) (hs : rd_nth S c = some (.inl (n, false))) : rd_R0 S ro k i vs (.int x :: .int j :: .ref c :: st) σ = rd_chk j n (rd_R0 S ro k (i + 1) vs st (rd_u σ c j.toNatClampNeg x)) := by
  unfold rd_chk
  by_cases hP : j < 0 ∨ n ≤ j.toNatClampNeg
  · rw [if_pos hP]
    refine rd_R0_no hl ?_
    simp only [rd_ins, rd_ast, hs, if_true, if_pos hP]
  · rw [if_neg hP]
    refine rd_R0_in hl ?_
    simp only [rd_ins, rd_ast, hs, if_true, if_neg hP]
    rfl
theorem r_zast {c n : Nat} {j x : Int32} (hl : rd_look k i = some (pc, .bastore, len, aux)) (hs : rd_nth S c = some (.inl (n, true))) : rd_R0 S ro k i vs (.int x :: .int j :: .ref c :: st) σ = rd_chk j n (rd_R0 S ro k (i + 1) vs st (rd_u σ c j.toNatClampNeg (x &&& 1))) := by
  unfold rd_chk
  by_cases hP : j < 0 ∨ n ≤ j.toNatClampNeg
  · rw [if_pos hP]
    refine rd_R0_no hl ?_
    simp only [rd_ins, rd_ast, hs, if_true, if_pos hP]
  · rw [if_neg hP]
    refine rd_R0_in hl ?_
    simp only [rd_ins, rd_ast, hs, if_true, if_neg hP]
    rfl
theorem r_alen {c n : Nat} {b : Bool} {v : Int32} (hl : rd_look k i = some (pc, .arraylength, len, aux)) (hs : rd_nth S c = some (.inl (n, b))) (hv : Int32.ofNat n = v) : rd_R0 S ro k i vs (.ref c :: st) σ = rd_R0 S ro k (i + 1) vs (.int v :: st) σ := by
  subst hv
  refine rd_R0_in hl ?_
  simp only [rd_ins, rd_alen, hs]
theorem r_olen {c n : Nat} {f : Nat → Int32} (hl : rd_look k i = some (pc, .arraylength, len, aux)) (hs : rd_nth S c = none) (hr : ro c = some (n, f)) : rd_R0 S ro k i vs (.ref c :: st) σ = rd_R0 S ro k (i + 1) vs (.int (Int32.ofNat n) :: st) σ := by
  refine rd_R0_in hl ?_
  simp only [rd_ins, rd_alen, hs, hr]
theorem r_getst {idx : Nat} (hl : rd_look k i = some (pc, .getstatic idx, len, aux)) : rd_R0 S ro k i vs st σ = rd_R0 S ro k (i + 1) vs (.ref 100000 :: st) σ := rd_R0_in hl rfl
theorem r_min {idx q : Nat} {x y : Int32} (hl : rd_look k i = some (pc, .invokestatic idx, len, [1001, q])) (hf : rd_few st = true) : rd_R0 S ro k i vs (.int y :: .int x :: st) σ = rd_R0 S ro k (i + 1) vs (.int (if y < x then y else x) :: st) σ := by
  refine rd_R0_in hl ?_
  simp only [rd_ins, rd_min, hf, if_true]
  rfl
theorem r_copy {idx q s d n0 n1 : Nat} {sp dp n : Int32} (hl : rd_look k i = some (pc, .invokestatic idx, len, [1000, q])) (h0 : rd_nth S s = some (.inl (n0, false))) (h1 : rd_nth S d = some (.inl (n1, false))) : rd_R0 S ro k i vs [.int n, .int dp, .ref d, .int sp, .ref s] σ = if sp < 0 ∨ dp < 0 ∨ n < 0 ∨ n0 < sp.toNatClampNeg + n.toNatClampNeg ∨ n1 < dp.toNatClampNeg + n.toNatClampNeg then none else rd_R0 S ro k (i + 1) vs [] (rd_uc σ d (va_cpy (σ s) (σ d) sp.toNatClampNeg dp.toNatClampNeg n.toNatClampNeg)) := by
  by_cases hP : sp < 0 ∨ dp < 0 ∨ n < 0 ∨ n0 < sp.toNatClampNeg + n.toNatClampNeg ∨ n1 < dp.toNatClampNeg + n.toNatClampNeg
  · rw [if_pos hP]
    refine rd_R0_no hl ?_
    simp only [rd_ins, rd_copy, h0, h1, if_true, if_pos hP]
  · rw [if_neg hP]
    refine rd_R0_in hl ?_
    simp only [rd_ins, rd_copy, h0, h1, if_true, if_neg hP]
/-- whether a method gives an int back -/
def rd_isI (k : Nat) : Bool := decide (rd_ret k ≠ none)
theorem rd_R0_call {k2 : Nat} {as rest : List Value} (ha : rd_act S ro k i vs st σ = some (.inr (.inr (k2, as, rest)))) (hI : rd_isI k2 = true) (he : rd_ent k2 as = vs') : rd_R0 S ro k i vs st σ = (rd_R0 S ro k2 0 vs' [] σ).bind fun q => rd_R0 S ro k (i + 1) vs (.int q.1 :: rest) q.2 := by
  subst he
  have hI : rd_ret k2 ≠ none := of_decide_eq_true hI
  unfold rd_R0
  rw [rd_E_eq, ha]
  dsimp only
  cases hc : rd_E S ro k2 0 (rd_ent k2 as) [] σ with
  | none => rfl
  | some q =>
    obtain ⟨r, σ1⟩ := q
    obtain ⟨n, hn⟩ := rd_E_iff.mp hc
    rcases rd_ev_ret n hn with ⟨h1, -⟩ | ⟨-, v, hv⟩
    · exact absurd h1 hI
    · subst hv
      rfl
theorem rd_R0_callv {k2 : Nat} {as rest : List Value} (ha : rd_act S ro k i vs st σ = some (.inr (.inr (k2, as, rest)))) (hI : rd_isI k2 = false) (hn194 : k2 ≠ 194) (he : rd_ent k2 as = vs') : rd_R0 S ro k i vs st σ = (rd_R0 S ro k2 0 vs' [] σ).bind fun q => rd_R0 S ro k (i + 1) vs rest q.2 := by
  subst he
  have hI : rd_ret k2 = none := by
    unfold rd_isI at hI
    simpa using hI
  unfold rd_R0
  rw [rd_E_eq, ha]
  dsimp only
  cases hc : rd_E S ro k2 0 (rd_ent k2 as) [] σ with
  | none => rfl
  | some q =>
    obtain ⟨r, σ1⟩ := q
    obtain ⟨n, hn⟩ := rd_E_iff.mp hc
    rcases rd_ev_ret n hn with ⟨-, h1⟩ | ⟨h1 | h1, -⟩
    · subst h1
      rfl
    · exact absurd h1 hn194
    · exact absurd hI h1
theorem r_callV {idx k2 n q ci : Nat} {as rest : List Value} (hl : rd_look k i = some (pc, .invokevirtual idx, len, [k2, n, q, ci])) (hp : rd_callV S k2 n ci st = some (.inr (.inr (k2, as, rest)))) (hI : rd_isI k2 = true) (he : rd_ent k2 as = vs') : rd_R0 S ro k i vs st σ = (rd_R0 S ro k2 0 vs' [] σ).bind fun q => rd_R0 S ro k (i + 1) vs (.int q.1 :: rest) q.2 := by
  refine rd_R0_call (as := as) ?_ hI he
  unfold rd_act
  rw [hl]
  exact hp
theorem r_callVv {idx k2 n q ci : Nat} {as rest : List Value} (hl : rd_look k i = some (pc, .invokevirtual idx, len, [k2, n, q, ci])) (hp : rd_callV S k2 n ci st = some (.inr (.inr (k2, as, rest)))) (hI : rd_isI k2 = false) (hn : k2 ≠ 194) (he : rd_ent k2 as = vs') : rd_R0 S ro k i vs st σ = (rd_R0 S ro k2 0 vs' [] σ).bind fun q => rd_R0 S ro k (i + 1) vs rest q.2 := by
  refine rd_R0_callv (as := as) ?_ hI hn he
  unfold rd_act
  rw [hl]
  exact hp
theorem r_callS {idx k2 n q : Nat} {as rest : List Value} (hl : rd_look k i = some (pc, .invokestatic idx, len, [k2, n, q])) (hp : rd_callS k2 n st = some (.inr (.inr (k2, as, rest)))) (hI : rd_isI k2 = true) (he : rd_ent k2 as = vs') : rd_R0 S ro k i vs st σ = (rd_R0 S ro k2 0 vs' [] σ).bind fun q => rd_R0 S ro k (i + 1) vs (.int q.1 :: rest) q.2 := by
  refine rd_R0_call (as := as) ?_ hI he
  unfold rd_act
  rw [hl]
  exact hp
theorem r_callSv {idx k2 n q : Nat} {as rest : List Value} (hl : rd_look k i = some (pc, .invokestatic idx, len, [k2, n, q])) (hp : rd_callS k2 n st = some (.inr (.inr (k2, as, rest)))) (hI : rd_isI k2 = false) (hn : k2 ≠ 194) (he : rd_ent k2 as = vs') : rd_R0 S ro k i vs st σ = (rd_R0 S ro k2 0 vs' [] σ).bind fun q => rd_R0 S ro k (i + 1) vs rest q.2 := by
  refine rd_R0_callv (as := as) ?_ hI hn he
  unfold rd_act
  rw [hl]
  exact hp
theorem r_end {ins : Instr} {r : Option Value} (hl : rd_look k i = some (pc, ins, len, aux)) (h : rd_ins S ro (rd_mz k) ins aux i vs st σ = some (.inl (r, σ))) : rd_R0 S ro k i vs st σ = rd_toR (r, σ) := by
  unfold rd_R0
  rw [rd_E_eq]
  have : rd_act S ro k i vs st σ = some (.inl (r, σ)) := by
    unfold rd_act
    rw [hl]
    exact h
  rw [this]
  rfl
theorem r_ret {v : Int32} (hl : rd_look k i = some (pc, .ireturn, len, aux)) (hz : rd_mz k = false) : rd_R0 S ro k i vs [.int v] σ = some (v, σ) := by
  refine (r_end (r := some (.int v)) hl ?_).trans rfl
  rw [hz]
  rfl
theorem r_retb {v : Int32} (hl : rd_look k i = some (pc, .ireturn, len, aux)) (hz : rd_mz k = true) : rd_R0 S ro k i vs [.int v] σ = some (v &&& 1, σ) := by
  refine (r_end (r := some (.int (v &&& 1))) hl ?_).trans rfl
  rw [hz]
  rfl
theorem r_ret0 (hl : rd_look k i = some (pc, .ireturn, len, aux)) (hz : rd_mz k = true) : rd_R0 S ro k i vs [.int 0] σ = some (0, σ) := (r_retb hl hz).trans (by rw [show (0 : Int32) &&& 1 = 0 by decide])
theorem r_ret1 (hl : rd_look k i = some (pc, .ireturn, len, aux)) (hz : rd_mz k = true) : rd_R0 S ro k i vs [.int 1] σ = some (1, σ) := (r_retb hl hz).trans (by rw [show (1 : Int32) &&& 1 = 1 by decide])
theorem r_retv (hl : rd_look k i = some (pc, .return_, len, aux)) : rd_R0 S ro k i vs [] σ = some (0, σ) := (r_end (r := none) hl rfl).trans rfl
theorem it_c {α : Type} {P : Prop} [Decidable P] {a a' b b' : α} (h1 : a = a') (h2 : b = b') : (if P then a else b) = (if P then a' else b') := by rw [h1, h2]
theorem ck_c {α : Type} {j : Int32} {n : Nat} {a a' : Option α} (h : a = a') : rd_chk j n a = rd_chk j n a' := by rw [h]
theorem bi_c {α β : Type} {m : Option α} {f g : α → Option β} (h : ∀ q, f q = g q) : m.bind f = m.bind g := by rw [funext h]
end RDL
section RDM
variable {S : List rd_Sh} {ro : Nat → Option (Nat × (Nat → Int32))} {k i pc len : Nat} {aux : List Nat} {vs vs' : rd_Lv} {st : List Value} {σ σ' : rd_Sg}
/-- a known index -/
def rd_cj (j : Int32) (m n : Nat) : Bool := decide (¬ (j < 0 ∨ n ≤ j.toNatClampNeg) ∧ j.toNatClampNeg = m)
theorem r_ialdc {c n m : Nat} {j : Int32} (hl : rd_look k i = some (pc, .iaload, len, aux)) (hs : rd_nth S c = some (.inl (n, false))) (hj : rd_cj j m n = true) : rd_R0 S ro k i vs (.int j :: .ref c :: st) σ = rd_R0 S ro k (i + 1) vs (.int (σ c m) :: st) σ := by
  obtain ⟨h1, h2⟩ := of_decide_eq_true hj
  rw [r_iald hl hs, rd_chk, if_neg h1, h2]
theorem r_iastc {c n m : Nat} {j x : Int32} (hl : rd_look k i = some (pc, .iastore, len, aux)) (hs : rd_nth S c = some (.inl (n, false))) (hj : rd_cj j m n = true) : rd_R0 S ro k i vs (.int x :: .int j :: .ref c :: st) σ = rd_R0 S ro k (i + 1) vs st (rd_u σ c m x) := by
  obtain ⟨h1, h2⟩ := of_decide_eq_true hj
  rw [r_iast hl hs, rd_chk, if_neg h1, h2]
end RDM
end
section
/-! The made world: shapes; where the code stands; what fields and arrays are. -/
def rd_S0 : List rd_Sh := [
  .inr (11, [some (.ref 1), some (.ref 9), some (.ref 14), some (.ref 28), some (.ref 31), some (.ref 33), some (.ref 49), some (.ref 51), some (.ref 56)]),
  .inr (3, [none, some (.ref 2), some (.ref 3), some (.ref 4), some (.ref 5), some (.ref 6), some (.ref 7), some (.ref 8)]),
  .inl (12, false),
  .inl (12, false),
  .inl (12, true),
  .inl (96, false),
  .inl (96, false),
  .inl (96, false),
  .inl (96, false),
  .inr (8, [some (.ref 1), none, some (.ref 10), some (.ref 11), some (.ref 12), some (.ref 13)]),
  .inl (24, false),
  .inl (24, false),
  .inl (24, false),
  .inl (24, true),
  .inr (6, [some (.ref 15), some (.ref 1), some (.ref 9), some (.ref 22), some (.ref 23), some (.ref 24), some (.ref 25), some (.ref 26), some (.ref 27)]),
  .inr (5, [none, some (.ref 1), some (.ref 9), none, some (.ref 16), some (.ref 17), some (.ref 18), some (.ref 19), some (.ref 20), some (.ref 21)]),
  .inl (80, false),
  .inl (80, false),
  .inl (80, false),
  .inl (240, false),
  .inl (240, false),
  .inl (240, false),
  .inl (80, false),
  .inl (480, false),
  .inl (480, false),
  .inl (80, false),
  .inl (240, true),
  .inl (240, false),
  .inr (4, [some (.ref 29), some (.ref 30), none, none, none]),
  .inl (4500, false),
  .inl (9, false),
  .inr (7, [some (.ref 1), some (.ref 9), some (.ref 14), some (.ref 28), some (.ref 30), some (.ref 32), none, none]),
  .inl (6, false),
  .inr (2, [some (.ref 34), some (.ref 41), some (.ref 42), none, some (.ref 43), some (.ref 44), some (.ref 45), some (.ref 46), some (.ref 47), some (.ref 48)]),
  .inr (5, [none, some (.ref 1), some (.ref 9), none, some (.ref 35), some (.ref 36), some (.ref 37), some (.ref 38), some (.ref 39), some (.ref 40)]),
  .inl (40, false),
  .inl (40, false),
  .inl (40, false),
  .inl (120, false),
  .inl (120, false),
  .inl (120, false),
  .inl (40, false),
  .inl (40, false),
  .inl (40, false),
  .inl (40, false),
  .inl (40, false),
  .inl (40, false),
  .inl (40, false),
  .inl (500, true),
  .inr (10, [some (.ref 50), none]),
  .inl (180, false),
  .inr (1, [none, some (.ref 52), some (.ref 53), some (.ref 54), some (.ref 55)]),
  .inl (60, false),
  .inl (60, false),
  .inl (60, false),
  .inl (60, false),
  .inr (0, [some (.ref 51), some (.ref 1), some (.ref 9), some (.ref 31), some (.ref 57), some (.ref 61), some (.ref 62), some (.ref 63), none, none, none]),
  .inr (9, [none, some (.ref 58), some (.ref 59), some (.ref 60)]),
  .inl (10, false),
  .inl (10, false),
  .inl (10, false),
  .inl (8, false),
  .inl (4, false),
  .inl (100, false),
  .inr (12, [none, some (.ref 65), some (.ref 66), some (.ref 67), some (.ref 68), some (.ref 69), some (.ref 70), none, some (.ref 71), some (.ref 72), some (.ref 73), some (.ref 74), some (.ref 75), some (.ref 76), some (.ref 77), some (.ref 78), none, some (.ref 79), some (.ref 80), some (.ref 81), some (.ref 82), some (.ref 83), some (.ref 84), none, none, some (.ref 85), none, some (.ref 86), none, none, none, none, none, some (.ref 87), some (.ref 88), none, some (.ref 89), some (.ref 90), some (.ref 91), none, some (.ref 92), none, some (.ref 93), some (.ref 94), some (.ref 95), some (.ref 96), some (.ref 97), some (.ref 98), none, none, none, some (.ref 99), none, some (.ref 100), some (.ref 101), some (.ref 102), none, none, none]),
  .inl (12, false),
  .inl (12, false),
  .inl (96, false),
  .inl (96, false),
  .inl (96, false),
  .inl (96, false),
  .inl (24, false),
  .inl (24, false),
  .inl (6, false),
  .inl (120, false),
  .inl (120, false),
  .inl (360, false),
  .inl (360, false),
  .inl (360, false),
  .inl (80, false),
  .inl (480, false),
  .inl (480, false),
  .inl (80, false),
  .inl (240, true),
  .inl (240, false),
  .inl (4500, false),
  .inl (4, false),
  .inl (40, false),
  .inl (40, false),
  .inl (40, false),
  .inl (40, false),
  .inl (24, true),
  .inl (180, false),
  .inl (60, false),
  .inl (60, false),
  .inl (60, false),
  .inl (60, false),
  .inl (8, false),
  .inl (4, false),
  .inl (100, false),
  .inl (10, false),
  .inl (10, false),
  .inl (10, false)]
noncomputable abbrev rd_R (ρ : Nat × (Nat → Int32)) (k i : Nat) (vs : rd_Lv) (st : List Value) (σ : rd_Sg) : Option (Int32 × rd_Sg) := rd_R0 rd_S0 (rd_ro ρ) k i vs st σ
theorem kb_m4 : (Int8.ofInt (-4)).toInt32 = ((-4) : Int32) := by decide
theorem kb_m3 : (Int8.ofInt (-3)).toInt32 = ((-3) : Int32) := by decide
theorem kb_m2 : (Int8.ofInt (-2)).toInt32 = ((-2) : Int32) := by decide
theorem kb_6 : (Int8.ofInt 6).toInt32 = (6 : Int32) := by decide
theorem kb_7 : (Int8.ofInt 7).toInt32 = (7 : Int32) := by decide
theorem kb_8 : (Int8.ofInt 8).toInt32 = (8 : Int32) := by decide
theorem kb_9 : (Int8.ofInt 9).toInt32 = (9 : Int32) := by decide
theorem kb_10 : (Int8.ofInt 10).toInt32 = (10 : Int32) := by decide
theorem kb_11 : (Int8.ofInt 11).toInt32 = (11 : Int32) := by decide
theorem kb_12 : (Int8.ofInt 12).toInt32 = (12 : Int32) := by decide
theorem kb_23 : (Int8.ofInt 23).toInt32 = (23 : Int32) := by decide
theorem kb_24 : (Int8.ofInt 24).toInt32 = (24 : Int32) := by decide
theorem kb_40 : (Int8.ofInt 40).toInt32 = (40 : Int32) := by decide
theorem kb_59 : (Int8.ofInt 59).toInt32 = (59 : Int32) := by decide
theorem kb_60 : (Int8.ofInt 60).toInt32 = (60 : Int32) := by decide
theorem kb_80 : (Int8.ofInt 80).toInt32 = (80 : Int32) := by decide
theorem kb_100 : (Int8.ofInt 100).toInt32 = (100 : Int32) := by decide
theorem ki_m1 : Int32.ofInt (-1) = ((-1) : Int32) := by decide
theorem ki_0 : Int32.ofInt 0 = (0 : Int32) := by decide
theorem ki_1 : Int32.ofInt 1 = (1 : Int32) := by decide
theorem ki_2 : Int32.ofInt 2 = (2 : Int32) := by decide
theorem ki_3 : Int32.ofInt 3 = (3 : Int32) := by decide
theorem ki_4 : Int32.ofInt 4 = (4 : Int32) := by decide
theorem ki_5 : Int32.ofInt 5 = (5 : Int32) := by decide
theorem ki_6 : Int32.ofInt 6 = (6 : Int32) := by decide
theorem ki_7 : Int32.ofInt 7 = (7 : Int32) := by decide
theorem ki_8 : Int32.ofInt 8 = (8 : Int32) := by decide
theorem ki_9 : Int32.ofInt 9 = (9 : Int32) := by decide
theorem kn_4 : Int32.ofNat 4 = (4 : Int32) := by decide
theorem kn_6 : Int32.ofNat 6 = (6 : Int32) := by decide
theorem kn_8 : Int32.ofNat 8 = (8 : Int32) := by decide
theorem kn_80 : Int32.ofNat 80 = (80 : Int32) := by decide
theorem kn_240 : Int32.ofNat 240 = (240 : Int32) := by decide
theorem ks_m1002 : (Int16.ofInt (-1002)).toInt32 = ((-1002) : Int32) := by decide
theorem ks_m1001 : (Int16.ofInt (-1001)).toInt32 = ((-1001) : Int32) := by decide
theorem ks_240 : (Int16.ofInt 240).toInt32 = (240 : Int32) := by decide
theorem ks_255 : (Int16.ofInt 255).toInt32 = (255 : Int32) := by decide
theorem ks_500 : (Int16.ofInt 500).toInt32 = (500 : Int32) := by decide
theorem ks_1000 : (Int16.ofInt 1000).toInt32 = (1000 : Int32) := by decide
theorem ks_20000 : (Int16.ofInt 20000).toInt32 = (20000 : Int32) := by decide
theorem LL_1 : rd_nth rd_ct 1 = some rd_c1 := by rfl
theorem LL_2 : rd_nth rd_ct 2 = some rd_c2 := by rfl
theorem LL_3 : rd_nth rd_ct 3 = some rd_c3 := by rfl
theorem LL_4 : rd_nth rd_ct 4 = some rd_c4 := by rfl
theorem LL_5 : rd_nth rd_ct 5 = some rd_c5 := by rfl
theorem LL_6 : rd_nth rd_ct 6 = some rd_c6 := by rfl
theorem LL_7 : rd_nth rd_ct 7 = some rd_c7 := by rfl
theorem LL_8 : rd_nth rd_ct 8 = some rd_c8 := by rfl
theorem LL_9 : rd_nth rd_ct 9 = some rd_c9 := by rfl
theorem LL_10 : rd_nth rd_ct 10 = some rd_c10 := by rfl
theorem LL_11 : rd_nth rd_ct 11 = some rd_c11 := by rfl
theorem LL_12 : rd_nth rd_ct 12 = some rd_c12 := by rfl
theorem LL_13 : rd_nth rd_ct 13 = some rd_c13 := by rfl
theorem LL_15 : rd_nth rd_ct 15 = some rd_c15 := by rfl
theorem LL_16 : rd_nth rd_ct 16 = some rd_c16 := by rfl
theorem LL_17 : rd_nth rd_ct 17 = some rd_c17 := by rfl
theorem LL_18 : rd_nth rd_ct 18 = some rd_c18 := by rfl
theorem LL_19 : rd_nth rd_ct 19 = some rd_c19 := by rfl
theorem LL_21 : rd_nth rd_ct 21 = some rd_c21 := by rfl
theorem LL_22 : rd_nth rd_ct 22 = some rd_c22 := by rfl
theorem LL_23 : rd_nth rd_ct 23 = some rd_c23 := by rfl
theorem LL_24 : rd_nth rd_ct 24 = some rd_c24 := by rfl
theorem LL_25 : rd_nth rd_ct 25 = some rd_c25 := by rfl
theorem LL_26 : rd_nth rd_ct 26 = some rd_c26 := by rfl
theorem LL_27 : rd_nth rd_ct 27 = some rd_c27 := by rfl
theorem LL_28 : rd_nth rd_ct 28 = some rd_c28 := by rfl
theorem LL_29 : rd_nth rd_ct 29 = some rd_c29 := by rfl
theorem LL_30 : rd_nth rd_ct 30 = some rd_c30 := by rfl
theorem LL_31 : rd_nth rd_ct 31 = some rd_c31 := by rfl
theorem LL_33 : rd_nth rd_ct 33 = some rd_c33 := by rfl
theorem LL_34 : rd_nth rd_ct 34 = some rd_c34 := by rfl
theorem LL_35 : rd_nth rd_ct 35 = some rd_c35 := by rfl
theorem LL_36 : rd_nth rd_ct 36 = some rd_c36 := by rfl
theorem LL_37 : rd_nth rd_ct 37 = some rd_c37 := by rfl
theorem LL_38 : rd_nth rd_ct 38 = some rd_c38 := by rfl
theorem LL_39 : rd_nth rd_ct 39 = some rd_c39 := by rfl
theorem LL_40 : rd_nth rd_ct 40 = some rd_c40 := by rfl
theorem LL_41 : rd_nth rd_ct 41 = some rd_c41 := by rfl
theorem LL_42 : rd_nth rd_ct 42 = some rd_c42 := by rfl
theorem LL_43 : rd_nth rd_ct 43 = some rd_c43 := by rfl
theorem LL_44 : rd_nth rd_ct 44 = some rd_c44 := by rfl
theorem LL_45 : rd_nth rd_ct 45 = some rd_c45 := by rfl
theorem LL_46 : rd_nth rd_ct 46 = some rd_c46 := by rfl
theorem LL_48 : rd_nth rd_ct 48 = some rd_c48 := by rfl
theorem LL_49 : rd_nth rd_ct 49 = some rd_c49 := by rfl
theorem LL_50 : rd_nth rd_ct 50 = some rd_c50 := by rfl
theorem LL_51 : rd_nth rd_ct 51 = some rd_c51 := by rfl
theorem LL_52 : rd_nth rd_ct 52 = some rd_c52 := by rfl
theorem LL_53 : rd_nth rd_ct 53 = some rd_c53 := by rfl
theorem LL_55 : rd_nth rd_ct 55 = some rd_c55 := by rfl
theorem LL_56 : rd_nth rd_ct 56 = some rd_c56 := by rfl
theorem LL_57 : rd_nth rd_ct 57 = some rd_c57 := by rfl
theorem LL_58 : rd_nth rd_ct 58 = some rd_c58 := by rfl
theorem LL_59 : rd_nth rd_ct 59 = some rd_c59 := by rfl
theorem LL_60 : rd_nth rd_ct 60 = some rd_c60 := by rfl
theorem LL_61 : rd_nth rd_ct 61 = some rd_c61 := by rfl
theorem LL_62 : rd_nth rd_ct 62 = some rd_c62 := by rfl
theorem LL_63 : rd_nth rd_ct 63 = some rd_c63 := by rfl
theorem LL_64 : rd_nth rd_ct 64 = some rd_c64 := by rfl
theorem LL_66 : rd_nth rd_ct 66 = some rd_c66 := by rfl
theorem LL_67 : rd_nth rd_ct 67 = some rd_c67 := by rfl
theorem LL_68 : rd_nth rd_ct 68 = some rd_c68 := by rfl
theorem LL_69 : rd_nth rd_ct 69 = some rd_c69 := by rfl
theorem LL_70 : rd_nth rd_ct 70 = some rd_c70 := by rfl
theorem LL_71 : rd_nth rd_ct 71 = some rd_c71 := by rfl
theorem LL_72 : rd_nth rd_ct 72 = some rd_c72 := by rfl
theorem LL_73 : rd_nth rd_ct 73 = some rd_c73 := by rfl
theorem LL_74 : rd_nth rd_ct 74 = some rd_c74 := by rfl
theorem LL_75 : rd_nth rd_ct 75 = some rd_c75 := by rfl
theorem LL_77 : rd_nth rd_ct 77 = some rd_c77 := by rfl
theorem LL_78 : rd_nth rd_ct 78 = some rd_c78 := by rfl
theorem LL_79 : rd_nth rd_ct 79 = some rd_c79 := by rfl
theorem LL_80 : rd_nth rd_ct 80 = some rd_c80 := by rfl
theorem LL_81 : rd_nth rd_ct 81 = some rd_c81 := by rfl
theorem LL_82 : rd_nth rd_ct 82 = some rd_c82 := by rfl
theorem LL_83 : rd_nth rd_ct 83 = some rd_c83 := by rfl
theorem LL_84 : rd_nth rd_ct 84 = some rd_c84 := by rfl
theorem LL_85 : rd_nth rd_ct 85 = some rd_c85 := by rfl
theorem LL_87 : rd_nth rd_ct 87 = some rd_c87 := by rfl
theorem LL_88 : rd_nth rd_ct 88 = some rd_c88 := by rfl
theorem LL_89 : rd_nth rd_ct 89 = some rd_c89 := by rfl
theorem LL_90 : rd_nth rd_ct 90 = some rd_c90 := by rfl
theorem LL_91 : rd_nth rd_ct 91 = some rd_c91 := by rfl
theorem LL_92 : rd_nth rd_ct 92 = some rd_c92 := by rfl
theorem LL_93 : rd_nth rd_ct 93 = some rd_c93 := by rfl
theorem LL_94 : rd_nth rd_ct 94 = some rd_c94 := by rfl
theorem LL_96 : rd_nth rd_ct 96 = some rd_c96 := by rfl
theorem LL_97 : rd_nth rd_ct 97 = some rd_c97 := by rfl
theorem LL_98 : rd_nth rd_ct 98 = some rd_c98 := by rfl
theorem LL_99 : rd_nth rd_ct 99 = some rd_c99 := by rfl
theorem LL_101 : rd_nth rd_ct 101 = some rd_c101 := by rfl
theorem LL_102 : rd_nth rd_ct 102 = some rd_c102 := by rfl
theorem LL_103 : rd_nth rd_ct 103 = some rd_c103 := by rfl
theorem LL_104 : rd_nth rd_ct 104 = some rd_c104 := by rfl
theorem LL_105 : rd_nth rd_ct 105 = some rd_c105 := by rfl
theorem LL_106 : rd_nth rd_ct 106 = some rd_c106 := by rfl
theorem LL_108 : rd_nth rd_ct 108 = some rd_c108 := by rfl
theorem LL_109 : rd_nth rd_ct 109 = some rd_c109 := by rfl
theorem LL_110 : rd_nth rd_ct 110 = some rd_c110 := by rfl
theorem LL_111 : rd_nth rd_ct 111 = some rd_c111 := by rfl
theorem LL_112 : rd_nth rd_ct 112 = some rd_c112 := by rfl
theorem LL_113 : rd_nth rd_ct 113 = some rd_c113 := by rfl
theorem LL_114 : rd_nth rd_ct 114 = some rd_c114 := by rfl
theorem LL_115 : rd_nth rd_ct 115 = some rd_c115 := by rfl
theorem LL_116 : rd_nth rd_ct 116 = some rd_c116 := by rfl
theorem LL_117 : rd_nth rd_ct 117 = some rd_c117 := by rfl
theorem LL_118 : rd_nth rd_ct 118 = some rd_c118 := by rfl
theorem LL_119 : rd_nth rd_ct 119 = some rd_c119 := by rfl
theorem LL_120 : rd_nth rd_ct 120 = some rd_c120 := by rfl
theorem LL_121 : rd_nth rd_ct 121 = some rd_c121 := by rfl
theorem LL_122 : rd_nth rd_ct 122 = some rd_c122 := by rfl
theorem LL_123 : rd_nth rd_ct 123 = some rd_c123 := by rfl
theorem LL_124 : rd_nth rd_ct 124 = some rd_c124 := by rfl
theorem LL_125 : rd_nth rd_ct 125 = some rd_c125 := by rfl
theorem LL_126 : rd_nth rd_ct 126 = some rd_c126 := by rfl
theorem LL_127 : rd_nth rd_ct 127 = some rd_c127 := by rfl
theorem LL_128 : rd_nth rd_ct 128 = some rd_c128 := by rfl
theorem LL_129 : rd_nth rd_ct 129 = some rd_c129 := by rfl
theorem LL_130 : rd_nth rd_ct 130 = some rd_c130 := by rfl
theorem LL_131 : rd_nth rd_ct 131 = some rd_c131 := by rfl
theorem LL_132 : rd_nth rd_ct 132 = some rd_c132 := by rfl
theorem LL_133 : rd_nth rd_ct 133 = some rd_c133 := by rfl
theorem LL_134 : rd_nth rd_ct 134 = some rd_c134 := by rfl
theorem LL_135 : rd_nth rd_ct 135 = some rd_c135 := by rfl
theorem LL_137 : rd_nth rd_ct 137 = some rd_c137 := by rfl
theorem LL_138 : rd_nth rd_ct 138 = some rd_c138 := by rfl
theorem LL_139 : rd_nth rd_ct 139 = some rd_c139 := by rfl
theorem LL_140 : rd_nth rd_ct 140 = some rd_c140 := by rfl
theorem LL_141 : rd_nth rd_ct 141 = some rd_c141 := by rfl
theorem LL_142 : rd_nth rd_ct 142 = some rd_c142 := by rfl
theorem LL_143 : rd_nth rd_ct 143 = some rd_c143 := by rfl
theorem LL_144 : rd_nth rd_ct 144 = some rd_c144 := by rfl
theorem LL_145 : rd_nth rd_ct 145 = some rd_c145 := by rfl
theorem LL_146 : rd_nth rd_ct 146 = some rd_c146 := by rfl
theorem LL_147 : rd_nth rd_ct 147 = some rd_c147 := by rfl
theorem LL_148 : rd_nth rd_ct 148 = some rd_c148 := by rfl
theorem LL_149 : rd_nth rd_ct 149 = some rd_c149 := by rfl
theorem LL_150 : rd_nth rd_ct 150 = some rd_c150 := by rfl
theorem LL_151 : rd_nth rd_ct 151 = some rd_c151 := by rfl
theorem LL_152 : rd_nth rd_ct 152 = some rd_c152 := by rfl
theorem LL_153 : rd_nth rd_ct 153 = some rd_c153 := by rfl
theorem LL_154 : rd_nth rd_ct 154 = some rd_c154 := by rfl
theorem LL_155 : rd_nth rd_ct 155 = some rd_c155 := by rfl
theorem LL_156 : rd_nth rd_ct 156 = some rd_c156 := by rfl
theorem LL_157 : rd_nth rd_ct 157 = some rd_c157 := by rfl
theorem LL_158 : rd_nth rd_ct 158 = some rd_c158 := by rfl
theorem LL_159 : rd_nth rd_ct 159 = some rd_c159 := by rfl
theorem LL_160 : rd_nth rd_ct 160 = some rd_c160 := by rfl
theorem LL_161 : rd_nth rd_ct 161 = some rd_c161 := by rfl
theorem LL_162 : rd_nth rd_ct 162 = some rd_c162 := by rfl
theorem LL_163 : rd_nth rd_ct 163 = some rd_c163 := by rfl
theorem LL_164 : rd_nth rd_ct 164 = some rd_c164 := by rfl
theorem LL_165 : rd_nth rd_ct 165 = some rd_c165 := by rfl
theorem LL_166 : rd_nth rd_ct 166 = some rd_c166 := by rfl
theorem LL_167 : rd_nth rd_ct 167 = some rd_c167 := by rfl
theorem LL_168 : rd_nth rd_ct 168 = some rd_c168 := by rfl
theorem LL_169 : rd_nth rd_ct 169 = some rd_c169 := by rfl
theorem LL_170 : rd_nth rd_ct 170 = some rd_c170 := by rfl
theorem LL_171 : rd_nth rd_ct 171 = some rd_c171 := by rfl
theorem LL_172 : rd_nth rd_ct 172 = some rd_c172 := by rfl
theorem LL_173 : rd_nth rd_ct 173 = some rd_c173 := by rfl
theorem LL_174 : rd_nth rd_ct 174 = some rd_c174 := by rfl
theorem LL_175 : rd_nth rd_ct 175 = some rd_c175 := by rfl
theorem LL_176 : rd_nth rd_ct 176 = some rd_c176 := by rfl
theorem LL_177 : rd_nth rd_ct 177 = some rd_c177 := by rfl
theorem LL_178 : rd_nth rd_ct 178 = some rd_c178 := by rfl
theorem LL_179 : rd_nth rd_ct 179 = some rd_c179 := by rfl
theorem LL_180 : rd_nth rd_ct 180 = some rd_c180 := by rfl
theorem LL_181 : rd_nth rd_ct 181 = some rd_c181 := by rfl
theorem LL_182 : rd_nth rd_ct 182 = some rd_c182 := by rfl
theorem LL_183 : rd_nth rd_ct 183 = some rd_c183 := by rfl
theorem LL_184 : rd_nth rd_ct 184 = some rd_c184 := by rfl
theorem LL_185 : rd_nth rd_ct 185 = some rd_c185 := by rfl
theorem LL_186 : rd_nth rd_ct 186 = some rd_c186 := by rfl
theorem LL_187 : rd_nth rd_ct 187 = some rd_c187 := by rfl
theorem LL_188 : rd_nth rd_ct 188 = some rd_c188 := by rfl
theorem LL_189 : rd_nth rd_ct 189 = some rd_c189 := by rfl
theorem LL_190 : rd_nth rd_ct 190 = some rd_c190 := by rfl
theorem LL_191 : rd_nth rd_ct 191 = some rd_c191 := by rfl
theorem LL_193 : rd_nth rd_ct 193 = some rd_c193 := by rfl
theorem isI_1 : rd_isI 1 = true := by decide +kernel
theorem mz_1 : rd_mz 1 = true := by decide +kernel
theorem isI_2 : rd_isI 2 = true := by decide +kernel
theorem mz_2 : rd_mz 2 = false := by decide +kernel
theorem isI_3 : rd_isI 3 = false := by decide +kernel
theorem mz_3 : rd_mz 3 = false := by decide +kernel
theorem isI_4 : rd_isI 4 = true := by decide +kernel
theorem mz_4 : rd_mz 4 = true := by decide +kernel
theorem isI_5 : rd_isI 5 = true := by decide +kernel
theorem mz_5 : rd_mz 5 = false := by decide +kernel
theorem isI_6 : rd_isI 6 = true := by decide +kernel
theorem mz_6 : rd_mz 6 = false := by decide +kernel
theorem isI_7 : rd_isI 7 = false := by decide +kernel
theorem mz_7 : rd_mz 7 = false := by decide +kernel
theorem isI_8 : rd_isI 8 = false := by decide +kernel
theorem mz_8 : rd_mz 8 = false := by decide +kernel
theorem isI_9 : rd_isI 9 = true := by decide +kernel
theorem mz_9 : rd_mz 9 = true := by decide +kernel
theorem isI_10 : rd_isI 10 = false := by decide +kernel
theorem mz_10 : rd_mz 10 = false := by decide +kernel
theorem isI_11 : rd_isI 11 = true := by decide +kernel
theorem mz_11 : rd_mz 11 = false := by decide +kernel
theorem isI_12 : rd_isI 12 = true := by decide +kernel
theorem mz_12 : rd_mz 12 = false := by decide +kernel
theorem isI_13 : rd_isI 13 = false := by decide +kernel
theorem mz_13 : rd_mz 13 = false := by decide +kernel
theorem isI_15 : rd_isI 15 = true := by decide +kernel
theorem mz_15 : rd_mz 15 = true := by decide +kernel
theorem isI_16 : rd_isI 16 = true := by decide +kernel
theorem mz_16 : rd_mz 16 = true := by decide +kernel
theorem isI_17 : rd_isI 17 = true := by decide +kernel
theorem mz_17 : rd_mz 17 = false := by decide +kernel
theorem isI_18 : rd_isI 18 = true := by decide +kernel
theorem mz_18 : rd_mz 18 = false := by decide +kernel
theorem isI_19 : rd_isI 19 = true := by decide +kernel
theorem mz_19 : rd_mz 19 = false := by decide +kernel
theorem isI_21 : rd_isI 21 = true := by decide +kernel
theorem mz_21 : rd_mz 21 = false := by decide +kernel
theorem isI_22 : rd_isI 22 = true := by decide +kernel
theorem mz_22 : rd_mz 22 = false := by decide +kernel
theorem isI_23 : rd_isI 23 = true := by decide +kernel
theorem mz_23 : rd_mz 23 = false := by decide +kernel
theorem isI_24 : rd_isI 24 = true := by decide +kernel
theorem mz_24 : rd_mz 24 = false := by decide +kernel
theorem isI_25 : rd_isI 25 = false := by decide +kernel
theorem mz_25 : rd_mz 25 = false := by decide +kernel
theorem isI_26 : rd_isI 26 = false := by decide +kernel
theorem mz_26 : rd_mz 26 = false := by decide +kernel
theorem isI_27 : rd_isI 27 = true := by decide +kernel
theorem mz_27 : rd_mz 27 = false := by decide +kernel
theorem isI_28 : rd_isI 28 = true := by decide +kernel
theorem mz_28 : rd_mz 28 = true := by decide +kernel
theorem isI_29 : rd_isI 29 = true := by decide +kernel
theorem mz_29 : rd_mz 29 = true := by decide +kernel
theorem isI_30 : rd_isI 30 = true := by decide +kernel
theorem mz_30 : rd_mz 30 = true := by decide +kernel
theorem isI_31 : rd_isI 31 = true := by decide +kernel
theorem mz_31 : rd_mz 31 = false := by decide +kernel
theorem isI_33 : rd_isI 33 = true := by decide +kernel
theorem mz_33 : rd_mz 33 = false := by decide +kernel
theorem isI_34 : rd_isI 34 = true := by decide +kernel
theorem mz_34 : rd_mz 34 = true := by decide +kernel
theorem isI_35 : rd_isI 35 = true := by decide +kernel
theorem mz_35 : rd_mz 35 = false := by decide +kernel
theorem isI_36 : rd_isI 36 = false := by decide +kernel
theorem mz_36 : rd_mz 36 = false := by decide +kernel
theorem isI_37 : rd_isI 37 = true := by decide +kernel
theorem mz_37 : rd_mz 37 = true := by decide +kernel
theorem isI_38 : rd_isI 38 = false := by decide +kernel
theorem mz_38 : rd_mz 38 = false := by decide +kernel
theorem isI_39 : rd_isI 39 = true := by decide +kernel
theorem mz_39 : rd_mz 39 = false := by decide +kernel
theorem isI_40 : rd_isI 40 = true := by decide +kernel
theorem mz_40 : rd_mz 40 = false := by decide +kernel
theorem isI_41 : rd_isI 41 = true := by decide +kernel
theorem mz_41 : rd_mz 41 = false := by decide +kernel
theorem isI_42 : rd_isI 42 = true := by decide +kernel
theorem mz_42 : rd_mz 42 = false := by decide +kernel
theorem isI_43 : rd_isI 43 = true := by decide +kernel
theorem mz_43 : rd_mz 43 = true := by decide +kernel
theorem isI_44 : rd_isI 44 = true := by decide +kernel
theorem mz_44 : rd_mz 44 = true := by decide +kernel
theorem isI_45 : rd_isI 45 = true := by decide +kernel
theorem mz_45 : rd_mz 45 = false := by decide +kernel
theorem isI_46 : rd_isI 46 = true := by decide +kernel
theorem mz_46 : rd_mz 46 = true := by decide +kernel
theorem isI_48 : rd_isI 48 = true := by decide +kernel
theorem mz_48 : rd_mz 48 = true := by decide +kernel
theorem isI_49 : rd_isI 49 = true := by decide +kernel
theorem mz_49 : rd_mz 49 = false := by decide +kernel
theorem isI_50 : rd_isI 50 = true := by decide +kernel
theorem mz_50 : rd_mz 50 = false := by decide +kernel
theorem isI_51 : rd_isI 51 = true := by decide +kernel
theorem mz_51 : rd_mz 51 = false := by decide +kernel
theorem isI_52 : rd_isI 52 = false := by decide +kernel
theorem mz_52 : rd_mz 52 = false := by decide +kernel
theorem isI_53 : rd_isI 53 = false := by decide +kernel
theorem mz_53 : rd_mz 53 = false := by decide +kernel
theorem isI_55 : rd_isI 55 = true := by decide +kernel
theorem mz_55 : rd_mz 55 = false := by decide +kernel
theorem isI_56 : rd_isI 56 = true := by decide +kernel
theorem mz_56 : rd_mz 56 = true := by decide +kernel
theorem isI_57 : rd_isI 57 = true := by decide +kernel
theorem mz_57 : rd_mz 57 = false := by decide +kernel
theorem isI_58 : rd_isI 58 = true := by decide +kernel
theorem mz_58 : rd_mz 58 = false := by decide +kernel
theorem isI_59 : rd_isI 59 = true := by decide +kernel
theorem mz_59 : rd_mz 59 = true := by decide +kernel
theorem isI_60 : rd_isI 60 = true := by decide +kernel
theorem mz_60 : rd_mz 60 = true := by decide +kernel
theorem isI_61 : rd_isI 61 = true := by decide +kernel
theorem mz_61 : rd_mz 61 = false := by decide +kernel
theorem isI_62 : rd_isI 62 = true := by decide +kernel
theorem mz_62 : rd_mz 62 = true := by decide +kernel
theorem isI_63 : rd_isI 63 = true := by decide +kernel
theorem mz_63 : rd_mz 63 = true := by decide +kernel
theorem isI_64 : rd_isI 64 = true := by decide +kernel
theorem mz_64 : rd_mz 64 = true := by decide +kernel
theorem isI_66 : rd_isI 66 = true := by decide +kernel
theorem mz_66 : rd_mz 66 = true := by decide +kernel
theorem isI_67 : rd_isI 67 = true := by decide +kernel
theorem mz_67 : rd_mz 67 = false := by decide +kernel
theorem isI_68 : rd_isI 68 = true := by decide +kernel
theorem mz_68 : rd_mz 68 = false := by decide +kernel
theorem isI_69 : rd_isI 69 = true := by decide +kernel
theorem mz_69 : rd_mz 69 = false := by decide +kernel
theorem isI_70 : rd_isI 70 = true := by decide +kernel
theorem mz_70 : rd_mz 70 = false := by decide +kernel
theorem isI_71 : rd_isI 71 = true := by decide +kernel
theorem mz_71 : rd_mz 71 = false := by decide +kernel
theorem isI_72 : rd_isI 72 = true := by decide +kernel
theorem mz_72 : rd_mz 72 = true := by decide +kernel
theorem isI_73 : rd_isI 73 = true := by decide +kernel
theorem mz_73 : rd_mz 73 = false := by decide +kernel
theorem isI_74 : rd_isI 74 = false := by decide +kernel
theorem mz_74 : rd_mz 74 = false := by decide +kernel
theorem isI_75 : rd_isI 75 = false := by decide +kernel
theorem mz_75 : rd_mz 75 = false := by decide +kernel
theorem isI_77 : rd_isI 77 = false := by decide +kernel
theorem mz_77 : rd_mz 77 = false := by decide +kernel
theorem isI_78 : rd_isI 78 = false := by decide +kernel
theorem mz_78 : rd_mz 78 = false := by decide +kernel
theorem isI_79 : rd_isI 79 = false := by decide +kernel
theorem mz_79 : rd_mz 79 = false := by decide +kernel
theorem isI_80 : rd_isI 80 = false := by decide +kernel
theorem mz_80 : rd_mz 80 = false := by decide +kernel
theorem isI_81 : rd_isI 81 = false := by decide +kernel
theorem mz_81 : rd_mz 81 = false := by decide +kernel
theorem isI_82 : rd_isI 82 = false := by decide +kernel
theorem mz_82 : rd_mz 82 = false := by decide +kernel
theorem isI_83 : rd_isI 83 = false := by decide +kernel
theorem mz_83 : rd_mz 83 = false := by decide +kernel
theorem isI_84 : rd_isI 84 = false := by decide +kernel
theorem mz_84 : rd_mz 84 = false := by decide +kernel
theorem isI_85 : rd_isI 85 = false := by decide +kernel
theorem mz_85 : rd_mz 85 = false := by decide +kernel
theorem isI_87 : rd_isI 87 = true := by decide +kernel
theorem mz_87 : rd_mz 87 = false := by decide +kernel
theorem isI_88 : rd_isI 88 = true := by decide +kernel
theorem mz_88 : rd_mz 88 = true := by decide +kernel
theorem isI_89 : rd_isI 89 = true := by decide +kernel
theorem mz_89 : rd_mz 89 = false := by decide +kernel
theorem isI_90 : rd_isI 90 = true := by decide +kernel
theorem mz_90 : rd_mz 90 = true := by decide +kernel
theorem isI_91 : rd_isI 91 = true := by decide +kernel
theorem mz_91 : rd_mz 91 = false := by decide +kernel
theorem isI_92 : rd_isI 92 = true := by decide +kernel
theorem mz_92 : rd_mz 92 = false := by decide +kernel
theorem isI_93 : rd_isI 93 = true := by decide +kernel
theorem mz_93 : rd_mz 93 = true := by decide +kernel
theorem isI_94 : rd_isI 94 = true := by decide +kernel
theorem mz_94 : rd_mz 94 = true := by decide +kernel
theorem isI_96 : rd_isI 96 = false := by decide +kernel
theorem mz_96 : rd_mz 96 = false := by decide +kernel
theorem isI_97 : rd_isI 97 = true := by decide +kernel
theorem mz_97 : rd_mz 97 = true := by decide +kernel
theorem isI_98 : rd_isI 98 = false := by decide +kernel
theorem mz_98 : rd_mz 98 = false := by decide +kernel
theorem isI_99 : rd_isI 99 = true := by decide +kernel
theorem mz_99 : rd_mz 99 = false := by decide +kernel
theorem isI_101 : rd_isI 101 = true := by decide +kernel
theorem mz_101 : rd_mz 101 = false := by decide +kernel
theorem isI_102 : rd_isI 102 = true := by decide +kernel
theorem mz_102 : rd_mz 102 = false := by decide +kernel
theorem isI_103 : rd_isI 103 = false := by decide +kernel
theorem mz_103 : rd_mz 103 = false := by decide +kernel
theorem isI_104 : rd_isI 104 = false := by decide +kernel
theorem mz_104 : rd_mz 104 = false := by decide +kernel
theorem isI_105 : rd_isI 105 = false := by decide +kernel
theorem mz_105 : rd_mz 105 = false := by decide +kernel
theorem isI_106 : rd_isI 106 = false := by decide +kernel
theorem mz_106 : rd_mz 106 = false := by decide +kernel
theorem isI_108 : rd_isI 108 = true := by decide +kernel
theorem mz_108 : rd_mz 108 = false := by decide +kernel
theorem isI_109 : rd_isI 109 = true := by decide +kernel
theorem mz_109 : rd_mz 109 = false := by decide +kernel
theorem isI_110 : rd_isI 110 = true := by decide +kernel
theorem mz_110 : rd_mz 110 = false := by decide +kernel
theorem isI_111 : rd_isI 111 = true := by decide +kernel
theorem mz_111 : rd_mz 111 = false := by decide +kernel
theorem isI_112 : rd_isI 112 = true := by decide +kernel
theorem mz_112 : rd_mz 112 = false := by decide +kernel
theorem isI_113 : rd_isI 113 = true := by decide +kernel
theorem mz_113 : rd_mz 113 = false := by decide +kernel
theorem isI_114 : rd_isI 114 = true := by decide +kernel
theorem mz_114 : rd_mz 114 = false := by decide +kernel
theorem isI_115 : rd_isI 115 = true := by decide +kernel
theorem mz_115 : rd_mz 115 = false := by decide +kernel
theorem isI_116 : rd_isI 116 = true := by decide +kernel
theorem mz_116 : rd_mz 116 = false := by decide +kernel
theorem isI_117 : rd_isI 117 = true := by decide +kernel
theorem mz_117 : rd_mz 117 = false := by decide +kernel
theorem isI_118 : rd_isI 118 = true := by decide +kernel
theorem mz_118 : rd_mz 118 = true := by decide +kernel
theorem isI_119 : rd_isI 119 = true := by decide +kernel
theorem mz_119 : rd_mz 119 = false := by decide +kernel
theorem isI_120 : rd_isI 120 = true := by decide +kernel
theorem mz_120 : rd_mz 120 = false := by decide +kernel
theorem isI_121 : rd_isI 121 = true := by decide +kernel
theorem mz_121 : rd_mz 121 = false := by decide +kernel
theorem isI_122 : rd_isI 122 = true := by decide +kernel
theorem mz_122 : rd_mz 122 = false := by decide +kernel
theorem isI_123 : rd_isI 123 = true := by decide +kernel
theorem mz_123 : rd_mz 123 = false := by decide +kernel
theorem isI_124 : rd_isI 124 = true := by decide +kernel
theorem mz_124 : rd_mz 124 = false := by decide +kernel
theorem isI_125 : rd_isI 125 = true := by decide +kernel
theorem mz_125 : rd_mz 125 = false := by decide +kernel
theorem isI_126 : rd_isI 126 = true := by decide +kernel
theorem mz_126 : rd_mz 126 = false := by decide +kernel
theorem isI_127 : rd_isI 127 = true := by decide +kernel
theorem mz_127 : rd_mz 127 = false := by decide +kernel
theorem isI_128 : rd_isI 128 = true := by decide +kernel
theorem mz_128 : rd_mz 128 = false := by decide +kernel
theorem isI_129 : rd_isI 129 = true := by decide +kernel
theorem mz_129 : rd_mz 129 = false := by decide +kernel
theorem isI_130 : rd_isI 130 = true := by decide +kernel
theorem mz_130 : rd_mz 130 = false := by decide +kernel
theorem isI_131 : rd_isI 131 = true := by decide +kernel
theorem mz_131 : rd_mz 131 = false := by decide +kernel
theorem isI_132 : rd_isI 132 = true := by decide +kernel
theorem mz_132 : rd_mz 132 = false := by decide +kernel
theorem isI_133 : rd_isI 133 = true := by decide +kernel
theorem mz_133 : rd_mz 133 = false := by decide +kernel
theorem isI_134 : rd_isI 134 = true := by decide +kernel
theorem mz_134 : rd_mz 134 = false := by decide +kernel
theorem isI_135 : rd_isI 135 = true := by decide +kernel
theorem mz_135 : rd_mz 135 = false := by decide +kernel
theorem isI_137 : rd_isI 137 = true := by decide +kernel
theorem mz_137 : rd_mz 137 = true := by decide +kernel
theorem isI_138 : rd_isI 138 = true := by decide +kernel
theorem mz_138 : rd_mz 138 = false := by decide +kernel
theorem isI_139 : rd_isI 139 = true := by decide +kernel
theorem mz_139 : rd_mz 139 = true := by decide +kernel
theorem isI_140 : rd_isI 140 = true := by decide +kernel
theorem mz_140 : rd_mz 140 = false := by decide +kernel
theorem isI_141 : rd_isI 141 = true := by decide +kernel
theorem mz_141 : rd_mz 141 = false := by decide +kernel
theorem isI_142 : rd_isI 142 = true := by decide +kernel
theorem mz_142 : rd_mz 142 = true := by decide +kernel
theorem isI_143 : rd_isI 143 = true := by decide +kernel
theorem mz_143 : rd_mz 143 = false := by decide +kernel
theorem isI_144 : rd_isI 144 = true := by decide +kernel
theorem mz_144 : rd_mz 144 = false := by decide +kernel
theorem isI_145 : rd_isI 145 = true := by decide +kernel
theorem mz_145 : rd_mz 145 = true := by decide +kernel
theorem isI_146 : rd_isI 146 = true := by decide +kernel
theorem mz_146 : rd_mz 146 = false := by decide +kernel
theorem isI_147 : rd_isI 147 = true := by decide +kernel
theorem mz_147 : rd_mz 147 = true := by decide +kernel
theorem isI_148 : rd_isI 148 = false := by decide +kernel
theorem mz_148 : rd_mz 148 = false := by decide +kernel
theorem isI_149 : rd_isI 149 = true := by decide +kernel
theorem mz_149 : rd_mz 149 = false := by decide +kernel
theorem isI_150 : rd_isI 150 = true := by decide +kernel
theorem mz_150 : rd_mz 150 = true := by decide +kernel
theorem isI_151 : rd_isI 151 = true := by decide +kernel
theorem mz_151 : rd_mz 151 = true := by decide +kernel
theorem isI_152 : rd_isI 152 = true := by decide +kernel
theorem mz_152 : rd_mz 152 = true := by decide +kernel
theorem isI_153 : rd_isI 153 = true := by decide +kernel
theorem mz_153 : rd_mz 153 = false := by decide +kernel
theorem isI_154 : rd_isI 154 = true := by decide +kernel
theorem mz_154 : rd_mz 154 = false := by decide +kernel
theorem isI_155 : rd_isI 155 = true := by decide +kernel
theorem mz_155 : rd_mz 155 = false := by decide +kernel
theorem isI_156 : rd_isI 156 = true := by decide +kernel
theorem mz_156 : rd_mz 156 = false := by decide +kernel
theorem isI_157 : rd_isI 157 = false := by decide +kernel
theorem mz_157 : rd_mz 157 = false := by decide +kernel
theorem isI_158 : rd_isI 158 = false := by decide +kernel
theorem mz_158 : rd_mz 158 = false := by decide +kernel
theorem isI_159 : rd_isI 159 = true := by decide +kernel
theorem mz_159 : rd_mz 159 = false := by decide +kernel
theorem isI_160 : rd_isI 160 = false := by decide +kernel
theorem mz_160 : rd_mz 160 = false := by decide +kernel
theorem isI_161 : rd_isI 161 = true := by decide +kernel
theorem mz_161 : rd_mz 161 = false := by decide +kernel
theorem isI_162 : rd_isI 162 = false := by decide +kernel
theorem mz_162 : rd_mz 162 = false := by decide +kernel
theorem isI_163 : rd_isI 163 = false := by decide +kernel
theorem mz_163 : rd_mz 163 = false := by decide +kernel
theorem isI_164 : rd_isI 164 = true := by decide +kernel
theorem mz_164 : rd_mz 164 = true := by decide +kernel
theorem isI_165 : rd_isI 165 = true := by decide +kernel
theorem mz_165 : rd_mz 165 = false := by decide +kernel
theorem isI_166 : rd_isI 166 = true := by decide +kernel
theorem mz_166 : rd_mz 166 = false := by decide +kernel
theorem isI_167 : rd_isI 167 = true := by decide +kernel
theorem mz_167 : rd_mz 167 = false := by decide +kernel
theorem isI_168 : rd_isI 168 = true := by decide +kernel
theorem mz_168 : rd_mz 168 = true := by decide +kernel
theorem isI_169 : rd_isI 169 = true := by decide +kernel
theorem mz_169 : rd_mz 169 = false := by decide +kernel
theorem isI_170 : rd_isI 170 = true := by decide +kernel
theorem mz_170 : rd_mz 170 = false := by decide +kernel
theorem isI_171 : rd_isI 171 = true := by decide +kernel
theorem mz_171 : rd_mz 171 = false := by decide +kernel
theorem isI_172 : rd_isI 172 = true := by decide +kernel
theorem mz_172 : rd_mz 172 = false := by decide +kernel
theorem isI_173 : rd_isI 173 = true := by decide +kernel
theorem mz_173 : rd_mz 173 = true := by decide +kernel
theorem isI_174 : rd_isI 174 = true := by decide +kernel
theorem mz_174 : rd_mz 174 = false := by decide +kernel
theorem isI_175 : rd_isI 175 = true := by decide +kernel
theorem mz_175 : rd_mz 175 = false := by decide +kernel
theorem isI_176 : rd_isI 176 = false := by decide +kernel
theorem mz_176 : rd_mz 176 = false := by decide +kernel
theorem isI_177 : rd_isI 177 = true := by decide +kernel
theorem mz_177 : rd_mz 177 = false := by decide +kernel
theorem isI_178 : rd_isI 178 = true := by decide +kernel
theorem mz_178 : rd_mz 178 = true := by decide +kernel
theorem isI_179 : rd_isI 179 = true := by decide +kernel
theorem mz_179 : rd_mz 179 = false := by decide +kernel
theorem isI_180 : rd_isI 180 = true := by decide +kernel
theorem mz_180 : rd_mz 180 = false := by decide +kernel
theorem isI_181 : rd_isI 181 = true := by decide +kernel
theorem mz_181 : rd_mz 181 = false := by decide +kernel
theorem isI_182 : rd_isI 182 = true := by decide +kernel
theorem mz_182 : rd_mz 182 = false := by decide +kernel
theorem isI_183 : rd_isI 183 = true := by decide +kernel
theorem mz_183 : rd_mz 183 = false := by decide +kernel
theorem isI_184 : rd_isI 184 = true := by decide +kernel
theorem mz_184 : rd_mz 184 = false := by decide +kernel
theorem isI_185 : rd_isI 185 = true := by decide +kernel
theorem mz_185 : rd_mz 185 = false := by decide +kernel
theorem isI_186 : rd_isI 186 = false := by decide +kernel
theorem mz_186 : rd_mz 186 = false := by decide +kernel
theorem isI_187 : rd_isI 187 = true := by decide +kernel
theorem mz_187 : rd_mz 187 = false := by decide +kernel
theorem isI_188 : rd_isI 188 = true := by decide +kernel
theorem mz_188 : rd_mz 188 = false := by decide +kernel
theorem isI_189 : rd_isI 189 = true := by decide +kernel
theorem mz_189 : rd_mz 189 = false := by decide +kernel
theorem isI_190 : rd_isI 190 = true := by decide +kernel
theorem mz_190 : rd_mz 190 = false := by decide +kernel
theorem isI_191 : rd_isI 191 = true := by decide +kernel
theorem mz_191 : rd_mz 191 = false := by decide +kernel
theorem isI_193 : rd_isI 193 = false := by decide +kernel
theorem mz_193 : rd_mz 193 = false := by decide +kernel
theorem gf_0_0 : rd_gf rd_S0 0 11 0 = some (some (.ref 1)) := by decide +kernel
theorem gf_0_1 : rd_gf rd_S0 0 11 1 = some (some (.ref 9)) := by decide +kernel
theorem gf_0_2 : rd_gf rd_S0 0 11 2 = some (some (.ref 14)) := by decide +kernel
theorem gf_0_3 : rd_gf rd_S0 0 11 3 = some (some (.ref 28)) := by decide +kernel
theorem gf_0_4 : rd_gf rd_S0 0 11 4 = some (some (.ref 31)) := by decide +kernel
theorem gf_0_5 : rd_gf rd_S0 0 11 5 = some (some (.ref 33)) := by decide +kernel
theorem gf_0_6 : rd_gf rd_S0 0 11 6 = some (some (.ref 49)) := by decide +kernel
theorem gf_0_7 : rd_gf rd_S0 0 11 7 = some (some (.ref 51)) := by decide +kernel
theorem gf_0_8 : rd_gf rd_S0 0 11 8 = some (some (.ref 56)) := by decide +kernel
theorem gf_1_0 : rd_gf rd_S0 1 3 0 = some (none) := by decide +kernel
theorem gf_1_1 : rd_gf rd_S0 1 3 1 = some (some (.ref 2)) := by decide +kernel
theorem gf_1_2 : rd_gf rd_S0 1 3 2 = some (some (.ref 3)) := by decide +kernel
theorem gf_1_3 : rd_gf rd_S0 1 3 3 = some (some (.ref 4)) := by decide +kernel
theorem gf_1_4 : rd_gf rd_S0 1 3 4 = some (some (.ref 5)) := by decide +kernel
theorem gf_1_5 : rd_gf rd_S0 1 3 5 = some (some (.ref 6)) := by decide +kernel
theorem gf_1_6 : rd_gf rd_S0 1 3 6 = some (some (.ref 7)) := by decide +kernel
theorem gf_1_7 : rd_gf rd_S0 1 3 7 = some (some (.ref 8)) := by decide +kernel
theorem gf_9_0 : rd_gf rd_S0 9 8 0 = some (some (.ref 1)) := by decide +kernel
theorem gf_9_1 : rd_gf rd_S0 9 8 1 = some (none) := by decide +kernel
theorem gf_9_2 : rd_gf rd_S0 9 8 2 = some (some (.ref 10)) := by decide +kernel
theorem gf_9_3 : rd_gf rd_S0 9 8 3 = some (some (.ref 11)) := by decide +kernel
theorem gf_9_4 : rd_gf rd_S0 9 8 4 = some (some (.ref 12)) := by decide +kernel
theorem gf_9_5 : rd_gf rd_S0 9 8 5 = some (some (.ref 13)) := by decide +kernel
theorem gf_14_0 : rd_gf rd_S0 14 6 0 = some (some (.ref 15)) := by decide +kernel
theorem gf_14_1 : rd_gf rd_S0 14 6 1 = some (some (.ref 1)) := by decide +kernel
theorem gf_14_2 : rd_gf rd_S0 14 6 2 = some (some (.ref 9)) := by decide +kernel
theorem gf_14_3 : rd_gf rd_S0 14 6 3 = some (some (.ref 22)) := by decide +kernel
theorem gf_14_4 : rd_gf rd_S0 14 6 4 = some (some (.ref 23)) := by decide +kernel
theorem gf_14_5 : rd_gf rd_S0 14 6 5 = some (some (.ref 24)) := by decide +kernel
theorem gf_14_6 : rd_gf rd_S0 14 6 6 = some (some (.ref 25)) := by decide +kernel
theorem gf_14_7 : rd_gf rd_S0 14 6 7 = some (some (.ref 26)) := by decide +kernel
theorem gf_14_8 : rd_gf rd_S0 14 6 8 = some (some (.ref 27)) := by decide +kernel
theorem gf_15_0 : rd_gf rd_S0 15 5 0 = some (none) := by decide +kernel
theorem gf_15_1 : rd_gf rd_S0 15 5 1 = some (some (.ref 1)) := by decide +kernel
theorem gf_15_2 : rd_gf rd_S0 15 5 2 = some (some (.ref 9)) := by decide +kernel
theorem gf_15_3 : rd_gf rd_S0 15 5 3 = some (none) := by decide +kernel
theorem gf_15_4 : rd_gf rd_S0 15 5 4 = some (some (.ref 16)) := by decide +kernel
theorem gf_15_5 : rd_gf rd_S0 15 5 5 = some (some (.ref 17)) := by decide +kernel
theorem gf_15_6 : rd_gf rd_S0 15 5 6 = some (some (.ref 18)) := by decide +kernel
theorem gf_15_7 : rd_gf rd_S0 15 5 7 = some (some (.ref 19)) := by decide +kernel
theorem gf_15_8 : rd_gf rd_S0 15 5 8 = some (some (.ref 20)) := by decide +kernel
theorem gf_15_9 : rd_gf rd_S0 15 5 9 = some (some (.ref 21)) := by decide +kernel
theorem gf_28_0 : rd_gf rd_S0 28 4 0 = some (some (.ref 29)) := by decide +kernel
theorem gf_28_1 : rd_gf rd_S0 28 4 1 = some (some (.ref 30)) := by decide +kernel
theorem gf_28_2 : rd_gf rd_S0 28 4 2 = some (none) := by decide +kernel
theorem gf_28_3 : rd_gf rd_S0 28 4 3 = some (none) := by decide +kernel
theorem gf_28_4 : rd_gf rd_S0 28 4 4 = some (none) := by decide +kernel
theorem gf_31_0 : rd_gf rd_S0 31 7 0 = some (some (.ref 1)) := by decide +kernel
theorem gf_31_1 : rd_gf rd_S0 31 7 1 = some (some (.ref 9)) := by decide +kernel
theorem gf_31_2 : rd_gf rd_S0 31 7 2 = some (some (.ref 14)) := by decide +kernel
theorem gf_31_3 : rd_gf rd_S0 31 7 3 = some (some (.ref 28)) := by decide +kernel
theorem gf_31_4 : rd_gf rd_S0 31 7 4 = some (some (.ref 30)) := by decide +kernel
theorem gf_31_5 : rd_gf rd_S0 31 7 5 = some (some (.ref 32)) := by decide +kernel
theorem gf_31_6 : rd_gf rd_S0 31 7 6 = some (none) := by decide +kernel
theorem gf_31_7 : rd_gf rd_S0 31 7 7 = some (none) := by decide +kernel
theorem gf_33_0 : rd_gf rd_S0 33 2 0 = some (some (.ref 34)) := by decide +kernel
theorem gf_33_1 : rd_gf rd_S0 33 2 1 = some (some (.ref 41)) := by decide +kernel
theorem gf_33_2 : rd_gf rd_S0 33 2 2 = some (some (.ref 42)) := by decide +kernel
theorem gf_33_3 : rd_gf rd_S0 33 2 3 = some (none) := by decide +kernel
theorem gf_33_4 : rd_gf rd_S0 33 2 4 = some (some (.ref 43)) := by decide +kernel
theorem gf_33_5 : rd_gf rd_S0 33 2 5 = some (some (.ref 44)) := by decide +kernel
theorem gf_33_6 : rd_gf rd_S0 33 2 6 = some (some (.ref 45)) := by decide +kernel
theorem gf_33_7 : rd_gf rd_S0 33 2 7 = some (some (.ref 46)) := by decide +kernel
theorem gf_33_8 : rd_gf rd_S0 33 2 8 = some (some (.ref 47)) := by decide +kernel
theorem gf_33_9 : rd_gf rd_S0 33 2 9 = some (some (.ref 48)) := by decide +kernel
theorem gf_34_0 : rd_gf rd_S0 34 5 0 = some (none) := by decide +kernel
theorem gf_34_1 : rd_gf rd_S0 34 5 1 = some (some (.ref 1)) := by decide +kernel
theorem gf_34_2 : rd_gf rd_S0 34 5 2 = some (some (.ref 9)) := by decide +kernel
theorem gf_34_3 : rd_gf rd_S0 34 5 3 = some (none) := by decide +kernel
theorem gf_34_4 : rd_gf rd_S0 34 5 4 = some (some (.ref 35)) := by decide +kernel
theorem gf_34_5 : rd_gf rd_S0 34 5 5 = some (some (.ref 36)) := by decide +kernel
theorem gf_34_6 : rd_gf rd_S0 34 5 6 = some (some (.ref 37)) := by decide +kernel
theorem gf_34_7 : rd_gf rd_S0 34 5 7 = some (some (.ref 38)) := by decide +kernel
theorem gf_34_8 : rd_gf rd_S0 34 5 8 = some (some (.ref 39)) := by decide +kernel
theorem gf_34_9 : rd_gf rd_S0 34 5 9 = some (some (.ref 40)) := by decide +kernel
theorem gf_49_0 : rd_gf rd_S0 49 10 0 = some (some (.ref 50)) := by decide +kernel
theorem gf_49_1 : rd_gf rd_S0 49 10 1 = some (none) := by decide +kernel
theorem gf_51_0 : rd_gf rd_S0 51 1 0 = some (none) := by decide +kernel
theorem gf_51_1 : rd_gf rd_S0 51 1 1 = some (some (.ref 52)) := by decide +kernel
theorem gf_51_2 : rd_gf rd_S0 51 1 2 = some (some (.ref 53)) := by decide +kernel
theorem gf_51_3 : rd_gf rd_S0 51 1 3 = some (some (.ref 54)) := by decide +kernel
theorem gf_51_4 : rd_gf rd_S0 51 1 4 = some (some (.ref 55)) := by decide +kernel
theorem gf_56_0 : rd_gf rd_S0 56 0 0 = some (some (.ref 51)) := by decide +kernel
theorem gf_56_1 : rd_gf rd_S0 56 0 1 = some (some (.ref 1)) := by decide +kernel
theorem gf_56_2 : rd_gf rd_S0 56 0 2 = some (some (.ref 9)) := by decide +kernel
theorem gf_56_3 : rd_gf rd_S0 56 0 3 = some (some (.ref 31)) := by decide +kernel
theorem gf_56_4 : rd_gf rd_S0 56 0 4 = some (some (.ref 57)) := by decide +kernel
theorem gf_56_5 : rd_gf rd_S0 56 0 5 = some (some (.ref 61)) := by decide +kernel
theorem gf_56_6 : rd_gf rd_S0 56 0 6 = some (some (.ref 62)) := by decide +kernel
theorem gf_56_7 : rd_gf rd_S0 56 0 7 = some (some (.ref 63)) := by decide +kernel
theorem gf_56_8 : rd_gf rd_S0 56 0 8 = some (none) := by decide +kernel
theorem gf_56_9 : rd_gf rd_S0 56 0 9 = some (none) := by decide +kernel
theorem gf_56_10 : rd_gf rd_S0 56 0 10 = some (none) := by decide +kernel
theorem gf_57_0 : rd_gf rd_S0 57 9 0 = some (none) := by decide +kernel
theorem gf_57_1 : rd_gf rd_S0 57 9 1 = some (some (.ref 58)) := by decide +kernel
theorem gf_57_2 : rd_gf rd_S0 57 9 2 = some (some (.ref 59)) := by decide +kernel
theorem gf_57_3 : rd_gf rd_S0 57 9 3 = some (some (.ref 60)) := by decide +kernel
theorem gf_64_0 : rd_gf rd_S0 64 12 0 = some (none) := by decide +kernel
theorem gf_64_1 : rd_gf rd_S0 64 12 1 = some (some (.ref 65)) := by decide +kernel
theorem gf_64_2 : rd_gf rd_S0 64 12 2 = some (some (.ref 66)) := by decide +kernel
theorem gf_64_3 : rd_gf rd_S0 64 12 3 = some (some (.ref 67)) := by decide +kernel
theorem gf_64_4 : rd_gf rd_S0 64 12 4 = some (some (.ref 68)) := by decide +kernel
theorem gf_64_5 : rd_gf rd_S0 64 12 5 = some (some (.ref 69)) := by decide +kernel
theorem gf_64_6 : rd_gf rd_S0 64 12 6 = some (some (.ref 70)) := by decide +kernel
theorem gf_64_7 : rd_gf rd_S0 64 12 7 = some (none) := by decide +kernel
theorem gf_64_8 : rd_gf rd_S0 64 12 8 = some (some (.ref 71)) := by decide +kernel
theorem gf_64_9 : rd_gf rd_S0 64 12 9 = some (some (.ref 72)) := by decide +kernel
theorem gf_64_10 : rd_gf rd_S0 64 12 10 = some (some (.ref 73)) := by decide +kernel
theorem gf_64_11 : rd_gf rd_S0 64 12 11 = some (some (.ref 74)) := by decide +kernel
theorem gf_64_12 : rd_gf rd_S0 64 12 12 = some (some (.ref 75)) := by decide +kernel
theorem gf_64_13 : rd_gf rd_S0 64 12 13 = some (some (.ref 76)) := by decide +kernel
theorem gf_64_14 : rd_gf rd_S0 64 12 14 = some (some (.ref 77)) := by decide +kernel
theorem gf_64_15 : rd_gf rd_S0 64 12 15 = some (some (.ref 78)) := by decide +kernel
theorem gf_64_16 : rd_gf rd_S0 64 12 16 = some (none) := by decide +kernel
theorem gf_64_17 : rd_gf rd_S0 64 12 17 = some (some (.ref 79)) := by decide +kernel
theorem gf_64_18 : rd_gf rd_S0 64 12 18 = some (some (.ref 80)) := by decide +kernel
theorem gf_64_19 : rd_gf rd_S0 64 12 19 = some (some (.ref 81)) := by decide +kernel
theorem gf_64_20 : rd_gf rd_S0 64 12 20 = some (some (.ref 82)) := by decide +kernel
theorem gf_64_21 : rd_gf rd_S0 64 12 21 = some (some (.ref 83)) := by decide +kernel
theorem gf_64_22 : rd_gf rd_S0 64 12 22 = some (some (.ref 84)) := by decide +kernel
theorem gf_64_23 : rd_gf rd_S0 64 12 23 = some (none) := by decide +kernel
theorem gf_64_24 : rd_gf rd_S0 64 12 24 = some (none) := by decide +kernel
theorem gf_64_25 : rd_gf rd_S0 64 12 25 = some (some (.ref 85)) := by decide +kernel
theorem gf_64_26 : rd_gf rd_S0 64 12 26 = some (none) := by decide +kernel
theorem gf_64_27 : rd_gf rd_S0 64 12 27 = some (some (.ref 86)) := by decide +kernel
theorem gf_64_28 : rd_gf rd_S0 64 12 28 = some (none) := by decide +kernel
theorem gf_64_29 : rd_gf rd_S0 64 12 29 = some (none) := by decide +kernel
theorem gf_64_30 : rd_gf rd_S0 64 12 30 = some (none) := by decide +kernel
theorem gf_64_31 : rd_gf rd_S0 64 12 31 = some (none) := by decide +kernel
theorem gf_64_32 : rd_gf rd_S0 64 12 32 = some (none) := by decide +kernel
theorem gf_64_33 : rd_gf rd_S0 64 12 33 = some (some (.ref 87)) := by decide +kernel
theorem gf_64_34 : rd_gf rd_S0 64 12 34 = some (some (.ref 88)) := by decide +kernel
theorem gf_64_35 : rd_gf rd_S0 64 12 35 = some (none) := by decide +kernel
theorem gf_64_36 : rd_gf rd_S0 64 12 36 = some (some (.ref 89)) := by decide +kernel
theorem gf_64_37 : rd_gf rd_S0 64 12 37 = some (some (.ref 90)) := by decide +kernel
theorem gf_64_38 : rd_gf rd_S0 64 12 38 = some (some (.ref 91)) := by decide +kernel
theorem gf_64_39 : rd_gf rd_S0 64 12 39 = some (none) := by decide +kernel
theorem gf_64_40 : rd_gf rd_S0 64 12 40 = some (some (.ref 92)) := by decide +kernel
theorem gf_64_41 : rd_gf rd_S0 64 12 41 = some (none) := by decide +kernel
theorem gf_64_42 : rd_gf rd_S0 64 12 42 = some (some (.ref 93)) := by decide +kernel
theorem gf_64_43 : rd_gf rd_S0 64 12 43 = some (some (.ref 94)) := by decide +kernel
theorem gf_64_44 : rd_gf rd_S0 64 12 44 = some (some (.ref 95)) := by decide +kernel
theorem gf_64_45 : rd_gf rd_S0 64 12 45 = some (some (.ref 96)) := by decide +kernel
theorem gf_64_46 : rd_gf rd_S0 64 12 46 = some (some (.ref 97)) := by decide +kernel
theorem gf_64_47 : rd_gf rd_S0 64 12 47 = some (some (.ref 98)) := by decide +kernel
theorem gf_64_48 : rd_gf rd_S0 64 12 48 = some (none) := by decide +kernel
theorem gf_64_49 : rd_gf rd_S0 64 12 49 = some (none) := by decide +kernel
theorem gf_64_50 : rd_gf rd_S0 64 12 50 = some (none) := by decide +kernel
theorem gf_64_51 : rd_gf rd_S0 64 12 51 = some (some (.ref 99)) := by decide +kernel
theorem gf_64_52 : rd_gf rd_S0 64 12 52 = some (none) := by decide +kernel
theorem gf_64_53 : rd_gf rd_S0 64 12 53 = some (some (.ref 100)) := by decide +kernel
theorem gf_64_54 : rd_gf rd_S0 64 12 54 = some (some (.ref 101)) := by decide +kernel
theorem gf_64_55 : rd_gf rd_S0 64 12 55 = some (some (.ref 102)) := by decide +kernel
theorem gf_64_56 : rd_gf rd_S0 64 12 56 = some (none) := by decide +kernel
theorem gf_64_57 : rd_gf rd_S0 64 12 57 = some (none) := by decide +kernel
theorem gf_64_58 : rd_gf rd_S0 64 12 58 = some (none) := by decide +kernel
theorem ar_2 : rd_nth rd_S0 2 = some (.inl (12, false)) := by decide +kernel
theorem ar_3 : rd_nth rd_S0 3 = some (.inl (12, false)) := by decide +kernel
theorem ar_4 : rd_nth rd_S0 4 = some (.inl (12, true)) := by decide +kernel
theorem ar_5 : rd_nth rd_S0 5 = some (.inl (96, false)) := by decide +kernel
theorem ar_6 : rd_nth rd_S0 6 = some (.inl (96, false)) := by decide +kernel
theorem ar_7 : rd_nth rd_S0 7 = some (.inl (96, false)) := by decide +kernel
theorem ar_8 : rd_nth rd_S0 8 = some (.inl (96, false)) := by decide +kernel
theorem ar_10 : rd_nth rd_S0 10 = some (.inl (24, false)) := by decide +kernel
theorem ar_11 : rd_nth rd_S0 11 = some (.inl (24, false)) := by decide +kernel
theorem ar_12 : rd_nth rd_S0 12 = some (.inl (24, false)) := by decide +kernel
theorem ar_13 : rd_nth rd_S0 13 = some (.inl (24, true)) := by decide +kernel
theorem ar_16 : rd_nth rd_S0 16 = some (.inl (80, false)) := by decide +kernel
theorem ar_17 : rd_nth rd_S0 17 = some (.inl (80, false)) := by decide +kernel
theorem ar_18 : rd_nth rd_S0 18 = some (.inl (80, false)) := by decide +kernel
theorem ar_19 : rd_nth rd_S0 19 = some (.inl (240, false)) := by decide +kernel
theorem ar_20 : rd_nth rd_S0 20 = some (.inl (240, false)) := by decide +kernel
theorem ar_21 : rd_nth rd_S0 21 = some (.inl (240, false)) := by decide +kernel
theorem ar_22 : rd_nth rd_S0 22 = some (.inl (80, false)) := by decide +kernel
theorem ar_23 : rd_nth rd_S0 23 = some (.inl (480, false)) := by decide +kernel
theorem ar_24 : rd_nth rd_S0 24 = some (.inl (480, false)) := by decide +kernel
theorem ar_25 : rd_nth rd_S0 25 = some (.inl (80, false)) := by decide +kernel
theorem ar_26 : rd_nth rd_S0 26 = some (.inl (240, true)) := by decide +kernel
theorem ar_27 : rd_nth rd_S0 27 = some (.inl (240, false)) := by decide +kernel
theorem ar_29 : rd_nth rd_S0 29 = some (.inl (4500, false)) := by decide +kernel
theorem ar_30 : rd_nth rd_S0 30 = some (.inl (9, false)) := by decide +kernel
theorem ar_32 : rd_nth rd_S0 32 = some (.inl (6, false)) := by decide +kernel
theorem ar_35 : rd_nth rd_S0 35 = some (.inl (40, false)) := by decide +kernel
theorem ar_36 : rd_nth rd_S0 36 = some (.inl (40, false)) := by decide +kernel
theorem ar_37 : rd_nth rd_S0 37 = some (.inl (40, false)) := by decide +kernel
theorem ar_38 : rd_nth rd_S0 38 = some (.inl (120, false)) := by decide +kernel
theorem ar_39 : rd_nth rd_S0 39 = some (.inl (120, false)) := by decide +kernel
theorem ar_40 : rd_nth rd_S0 40 = some (.inl (120, false)) := by decide +kernel
theorem ar_41 : rd_nth rd_S0 41 = some (.inl (40, false)) := by decide +kernel
theorem ar_42 : rd_nth rd_S0 42 = some (.inl (40, false)) := by decide +kernel
theorem ar_43 : rd_nth rd_S0 43 = some (.inl (40, false)) := by decide +kernel
theorem ar_44 : rd_nth rd_S0 44 = some (.inl (40, false)) := by decide +kernel
theorem ar_45 : rd_nth rd_S0 45 = some (.inl (40, false)) := by decide +kernel
theorem ar_46 : rd_nth rd_S0 46 = some (.inl (40, false)) := by decide +kernel
theorem ar_47 : rd_nth rd_S0 47 = some (.inl (40, false)) := by decide +kernel
theorem ar_48 : rd_nth rd_S0 48 = some (.inl (500, true)) := by decide +kernel
theorem ar_50 : rd_nth rd_S0 50 = some (.inl (180, false)) := by decide +kernel
theorem ar_52 : rd_nth rd_S0 52 = some (.inl (60, false)) := by decide +kernel
theorem ar_53 : rd_nth rd_S0 53 = some (.inl (60, false)) := by decide +kernel
theorem ar_54 : rd_nth rd_S0 54 = some (.inl (60, false)) := by decide +kernel
theorem ar_55 : rd_nth rd_S0 55 = some (.inl (60, false)) := by decide +kernel
theorem ar_58 : rd_nth rd_S0 58 = some (.inl (10, false)) := by decide +kernel
theorem ar_59 : rd_nth rd_S0 59 = some (.inl (10, false)) := by decide +kernel
theorem ar_60 : rd_nth rd_S0 60 = some (.inl (10, false)) := by decide +kernel
theorem ar_61 : rd_nth rd_S0 61 = some (.inl (8, false)) := by decide +kernel
theorem ar_62 : rd_nth rd_S0 62 = some (.inl (4, false)) := by decide +kernel
theorem ar_63 : rd_nth rd_S0 63 = some (.inl (100, false)) := by decide +kernel
theorem ar_65 : rd_nth rd_S0 65 = some (.inl (12, false)) := by decide +kernel
theorem ar_66 : rd_nth rd_S0 66 = some (.inl (12, false)) := by decide +kernel
theorem ar_67 : rd_nth rd_S0 67 = some (.inl (96, false)) := by decide +kernel
theorem ar_68 : rd_nth rd_S0 68 = some (.inl (96, false)) := by decide +kernel
theorem ar_69 : rd_nth rd_S0 69 = some (.inl (96, false)) := by decide +kernel
theorem ar_70 : rd_nth rd_S0 70 = some (.inl (96, false)) := by decide +kernel
theorem ar_71 : rd_nth rd_S0 71 = some (.inl (24, false)) := by decide +kernel
theorem ar_72 : rd_nth rd_S0 72 = some (.inl (24, false)) := by decide +kernel
theorem ar_73 : rd_nth rd_S0 73 = some (.inl (6, false)) := by decide +kernel
theorem ar_74 : rd_nth rd_S0 74 = some (.inl (120, false)) := by decide +kernel
theorem ar_75 : rd_nth rd_S0 75 = some (.inl (120, false)) := by decide +kernel
theorem ar_76 : rd_nth rd_S0 76 = some (.inl (360, false)) := by decide +kernel
theorem ar_77 : rd_nth rd_S0 77 = some (.inl (360, false)) := by decide +kernel
theorem ar_78 : rd_nth rd_S0 78 = some (.inl (360, false)) := by decide +kernel
theorem ar_79 : rd_nth rd_S0 79 = some (.inl (80, false)) := by decide +kernel
theorem ar_80 : rd_nth rd_S0 80 = some (.inl (480, false)) := by decide +kernel
theorem ar_81 : rd_nth rd_S0 81 = some (.inl (480, false)) := by decide +kernel
theorem ar_82 : rd_nth rd_S0 82 = some (.inl (80, false)) := by decide +kernel
theorem ar_83 : rd_nth rd_S0 83 = some (.inl (240, true)) := by decide +kernel
theorem ar_84 : rd_nth rd_S0 84 = some (.inl (240, false)) := by decide +kernel
theorem ar_85 : rd_nth rd_S0 85 = some (.inl (4500, false)) := by decide +kernel
theorem ar_86 : rd_nth rd_S0 86 = some (.inl (4, false)) := by decide +kernel
theorem ar_87 : rd_nth rd_S0 87 = some (.inl (40, false)) := by decide +kernel
theorem ar_88 : rd_nth rd_S0 88 = some (.inl (40, false)) := by decide +kernel
theorem ar_89 : rd_nth rd_S0 89 = some (.inl (40, false)) := by decide +kernel
theorem ar_90 : rd_nth rd_S0 90 = some (.inl (40, false)) := by decide +kernel
theorem ar_91 : rd_nth rd_S0 91 = some (.inl (24, true)) := by decide +kernel
theorem ar_92 : rd_nth rd_S0 92 = some (.inl (180, false)) := by decide +kernel
theorem ar_93 : rd_nth rd_S0 93 = some (.inl (60, false)) := by decide +kernel
theorem ar_94 : rd_nth rd_S0 94 = some (.inl (60, false)) := by decide +kernel
theorem ar_95 : rd_nth rd_S0 95 = some (.inl (60, false)) := by decide +kernel
theorem ar_96 : rd_nth rd_S0 96 = some (.inl (60, false)) := by decide +kernel
theorem ar_97 : rd_nth rd_S0 97 = some (.inl (8, false)) := by decide +kernel
theorem ar_98 : rd_nth rd_S0 98 = some (.inl (4, false)) := by decide +kernel
theorem ar_99 : rd_nth rd_S0 99 = some (.inl (100, false)) := by decide +kernel
theorem ar_100 : rd_nth rd_S0 100 = some (.inl (10, false)) := by decide +kernel
theorem ar_101 : rd_nth rd_S0 101 = some (.inl (10, false)) := by decide +kernel
theorem ar_102 : rd_nth rd_S0 102 = some (.inl (10, false)) := by decide +kernel
theorem ar_no_100000 : rd_nth rd_S0 100000 = none := by rw [rd_nth_get]; exact List.getElem?_eq_none (by decide +kernel)
theorem ar_no_100001 : rd_nth rd_S0 100001 = none := by rw [rd_nth_get]; exact List.getElem?_eq_none (by decide +kernel)
theorem ro_100000 {ρ : Nat × (Nat → Int32)} : rd_ro ρ 100000 = some (60, rd_lim) := rfl
theorem ro_100001 {ρ : Nat × (Nat → Int32)} : rd_ro ρ 100001 = some (ρ.1, ρ.2) := rfl
end
